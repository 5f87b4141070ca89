theorem z_boA_u {A : z_A} {p q : Nat × Nat} (ok : z_Ok A) (h : z_BO (z_Pa A) p) (h2 : z_BO (z_Pa A) q) : p = q := by
  obtain ⟨t, e, hp⟩ := h.1
  exact z_bo_u (ok.rk e) ⟨(z_Pa_some e p).mp h.1, fun x hx => h.2 x ((z_Pa_some e x).mpr hx)⟩ ⟨(z_Pa_some e q).mp h2.1, fun x hx => h2.2 x ((z_Pa_some e x).mpr hx)⟩
/-- the area of the best choice; 160001 without one -/
noncomputable def z_av (A : z_A) : Nat := @dite Nat (∃ p, z_BO (z_Pa A) p) (Classical.propDecidable _) (fun h => (Classical.choose h).1 * (Classical.choose h).2) (fun _ => 160001)
noncomputable def z_mv (A : z_A) : Nat := z_cm (z_Mt A) (z_ak A)
theorem z_av_1 {A : z_A} {p : Nat × Nat} (ok : z_Ok A) (h : z_BO (z_Pa A) p) : z_av A = p.1 * p.2 := by
  unfold z_av
  rw [dif_pos ⟨p, h⟩]
  have := z_boA_u ok (Classical.choose_spec (⟨p, h⟩ : ∃ p, z_BO (z_Pa A) p)) h
  rw [this]
theorem z_av_0 {A : z_A} (h : ∀ p, ¬ z_Pa A p) : z_av A = 160001 := by
  unfold z_av
  rw [dif_neg]
  rintro ⟨p, hp⟩
  exact h p hp.1
theorem z_av_b {A : z_A} {p : Nat × Nat} (ok : z_Ok A) (h : z_Pa A p) : p.1 * p.2 ≤ 160000 := by
  obtain ⟨t, e, hp⟩ := h
  have h1 := hp.2
  have h2 := ok.2.1
  exact Nat.mul_le_mul (show p.1 ≤ 400 by omega) (show p.2 ≤ 400 by omega)
theorem z_cm_0 {P : Nat → Prop} (h : ∀ i, ¬ P i) : ∀ k, z_cm P k = 0 := by
  intro k
  induction k with
  | zero => rfl
  | succ k ih => rw [z_cm_f (h k), ih]
theorem z_mv_0 {A : z_A} (h : ∀ t c, ¬ z_Ba A t c) : z_mv A = 0 := by
  refine z_cm_0 (fun i => ?_) _
  rintro ⟨x, h1, h2, h3⟩
  rcases h1 with ⟨t, c, a, b, e1, _⟩ | ⟨_, e2⟩
  · exact h t c e1
  · exact z_nI_m1 (by omega) e2
theorem z_mv_b {A : z_A} (ok : z_Ok A) : z_mv A ≤ 10 := Nat.le_trans (z_cm_b _ _) ok.2.2.1.1
theorem z_noBa {A : z_A} (ok : z_Ok A) (h : ∀ p, ¬ z_Pa A p) : ∀ t c, ¬ z_Ba A t c := fun t c hb => h _ (z_Ba_Pa ok hb)
theorem z_baC {σ : rl_M} {A : z_A} (ok : z_Ok A) (h : z_Ms σ (z_Pa A)) : rf_Pl_bestArea σ = some (nI (z_av A), σ) := by
  unfold rf_Pl_bestArea
  rcases z_bo h with ⟨b1, b2⟩ | ⟨i, p, b1, b2, b3, b4, b5⟩
  · rw [z_hb0 b1, z_av_0 b2]
    rfl
  · have bw : rf_Pl_bestWidth σ = some (nI p.1, σ) := by unfold rf_Pl_bestWidth; rw [b4]; rfl
    have bh : rf_Pl_bestHeight σ = some (nI p.2, σ) := by unfold rf_Pl_bestHeight; rw [b5]; rfl
    simp only [z_hb1 b1 b2, bw, bh, Option.bind_some, z_10, if_false, z_mul, z_av_1 ok b3]
theorem z_av_c (A : z_A) (ok : z_Ok A) : (z_av A ≤ 160000) ∨ (z_av A = 160001 ∧ z_mv A = 0) := by
  by_cases h : ∃ p, z_BO (z_Pa A) p
  · obtain ⟨p, hp⟩ := h
    left
    rw [z_av_1 ok hp]
    exact z_av_b ok hp.1
  · right
    have h0 : ∀ t c, ¬ z_Ba A t c := fun t c hb => h ⟨_, by
      have rk := ok.rk hb.1
      have bo := z_best_bo rk hb.2
      exact ⟨(z_Pa_some hb.1 _).mpr bo.1, fun q hq => bo.2 q ((z_Pa_some hb.1 q).mp hq)⟩⟩
    refine ⟨?_, z_mv_0 h0⟩
    unfold z_av
    rw [dif_neg h]
/-- one pair tried: wishes met, area, whether a pair was found, the pair -/
noncomputable def z_im (A : z_A) (S : Nat × Nat × Nat × Nat × Nat) (a b : Nat) : Nat × Nat × Nat × Nat × Nat :=
  @ite _ (z_can A a b ∧ (S.1 < z_mv (z_xs A a b) ∨ (z_mv (z_xs A a b) = S.1 ∧ z_av (z_xs A a b) < S.2.1))) (Classical.propDecidable _) (z_mv (z_xs A a b), z_av (z_xs A a b), 1, a, b) S
theorem z_im_t {A : z_A} {S : Nat × Nat × Nat × Nat × Nat} {a b : Nat} (h : z_can A a b) (h2 : S.1 < z_mv (z_xs A a b) ∨ (z_mv (z_xs A a b) = S.1 ∧ z_av (z_xs A a b) < S.2.1)) : z_im A S a b = (z_mv (z_xs A a b), z_av (z_xs A a b), 1, a, b) := by
  unfold z_im; rw [if_pos ⟨h, h2⟩]
theorem z_im_f {A : z_A} {S : Nat × Nat × Nat × Nat × Nat} {a b : Nat} (h : ¬ (z_can A a b ∧ (S.1 < z_mv (z_xs A a b) ∨ (z_mv (z_xs A a b) = S.1 ∧ z_av (z_xs A a b) < S.2.1)))) : z_im A S a b = S := by
  unfold z_im; rw [if_neg h]
noncomputable def z_fi (A : z_A) (a : Nat) : Nat → Nat → Nat × Nat × Nat × Nat × Nat → Nat × Nat × Nat × Nat × Nat
  | 0, _, S => S
  | d + 1, b, S => z_fi A a d (b + 1) (z_im A S a b)
noncomputable def z_fo (A : z_A) : Nat → Nat → Nat × Nat × Nat × Nat × Nat → Nat × Nat × Nat × Nat × Nat
  | 0, _, S => S
  | d + 1, a, S => z_fo A d (a + 1) (z_fi A a d (a + 1) S)
def z_SI (A : z_A) (S : Nat × Nat × Nat × Nat × Nat) : Prop := S.1 ≤ 10 ∧ (S.2.1 ≤ 160000 ∨ (S.2.1 = 160001 ∧ S.1 = 0)) ∧ (S.2.2.1 = 0 ∨ (S.2.2.1 = 1 ∧ S.2.2.2.1 < z_aN A ∧ S.2.2.2.2 < z_aN A ∧ S.2.2.2.1 ≠ S.2.2.2.2 ∧ z_can A S.2.2.2.1 S.2.2.2.2))
def z_e1 (S : Nat × Nat × Nat × Nat × Nat) : Int32 := if S.2.2.1 = 0 then -1 else nI S.2.2.2.1
def z_e2 (S : Nat × Nat × Nat × Nat × Nat) : Int32 := if S.2.2.1 = 0 then -1 else nI S.2.2.2.2
theorem z_im_si {A : z_A} {S : Nat × Nat × Nat × Nat × Nat} {a b : Nat} (ok : z_Ok A) (ha : a < z_aN A) (hb : b < z_aN A) (hab : a ≠ b) (h : z_SI A S) : z_SI A (z_im A S a b) := by
  by_cases q : z_can A a b ∧ (S.1 < z_mv (z_xs A a b) ∨ (z_mv (z_xs A a b) = S.1 ∧ z_av (z_xs A a b) < S.2.1))
  · rw [z_im_t q.1 q.2]
    have hN := ok.1.1
    have ok2 := z_xs_ok ok (show a < 6 by omega) (show b < 6 by omega) q.1.1 q.1.2.1
    have c := z_av_c _ ok2
    have m := z_mv_b ok2
    refine ⟨m, ?_, Or.inr ⟨rfl, ha, hb, hab, q.1⟩⟩
    show z_av (z_xs A a b) ≤ 160000 ∨ (z_av (z_xs A a b) = 160001 ∧ z_mv (z_xs A a b) = 0)
    exact c
  · rw [z_im_f q]; exact h
/-- measure(), and settle() where there are wishes -/
theorem z_evC {σ : rl_M} {B : z_A} (x1 : Int32) (ok : z_Ok B) (hc : z_Cs σ B) (hf : z_Fg σ B) (hx : x1 = 0 → z_ak B = 0) : ∃ σ2 σ3, rf_Pl_measure σ = some (0, σ2) ∧ (x1 = 0 → σ3 = σ2) ∧ (¬ x1 = 0 → rf_Pl_settle σ2 = some (0, σ3)) ∧ rf_Wl_countMetIn σ3 = some (nI (z_mv B), σ3) ∧ rf_Pl_bestArea σ3 = some (nI (z_av B), σ3) ∧ z_Cs σ3 B ∧ z_Fg σ3 B ∧ ∀ c, 59 ≤ c → σ3 c = σ c := by
  obtain ⟨σ2, t1, t2, t3, t4, t5, t6⟩ := z_M ok hc hf
  by_cases q : x1 = 0
  · have hk := hx q
    refine ⟨σ2, σ2, t1, fun _ => rfl, fun h => (h q).elim, ?_, z_baC ok t5, t2, t3, fun c hc => t6.1 c (by omega)⟩
    have h19 : σ2 19 0 = nI 0 := by have := t2.2.2.2.2.1; rw [hk] at this; exact this
    have := z_cmC (P := z_Mt B) (k := 0) (by omega) h19 (fun i hi => by omega) 0 0 10000 (by omega) (by omega)
    unfold z_mv
    rw [hk]
    exact this
  · obtain ⟨σ3, u1, u2, u3, u4, u5, u6⟩ := z_Sl ok t2 t3
    exact ⟨σ2, σ3, t1, fun h => (q h).elim, fun _ => u1, z_ctC ok u2 u5, z_baC ok u4, u2, u3, fun c hc => (u6.1 c (by omega)).trans (t6.1 c (by omega))⟩
theorem z_stC {σ : rl_M} {A : z_A} {S : Nat × Nat × Nat × Nat × Nat} {a b : Nat} (x1 : Int32) (ok : z_Ok A) (hx : x1 = 0 → z_ak A = 0) (ha : a < z_aN A) (hb : b < z_aN A) (hab : a ≠ b) (hS : z_SI A S) (hc : z_Cs σ A) (hf : z_Fg σ A) :
    ∃ τ, (∀ (K : Int32 → Int32 → Int32 → Int32 → rl_M → Option (Int32 × rl_M)) (f : Nat), rf_Ro_improve_L84 x1 (nI a) K (f + 1) (nI S.1) (nI S.2.1) (z_e1 S) (z_e2 S) (nI b) σ = rf_Ro_improve_L84 x1 (nI a) K f (nI (z_im A S a b).1) (nI (z_im A S a b).2.1) (z_e1 (z_im A S a b)) (z_e2 (z_im A S a b)) (nI (b + 1)) τ) ∧ z_Cs τ A ∧ z_Fg τ A ∧ ∀ c, 59 ≤ c → τ c = σ c := by
  have hN := ok.1.1
  have h4 := hc.1
  have s1 := hS.1
  have s2 := hS.2.1
  rcases z_ceC ok hc (show a < 6 by omega) (show b < 6 by omega) with ⟨c1, c2⟩ | ⟨c1, c2⟩
  · obtain ⟨σ1, t1, t2, t3, t4, t5⟩ := z_exC ok hc (show a < 6 by omega) (show b < 6 by omega) hab c1
    have ok2 := z_xs_ok ok (show a < 6 by omega) (show b < 6 by omega) c1.1 c1.2.1
    obtain ⟨σ2, σ3, u1, u2, u3, u4, u5, u6, u7, u8⟩ := z_evC x1 ok2 t2 (Or.inl ⟨t3, t4⟩) hx
    obtain ⟨σ4, v1, v2, v3, v4, v5⟩ := z_exC ok2 u6 (show a < 6 by omega) (show b < 6 by omega) hab (z_xs_can c1)
    rw [z_xs_sm] at v2
    have m := z_mv_b ok2
    have av := z_av_c _ ok2
    refine ⟨σ4, ?_, v2, Or.inl ⟨v3, v4⟩, fun c hc => by rw [v5 c (by omega), u8 c hc, t5 c (by omega)]⟩
    intro K f
    have J : rf_Ro_improve_L84 x1 (nI a) K (f + 1) (nI S.1) (nI S.2.1) (z_e1 S) (z_e2 S) (nI b) σ = rf_Ro_improve_J139 x1 (nI S.1) (nI S.2.1) (z_e1 S) (z_e2 S) (nI a) (nI b) (rf_Ro_improve_L84 x1 (nI a) K f) K σ3 := by
      conv => lhs; unfold rf_Ro_improve_L84
      by_cases q : x1 = 0
      · have e := u2 q
        subst e
        simp (disch := omega) only [h4, c2, t1, u1, z_lt, z_le, z_eq, z_ltl, z_lel, z_llt, z_lle, z_eql, z_add, z_addl, z_ladd, z_mul, z_mull, z_lmul, z_sub, z_subl, z_cl, z_ib, z_nm, z_m1, z_mlt, if_pos, if_neg, ge_iff_le, gt_iff_lt, ite_true, ite_false, if_true, if_false, Option.bind_some, z_10, eq_self, q]
      · have e := u3 q
        simp (disch := omega) only [h4, c2, t1, u1, e, z_lt, z_le, z_eq, z_ltl, z_lel, z_llt, z_lle, z_eql, z_add, z_addl, z_ladd, z_mul, z_mull, z_lmul, z_sub, z_subl, z_cl, z_ib, z_nm, z_m1, z_mlt, if_pos, if_neg, ge_iff_le, gt_iff_lt, ite_true, ite_false, if_true, if_false, Option.bind_some, z_10, eq_self, if_neg q]
    rw [J]
    unfold rf_Ro_improve_J139
    simp only [u4, u5, v1, Option.bind_some]
    by_cases q1 : S.1 < z_mv (z_xs A a b)
    · rw [z_im_t c1 (Or.inl q1)]
      simp (disch := omega) only [z_lt, z_le, z_eq, z_ltl, z_lel, z_llt, z_lle, z_eql, z_add, z_addl, z_ladd, z_mul, z_mull, z_lmul, z_sub, z_subl, z_cl, z_ib, z_nm, z_m1, z_mlt, if_pos, if_neg, ge_iff_le, gt_iff_lt, ite_true, ite_false, if_true, if_false, Option.bind_some, z_10, eq_self, z_e1, z_e2]
    · by_cases q2 : z_mv (z_xs A a b) = S.1
      · by_cases q3 : z_av (z_xs A a b) < S.2.1
        · rw [z_im_t c1 (Or.inr ⟨q2, q3⟩)]
          simp (disch := omega) only [z_lt, z_le, z_eq, z_ltl, z_lel, z_llt, z_lle, z_eql, z_add, z_addl, z_ladd, z_mul, z_mull, z_lmul, z_sub, z_subl, z_cl, z_ib, z_nm, z_m1, z_mlt, if_pos, if_neg, ge_iff_le, gt_iff_lt, ite_true, ite_false, if_true, if_false, Option.bind_some, z_10, eq_self, z_e1, z_e2]
        · rw [z_im_f (fun h => by rcases h.2 with h | h <;> omega)]
          simp (disch := omega) only [z_lt, z_le, z_eq, z_ltl, z_lel, z_llt, z_lle, z_eql, z_add, z_addl, z_ladd, z_mul, z_mull, z_lmul, z_sub, z_subl, z_cl, z_ib, z_nm, z_m1, z_mlt, if_pos, if_neg, ge_iff_le, gt_iff_lt, ite_true, ite_false, if_true, if_false, Option.bind_some, z_10, eq_self]
      · rw [z_im_f (fun h => by rcases h.2 with h | h <;> omega)]
        simp (disch := omega) only [z_lt, z_le, z_eq, z_ltl, z_lel, z_llt, z_lle, z_eql, z_add, z_addl, z_ladd, z_mul, z_mull, z_lmul, z_sub, z_subl, z_cl, z_ib, z_nm, z_m1, z_mlt, if_pos, if_neg, ge_iff_le, gt_iff_lt, ite_true, ite_false, if_true, if_false, Option.bind_some, z_10, eq_self]
  · refine ⟨σ, ?_, hc, hf, fun _ _ => rfl⟩
    intro K f
    rw [z_im_f (fun h => c1 h.1)]
    conv => lhs; unfold rf_Ro_improve_L84
    simp (disch := omega) only [h4, c2, z_lt, z_le, z_eq, z_ltl, z_lel, z_llt, z_lle, z_eql, z_add, z_addl, z_ladd, z_mul, z_mull, z_lmul, z_sub, z_subl, z_cl, z_ib, z_nm, z_m1, z_mlt, if_pos, if_neg, ge_iff_le, gt_iff_lt, ite_true, ite_false, if_true, if_false, Option.bind_some, z_10, eq_self]
theorem z_i84 {A : z_A} {a : Nat} (x1 : Int32) (ok : z_Ok A) (hx : x1 = 0 → z_ak A = 0) (ha : a < z_aN A) : ∀ (d b : Nat) (S : Nat × Nat × Nat × Nat × Nat) (σ : rl_M), b + d = z_aN A → a < b → z_SI A S → z_Cs σ A → z_Fg σ A →
    ∃ τ, (∀ (K : Int32 → Int32 → Int32 → Int32 → rl_M → Option (Int32 × rl_M)) (f : Nat), d < f → rf_Ro_improve_L84 x1 (nI a) K f (nI S.1) (nI S.2.1) (z_e1 S) (z_e2 S) (nI b) σ = K (nI (z_fi A a d b S).1) (nI (z_fi A a d b S).2.1) (z_e1 (z_fi A a d b S)) (z_e2 (z_fi A a d b S)) τ) ∧ z_SI A (z_fi A a d b S) ∧ z_Cs τ A ∧ z_Fg τ A ∧ ∀ c, 59 ≤ c → τ c = σ c := by
  intro d
  induction d with
  | zero =>
    intro b S σ hb hab hS hc hf
    have hN := ok.1.1
    have h4 := hc.1
    refine ⟨σ, ?_, hS, hc, hf, fun _ _ => rfl⟩
    intro K f hff
    obtain ⟨f, rfl⟩ : ∃ g, f = g + 1 := ⟨f - 1, by omega⟩
    unfold rf_Ro_improve_L84
    simp (disch := omega) only [h4, z_lt, z_le, z_eq, z_ltl, z_lel, z_llt, z_lle, z_eql, z_add, z_addl, z_ladd, z_mul, z_mull, z_lmul, z_sub, z_subl, z_cl, z_ib, z_nm, z_m1, z_mlt, if_pos, if_neg, ge_iff_le, gt_iff_lt, ite_true, ite_false, if_true, if_false, Option.bind_some, z_10, eq_self, z_fi]
  | succ d ih =>
    intro b S σ hb hab hS hc hf
    obtain ⟨τ, t1, t2, t3, t4⟩ := z_stC x1 ok hx ha (show b < z_aN A by omega) (show a ≠ b by omega) hS hc hf
    obtain ⟨υ, u1, u2, u3, u4, u5⟩ := ih (b + 1) (z_im A S a b) τ (by omega) (by omega) (z_im_si ok ha (by omega) (by omega) hS) t2 t3
    refine ⟨υ, ?_, u2, u3, u4, fun c hc => (u5 c hc).trans (t4 c hc)⟩
    intro K f hff
    obtain ⟨f, rfl⟩ : ∃ g, f = g + 1 := ⟨f - 1, by omega⟩
    rw [t1 K f, u1 K f (by omega)]
    rfl
theorem z_i63 {A : z_A} (x1 : Int32) (ok : z_Ok A) (hx : x1 = 0 → z_ak A = 0) : ∀ (d a : Nat) (S : Nat × Nat × Nat × Nat × Nat) (σ : rl_M), a + d = z_aN A → z_SI A S → z_Cs σ A → z_Fg σ A →
    ∃ τ, (∀ (K : Int32 → Int32 → rl_M → Option (Int32 × rl_M)) (f : Nat), d < f → rf_Ro_improve_L63 x1 K f (nI S.1) (nI S.2.1) (z_e1 S) (z_e2 S) (nI a) σ = K (z_e1 (z_fo A d a S)) (z_e2 (z_fo A d a S)) τ) ∧ z_SI A (z_fo A d a S) ∧ z_Cs τ A ∧ z_Fg τ A ∧ ∀ c, 59 ≤ c → τ c = σ c := by
  intro d
  induction d with
  | zero =>
    intro a S σ ha hS hc hf
    have hN := ok.1.1
    have h4 := hc.1
    refine ⟨σ, ?_, hS, hc, hf, fun _ _ => rfl⟩
    intro K f hff
    obtain ⟨f, rfl⟩ : ∃ g, f = g + 1 := ⟨f - 1, by omega⟩
    unfold rf_Ro_improve_L63
    simp (disch := omega) only [h4, z_lt, z_le, z_eq, z_ltl, z_lel, z_llt, z_lle, z_eql, z_add, z_addl, z_ladd, z_mul, z_mull, z_lmul, z_sub, z_subl, z_cl, z_ib, z_nm, z_m1, z_mlt, if_pos, if_neg, ge_iff_le, gt_iff_lt, ite_true, ite_false, if_true, if_false, Option.bind_some, z_10, eq_self, z_fo]
  | succ d ih =>
    intro a S σ ha hS hc hf
    have hN := ok.1.1
    have h4 := hc.1
    obtain ⟨τ, t1, t2, t3, t4, t5⟩ := z_i84 x1 ok hx (show a < z_aN A by omega) d (a + 1) S σ (by omega) (by omega) hS hc hf
    obtain ⟨υ, u1, u2, u3, u4, u5⟩ := ih (a + 1) (z_fi A a d (a + 1) S) τ (by omega) t2 t3 t4
    refine ⟨υ, ?_, u2, u3, u4, fun c hc => (u5 c hc).trans (t5 c hc)⟩
    intro K f hff
    obtain ⟨f, rfl⟩ : ∃ g, f = g + 1 := ⟨f - 1, by omega⟩
    have uu := u1 K f (by omega)
    conv => lhs; unfold rf_Ro_improve_L63
    simp (disch := omega) only [h4, z_lt, z_le, z_eq, z_ltl, z_lel, z_llt, z_lle, z_eql, z_add, z_addl, z_ladd, z_mul, z_mull, z_lmul, z_sub, z_subl, z_cl, z_ib, z_nm, z_m1, z_mlt, if_pos, if_neg, ge_iff_le, gt_iff_lt, ite_true, ite_false, if_true, if_false, Option.bind_some, z_10, eq_self]
    refine (t1 _ 10000 (by omega)).trans ?_
    exact uu
/-- the reference's found flag and area -/
def z_RR (S : Nat × Nat × Nat × Nat × Nat) (x2 x3 : Int32) : Prop := (S.2.1 = 160001 ∧ x2 = 0) ∨ (S.2.1 ≤ 160000 ∧ x2 = 1 ∧ x3 = nI S.2.1)
theorem z_stR {σ : rl_M} {A : z_A} {S : Nat × Nat × Nat × Nat × Nat} {a b : Nat} {x2 x3 : Int32} (ok : z_Ok A) (ha : a < z_aN A) (hb : b < z_aN A) (hab : a ≠ b) (hS : z_SI A S) (hR : z_RR S x2 x3) (hr : z_Rs σ A) :
    ∃ τ y2 y3, z_RR (z_im A S a b) y2 y3 ∧ (∀ (K : Int32 → Int32 → Int32 → Int32 → Int32 → rl_M → Option (Int32 × rl_M)) (f : Nat), rf_Mo_improve_L60 (nI a) K (f + 1) (nI S.1) x2 x3 (z_e1 S) (z_e2 S) (nI b) σ = rf_Mo_improve_L60 (nI a) K f (nI (z_im A S a b).1) y2 y3 (z_e1 (z_im A S a b)) (z_e2 (z_im A S a b)) (nI (b + 1)) τ) ∧ z_Rs τ A ∧ ∀ c, c < 59 → τ c = σ c := by
  have hN := ok.1.1
  have h1 := hr.1
  have s1 := hS.1
  have s2 := hS.2.1
  rcases z_ceR ok hr (show a < 6 by omega) (show b < 6 by omega) with ⟨c1, c2⟩ | ⟨c1, c2⟩
  · obtain ⟨σ1, t1, t2, t3⟩ := z_exR ok hr (show a < 6 by omega) (show b < 6 by omega) hab c1
    have ok2 := z_xs_ok ok (show a < 6 by omega) (show b < 6 by omega) c1.1 c1.2.1
    obtain ⟨σ2, u1, u2, u3, u4⟩ := z_amR ok2 t2
    obtain ⟨σ3, v1, v2, v3⟩ := z_exR ok2 u2 (show a < 6 by omega) (show b < 6 by omega) hab (z_xs_can c1)
    rw [z_xs_sm] at v2
    have u1' : rf_Mo_allMet σ1 = some (nI (z_mv (z_xs A a b)), σ2) := u1
    have m := z_mv_b ok2
    have fr : ∀ c, c < 59 → σ3 c = σ c := fun c hc => by rw [v3 c (by omega), u4.1 c (by omega), t3 c (by omega)]
    rcases u3 with ⟨d1, d2⟩ | ⟨t, c, d1, d2, d3, d4, d5⟩
    · have av := z_av_0 d2
      have mv := z_mv_0 (z_noBa ok2 d2)
      have ef : z_im A S a b = S := z_im_f (fun h => by rcases h.2 with h | h <;> omega)
      refine ⟨σ3, x2, x3, by rw [ef]; exact hR, ?_, v2, fr⟩
      intro K f
      rw [ef]
      conv => lhs; unfold rf_Mo_improve_L60
      simp (disch := omega) only [h1, c2, t1, u1', d1, v1, z_lt, z_le, z_eq, z_ltl, z_lel, z_llt, z_lle, z_eql, z_add, z_addl, z_ladd, z_mul, z_mull, z_lmul, z_sub, z_subl, z_cl, z_ib, z_nm, z_m1, z_mlt, if_pos, if_neg, ge_iff_le, gt_iff_lt, ite_true, ite_false, if_true, if_false, Option.bind_some, z_10, eq_self]
    · have rk := ok2.rk d1.1
      have bo := z_best_bo rk d1.2
      have boA : z_BO (z_Pa (z_xs A a b)) (z_ev (z_ag (z_xs A a b)) (z_as (z_xs A a b)) c 0 t) := ⟨(z_Pa_some d1.1 _).mpr bo.1, fun q hq => bo.2 q ((z_Pa_some d1.1 q).mp hq)⟩
      have av := z_av_1 ok2 boA
      have ab := z_av_b ok2 boA.1
      have own : (σ2 59 16) * (σ2 59 17) = nI (z_av (z_xs A a b)) := by rw [d3, d4, z_mul, av]
      rw [← av] at ab
      have J : ∀ (K : Int32 → Int32 → Int32 → Int32 → Int32 → rl_M → Option (Int32 × rl_M)) (f : Nat), rf_Mo_improve_J134 (nI a) (nI b) (nI (z_mv (z_xs A a b))) (nI (z_av (z_xs A a b))) (rf_Mo_improve_L60 (nI a) K f) K σ2 = rf_Mo_improve_L60 (nI a) K f (nI (z_mv (z_xs A a b))) 1 (nI (z_av (z_xs A a b))) (nI a) (nI b) (nI (b + 1)) σ3 := by
        intro K f
        unfold rf_Mo_improve_J134
        simp only [v1, Option.bind_some, z_addl]
      by_cases upd : S.1 < z_mv (z_xs A a b) ∨ (z_mv (z_xs A a b) = S.1 ∧ z_av (z_xs A a b) < S.2.1)
      · have ef := z_im_t c1 upd
        refine ⟨σ3, 1, nI (z_av (z_xs A a b)), by rw [ef]; exact Or.inr ⟨ab, rfl, rfl⟩, ?_, v2, fr⟩
        intro K f
        rw [ef]
        conv => lhs; unfold rf_Mo_improve_L60
        simp only [z_e1, z_e2]
        have JJ := J K f
        rcases hR with ⟨r1, r2⟩ | ⟨r1, r2, r3⟩
        · subst r2
          simp (disch := omega) only [h1, c2, t1, u1', d2, own, JJ, z_lt, z_le, z_eq, z_ltl, z_lel, z_llt, z_lle, z_eql, z_add, z_addl, z_ladd, z_mul, z_mull, z_lmul, z_sub, z_subl, z_cl, z_ib, z_nm, z_m1, z_mlt, if_pos, if_neg, ge_iff_le, gt_iff_lt, ite_true, ite_false, if_true, if_false, Option.bind_some, z_10, eq_self]
        · subst r2 r3
          by_cases q1 : S.1 < z_mv (z_xs A a b)
          · simp (disch := omega) only [h1, c2, t1, u1', d2, own, JJ, z_lt, z_le, z_eq, z_ltl, z_lel, z_llt, z_lle, z_eql, z_add, z_addl, z_ladd, z_mul, z_mull, z_lmul, z_sub, z_subl, z_cl, z_ib, z_nm, z_m1, z_mlt, if_pos, if_neg, ge_iff_le, gt_iff_lt, ite_true, ite_false, if_true, if_false, Option.bind_some, z_10, eq_self]
          · simp (disch := omega) only [h1, c2, t1, u1', d2, own, JJ, z_lt, z_le, z_eq, z_ltl, z_lel, z_llt, z_lle, z_eql, z_add, z_addl, z_ladd, z_mul, z_mull, z_lmul, z_sub, z_subl, z_cl, z_ib, z_nm, z_m1, z_mlt, if_pos, if_neg, ge_iff_le, gt_iff_lt, ite_true, ite_false, if_true, if_false, Option.bind_some, z_10, eq_self]
      · have ef : z_im A S a b = S := z_im_f (fun h => upd h.2)
        refine ⟨σ3, x2, x3, by rw [ef]; exact hR, ?_, v2, fr⟩
        intro K f
        rw [ef]
        conv => lhs; unfold rf_Mo_improve_L60
        rcases hR with ⟨r1, r2⟩ | ⟨r1, r2, r3⟩
        · exfalso; omega
        · subst r2 r3
          by_cases q1 : z_mv (z_xs A a b) = S.1
          · simp (disch := omega) only [h1, c2, t1, u1', d2, own, v1, z_lt, z_le, z_eq, z_ltl, z_lel, z_llt, z_lle, z_eql, z_add, z_addl, z_ladd, z_mul, z_mull, z_lmul, z_sub, z_subl, z_cl, z_ib, z_nm, z_m1, z_mlt, if_pos, if_neg, ge_iff_le, gt_iff_lt, ite_true, ite_false, if_true, if_false, Option.bind_some, z_10, eq_self]
          · simp (disch := omega) only [h1, c2, t1, u1', d2, own, v1, z_lt, z_le, z_eq, z_ltl, z_lel, z_llt, z_lle, z_eql, z_add, z_addl, z_ladd, z_mul, z_mull, z_lmul, z_sub, z_subl, z_cl, z_ib, z_nm, z_m1, z_mlt, if_pos, if_neg, ge_iff_le, gt_iff_lt, ite_true, ite_false, if_true, if_false, Option.bind_some, z_10, eq_self]
  · refine ⟨σ, x2, x3, by rw [z_im_f (fun h => c1 h.1)]; exact hR, ?_, hr, fun _ _ => rfl⟩
    intro K f
    rw [z_im_f (fun h => c1 h.1)]
    conv => lhs; unfold rf_Mo_improve_L60
    simp (disch := omega) only [h1, c2, z_lt, z_le, z_eq, z_ltl, z_lel, z_llt, z_lle, z_eql, z_add, z_addl, z_ladd, z_mul, z_mull, z_lmul, z_sub, z_subl, z_cl, z_ib, z_nm, z_m1, z_mlt, if_pos, if_neg, ge_iff_le, gt_iff_lt, ite_true, ite_false, if_true, if_false, Option.bind_some, z_10, eq_self]
theorem z_i60 {A : z_A} {a : Nat} (ok : z_Ok A) (ha : a < z_aN A) : ∀ (d b : Nat) (S : Nat × Nat × Nat × Nat × Nat) (x2 x3 : Int32) (σ : rl_M), b + d = z_aN A → a < b → z_SI A S → z_RR S x2 x3 → z_Rs σ A →
    ∃ τ y2 y3, z_RR (z_fi A a d b S) y2 y3 ∧ (∀ (K : Int32 → Int32 → Int32 → Int32 → Int32 → rl_M → Option (Int32 × rl_M)) (f : Nat), d < f → rf_Mo_improve_L60 (nI a) K f (nI S.1) x2 x3 (z_e1 S) (z_e2 S) (nI b) σ = K (nI (z_fi A a d b S).1) y2 y3 (z_e1 (z_fi A a d b S)) (z_e2 (z_fi A a d b S)) τ) ∧ z_SI A (z_fi A a d b S) ∧ z_Rs τ A ∧ ∀ c, c < 59 → τ c = σ c := by
  intro d
  induction d with
  | zero =>
    intro b S x2 x3 σ hb hab hS hR hr
    have hN := ok.1.1
    have h1 := hr.1
    refine ⟨σ, x2, x3, hR, ?_, hS, hr, fun _ _ => rfl⟩
    intro K f hff
    obtain ⟨f, rfl⟩ : ∃ g, f = g + 1 := ⟨f - 1, by omega⟩
    unfold rf_Mo_improve_L60
    simp (disch := omega) only [h1, z_lt, z_le, z_eq, z_ltl, z_lel, z_llt, z_lle, z_eql, z_add, z_addl, z_ladd, z_mul, z_mull, z_lmul, z_sub, z_subl, z_cl, z_ib, z_nm, z_m1, z_mlt, if_pos, if_neg, ge_iff_le, gt_iff_lt, ite_true, ite_false, if_true, if_false, Option.bind_some, z_10, eq_self, z_fi]
  | succ d ih =>
    intro b S x2 x3 σ hb hab hS hR hr
    obtain ⟨τ, y2, y3, t0, t1, t2, t4⟩ := z_stR ok ha (show b < z_aN A by omega) (show a ≠ b by omega) hS hR hr
    obtain ⟨υ, w2, w3, u0, u1, u2, u3, u5⟩ := ih (b + 1) (z_im A S a b) y2 y3 τ (by omega) (by omega) (z_im_si ok ha (by omega) (by omega) hS) t0 t2
    refine ⟨υ, w2, w3, u0, ?_, u2, u3, fun c hc => (u5 c hc).trans (t4 c hc)⟩
    intro K f hff
    obtain ⟨f, rfl⟩ : ∃ g, f = g + 1 := ⟨f - 1, by omega⟩
    rw [t1 K f, u1 K f (by omega)]
    rfl
theorem z_i45 {A : z_A} (ok : z_Ok A) : ∀ (d a : Nat) (S : Nat × Nat × Nat × Nat × Nat) (x2 x3 : Int32) (σ : rl_M), a + d = z_aN A → z_SI A S → z_RR S x2 x3 → z_Rs σ A →
    ∃ τ, (∀ (K : Int32 → Int32 → rl_M → Option (Int32 × rl_M)) (f : Nat), d < f → rf_Mo_improve_L45 K f (nI S.1) x2 x3 (z_e1 S) (z_e2 S) (nI a) σ = K (z_e1 (z_fo A d a S)) (z_e2 (z_fo A d a S)) τ) ∧ z_Rs τ A ∧ ∀ c, c < 59 → τ c = σ c := by
  intro d
  induction d with
  | zero =>
    intro a S x2 x3 σ ha hS hR hr
    have hN := ok.1.1
    have h1 := hr.1
    refine ⟨σ, ?_, hr, fun _ _ => rfl⟩
    intro K f hff
    obtain ⟨f, rfl⟩ : ∃ g, f = g + 1 := ⟨f - 1, by omega⟩
    unfold rf_Mo_improve_L45
    simp (disch := omega) only [h1, z_lt, z_le, z_eq, z_ltl, z_lel, z_llt, z_lle, z_eql, z_add, z_addl, z_ladd, z_mul, z_mull, z_lmul, z_sub, z_subl, z_cl, z_ib, z_nm, z_m1, z_mlt, if_pos, if_neg, ge_iff_le, gt_iff_lt, ite_true, ite_false, if_true, if_false, Option.bind_some, z_10, eq_self, z_fo]
  | succ d ih =>
    intro a S x2 x3 σ ha hS hR hr
    have hN := ok.1.1
    have h1 := hr.1
    obtain ⟨τ, y2, y3, t0, t1, t2, t3, t5⟩ := z_i60 ok (show a < z_aN A by omega) d (a + 1) S x2 x3 σ (by omega) (by omega) hS hR hr
    obtain ⟨υ, u1, u3, u5⟩ := ih (a + 1) (z_fi A a d (a + 1) S) y2 y3 τ (by omega) t2 t0 t3
    refine ⟨υ, ?_, u3, fun c hc => (u5 c hc).trans (t5 c hc)⟩
    intro K f hff
    obtain ⟨f, rfl⟩ : ∃ g, f = g + 1 := ⟨f - 1, by omega⟩
    have uu := u1 K f (by omega)
    conv => lhs; unfold rf_Mo_improve_L45
    simp (disch := omega) only [h1, z_lt, z_le, z_eq, z_ltl, z_lel, z_llt, z_lle, z_eql, z_add, z_addl, z_ladd, z_mul, z_mull, z_lmul, z_sub, z_subl, z_cl, z_ib, z_nm, z_m1, z_mlt, if_pos, if_neg, ge_iff_le, gt_iff_lt, ite_true, ite_false, if_true, if_false, Option.bind_some, z_10, eq_self]
    refine (t1 _ 10000 (by omega)).trans ?_
    exact uu
theorem z_case12 (P1 P2 P3 P4 : Int32) (σ : rl_M) (h : z_Inv σ) : ∃ τ, lf_12 P1 P2 P3 P4 σ = some τ ∧ z_Inv τ := by
  obtain ⟨A, ok, hc, hr, hf⟩ := h
  have hN := ok.1.1
  have hk10 := ok.2.2.1.1
  have av := z_av_c A ok
  have mb := z_mv_b ok
  have S0 : z_SI A (z_mv A, z_av A, 0, 0, 0) := ⟨mb, av, Or.inl rfl⟩
  -- the class
  have cls : ∀ x1 : Int32, (x1 = 0 → z_ak A = 0) → rf_Ro_improve σ = rf_Ro_improve_J15 x1 σ → ∃ τ, rf_Ro_improve σ = (fun (y4 y5 : Int32) (m : rl_M) => (if y4 = ((-1)) then some (0, m) else ((rf_Ro_changePlaces y4 y5 m).bind (fun q23 => some (1, q23.2))))) (z_e1 (z_fo A (z_aN A) 0 (z_mv A, z_av A, 0, 0, 0))) (z_e2 (z_fo A (z_aN A) 0 (z_mv A, z_av A, 0, 0, 0))) τ ∧ z_SI A (z_fo A (z_aN A) 0 (z_mv A, z_av A, 0, 0, 0)) ∧ z_Cs τ A ∧ z_Fg τ A ∧ ∀ c, 59 ≤ c → τ c = σ c := by
    intro x1 hx he
    obtain ⟨σ2, σ3, u1, u2, u3, u4, u5, u6, u7, u8⟩ := z_evC x1 ok hc hf hx
    obtain ⟨τ, t1, t2, t3, t4, t5⟩ := z_i63 x1 ok hx (z_aN A) 0 (z_mv A, z_av A, 0, 0, 0) σ3 (by omega) S0 u6 u7
    refine ⟨τ, ?_, t2, t3, t4, fun c hc => (t5 c hc).trans (u8 c hc)⟩
    rw [he]
    have J34 : rf_Ro_improve_J15 x1 σ = rf_Ro_improve_J34 x1 σ3 := by
      unfold rf_Ro_improve_J15
      by_cases q : x1 = 0
      · have e := u2 q
        subst e
        simp only [u1, Option.bind_some, if_pos q]
      · simp only [u1, u3 q, Option.bind_some, if_neg q]
    rw [J34]
    unfold rf_Ro_improve_J34
    simp only [u4, u5, Option.bind_some]
    exact t1 _ 10000 (by omega)
  have cls2 : ∃ τ, rf_Ro_improve σ = (fun (y4 y5 : Int32) (m : rl_M) => (if y4 = ((-1)) then some (0, m) else ((rf_Ro_changePlaces y4 y5 m).bind (fun q23 => some (1, q23.2))))) (z_e1 (z_fo A (z_aN A) 0 (z_mv A, z_av A, 0, 0, 0))) (z_e2 (z_fo A (z_aN A) 0 (z_mv A, z_av A, 0, 0, 0))) τ ∧ z_SI A (z_fo A (z_aN A) 0 (z_mv A, z_av A, 0, 0, 0)) ∧ z_Cs τ A ∧ z_Fg τ A ∧ ∀ c, 59 ≤ c → τ c = σ c := by
    have h19 := hc.2.2.2.2.1
    by_cases q : z_ak A = 0
    · refine cls 0 (fun _ => q) ?_
      unfold rf_Ro_improve
      simp (disch := omega) only [h19, z_lt, z_le, z_eq, z_ltl, z_lel, z_llt, z_lle, z_eql, z_add, z_addl, z_ladd, z_mul, z_mull, z_lmul, z_sub, z_subl, z_cl, z_ib, z_nm, z_m1, z_mlt, if_pos, if_neg, ge_iff_le, gt_iff_lt, ite_true, ite_false, if_true, if_false, Option.bind_some, z_10, eq_self]
    · refine cls 1 (fun h => absurd h (by decide)) ?_
      unfold rf_Ro_improve
      simp (disch := omega) only [h19, z_lt, z_le, z_eq, z_ltl, z_lel, z_llt, z_lle, z_eql, z_add, z_addl, z_ladd, z_mul, z_mull, z_lmul, z_sub, z_subl, z_cl, z_ib, z_nm, z_m1, z_mlt, if_pos, if_neg, ge_iff_le, gt_iff_lt, ite_true, ite_false, if_true, if_false, Option.bind_some, z_10, eq_self]
  obtain ⟨τ, t1, t2, t3, t4, t5⟩ := cls2
  -- the reference
  have ref : ∀ υ : rl_M, z_Rs υ A → ∃ ω, rf_Mo_improve υ = (fun (y4 y5 : Int32) (m : rl_M) => (if y4 < 0 then (if y4 < 0 then some (0, m) else some (1, m)) else ((rf_Mo_change y4 y5 m).bind (fun q22 => (if y4 < 0 then some (0, q22.2) else some (1, q22.2)))))) (z_e1 (z_fo A (z_aN A) 0 (z_mv A, z_av A, 0, 0, 0))) (z_e2 (z_fo A (z_aN A) 0 (z_mv A, z_av A, 0, 0, 0))) ω ∧ z_Rs ω A ∧ ∀ c, c < 59 → ω c = υ c := by
    intro υ hυ
    obtain ⟨υ2, w1, w2, w3, w4⟩ := z_amR ok (z_Rs_x z_FX_0 hυ : z_Rs (rl_su υ 59 0 0) A)
    have w1' : rf_Mo_allMet (rl_su υ 59 0 0) = some (nI (z_mv A), υ2) := w1
    have fr : ∀ c, c < 59 → υ2 c = υ c := fun c hc => by rw [w4.1 c (by omega), z_su_ce (by omega)]
    rcases w3 with ⟨d1, d2⟩ | ⟨t, c, d1, d2, d3, d4, d5⟩
    · obtain ⟨ω, e1, e2, e3⟩ := z_i45 ok (z_aN A) 0 (z_mv A, z_av A, 0, 0, 0) 0 0 υ2 (by omega) S0 (Or.inl ⟨z_av_0 d2, rfl⟩) w2
      refine ⟨ω, ?_, e2, fun c hc => (e3 c hc).trans (fr c hc)⟩
      unfold rf_Mo_improve
      simp only [w1', Option.bind_some, d1, if_true]
      exact e1 _ 10000 (by omega)
    · have rk := ok.rk d1.1
      have bo := z_best_bo rk d1.2
      have boA : z_BO (z_Pa A) (z_ev (z_ag A) (z_as A) c 0 t) := ⟨(z_Pa_some d1.1 _).mpr bo.1, fun q hq => bo.2 q ((z_Pa_some d1.1 q).mp hq)⟩
      have avv := z_av_1 ok boA
      have ab := z_av_b ok boA.1
      have own : (υ2 59 16) * (υ2 59 17) = nI (z_av A) := by rw [d3, d4, z_mul, avv]
      obtain ⟨ω, e1, e2, e3⟩ := z_i45 ok (z_aN A) 0 (z_mv A, z_av A, 0, 0, 0) 1 (nI (z_av A)) υ2 (by omega) S0 (Or.inr ⟨by show z_av A ≤ 160000; rw [avv]; exact ab, rfl, rfl⟩) w2
      refine ⟨ω, ?_, e2, fun c hc => (e3 c hc).trans (fr c hc)⟩
      unfold rf_Mo_improve
      simp only [w1', Option.bind_some, d2, z_10, if_false, own]
      exact e1 _ 10000 (by omega)
  generalize z_fo A (z_aN A) 0 (z_mv A, z_av A, 0, 0, 0) = S at t1 t2 ref
  have hrτ : z_Rs τ A := z_Rs_c (fun c h1 h2 => t5 c (by omega)) hr
  rcases t2.2.2 with q | ⟨q, q1, q2, q3, q4⟩
  · have e1 : z_e1 S = -1 := by unfold z_e1; rw [if_pos q]
    have r1 : rf_Ro_improve σ = some (0, τ) := by
      rw [t1]
      simp only [e1, if_true]
    obtain ⟨ω, w1, w2, w3⟩ := ref τ hrτ
    have r2 : rf_Mo_improve τ = some (0, ω) := by
      rw [w1]
      simp only [e1, if_pos z_m10]
    refine ⟨ω, ?_, A, ok, z_Cs_l w3 t3, w2, z_Fg_l ok (fun c hh => w3 c (by omega)) t4⟩
    unfold lf_12
    simp only [r1, r2, Option.bind_some, if_true]
  · have q0 : ¬ S.2.2.1 = 0 := by omega
    have e1 : z_e1 S = nI S.2.2.2.1 := by unfold z_e1; rw [if_neg q0]
    have e2 : z_e2 S = nI S.2.2.2.2 := by unfold z_e2; rw [if_neg q0]
    obtain ⟨τ2, x1, x2, x3, x4, x5⟩ := z_exC ok t3 (show S.2.2.2.1 < 6 by omega) (show S.2.2.2.2 < 6 by omega) q3 q4
    have r1 : rf_Ro_improve σ = some (1, τ2) := by
      rw [t1]
      simp only [e1, e2, if_neg (z_nI_m1 (show S.2.2.2.1 < 2147483648 by omega)), x1, Option.bind_some]
    have hr2 : z_Rs τ2 A := z_Rs_c (fun c h1 h2 => x5 c (by omega)) hrτ
    obtain ⟨ω, w1, w2, w3⟩ := ref τ2 hr2
    obtain ⟨ω2, y1, y2, y3⟩ := z_exR ok w2 (show S.2.2.2.1 < 6 by omega) (show S.2.2.2.2 < 6 by omega) q3 q4
    have g0 := (z_ge0 S.2.2.2.1 (by omega)).2
    have r2 : rf_Mo_improve τ2 = some (1, ω2) := by
      rw [w1]
      simp only [e1, e2, if_neg g0, y1, Option.bind_some]
    have fr : ∀ c, c < 59 → ω2 c = τ2 c := fun c hc => by rw [y3 c (by omega), w3 c hc]
    refine ⟨ω2, ?_, z_xs A S.2.2.2.1 S.2.2.2.2, z_xs_ok ok (by omega) (by omega) q4.1 q4.2.1, z_Cs_l fr x2, y2, Or.inl ⟨by rw [fr 3 (by omega)]; exact x3, by rw [fr 3 (by omega)]; exact x4⟩⟩
    unfold lf_12
    simp only [r1, r2, Option.bind_some, if_true]
