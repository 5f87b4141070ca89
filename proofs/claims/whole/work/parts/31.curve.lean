/-- only a curve's three cells differ -/
def z_F (a : Nat) (σ τ : rl_M) : Prop := ∀ c, c ≠ a → c ≠ a + 1 → c ≠ a + 2 → τ c = σ c
theorem z_F.rf {a : Nat} {σ : rl_M} : z_F a σ σ := fun _ _ _ _ => rfl
theorem z_F.tr {a : Nat} {σ τ υ : rl_M} (h : z_F a σ τ) (g : z_F a τ υ) : z_F a σ υ := fun c h0 h1 h2 => (g c h0 h1 h2).trans (h c h0 h1 h2)
theorem z_F_ap {σ : rl_M} {a n w h : Nat} : z_F a σ (z_ap σ a n w h) := fun _ h0 h1 h2 => z_ap_f h0 h1 h2
theorem z_F_cl {σ : rl_M} {a : Nat} {v : Int32} : z_F a σ (rl_su σ a 0 v) := fun _ h0 _ _ => z_su_ce h0
theorem z_F.cv {a b : Nat} {σ τ : rl_M} {L : List (Nat × Nat)} (h : z_F a σ τ) (hc : z_Cv σ b L) (d : b + 2 < a ∨ a + 2 < b) : z_Cv τ b L :=
  z_Cv_c hc (h b (by omega) (by omega) (by omega)) (h (b + 1) (by omega) (by omega) (by omega)) (h (b + 2) (by omega) (by omega) (by omega))
theorem z_da (a w h n : Nat) (hw : w < 2147483648) (hh : h < 2147483648) (hn : n ≤ 24) : ∀ (B : List (Nat × Nat)) (k : Nat) (O : List (Nat × Nat)) (σ : rl_M) (f : Nat),
    O.length ≤ k → k + B.length = n → (∀ p ∈ B, p.1 ≤ 1000 ∧ p.2 ≤ 1000) → z_Cv σ a O →
    (∀ i p, B[i]? = some p → σ (a + 1) (k + i) = nI p.1 ∧ σ (a + 2) (k + i) = nI p.2) → B.length < f →
    ∃ τ, rf_Cu_dropAround_L13 a (nI w) (nI h) (nI n) f (nI k) σ = some (0, τ) ∧ z_Cv τ a (O ++ B.filter (fun q => q.1 < w || q.2 < h)) ∧ z_F a σ τ := by
  intro B
  induction B with
  | nil =>
    intro k O σ f hO hk hs hc hb hf
    obtain ⟨f, rfl⟩ : ∃ g, f = g + 1 := ⟨f - 1, by simp at hf; omega⟩
    simp at hk
    refine ⟨σ, ?_, by simpa using hc, z_F.rf⟩
    unfold rf_Cu_dropAround_L13
    simp (disch := omega) only [z_lt, z_le, z_eq, z_ltl, z_lel, z_llt, z_lle, z_eql, z_add, z_addl, z_ladd, z_mul, z_mull, z_lmul, z_sub, z_subl, z_cl, z_ib, z_nm, z_m1, z_mlt, if_pos, if_neg, ge_iff_le, gt_iff_lt, ite_true, ite_false, if_true, if_false, Option.bind_some]
  | cons p B ih =>
    intro k O σ f hO hk hs hc hb hf
    obtain ⟨f, rfl⟩ : ∃ g, f = g + 1 := ⟨f - 1, by simp at hf; omega⟩
    simp at hk hf
    have h2 := hs p (by simp)
    have hm := hb 0 p (by simp)
    simp only [Nat.add_zero] at hm
    have hs' : ∀ q ∈ B, q.1 ≤ 1000 ∧ q.2 ≤ 1000 := fun q hq => hs q (by simp [hq])
    have hb' : ∀ i q, B[i]? = some q → σ (a + 1) (k + 1 + i) = nI q.1 ∧ σ (a + 2) (k + 1 + i) = nI q.2 := fun i q hq => by
      have := hb (i + 1) q (by simpa using hq)
      rwa [show k + 1 + i = k + (i + 1) by omega]
    by_cases q : p.1 < w ∨ p.2 < h
    · -- kept
      have hap := z_app σ a O.length p.1 p.2 hc.1 (by omega)
      obtain ⟨τ, t1, t2, t3⟩ := ih (k + 1) (O ++ [p]) (z_ap σ a O.length p.1 p.2) f (by simp; omega) (by omega) hs' (z_Cv_ap hc) (fun i q hq => by
        have := hb' i q hq
        unfold z_ap
        simp (disch := omega) only [z_su_c, z_su_s, z_su_j]
        exact this) (by omega)
      refine ⟨τ, ?_, ?_, z_F_ap.tr t3⟩
      · unfold rf_Cu_dropAround_L13 rf_Cu_dropAround_J41
        by_cases q1 : p.1 < w
        · simp (disch := omega) only [hm.1, hm.2, z_lt, z_le, z_eq, z_ltl, z_lel, z_llt, z_lle, z_eql, z_add, z_addl, z_ladd, z_mul, z_mull, z_lmul, z_sub, z_subl, z_cl, z_ib, z_nm, z_m1, z_mlt, if_pos, if_neg, ge_iff_le, gt_iff_lt, ite_true, ite_false, if_true, if_false, Option.bind_some, hap, t1]
        · simp (disch := omega) only [hm.1, hm.2, z_lt, z_le, z_eq, z_ltl, z_lel, z_llt, z_lle, z_eql, z_add, z_addl, z_ladd, z_mul, z_mull, z_lmul, z_sub, z_subl, z_cl, z_ib, z_nm, z_m1, z_mlt, if_pos, if_neg, ge_iff_le, gt_iff_lt, ite_true, ite_false, if_true, if_false, Option.bind_some, hap, t1]
      · have e : (decide (p.1 < w) || decide (p.2 < h)) = true := by simpa using q
        rw [List.filter_cons]
        simp only [e, if_true]
        simpa using t2
    · obtain ⟨τ, t1, t2, t3⟩ := ih (k + 1) O σ f (by omega) (by omega) hs' hc hb' (by omega)
      refine ⟨τ, ?_, ?_, t3⟩
      · unfold rf_Cu_dropAround_L13
        simp (disch := omega) only [hm.1, hm.2, z_lt, z_le, z_eq, z_ltl, z_lel, z_llt, z_lle, z_eql, z_add, z_addl, z_ladd, z_mul, z_mull, z_lmul, z_sub, z_subl, z_cl, z_ib, z_nm, z_m1, z_mlt, if_pos, if_neg, ge_iff_le, gt_iff_lt, ite_true, ite_false, if_true, if_false, Option.bind_some, t1]
      · have e : (decide (p.1 < w) || decide (p.2 < h)) = false := by
          have q1 : ¬ p.1 < w := by omega
          have q2 : ¬ p.2 < h := by omega
          simp only [q1, q2, decide_false, Bool.or_false]
        rw [List.filter_cons]
        simp only [e, Bool.false_eq_true, if_false]
        exact t2
theorem z_drop (σ : rl_M) (a w h : Nat) (hw : w < 2147483648) (hh : h < 2147483648) {L : List (Nat × Nat)} (hc : z_Cv σ a L) (hs : z_Sm L) :
    ∃ τ, rf_Cu_dropAround a (nI w) (nI h) σ = some (0, τ) ∧ z_Cv τ a (L.filter (fun q => q.1 < w || q.2 < h)) ∧ z_F a σ τ := by
  have h1 := hs.1
  obtain ⟨τ, t1, t2, t3⟩ := z_da a w h L.length hw hh hs.1 L 0 [] (rl_su σ a 0 (nI 0)) 10000 (by simp) (by omega) hs.2 z_Cv_nil (fun i p hp => by
    have := hc.2 i p hp
    simp (disch := omega) only [z_su_c, z_su_s, z_su_j, Nat.zero_add]
    exact this) (by omega)
  refine ⟨τ, ?_, by simpa using t2, z_F_cl.tr t3⟩
  unfold rf_Cu_dropAround
  rw [hc.1]
  exact t1
def z_ex (σ : rl_M) (a i j : Nat) : rl_M := rl_su (rl_su (rl_su (rl_su σ (a + 1) i (σ (a + 1) j)) (a + 2) i (σ (a + 2) j)) (a + 1) j (σ (a + 1) i)) (a + 2) j (σ (a + 2) i)
theorem z_exch (σ : rl_M) (a i j : Nat) (hi : i < 24) (hj : j < 24) : rf_Cu_exchangeOutlines a (nI i) (nI j) σ = some (0, z_ex σ a i j) := by
  unfold rf_Cu_exchangeOutlines z_ex
  simp (disch := omega) only [z_lt, z_le, z_eq, z_ltl, z_lel, z_llt, z_lle, z_eql, z_add, z_addl, z_ladd, z_mul, z_mull, z_lmul, z_sub, z_subl, z_cl, z_ib, z_nm, z_m1, z_mlt, if_pos, if_neg, ge_iff_le, gt_iff_lt, ite_true, ite_false, if_true, if_false, Option.bind_some, z_su_c, z_su_s, z_su_j]
theorem z_F_ex {σ : rl_M} {a i j : Nat} : z_F a σ (z_ex σ a i j) := fun c h0 h1 h2 => by
  unfold z_ex; rw [z_su_ce h2, z_su_ce h1, z_su_ce h2, z_su_ce h1]
theorem z_Cv_ex {σ : rl_M} {a i j : Nat} {L M : List (Nat × Nat)} (hc : z_Cv σ a L) (hl : M.length = L.length) (hij : i ≠ j) (h1 : M[i]? = L[j]?) (h2 : M[j]? = L[i]?) (h3 : ∀ x, x ≠ i → x ≠ j → M[x]? = L[x]?) : z_Cv (z_ex σ a i j) a M := by
  refine ⟨?_, ?_⟩
  · unfold z_ex
    simp (disch := omega) only [z_su_c, z_su_s, z_su_j]
    rw [hl]; exact hc.1
  · intro x p hp
    unfold z_ex
    by_cases q1 : x = i
    · subst q1
      have := hc.2 j p (h1 ▸ hp)
      simp (disch := omega) only [z_su_c, z_su_s, z_su_j]
      exact this
    · by_cases q2 : x = j
      · subst q2
        have := hc.2 i p (h2 ▸ hp)
        simp (disch := omega) only [z_su_c, z_su_s, z_su_j]
        exact this
      · have := hc.2 x p ((h3 x q1 q2) ▸ hp)
        simp (disch := omega) only [z_su_c, z_su_s, z_su_j]
        exact this
theorem z_bub (a : Nat) (p : Nat × Nat) : ∀ (n : Nat) (A B : List (Nat × Nat)) (σ : rl_M) (f : Nat), A.length = n → z_Cv σ a (A ++ p :: B) → z_Sm (A ++ p :: B) → n < f →
    ∃ τ A1 A2, rf_Cu_offer_L29 a f (nI n) σ = some (0, τ) ∧ A = A1 ++ A2 ∧ z_Cv τ a (A1 ++ p :: (A2 ++ B)) ∧ (∀ q ∈ A2, p.1 < q.1) ∧ (∀ q, A1.getLast? = some q → q.1 ≤ p.1) ∧ z_F a σ τ := by
  intro n
  induction n with
  | zero =>
    intro A B σ f hA hc hs hf
    obtain ⟨f, rfl⟩ : ∃ g, f = g + 1 := ⟨f - 1, by omega⟩
    have hA' : A = [] := List.length_eq_zero_iff.mp hA
    subst hA'
    refine ⟨σ, [], [], ?_, rfl, by simpa using hc, by simp, by simp, z_F.rf⟩
    unfold rf_Cu_offer_L29
    simp (disch := omega) only [z_lt, z_le, z_eq, z_ltl, z_lel, z_llt, z_lle, z_eql, z_add, z_addl, z_ladd, z_mul, z_mull, z_lmul, z_sub, z_subl, z_cl, z_ib, z_nm, z_m1, z_mlt, if_pos, if_neg, ge_iff_le, gt_iff_lt, ite_true, ite_false, if_true, if_false, Option.bind_some]
  | succ n ih =>
    intro A B σ f hA hc hs hf
    obtain ⟨f, rfl⟩ : ∃ g, f = g + 1 := ⟨f - 1, by omega⟩
    obtain ⟨A', q, rfl⟩ : ∃ A' q, A = A' ++ [q] := ⟨A.dropLast, A.getLast (by intro h; subst h; simp at hA), (List.dropLast_concat_getLast _).symm⟩
    simp at hA
    have h1 := hs.1
    simp at h1
    have hq := hs.2 q (by simp)
    have hp := hs.2 p (by simp)
    have m1 := z_Cv_mid (A := A') (B := p :: B) (p := q) (by simpa using hc)
    have m2 := z_Cv_mid hc
    simp only [List.length_append, List.length_singleton] at m2
    rw [hA] at m1 m2
    by_cases c : q.1 ≤ p.1
    · refine ⟨σ, A' ++ [q], [], ?_, by simp, by simpa using hc, by simp, by simpa using c, z_F.rf⟩
      unfold rf_Cu_offer_L29
      simp (disch := omega) only [z_lt, z_le, z_eq, z_ltl, z_lel, z_llt, z_lle, z_eql, z_add, z_addl, z_ladd, z_mul, z_mull, z_lmul, z_sub, z_subl, z_cl, z_ib, z_nm, z_m1, z_mlt, if_pos, if_neg, ge_iff_le, gt_iff_lt, ite_true, ite_false, if_true, if_false, Option.bind_some, Nat.add_sub_cancel, m1.1, m2.1]
    · have hx : z_Cv (z_ex σ a n (n + 1)) a (A' ++ p :: (q :: B)) := by
        refine z_Cv_ex hc (by simp) (by omega) ?_ ?_ ?_
        · subst hA; simp
        · subst hA; simp
        · intro x x1 x2
          subst hA
          by_cases hx : x < A'.length
          · simp [List.getElem?_append_left, hx]
          · obtain ⟨y, rfl⟩ : ∃ y, x = A'.length + 2 + y := ⟨x - (A'.length + 2), by omega⟩
            simp only [List.append_assoc]
            rw [List.getElem?_append_right (by omega), List.getElem?_append_right (by omega)]
            have e : A'.length + 2 + y - A'.length = y + 2 := by omega
            rw [e]; simp
      obtain ⟨τ, A1, A2, t1, t2, t3, t4, t5, t6⟩ := ih A' (q :: B) (z_ex σ a n (n + 1)) f hA hx ⟨by simp; omega, by
        intro r hr; refine hs.2 r ?_; simp at hr ⊢; rcases hr with h | h | h | h <;> simp [h]⟩ (by omega)
      refine ⟨τ, A1, A2 ++ [q], ?_, by rw [t2]; simp, by simpa using t3, ?_, t5, z_F_ex.tr t6⟩
      · unfold rf_Cu_offer_L29
        have he := z_exch σ a n (n + 1) (by omega) (by omega)
        simp (disch := omega) only [z_lt, z_le, z_eq, z_ltl, z_lel, z_llt, z_lle, z_eql, z_add, z_addl, z_ladd, z_mul, z_mull, z_lmul, z_sub, z_subl, z_cl, z_ib, z_nm, z_m1, z_mlt, if_pos, if_neg, ge_iff_le, gt_iff_lt, ite_true, ite_false, if_true, if_false, Option.bind_some, Nat.add_sub_cancel, m1.1, m2.1, he, t1]
      · intro r hr
        simp at hr
        rcases hr with h | h
        · exact t4 r h
        · subst h; omega
