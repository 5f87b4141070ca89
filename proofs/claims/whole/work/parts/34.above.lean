theorem z_pm (k : Nat) : nI (k + 1) + (-1) = nI k := by
  rw [z_m1 (by omega), Nat.add_sub_cancel]
theorem z_sm (x : Int32) : x - 1 = x + (-1) := Int32.sub_eq_add_neg x 1
theorem z_ja (a0 a1 a2 : Nat) (K : rl_M → Option (Int32 × rl_M)) (d1 : a1 + 2 < a0 ∨ a0 + 2 < a1) (d2 : a2 + 2 < a0 ∨ a0 + 2 < a2) : ∀ (f : Nat) (A B A' B' O : List (Nat × Nat)) (σ : rl_M), A.length + B.length < f → z_Cv σ a1 (A.reverse ++ A') → z_Cv σ a2 (B.reverse ++ B') → z_Cv σ a0 O →
    z_Sm (A.reverse ++ A') → z_Sm (B.reverse ++ B') → O.length + A.length + B.length ≤ 24 →
    ∃ τ, rf_Cu_joinAbove_L19 a0 a1 a2 K f (nI A.length + (-1)) (nI B.length + (-1)) σ = K τ ∧ z_Cv τ a0 (O ++ (z_mb f (A.map Prod.swap) (B.map Prod.swap)).map Prod.swap) ∧ z_F a0 σ τ := by
  intro f
  induction f with
  | zero => intro A B A' B' O σ hf; omega
  | succ f ih =>
    intro A B A' B' O σ hf hA hB hO sA sB hl
    cases A with
    | nil =>
      refine ⟨σ, ?_, by simpa [z_mb] using hO, z_F.rf⟩
      unfold rf_Cu_joinAbove_L19
      simp only [List.length_nil, z_0m1, z_mlt, if_true]
    | cons a A =>
      have l1 := sA.1
      simp only [List.length_append, List.length_reverse, List.length_cons] at l1
      simp only [List.length_cons] at hl hf
      cases B with
      | nil =>
        refine ⟨σ, ?_, by simpa [z_mb] using hO, z_F.rf⟩
        unfold rf_Cu_joinAbove_L19
        simp (disch := omega) only [List.length_nil, List.length_cons, z_0m1, z_pm, z_lt, z_le, z_eq, z_ltl, z_lel, z_llt, z_lle, z_eql, z_add, z_addl, z_ladd, z_mul, z_mull, z_lmul, z_sub, z_subl, z_cl, z_ib, z_nm, z_mlt, if_pos, if_neg, ge_iff_le, gt_iff_lt, ite_true, ite_false, if_true, if_false, Option.bind_some]
      | cons b B =>
        have l2 := sB.1
        simp only [List.length_append, List.length_reverse, List.length_cons] at l2
        simp only [List.length_cons] at hl hf
        have ba := sA.2 a (by simp)
        have bb := sB.2 b (by simp)
        have m1 := z_Cv_mid (A := A.reverse) (p := a) (B := A') (by simpa using hA)
        have m2 := z_Cv_mid (A := B.reverse) (p := b) (B := B') (by simpa using hB)
        rw [List.length_reverse] at m1 m2
        have hap := z_app σ a0 O.length (max a.1 b.1) (a.2 + b.2) hO.1 (by omega)
        have hO' := z_Cv_ap (w := max a.1 b.1) (h := a.2 + b.2) hO
        have hA2 := (z_F_ap (σ := σ) (a := a0) (n := O.length) (w := max a.1 b.1) (h := a.2 + b.2)).cv hA d1
        have hB2 := (z_F_ap (σ := σ) (a := a0) (n := O.length) (w := max a.1 b.1) (h := a.2 + b.2)).cv hB d2
        simp only [List.map_cons]
        rw [z_mb]
        simp only [Prod.fst_swap, Prod.snd_swap]
        by_cases q1 : b.1 < a.1
        · have e : max a.1 b.1 = a.1 := by omega
          obtain ⟨τ, t1, t2, t3⟩ := ih A (b :: B) (a :: A') B' (O ++ [(max a.1 b.1, a.2 + b.2)]) _ (by simp only [List.length_cons]; omega) (by simpa using hA2) hB2 hO' (by simpa using sA) sB (by simp; omega)
          refine ⟨τ, ?_, ?_, z_F_ap.tr t3⟩
          · simp only [List.length_cons, z_pm] at t1
            unfold rf_Cu_joinAbove_L19
            rw [e] at hap t1
            simp (disch := omega) only [List.length_cons, z_pm, m1.1, m1.2, m2.1, m2.2, z_lt, z_le, z_eq, z_ltl, z_lel, z_llt, z_lle, z_eql, z_add, z_addl, z_ladd, z_mul, z_mull, z_lmul, z_sub, z_subl, z_cl, z_ib, z_nm, z_mlt, if_pos, if_neg, ge_iff_le, gt_iff_lt, ite_true, ite_false, if_true, if_false, Option.bind_some, hap, t1]
          · rw [if_pos q1]; simpa using t2
        · by_cases q2 : a.1 < b.1
          · have e : max a.1 b.1 = b.1 := by omega
            obtain ⟨τ, t1, t2, t3⟩ := ih (a :: A) B A' (b :: B') (O ++ [(max a.1 b.1, a.2 + b.2)]) _ (by simp only [List.length_cons]; omega) hA2 (by simpa using hB2) hO' sA (by simpa using sB) (by simp; omega)
            refine ⟨τ, ?_, ?_, z_F_ap.tr t3⟩
            · simp only [List.length_cons, z_pm] at t1
              unfold rf_Cu_joinAbove_L19
              rw [e] at hap t1
              simp (disch := omega) only [List.length_cons, z_pm, m1.1, m1.2, m2.1, m2.2, z_lt, z_le, z_eq, z_ltl, z_lel, z_llt, z_lle, z_eql, z_add, z_addl, z_ladd, z_mul, z_mull, z_lmul, z_sub, z_subl, z_cl, z_ib, z_nm, z_mlt, if_pos, if_neg, ge_iff_le, gt_iff_lt, ite_true, ite_false, if_true, if_false, Option.bind_some, hap, t1]
            · rw [if_neg q1, if_pos q2]; simpa using t2
          · have e : max a.1 b.1 = a.1 := by omega
            obtain ⟨τ, t1, t2, t3⟩ := ih A B (a :: A') (b :: B') (O ++ [(max a.1 b.1, a.2 + b.2)]) _ (by omega) (by simpa using hA2) (by simpa using hB2) hO' (by simpa using sA) (by simpa using sB) (by simp; omega)
            refine ⟨τ, ?_, ?_, z_F_ap.tr t3⟩
            · unfold rf_Cu_joinAbove_L19
              rw [e] at hap t1
              simp (disch := omega) only [List.length_cons, z_pm, m1.1, m1.2, m2.1, m2.2, z_lt, z_le, z_eq, z_ltl, z_lel, z_llt, z_lle, z_eql, z_add, z_addl, z_ladd, z_mul, z_mull, z_lmul, z_sub, z_subl, z_cl, z_ib, z_nm, z_mlt, if_pos, if_neg, ge_iff_le, gt_iff_lt, ite_true, ite_false, if_true, if_false, Option.bind_some, hap, t1]
            · rw [if_neg q1, if_neg q2]; simpa using t2
def z_Cf (σ : rl_M) (a n : Nat) (f : Nat → Nat × Nat) : Prop := σ a 0 = nI n ∧ ∀ i, i < n → σ (a + 1) i = nI (f i).1 ∧ σ (a + 2) i = nI (f i).2
theorem z_d2 : ∀ n : Fin 25, nI n.val / 2 = nI (n.val / 2) := by decide +kernel
theorem z_d2' {n : Nat} (h : n ≤ 24) : nI n / 2 = nI (n / 2) := z_d2 ⟨n, by omega⟩
theorem z_rv (a n : Nat) (hn : n ≤ 24) (f : Nat → Nat × Nat) : ∀ (d k : Nat) (σ : rl_M) (F : Nat), d + k = n / 2 → d < F → z_Cf σ a n (fun i => if i < k ∨ n ≤ i + k then f (n - 1 - i) else f i) →
    ∃ τ, rf_Cu_joinAbove_L96 a F (nI k) σ = some (0, τ) ∧ z_Cf τ a n (fun i => f (n - 1 - i)) ∧ z_F a σ τ := by
  intro d
  induction d with
  | zero =>
    intro k σ F hk hF hc
    obtain ⟨F, rfl⟩ : ∃ g, F = g + 1 := ⟨F - 1, by omega⟩
    refine ⟨σ, ?_, ⟨hc.1, ?_⟩, z_F.rf⟩
    · unfold rf_Cu_joinAbove_L96
      rw [hc.1, z_d2' hn]
      simp (disch := omega) only [z_lt, z_le, z_eq, z_ltl, z_lel, z_llt, z_lle, z_eql, z_add, z_addl, z_ladd, z_mul, z_mull, z_lmul, z_sub, z_subl, z_cl, z_ib, z_nm, z_mlt, if_pos, if_neg, ge_iff_le, gt_iff_lt, ite_true, ite_false, if_true, if_false, Option.bind_some]
    · intro i hi
      have q := hc.2 i hi
      by_cases c : i < k ∨ n ≤ i + k
      · simpa only [if_pos c] using q
      · simp only [if_neg c] at q
        have e : n - 1 - i = i := by omega
        simp only [e]; exact q
  | succ d ih =>
    intro k σ F hk hF hc
    obtain ⟨F, rfl⟩ : ∃ g, F = g + 1 := ⟨F - 1, by omega⟩
    have hx := z_exch σ a k (n - 1 - k) (by omega) (by omega)
    have hc' : z_Cf (z_ex σ a k (n - 1 - k)) a n (fun i => if i < k + 1 ∨ n ≤ i + (k + 1) then f (n - 1 - i) else f i) := by
      refine ⟨?_, ?_⟩
      · unfold z_ex
        simp (disch := omega) only [z_su_c, z_su_s, z_su_j]
        exact hc.1
      · intro i hi
        unfold z_ex
        by_cases q1 : i = k
        · subst q1
          have q := hc.2 (n - 1 - i) (by omega)
          have c1 : ¬ (n - 1 - i < i ∨ n ≤ n - 1 - i + i) := by omega
          have c2 : i < i + 1 ∨ n ≤ i + (i + 1) := by omega
          simp only [if_neg c1] at q
          simp only [if_pos c2]
          simp (disch := omega) only [z_su_c, z_su_s, z_su_j]
          exact q
        · by_cases q2 : i = n - 1 - k
          · subst q2
            have q := hc.2 k (by omega)
            have c1 : ¬ (k < k ∨ n ≤ k + k) := by omega
            have c2 : n - 1 - k < k + 1 ∨ n ≤ n - 1 - k + (k + 1) := by omega
            have e : n - 1 - (n - 1 - k) = k := by omega
            simp only [if_neg c1] at q
            simp only [if_pos c2, e]
            simp (disch := omega) only [z_su_c, z_su_s, z_su_j]
            exact q
          · have q := hc.2 i hi
            simp (disch := omega) only [z_su_c, z_su_s, z_su_j]
            by_cases c1 : i < k ∨ n ≤ i + k
            · have c2 : i < k + 1 ∨ n ≤ i + (k + 1) := by omega
              simp only [if_pos c1] at q
              simp only [if_pos c2]
              exact q
            · have c2 : ¬ (i < k + 1 ∨ n ≤ i + (k + 1)) := by omega
              simp only [if_neg c1] at q
              simp only [if_neg c2]
              exact q
    obtain ⟨τ, t1, t2, t3⟩ := ih (k + 1) _ F (by omega) (by omega) hc'
    refine ⟨τ, ?_, t2, z_F_ex.tr t3⟩
    unfold rf_Cu_joinAbove_L96
    rw [hc.1, z_d2' hn]
    simp (disch := omega) only [z_lt, z_le, z_eq, z_ltl, z_lel, z_llt, z_lle, z_eql, z_add, z_addl, z_ladd, z_mul, z_mull, z_lmul, z_sub, z_subl, z_cl, z_ib, z_nm, z_mlt, if_pos, if_neg, ge_iff_le, gt_iff_lt, ite_true, ite_false, if_true, if_false, Option.bind_some, hx, t1]
theorem z_rev (σ : rl_M) (a F : Nat) (hF : 100 ≤ F) {L : List (Nat × Nat)} (hc : z_Cv σ a L) (hl : L.length ≤ 24) : ∃ τ, rf_Cu_joinAbove_L96 a F 0 σ = some (0, τ) ∧ z_Cv τ a L.reverse ∧ z_F a σ τ := by
  obtain ⟨τ, t1, t2, t3⟩ := z_rv a L.length hl (fun i => (L[i]?).getD (0, 0)) (L.length / 2) 0 σ F (by omega) (by omega) ⟨hc.1, by
    intro i hi
    have c : ¬ (i < 0 ∨ L.length ≤ i + 0) := by omega
    simp only [if_neg c]
    have q := hc.2 i L[i] (List.getElem?_eq_getElem hi)
    rw [List.getElem?_eq_getElem hi]
    exact q⟩
  refine ⟨τ, t1, ⟨by rw [List.length_reverse]; exact t2.1, ?_⟩, t3⟩
  intro i p hp
  have hi : i < L.length := by
    have := (List.getElem?_eq_some_iff.mp hp).1
    rwa [List.length_reverse] at this
  rw [List.getElem?_reverse hi] at hp
  have q := t2.2 i hi
  simp only [hp] at q
  exact q
theorem z_Rep_sw {L : List (Nat × Nat)} {P : Nat × Nat → Prop} (h : z_Rep L P) : z_Rep (L.map Prod.swap).reverse (fun p => P p.swap) := by
  refine ⟨?_, ?_, ?_⟩
  · intro p hp
    rw [List.mem_reverse, List.mem_map] at hp
    obtain ⟨q, hq, e⟩ := hp
    subst e
    simpa using h.1 q hq
  · intro p hp
    obtain ⟨q, hq, e⟩ := h.2.1 _ hp
    refine ⟨q.swap, ?_, e.2, e.1⟩
    rw [List.mem_reverse, List.mem_map]
    exact ⟨q, hq, rfl⟩
  · rw [List.pairwise_reverse, List.pairwise_map]
    refine h.2.2.imp ?_
    intro p q e
    exact ⟨e.2, e.1⟩
theorem z_aboveF (F : Nat) (hF : 100 ≤ F) (σ : rl_M) (a0 a1 a2 : Nat) (d1 : a1 + 2 < a0 ∨ a0 + 2 < a1) (d2 : a2 + 2 < a0 ∨ a0 + 2 < a2) {A B : List (Nat × Nat)} {P Q : Nat × Nat → Prop} (hA0 : z_Cv σ a1 A) (hB0 : z_Cv σ a2 B) (hO : z_Cv σ a0 []) (sA : z_Sm A) (sB : z_Sm B) (l : A.length + B.length ≤ 24) (rA : z_Rep A P) (rB : z_Rep B Q) :
    ∃ τ M, rf_Cu_joinAbove_L19 a0 a1 a2 (fun q => rf_Cu_joinAbove_L96 a0 F 0 q) F (nI A.length + (-1)) (nI B.length + (-1)) σ = some (0, τ) ∧ z_Cv τ a0 M ∧ M.length ≤ A.length + B.length ∧ z_Rep M (fun p => ∃ a b, P a ∧ Q b ∧ p = (max a.1 b.1, a.2 + b.2)) ∧ z_F a0 σ τ := by
  obtain ⟨τ, t1, t2, t3⟩ := z_ja a0 a1 a2 (fun q => rf_Cu_joinAbove_L96 a0 F 0 q) d1 d2 F A.reverse B.reverse [] [] [] σ (by simp only [List.length_reverse]; omega) (by simpa using hA0) (by simpa using hB0) hO (by simpa using sA) (by simpa using sB) (by simp only [List.length_nil, List.length_reverse]; omega)
  rw [List.nil_append, List.map_reverse, List.map_reverse] at t2
  have rM := z_mb_rep (f := F) (by simp only [List.length_reverse, List.length_map]; omega) (z_Rep_sw rA) (z_Rep_sw rB)
  have lM := (z_mb_J F _ _ (by simp only [List.length_reverse, List.length_map]; omega) (z_Rep_sw rA).2.2 (z_Rep_sw rB).2.2).2.2.2
  generalize z_mb F (A.map Prod.swap).reverse (B.map Prod.swap).reverse = M at t2 rM lM
  simp only [List.length_reverse, List.length_map] at lM
  obtain ⟨υ, u1, u2, u3⟩ := z_rev τ a0 F hF t2 (by rw [List.length_map]; omega)
  refine ⟨υ, (M.map Prod.swap).reverse, ?_, u2, by simpa using lM, z_Rep_x (z_Rep_sw rM) ?_, t3.tr u3⟩
  · simp only [List.length_reverse] at t1
    rw [t1]
    exact u1
  · intro p
    constructor
    · rintro ⟨a, b, ha, hb, e⟩
      refine ⟨a.swap, b.swap, ha, hb, ?_⟩
      have := congrArg Prod.swap e
      simpa using this
    · rintro ⟨a, b, ha, hb, e⟩
      refine ⟨a.swap, b.swap, by simpa using ha, by simpa using hb, ?_⟩
      subst e
      rfl
theorem z_above (σ : rl_M) (a0 a1 a2 : Nat) (d1 : a1 + 2 < a0 ∨ a0 + 2 < a1) (d2 : a2 + 2 < a0 ∨ a0 + 2 < a2) {A B : List (Nat × Nat)} {P Q : Nat × Nat → Prop} (hA : z_Cv σ a1 A) (hB : z_Cv σ a2 B) (sA : z_Sm A) (sB : z_Sm B) (l : A.length + B.length ≤ 24) (rA : z_Rep A P) (rB : z_Rep B Q) :
    ∃ τ M, rf_Cu_joinAbove a0 a1 a2 σ = some (0, τ) ∧ z_Cv τ a0 M ∧ M.length ≤ A.length + B.length ∧ z_Rep M (fun p => ∃ a b, P a ∧ Q b ∧ p = (max a.1 b.1, a.2 + b.2)) ∧ z_F a0 σ τ := by
  have F0 : z_F a0 σ (rl_su σ a0 0 (nI 0)) := z_F_cl
  have hA0 := F0.cv hA d1
  have hB0 := F0.cv hB d2
  obtain ⟨τ, M, t1, t2, t3, t4, t5⟩ := z_aboveF 10000 (by omega) (rl_su σ a0 0 (nI 0)) a0 a1 a2 d1 d2 hA0 hB0 z_Cv_nil sA sB l rA rB
  refine ⟨τ, M, ?_, t2, t3, t4, F0.tr t5⟩
  unfold rf_Cu_joinAbove
  rw [z_cl0, Option.bind_some]
  simp only [z_sm, hA0.1, hB0.1]
  exact t1
theorem z_tf (a0 a1 w h : Nat) (d1 : a1 + 2 < a0 ∨ a0 + 2 < a1) (hw : w < 2147483648) (hh : h < 2147483648) : ∀ (B A O : List (Nat × Nat)) (σ : rl_M) (f : Nat), z_Cv σ a1 (A ++ B) → z_Sm (A ++ B) → z_Cv σ a0 O → O.length ≤ A.length → B.length < f →
    ∃ τ, rf_Cu_takeFitting_L7 a0 a1 (nI w) (nI h) f (nI A.length) σ = some (0, τ) ∧ z_Cv τ a0 (O ++ B.filter (fun p => decide (p.1 ≤ w ∧ p.2 ≤ h))) ∧ z_F a0 σ τ := by
  intro B
  induction B with
  | nil =>
    intro A O σ f hc hs hO hl hf
    obtain ⟨f, rfl⟩ : ∃ g, f = g + 1 := ⟨f - 1, by simp at hf; omega⟩
    refine ⟨σ, ?_, by simpa using hO, z_F.rf⟩
    have h1 := hs.1
    have c1 := hc.1
    simp only [List.append_nil] at h1 c1
    unfold rf_Cu_takeFitting_L7
    simp (disch := omega) only [c1, z_lt, z_le, z_eq, z_ltl, z_lel, z_llt, z_lle, z_eql, z_add, z_addl, z_ladd, z_mul, z_mull, z_lmul, z_sub, z_subl, z_cl, z_ib, z_nm, z_m1, z_mlt, if_pos, if_neg, ge_iff_le, gt_iff_lt, ite_true, ite_false, if_true, if_false, Option.bind_some]
  | cons p B ih =>
    intro A O σ f hc hs hO hl hf
    obtain ⟨f, rfl⟩ : ∃ g, f = g + 1 := ⟨f - 1, by simp at hf; omega⟩
    have h1 := hs.1
    have c1 := hc.1
    have h2 := hs.2 p (by simp)
    have m1 := z_Cv_mid hc
    simp only [List.length_append, List.length_cons] at h1 c1 hf
    rw [List.filter_cons]
    by_cases q : p.1 ≤ w ∧ p.2 ≤ h
    · have hap := z_app σ a0 O.length p.1 p.2 hO.1 (by omega)
      have hO' := z_Cv_ap (w := p.1) (h := p.2) hO
      have hc2 := (z_F_ap (σ := σ) (a := a0) (n := O.length) (w := p.1) (h := p.2)).cv hc d1
      obtain ⟨τ, t1, t2, t3⟩ := ih (A ++ [p]) (O ++ [(p.1, p.2)]) _ f (by simpa using hc2) (by simpa using hs) hO' (by simp; omega) (by omega)
      refine ⟨τ, ?_, ?_, z_F_ap.tr t3⟩
      · simp only [List.length_append, List.length_singleton] at t1
        unfold rf_Cu_takeFitting_L7
        simp (disch := omega) only [c1, m1.1, m1.2, z_lt, z_le, z_eq, z_ltl, z_lel, z_llt, z_lle, z_eql, z_add, z_addl, z_ladd, z_mul, z_mull, z_lmul, z_sub, z_subl, z_cl, z_ib, z_nm, z_m1, z_mlt, if_pos, if_neg, ge_iff_le, gt_iff_lt, ite_true, ite_false, if_true, if_false, Option.bind_some, hap, t1]
      · rw [decide_eq_true q, if_pos rfl]; simpa using t2
    · obtain ⟨τ, t1, t2, t3⟩ := ih (A ++ [p]) O σ f (by simpa using hc) (by simpa using hs) hO (by simp; omega) (by omega)
      refine ⟨τ, ?_, ?_, t3⟩
      · simp only [List.length_append, List.length_singleton] at t1
        unfold rf_Cu_takeFitting_L7
        by_cases q1 : w < p.1
        · simp (disch := omega) only [c1, m1.1, m1.2, z_lt, z_le, z_eq, z_ltl, z_lel, z_llt, z_lle, z_eql, z_add, z_addl, z_ladd, z_mul, z_mull, z_lmul, z_sub, z_subl, z_cl, z_ib, z_nm, z_m1, z_mlt, if_pos, if_neg, ge_iff_le, gt_iff_lt, ite_true, ite_false, if_true, if_false, Option.bind_some, t1]
        · simp (disch := omega) only [c1, m1.1, m1.2, z_lt, z_le, z_eq, z_ltl, z_lel, z_llt, z_lle, z_eql, z_add, z_addl, z_ladd, z_mul, z_mull, z_lmul, z_sub, z_subl, z_cl, z_ib, z_nm, z_m1, z_mlt, if_pos, if_neg, ge_iff_le, gt_iff_lt, ite_true, ite_false, if_true, if_false, Option.bind_some, t1]
      · rw [decide_eq_false q, if_neg (by decide)]; exact t2
def z_bst (A : List (Nat × Nat)) (x y : Int32) : Prop := (A = [] ∧ x = -1 ∧ y = nI 160001) ∨ ∃ A1 p A2, A = A1 ++ p :: A2 ∧ x = nI A1.length ∧ y = nI (p.1 * p.2) ∧ (∀ q ∈ A1, p.1 * p.2 < q.1 * q.2) ∧ (∀ q ∈ A2, p.1 * p.2 ≤ q.1 * q.2)
theorem z_la (a : Nat) (σ : rl_M) : ∀ (B A : List (Nat × Nat)) (x y : Int32) (f : Nat), z_Cv σ a (A ++ B) → (A ++ B).length ≤ 24 → (∀ p ∈ A ++ B, p.1 ≤ 400 ∧ p.2 ≤ 400) → B.length < f → z_bst A x y →
    ∃ x' y', rf_Cu_leastArea_L7 a f x y (nI A.length) σ = some (x', σ) ∧ z_bst (A ++ B) x' y' := by
  intro B
  induction B with
  | nil =>
    intro A x y f hc hs hb hf hbst
    obtain ⟨f, rfl⟩ : ∃ g, f = g + 1 := ⟨f - 1, by simp at hf; omega⟩
    have c1 := hc.1
    simp only [List.append_nil] at c1 hs
    refine ⟨x, y, ?_, by simpa using hbst⟩
    unfold rf_Cu_leastArea_L7
    simp (disch := omega) only [c1, z_lt, z_le, z_eq, z_ltl, z_lel, z_llt, z_lle, z_eql, z_add, z_addl, z_ladd, z_mul, z_mull, z_lmul, z_sub, z_subl, z_cl, z_ib, z_nm, z_m1, z_mlt, if_pos, if_neg, ge_iff_le, gt_iff_lt, ite_true, ite_false, if_true, if_false, Option.bind_some]
  | cons p B ih =>
    intro A x y f hc hs hb hf hbst
    obtain ⟨f, rfl⟩ : ∃ g, f = g + 1 := ⟨f - 1, by simp at hf; omega⟩
    have c1 := hc.1
    have m1 := z_Cv_mid hc
    have bp := hb p (by simp)
    have ap : p.1 * p.2 ≤ 160000 := Nat.mul_le_mul bp.1 bp.2
    simp only [List.length_append, List.length_cons] at hs c1 hf
    have nxt : ∀ x2 y2, z_bst (A ++ [p]) x2 y2 → rf_Cu_leastArea_L7 a (f + 1) x y (nI A.length) σ = rf_Cu_leastArea_L7 a f x2 y2 (nI (A.length + 1)) σ → ∃ x' y', rf_Cu_leastArea_L7 a (f + 1) x y (nI A.length) σ = some (x', σ) ∧ z_bst (A ++ p :: B) x' y' := by
      intro x2 y2 hb2 he
      obtain ⟨x', y', t1, t2⟩ := ih (A ++ [p]) x2 y2 f (by simpa using hc) (by simp; omega) (by simpa using hb) (by omega) hb2
      refine ⟨x', y', ?_, by simpa using t2⟩
      rw [he]
      simpa using t1
    rcases hbst with ⟨e1, e2, e3⟩ | ⟨A1, r, A2, e1, e2, e3, e4, e5⟩
    · refine nxt (nI A.length) (nI (p.1 * p.2)) (Or.inr ⟨[], p, [], by simp [e1], by simp [e1], rfl, by simp, by simp⟩) ?_
      conv => lhs; unfold rf_Cu_leastArea_L7
      subst e2 e3
      simp (disch := omega) only [c1, m1.1, m1.2, z_lt, z_le, z_eq, z_ltl, z_lel, z_llt, z_lle, z_eql, z_add, z_addl, z_ladd, z_mul, z_mull, z_lmul, z_sub, z_subl, z_cl, z_ib, z_nm, z_m1, z_mlt, if_pos, if_neg, ge_iff_le, gt_iff_lt, ite_true, ite_false, if_true, if_false, Option.bind_some]
    · have br := hb r (by simp [e1])
      have ar : r.1 * r.2 ≤ 160000 := Nat.mul_le_mul br.1 br.2
      by_cases q : r.1 * r.2 ≤ p.1 * p.2
      · refine nxt x y (Or.inr ⟨A1, r, A2 ++ [p], by simp [e1], e2, e3, e4, ?_⟩) ?_
        · intro s hs
          rcases List.mem_append.mp hs with h | h
          · exact e5 s h
          · rw [List.mem_singleton] at h; subst h; exact q
        · conv => lhs; unfold rf_Cu_leastArea_L7
          subst e3
          simp (disch := omega) only [c1, m1.1, m1.2, z_lt, z_le, z_eq, z_ltl, z_lel, z_llt, z_lle, z_eql, z_add, z_addl, z_ladd, z_mul, z_mull, z_lmul, z_sub, z_subl, z_cl, z_ib, z_nm, z_m1, z_mlt, if_pos, if_neg, ge_iff_le, gt_iff_lt, ite_true, ite_false, if_true, if_false, Option.bind_some]
      · refine nxt (nI A.length) (nI (p.1 * p.2)) (Or.inr ⟨A, p, [], rfl, rfl, rfl, ?_, by simp⟩) ?_
        · intro s hs
          rw [e1] at hs
          rcases List.mem_append.mp hs with h | h
          · have := e4 s h; omega
          · rcases List.mem_cons.mp h with h | h
            · subst h; omega
            · have := e5 s h; omega
        · conv => lhs; unfold rf_Cu_leastArea_L7
          subst e3
          simp (disch := omega) only [c1, m1.1, m1.2, z_lt, z_le, z_eq, z_ltl, z_lel, z_llt, z_lle, z_eql, z_add, z_addl, z_ladd, z_mul, z_mull, z_lmul, z_sub, z_subl, z_cl, z_ib, z_nm, z_m1, z_mlt, if_pos, if_neg, ge_iff_le, gt_iff_lt, ite_true, ite_false, if_true, if_false, Option.bind_some]
