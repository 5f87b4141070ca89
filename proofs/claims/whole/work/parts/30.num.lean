theorem z_lt {a b : Nat} (ha : a < 2147483648) (hb : b < 2147483648) : (nI a < nI b) ↔ a < b := by
  rw [Int32.lt_iff_toInt_lt, nI_toInt (by omega), nI_toInt (by omega)]; omega
theorem z_le {a b : Nat} (ha : a < 2147483648) (hb : b < 2147483648) : (nI a ≤ nI b) ↔ a ≤ b := by
  rw [Int32.le_iff_toInt_le, nI_toInt (by omega), nI_toInt (by omega)]; omega
theorem z_eq {a b : Nat} (ha : a < 2147483648) (hb : b < 2147483648) : (nI a = nI b) ↔ a = b := by
  rw [← Int32.toInt_inj, nI_toInt (by omega), nI_toInt (by omega)]; omega
theorem z_ltl {a k : Nat} (ha : a < 2147483648) (hk : (OfNat.ofNat k : Nat) < 2147483648) : (nI a < (no_index (OfNat.ofNat k) : Int32)) ↔ a < (OfNat.ofNat k : Nat) := z_lt ha hk
theorem z_lel {a k : Nat} (ha : a < 2147483648) (hk : (OfNat.ofNat k : Nat) < 2147483648) : (nI a ≤ (no_index (OfNat.ofNat k) : Int32)) ↔ a ≤ (OfNat.ofNat k : Nat) := z_le ha hk
theorem z_llt {a k : Nat} (ha : a < 2147483648) (hk : (OfNat.ofNat k : Nat) < 2147483648) : ((no_index (OfNat.ofNat k) : Int32) < nI a) ↔ (OfNat.ofNat k : Nat) < a := z_lt hk ha
theorem z_lle {a k : Nat} (ha : a < 2147483648) (hk : (OfNat.ofNat k : Nat) < 2147483648) : ((no_index (OfNat.ofNat k) : Int32) ≤ nI a) ↔ (OfNat.ofNat k : Nat) ≤ a := z_le hk ha
theorem z_eql {a k : Nat} (ha : a < 2147483648) (hk : (OfNat.ofNat k : Nat) < 2147483648) : (nI a = (no_index (OfNat.ofNat k) : Int32)) ↔ a = (OfNat.ofNat k : Nat) := z_eq ha hk
theorem z_add (a b : Nat) : nI a + nI b = nI (a + b) := (Int32.ofNat_add a b).symm
theorem z_addl (a k : Nat) : nI a + (no_index (OfNat.ofNat k) : Int32) = nI (a + (OfNat.ofNat k : Nat)) := (Int32.ofNat_add a k).symm
theorem z_ladd (a k : Nat) : (no_index (OfNat.ofNat k) : Int32) + nI a = nI ((OfNat.ofNat k : Nat) + a) := (Int32.ofNat_add k a).symm
theorem z_mul (a b : Nat) : nI a * nI b = nI (a * b) := (Int32.ofNat_mul a b).symm
theorem z_mull (a k : Nat) : nI a * (no_index (OfNat.ofNat k) : Int32) = nI (a * (OfNat.ofNat k : Nat)) := (Int32.ofNat_mul a k).symm
theorem z_lmul (a k : Nat) : (no_index (OfNat.ofNat k) : Int32) * nI a = nI ((OfNat.ofNat k : Nat) * a) := (Int32.ofNat_mul k a).symm
theorem z_sub {a b : Nat} (h : b ≤ a) : nI a - nI b = nI (a - b) := (Int32.ofNat_sub a b h).symm
theorem z_subl {a k : Nat} (h : (OfNat.ofNat k : Nat) ≤ a) : nI a - (no_index (OfNat.ofNat k) : Int32) = nI (a - (OfNat.ofNat k : Nat)) := (Int32.ofNat_sub a k h).symm
theorem z_cl {a : Nat} (h : a < 2147483648) : (nI a).toNatClampNeg = a := nI_clamp (by omega)
theorem z_ib {a n : Nat} (h : a < 2147483648) : (rl_ib (nI a) n = true) ↔ a < n := by
  unfold rl_ib; rw [nI_toInt (by omega)]
  by_cases q : a < n
  · simp [q]
  · simp [q]
theorem z_nm {a : Nat} (h : a < 2147483648) : (nI a = (-1 : Int32)) ↔ False := by
  rw [← Int32.toInt_inj, nI_toInt (by omega)]
  have : (-1 : Int32).toInt = -1 := by decide
  rw [this]; constructor
  · intro q; omega
  · intro q; exact q.elim
theorem z_m1 {a : Nat} (h : 1 ≤ a) : nI a + (-1) = nI (a - 1) := by
  rw [← z_subl h, Int32.sub_eq_add_neg]
theorem z_m8 {a : Nat} (h : 8 ≤ a) : nI a + (-8) = nI (a - 8) := by
  rw [← z_subl h, Int32.sub_eq_add_neg]
theorem z_m2 {a : Nat} (h : 2 ≤ a) : nI a + (-2) = nI (a - 2) := by
  rw [← z_subl h, Int32.sub_eq_add_neg]
theorem z_0m1 : nI 0 + (-1) = (-1 : Int32) := by decide
theorem z_0s1 : nI 0 - 1 = (-1 : Int32) := by decide
theorem z_mlt : ((-1 : Int32) < 0) = True := by decide
theorem z_su_c {σ : rl_M} {a j : Nat} {v : Int32} {c i : Nat} (h : c ≠ a) : rl_su σ a j v c i = σ c i := by rw [rl_su_n h]
theorem z_su_s {σ : rl_M} {a j : Nat} {v : Int32} : rl_su σ a j v a j = v := by rw [rl_su_s]; exact if_pos rfl
theorem z_su_j {σ : rl_M} {a j : Nat} {v : Int32} {i : Nat} (h : i ≠ j) : rl_su σ a j v a i = σ a i := by rw [rl_su_s]; exact if_neg h
theorem z_su_e {σ : rl_M} {a j : Nat} {v : Int32} {c i : Nat} : rl_su σ a j v c i = if c = a ∧ i = j then v else σ c i := by
  by_cases h : c = a
  · subst h; by_cases h2 : i = j
    · subst h2; simp [z_su_s]
    · rw [z_su_j h2]; simp [h2]
  · rw [z_su_c h]; simp [h]
theorem z_su_ce {σ : rl_M} {a j : Nat} {v : Int32} {c : Nat} (h : c ≠ a) : rl_su σ a j v c = σ c := rl_su_n h
theorem z_t1 (σ : rl_M) (n : Nat) (h : σ 4 0 = nI n) (hn : n < 6) : rf_Rl_addRoom σ = some (nI n, rl_su σ 4 0 (nI (n + 1))) := by
  unfold rf_Rl_addRoom
  simp (disch := omega) only [h, z_lt, z_le, z_eq, z_ltl, z_lel, z_llt, z_lle, z_eql, z_add, z_addl, z_ladd, z_mul, z_mull, z_lmul, z_sub, z_subl, z_cl, z_ib, z_nm, z_m1, z_mlt, if_pos, if_neg, ge_iff_le, gt_iff_lt, ite_true, ite_false, if_true, if_false, Option.bind_some]
theorem z_cl0 (σ : rl_M) (a : Nat) : rf_Cu_clear a σ = some (0, rl_su σ a 0 (nI 0)) := rfl
/-- append: the cells behind it -/
def z_ap (σ : rl_M) (a n w h : Nat) : rl_M := rl_su (rl_su (rl_su σ (a + 1) n (nI w)) (a + 2) n (nI h)) a 0 (nI (n + 1))
theorem z_app (σ : rl_M) (a n w h : Nat) (hc : σ a 0 = nI n) (hn : n < 24) : rf_Cu_append a (nI w) (nI h) σ = some (0, z_ap σ a n w h) := by
  unfold rf_Cu_append z_ap
  simp (disch := omega) only [hc, z_lt, z_le, z_eq, z_ltl, z_lel, z_llt, z_lle, z_eql, z_add, z_addl, z_ladd, z_mul, z_mull, z_lmul, z_sub, z_subl, z_cl, z_ib, z_nm, z_m1, z_mlt, if_pos, if_neg, ge_iff_le, gt_iff_lt, ite_true, ite_false, if_true, if_false, Option.bind_some, z_su_c, z_su_s, z_su_j]
def z_Cv (σ : rl_M) (a : Nat) (L : List (Nat × Nat)) : Prop := σ a 0 = nI L.length ∧ ∀ (i : Nat) (p : Nat × Nat), L[i]? = some p → σ (a + 1) i = nI p.1 ∧ σ (a + 2) i = nI p.2
def z_Sm (L : List (Nat × Nat)) : Prop := L.length ≤ 24 ∧ ∀ p ∈ L, p.1 ≤ 1000 ∧ p.2 ≤ 1000
theorem z_Cv_c {σ τ : rl_M} {a : Nat} {L : List (Nat × Nat)} (h : z_Cv σ a L) (h0 : τ a = σ a) (h1 : τ (a + 1) = σ (a + 1)) (h2 : τ (a + 2) = σ (a + 2)) : z_Cv τ a L := by
  unfold z_Cv at *; rw [h0, h1, h2]; exact h
theorem z_Cv_mid {σ : rl_M} {a : Nat} {A B : List (Nat × Nat)} {p : Nat × Nat} (h : z_Cv σ a (A ++ p :: B)) : σ (a + 1) A.length = nI p.1 ∧ σ (a + 2) A.length = nI p.2 := h.2 A.length p (by simp)
theorem z_Cv_nil {σ : rl_M} {a : Nat} : z_Cv (rl_su σ a 0 (nI 0)) a [] := ⟨by rw [z_su_s]; rfl, fun i p h => by simp at h⟩
theorem z_Cv_ap {σ : rl_M} {a w h : Nat} {L : List (Nat × Nat)} (hc : z_Cv σ a L) : z_Cv (z_ap σ a L.length w h) a (L ++ [(w, h)]) := by
  refine ⟨by unfold z_ap; rw [z_su_s]; simp, ?_⟩
  intro i p hp
  unfold z_ap
  by_cases hi : i < L.length
  · rw [List.getElem?_append_left hi] at hp
    have q := hc.2 i p hp
    simp (disch := omega) only [z_su_c, z_su_s, z_su_j]
    exact q
  · have hi2 : i = L.length := by
      have := (List.getElem?_eq_some_iff.mp hp).1
      simp at this; omega
    subst hi2
    simp at hp
    subst hp
    simp (disch := omega) only [z_su_c, z_su_s, z_su_j]
    exact ⟨trivial, trivial⟩
theorem z_ap_f {σ : rl_M} {a n w h c : Nat} (h0 : c ≠ a) (h1 : c ≠ a + 1) (h2 : c ≠ a + 2) : z_ap σ a n w h c = σ c := by
  unfold z_ap; rw [z_su_ce h0, z_su_ce h2, z_su_ce h1]
theorem z_hw (a w h : Nat) (hw : w < 2147483648) (hh : h < 2147483648) : ∀ (B A : List (Nat × Nat)) (σ : rl_M) (f : Nat), z_Cv σ a (A ++ B) → z_Sm (A ++ B) → B.length < f →
    rf_Cu_hasWithin_L2 a (nI w) (nI h) f (nI A.length) σ = some (if B.any (fun p => p.1 ≤ w && p.2 ≤ h) then 1 else 0, σ) := by
  intro B
  induction B with
  | nil =>
    intro A σ f hc hs hf
    obtain ⟨f, rfl⟩ : ∃ g, f = g + 1 := ⟨f - 1, by simp at hf; omega⟩
    have h1 := hs.1
    simp at h1
    have hc0 := hc.1
    simp only [List.append_nil] at hc0
    unfold rf_Cu_hasWithin_L2
    simp (disch := omega) only [hc0, z_lt, z_le, z_eq, z_ltl, z_lel, z_llt, z_lle, z_eql, z_add, z_addl, z_ladd, z_mul, z_mull, z_lmul, z_sub, z_subl, z_cl, z_ib, z_nm, z_m1, z_mlt, if_pos, if_neg, ge_iff_le, gt_iff_lt, ite_true, ite_false, if_true, if_false, Option.bind_some]
    simp
  | cons p B ih =>
    intro A σ f hc hs hf
    obtain ⟨f, rfl⟩ : ∃ g, f = g + 1 := ⟨f - 1, by simp at hf; omega⟩
    have h1 := hs.1
    have h2 := hs.2 p (by simp)
    simp at h1 hf
    have hc0 := hc.1
    simp only [List.length_append, List.length_cons] at hc0
    have hm := z_Cv_mid hc
    have hi := ih (A ++ [p]) σ f (by simpa using hc) (by simpa using hs) (by omega)
    simp only [List.length_append, List.length_singleton] at hi
    unfold rf_Cu_hasWithin_L2
    simp (disch := omega) only [hc0, hm.1, hm.2, z_lt, z_le, z_eq, z_ltl, z_lel, z_llt, z_lle, z_eql, z_add, z_addl, z_ladd, z_mul, z_mull, z_lmul, z_sub, z_subl, z_cl, z_ib, z_nm, z_m1, z_mlt, if_pos, if_neg, ge_iff_le, gt_iff_lt, ite_true, ite_false, if_true, if_false, Option.bind_some, hi]
    by_cases q1 : w < p.1
    · simp (disch := omega) only [z_lt, z_le, z_eq, z_ltl, z_lel, z_llt, z_lle, z_eql, z_add, z_addl, z_ladd, z_mul, z_mull, z_lmul, z_sub, z_subl, z_cl, z_ib, z_nm, z_m1, z_mlt, if_pos, if_neg, ge_iff_le, gt_iff_lt, ite_true, ite_false, if_true, if_false, Option.bind_some]
      have e : decide (p.1 ≤ w) = false := decide_eq_false (by omega)
      simp only [List.any_cons, e, Bool.false_and, Bool.false_or]
    · by_cases q2 : h < p.2
      · simp (disch := omega) only [z_lt, z_le, z_eq, z_ltl, z_lel, z_llt, z_lle, z_eql, z_add, z_addl, z_ladd, z_mul, z_mull, z_lmul, z_sub, z_subl, z_cl, z_ib, z_nm, z_m1, z_mlt, if_pos, if_neg, ge_iff_le, gt_iff_lt, ite_true, ite_false, if_true, if_false, Option.bind_some]
        have e : decide (p.2 ≤ h) = false := decide_eq_false (by omega)
        simp only [List.any_cons, e, Bool.and_false, Bool.false_or]
      · simp (disch := omega) only [z_lt, z_le, z_eq, z_ltl, z_lel, z_llt, z_lle, z_eql, z_add, z_addl, z_ladd, z_mul, z_mull, z_lmul, z_sub, z_subl, z_cl, z_ib, z_nm, z_m1, z_mlt, if_pos, if_neg, ge_iff_le, gt_iff_lt, ite_true, ite_false, if_true, if_false, Option.bind_some]
        have e1 : p.1 ≤ w := by omega
        have e2 : p.2 ≤ h := by omega
        simp [e1, e2]
