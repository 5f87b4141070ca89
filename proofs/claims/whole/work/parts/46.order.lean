/-- byte k of a word, 0 the lowest -/
def z_by (l : Int64) (k : Nat) : Nat := (l.toInt / 2 ^ (8 * k) % 256).toNat
theorem z_by_b (l : Int64) (k : Nat) : z_by l k ≤ 255 := by
  unfold z_by
  generalize l.toInt / 2 ^ (8 * k) = x
  omega
theorem z_sh1 : ∀ k : Fin 8, (((nI (8 * k.val)).toInt64 &&& 63).toBitVec.smod 64).toNat = 8 * k.val := by decide +kernel
theorem z_sh2 : ∀ k : Fin 8, ((8 * nI k.val).toInt64.toUInt64 &&& Int64.toUInt64 63).toNat = 8 * k.val := by decide +kernel
theorem z_byR (l : Int64) {k : Nat} (hk : k < 8) : ((l >>> ((nI (8 * k)).toInt64 &&& 63)) &&& 255).toInt32 = nI (z_by l k) := by
  apply Int32.toInt_inj.mp
  have h := Jvm.Kit.i64_shr l ((nI (8 * k)).toInt64 &&& 63) (z_sh1 ⟨k, hk⟩)
  have m := Jvm.Kit.i64_mask (l >>> ((nI (8 * k)).toInt64 &&& 63)) 255 (k := 8) (by decide) (by decide)
  have b := z_by_b l k
  have e : (nI (z_by l k)).toInt = (z_by l k : Int) := nI_toInt (by omega)
  rw [h] at m
  have p : (2 : Int) ^ 8 = 256 := by decide
  rw [p] at m
  rw [Jvm.Kit.i32_of_i64 (by rw [m]; generalize l.toInt / 2 ^ (8 * k) = x; omega) (by rw [m]; generalize l.toInt / 2 ^ (8 * k) = x; omega), m, e]
  unfold z_by
  generalize l.toInt / 2 ^ (8 * k) = x
  omega
theorem z_p64 {k : Nat} (hk : k < 8) : ∃ W : Int, (2 : Int) ^ 64 = W * 256 * 2 ^ (8 * k) ∧ (2 : Int) ^ (8 * k) ≠ 0 := by
  have hk8 : k = 0 ∨ k = 1 ∨ k = 2 ∨ k = 3 ∨ k = 4 ∨ k = 5 ∨ k = 6 ∨ k = 7 := by omega
  rcases hk8 with rfl | rfl | rfl | rfl | rfl | rfl | rfl | rfl
  · exact ⟨72057594037927936, by decide, by decide⟩
  · exact ⟨281474976710656, by decide, by decide⟩
  · exact ⟨1099511627776, by decide, by decide⟩
  · exact ⟨4294967296, by decide, by decide⟩
  · exact ⟨16777216, by decide, by decide⟩
  · exact ⟨65536, by decide, by decide⟩
  · exact ⟨256, by decide, by decide⟩
  · exact ⟨1, by decide, by decide⟩
theorem z_bm (x : Int) (m : Nat) (h : (256 : Int) ∣ (m : Int)) : x.bmod m % 256 = x % 256 := by
  rw [← Int.emod_emod_of_dvd (x.bmod m) h, Int.bmod_emod, Int.emod_emod_of_dvd _ h]
theorem z_byC (l : Int64) {k : Nat} (hk : k < 8) : (((l.toUInt64 >>> ((8 * nI k).toInt64.toUInt64 &&& Int64.toUInt64 63)).toInt64).toInt32) &&& 255 = nI (z_by l k) := by
  apply Int32.toInt_inj.mp
  have b := z_by_b l k
  have e : (nI (z_by l k)).toInt = (z_by l k : Int) := nI_toInt (by omega)
  have hn := z_sh2 ⟨k, hk⟩
  generalize ((8 * nI k).toInt64.toUInt64 &&& Int64.toUInt64 63) = n at hn ⊢
  have m := Jvm.Kit.i32_mask ((l.toUInt64 >>> n).toInt64).toInt32 255 (k := 8) (by decide) (by decide)
  have e2 : ((l.toUInt64 >>> n).toInt64).toBitVec.toNat = l.toBitVec.toNat / 2 ^ (8 * k) := by
    simp only [UInt64.toBitVec_toInt64, UInt64.toBitVec_shiftRight, Int64.toBitVec_toUInt64]
    simp [BitVec.toNat_ushiftRight, Nat.shiftRight_eq_div_pow, hn, Nat.mod_eq_of_lt (show 8 * k < 64 by omega)]
  have e3 : ((l.toUInt64 >>> n).toInt64).toInt = Int.bmod ((l.toUInt64 >>> n).toInt64).toBitVec.toNat (2 ^ 64) := BitVec.toInt_eq_toNat_bmod _
  have e5 : l.toInt = (l.toBitVec.toNat : Int) ∨ l.toInt = (l.toBitVec.toNat : Int) - 2 ^ 64 := by
    have : l.toInt = l.toBitVec.toInt := rfl
    rw [this, BitVec.toInt_eq_toNat_cond]
    split
    · exact Or.inl rfl
    · exact Or.inr rfl
  have p8 : (2 : Int) ^ 8 = 256 := by decide
  obtain ⟨W, w1, w2⟩ := z_p64 hk
  rw [m, p8, Int64.toInt_toInt32, z_bm _ _ (by decide), e3, z_bm _ _ (by decide), e2, e]
  have key : l.toInt / 2 ^ (8 * k) % 256 = ((l.toBitVec.toNat / 2 ^ (8 * k) : Nat) : Int) % 256 := by
    rw [Int.natCast_ediv, Int.natCast_pow]
    show l.toInt / 2 ^ (8 * k) % 256 = (l.toBitVec.toNat : Int) / 2 ^ (8 * k) % 256
    rcases e5 with h | h
    · rw [h]
    · rw [h, w1, show (l.toBitVec.toNat : Int) - W * 256 * 2 ^ (8 * k) = (l.toBitVec.toNat : Int) + (-(W * 256)) * 2 ^ (8 * k) by rw [Int.neg_mul, Int.sub_eq_add_neg], Int.add_mul_ediv_right _ _ w2]
      generalize (l.toBitVec.toNat : Int) / 2 ^ (8 * k) = z
      omega
  unfold z_by
  rw [key]
  generalize ((l.toBitVec.toNat / 2 ^ (8 * k) : Nat) : Int) = z
  omega
/-- the bytes k - 1 .. 0 that are not 0 -/
def z_bl (l : Int64) : Nat → List Nat
  | 0 => []
  | k + 1 => (if z_by l k = 0 then [] else [z_by l k]) ++ z_bl l k
theorem z_bl_l (l : Int64) (k : Nat) : (z_bl l k).length ≤ k := by
  induction k with
  | zero => simp [z_bl]
  | succ k ih => simp only [z_bl, List.length_append]; split <;> simp <;> omega
theorem z_bl_b (l : Int64) (k : Nat) : ∀ b ∈ z_bl l k, b ≤ 255 := by
  induction k with
  | zero => simp [z_bl]
  | succ k ih =>
    intro b hb
    simp only [z_bl] at hb
    rcases List.mem_append.mp hb with h | h
    · split at h
      · simp at h
      · rw [List.mem_singleton] at h; subst h; exact z_by_b l k
    · exact ih b h
def z_Row (f : Nat → Int32) (L : List Nat) : Prop := ∀ i b, L[i]? = some b → f i = nI b
theorem z_Row_ap {σ : rl_M} {e b : Nat} {L : List Nat} (h : z_Row (σ e) L) : z_Row (rl_su σ e L.length (nI b) e) (L ++ [b]) := by
  intro i x hx
  by_cases hi : i < L.length
  · rw [List.getElem?_append_left hi] at hx
    rw [z_su_j (by omega)]; exact h i x hx
  · have hi2 : i = L.length := by
      have := (List.getElem?_eq_some_iff.mp hx).1
      simp at this; omega
    subst hi2
    simp at hx
    subst hx
    rw [z_su_s]
theorem z_ab (l : Int64) : ∀ (k : Nat) (σ : rl_M) (L : List Nat), k ≤ 8 → σ 1 0 = nI L.length → z_Row (σ 2) L → L.length + k ≤ 16 →
    ∃ τ, (∀ f, k < f → rf_Sr_addBytes_L3 l f (nI k + (-1)) σ = some (0, τ)) ∧ τ 1 0 = nI (L ++ z_bl l k).length ∧ z_Row (τ 2) (L ++ z_bl l k) ∧ ∀ e, e ≠ 1 → e ≠ 2 → τ e = σ e := by
  intro k
  induction k with
  | zero =>
    intro σ L hk h1 h2 hl
    refine ⟨σ, ?_, by simpa [z_bl] using h1, by simpa [z_bl] using h2, fun _ _ _ => rfl⟩
    intro f hf
    obtain ⟨f, rfl⟩ : ∃ g, f = g + 1 := ⟨f - 1, by omega⟩
    unfold rf_Sr_addBytes_L3
    simp only [z_0m1, z_mlt, if_true]
  | succ k ih =>
    intro σ L hk h1 h2 hl
    have bb := z_by_b l k
    by_cases q : z_by l k = 0
    · obtain ⟨τ, t1, t2, t3, t4⟩ := ih σ L (by omega) h1 h2 (by omega)
      refine ⟨τ, ?_, by simpa [z_bl, q] using t2, by simpa [z_bl, q] using t3, t4⟩
      intro f hf
      obtain ⟨f, rfl⟩ : ∃ g, f = g + 1 := ⟨f - 1, by omega⟩
      have u := t1 f (by omega)
      unfold rf_Sr_addBytes_L3
      rw [z_pm, z_byC l (by omega), q]
      simp (disch := omega) only [z_lt, z_le, z_eq, z_ltl, z_lel, z_llt, z_lle, z_eql, z_add, z_addl, z_ladd, z_mul, z_mull, z_lmul, z_sub, z_subl, z_cl, z_ib, z_nm, z_mlt, if_pos, if_neg, ge_iff_le, gt_iff_lt, ite_true, ite_false, if_true, if_false, Option.bind_some, u]
    · obtain ⟨τ, t1, t2, t3, t4⟩ := ih (rl_su (rl_su σ 2 L.length (nI (z_by l k))) 1 0 (nI (L.length + 1))) (L ++ [z_by l k]) (by omega) (by rw [z_su_s]; simp) (by rw [z_su_ce (by omega)]; exact z_Row_ap h2) (by simp; omega)
      refine ⟨τ, ?_, by simpa [z_bl, q] using t2, by simpa [z_bl, q] using t3, fun e he1 he2 => by rw [t4 e he1 he2, z_su_ce he1, z_su_ce he2]⟩
      intro f hf
      obtain ⟨f, rfl⟩ : ∃ g, f = g + 1 := ⟨f - 1, by omega⟩
      have u := t1 f (by omega)
      unfold rf_Sr_addBytes_L3
      rw [z_pm, z_byC l (by omega)]
      simp (disch := omega) only [z_lt, z_le, z_eq, z_ltl, z_lel, z_llt, z_lle, z_eql, z_add, z_addl, z_ladd, z_mul, z_mull, z_lmul, z_sub, z_subl, z_cl, z_ib, z_nm, z_mlt, if_pos, if_neg, ge_iff_le, gt_iff_lt, ite_true, ite_false, if_true, if_false, Option.bind_some, z_su_c, z_su_s, z_su_j, h1, u]
theorem z_0m8 : ((nI 0 + (-8)) < 0) = True := by decide
theorem z_ga (l : Int64) : ∀ (k : Nat) (σ : rl_M) (L : List Nat), k ≤ 8 → z_Row (σ 77) L → L.length + k ≤ 16 →
    ∃ τ, (∀ f, k < f → rf_Mo_gather_L7 l f (nI L.length) (nI (8 * k) + (-8)) σ = some (nI (L ++ z_bl l k).length, τ)) ∧ z_Row (τ 77) (L ++ z_bl l k) ∧ ∀ e, e ≠ 77 → τ e = σ e := by
  intro k
  induction k with
  | zero =>
    intro σ L hk h2 hl
    refine ⟨σ, ?_, by simpa [z_bl] using h2, fun _ _ => rfl⟩
    intro f hf
    obtain ⟨f, rfl⟩ : ∃ g, f = g + 1 := ⟨f - 1, by omega⟩
    unfold rf_Mo_gather_L7
    simp only [Nat.mul_zero, z_0m8, if_true, z_bl, List.append_nil]
  | succ k ih =>
    intro σ L hk h2 hl
    have bb := z_by_b l k
    have e8 : nI (8 * (k + 1)) + (-8) = nI (8 * k) := by rw [z_m8 (by omega), show 8 * (k + 1) - 8 = 8 * k by omega]
    by_cases q : z_by l k = 0
    · obtain ⟨τ, t1, t3, t4⟩ := ih σ L (by omega) h2 (by omega)
      refine ⟨τ, ?_, by simpa [z_bl, q] using t3, t4⟩
      intro f hf
      obtain ⟨f, rfl⟩ : ∃ g, f = g + 1 := ⟨f - 1, by omega⟩
      have u := t1 f (by omega)
      unfold rf_Mo_gather_L7
      have eb : L ++ z_bl l (k + 1) = L ++ z_bl l k := by simp [z_bl, q]
      rw [e8, z_byR l (by omega), q, eb]
      simp (disch := omega) only [z_lt, z_le, z_eq, z_ltl, z_lel, z_llt, z_lle, z_eql, z_add, z_addl, z_ladd, z_mul, z_mull, z_lmul, z_sub, z_subl, z_cl, z_ib, z_nm, z_mlt, if_pos, if_neg, ge_iff_le, gt_iff_lt, ite_true, ite_false, if_true, if_false, Option.bind_some, u]
    · obtain ⟨τ, t1, t3, t4⟩ := ih (rl_su σ 77 L.length (nI (z_by l k))) (L ++ [z_by l k]) (by omega) (z_Row_ap h2) (by simp; omega)
      refine ⟨τ, ?_, by simpa [z_bl, q] using t3, fun e he => by rw [t4 e he, z_su_ce he]⟩
      intro f hf
      obtain ⟨f, rfl⟩ : ∃ g, f = g + 1 := ⟨f - 1, by omega⟩
      have u := t1 f (by omega)
      simp only [List.length_append, List.length_singleton] at u
      unfold rf_Mo_gather_L7
      have eb : L ++ z_bl l (k + 1) = (L ++ [z_by l k]) ++ z_bl l k := by simp [z_bl, q]
      rw [e8, z_byR l (by omega), eb]
      simp (disch := omega) only [z_lt, z_le, z_eq, z_ltl, z_lel, z_llt, z_lle, z_eql, z_add, z_addl, z_ladd, z_mul, z_mull, z_lmul, z_sub, z_subl, z_cl, z_ib, z_nm, z_mlt, if_pos, if_neg, ge_iff_le, gt_iff_lt, ite_true, ite_false, if_true, if_false, Option.bind_some, u, List.length_append, List.length_singleton]
/-- the check of a row of signs: (1, k) at the first that cannot stand, (0, parts) at the end -/
def z_chk (n : Nat → Nat) : List Nat → Nat → Nat → Nat → Nat × Nat
  | [], _, p, _ => (0, p)
  | b :: L, k, p, s => if b = 124 ∨ b = 45 then (if p < 2 then (1, k) else z_chk n L (k + 1) (p - 1) s)
      else if 48 ≤ b ∧ b < 54 ∧ n (b - 48) ≠ 0 ∧ s / 2 ^ (b - 48) % 2 = 0 then z_chk n L (k + 1) (p + 1) (s + 2 ^ (b - 48)) else (1, k)
theorem z_bt1 : ∀ (s : Fin 64) (r : Fin 6), ((nI s.val &&& ((1 : Int32) <<< (nI r.val &&& 31))) = 0) ↔ s.val / 2 ^ r.val % 2 = 0 := by decide +kernel
theorem z_bt2 : ∀ (s : Fin 64) (r : Fin 6), (((nI s.val >>> (nI r.val &&& 31)) &&& 1) = 1) ↔ ¬ s.val / 2 ^ r.val % 2 = 0 := by decide +kernel
theorem z_bt3 : ∀ (s : Fin 64) (r : Fin 6), s.val / 2 ^ r.val % 2 = 0 → (nI s.val ||| ((1 : Int32) <<< (nI r.val &&& 31))) = nI (s.val + 2 ^ r.val) := by decide +kernel
theorem z_bt4 : ∀ (s : Fin 64) (r : Fin 6), s.val / 2 ^ r.val % 2 = 0 → s.val + 2 ^ r.val < 64 ∧ ∀ q : Fin 6, (s.val + 2 ^ r.val) / 2 ^ q.val % 2 = if q = r then 1 else s.val / 2 ^ q.val % 2 := by decide +kernel
theorem z_ff {n : Nat → Nat} {s : Nat → Nat → Nat × Nat} (K : Int32 → rl_M → Option (Int32 × rl_M)) {σ : rl_M} (hs : z_Sz σ n s) (M : List Nat) (h1 : σ 1 0 = nI M.length) (h2 : z_Row (σ 2) M) (hM : M.length ≤ 16) (hb : ∀ b ∈ M, b ≤ 255) : ∀ (L A : List Nat) (p b f : Nat), M = A ++ L → p ≤ A.length → b < 64 → L.length < f →
    (z_chk n L A.length p b).1 = 1 ∧ rf_Sr_firstFault_L7 K f (nI b) (nI p) (nI A.length) σ = some (nI (z_chk n L A.length p b).2, σ) ∧ (z_chk n L A.length p b).2 < 16 ∨ (z_chk n L A.length p b).1 = 0 ∧ rf_Sr_firstFault_L7 K f (nI b) (nI p) (nI A.length) σ = K (nI (z_chk n L A.length p b).2) σ ∧ (z_chk n L A.length p b).2 ≤ 16 := by
  intro L
  induction L with
  | nil =>
    intro A p b f hA hp hb2 hf
    obtain ⟨f, rfl⟩ : ∃ g, f = g + 1 := ⟨f - 1, by simp at hf; omega⟩
    rw [List.append_nil] at hA
    subst hA
    right
    simp only [z_chk]
    refine ⟨trivial, ?_, by omega⟩
    unfold rf_Sr_firstFault_L7
    simp (disch := omega) only [h1, z_lt, z_le, z_eq, z_ltl, z_lel, z_llt, z_lle, z_eql, z_add, z_addl, z_ladd, z_mul, z_mull, z_lmul, z_sub, z_subl, z_cl, z_ib, z_nm, z_m1, z_mlt, if_pos, if_neg, ge_iff_le, gt_iff_lt, ite_true, ite_false, if_true, if_false, Option.bind_some, z_10, eq_self]
  | cons x L ih =>
    intro A p b f hA hp hb2 hf
    obtain ⟨f, rfl⟩ : ∃ g, f = g + 1 := ⟨f - 1, by simp at hf; omega⟩
    simp only [List.length_cons] at hf
    have hlen : A.length + (L.length + 1) = M.length := by rw [hA]; simp
    have hx : σ 2 A.length = nI x := h2 A.length x (by rw [hA]; simp)
    have hxb : x ≤ 255 := hb x (by rw [hA]; simp)
    have hsg : rf_Sr_signAt (nI A.length) σ = some (nI x, σ) := by
      unfold rf_Sr_signAt
      simp (disch := omega) only [h1, hx, z_lt, z_le, z_eq, z_ltl, z_lel, z_llt, z_lle, z_eql, z_add, z_addl, z_ladd, z_mul, z_mull, z_lmul, z_sub, z_subl, z_cl, z_ib, z_nm, z_m1, z_mlt, if_pos, if_neg, ge_iff_le, gt_iff_lt, ite_true, ite_false, if_true, if_false, Option.bind_some, z_10, eq_self]
    have hA' : M = (A ++ [x]) ++ L := by rw [hA]; simp
    simp only [z_chk]
    by_cases c1 : x = 124 ∨ x = 45
    · rw [if_pos c1]
      have hro : rf_Ro_roomOfSign (nI x) σ = some (-1, σ) := by
        unfold rf_Ro_roomOfSign
        rcases c1 with rfl | rfl
        · simp (disch := omega) only [z_lt, z_le, z_eq, z_ltl, z_lel, z_llt, z_lle, z_eql, z_add, z_addl, z_ladd, z_mul, z_mull, z_lmul, z_sub, z_subl, z_cl, z_ib, z_nm, z_m1, z_mlt, if_pos, if_neg, ge_iff_le, gt_iff_lt, ite_true, ite_false, if_true, if_false, Option.bind_some, z_10, eq_self]
        · simp (disch := omega) only [z_lt, z_le, z_eq, z_ltl, z_lel, z_llt, z_lle, z_eql, z_add, z_addl, z_ladd, z_mul, z_mull, z_lmul, z_sub, z_subl, z_cl, z_ib, z_nm, z_m1, z_mlt, if_pos, if_neg, ge_iff_le, gt_iff_lt, ite_true, ite_false, if_true, if_false, Option.bind_some, z_10, eq_self]
      have hj : rf_Ro_joins (nI x) σ = some (1, σ) := by
        unfold rf_Ro_joins
        rcases c1 with rfl | rfl
        · simp (disch := omega) only [z_lt, z_le, z_eq, z_ltl, z_lel, z_llt, z_lle, z_eql, z_add, z_addl, z_ladd, z_mul, z_mull, z_lmul, z_sub, z_subl, z_cl, z_ib, z_nm, z_m1, z_mlt, if_pos, if_neg, ge_iff_le, gt_iff_lt, ite_true, ite_false, if_true, if_false, Option.bind_some, z_10, eq_self]
        · simp (disch := omega) only [z_lt, z_le, z_eq, z_ltl, z_lel, z_llt, z_lle, z_eql, z_add, z_addl, z_ladd, z_mul, z_mull, z_lmul, z_sub, z_subl, z_cl, z_ib, z_nm, z_m1, z_mlt, if_pos, if_neg, ge_iff_le, gt_iff_lt, ite_true, ite_false, if_true, if_false, Option.bind_some, z_10, eq_self]
      by_cases c2 : p < 2
      · rw [if_pos c2]
        left
        refine ⟨rfl, ?_, by omega⟩
        unfold rf_Sr_firstFault_L7
        simp (disch := omega) only [h1, hsg, hro, hj, z_lt, z_le, z_eq, z_ltl, z_lel, z_llt, z_lle, z_eql, z_add, z_addl, z_ladd, z_mul, z_mull, z_lmul, z_sub, z_subl, z_cl, z_ib, z_nm, z_m1, z_mlt, if_pos, if_neg, ge_iff_le, gt_iff_lt, ite_true, ite_false, if_true, if_false, Option.bind_some, z_10, eq_self]
      · rw [if_neg c2]
        have hi := ih (A ++ [x]) (p - 1) b f hA' (by simp; omega) hb2 (by omega)
        simp only [List.length_append, List.length_singleton] at hi
        have st : rf_Sr_firstFault_L7 K (f + 1) (nI b) (nI p) (nI A.length) σ = rf_Sr_firstFault_L7 K f (nI b) (nI (p - 1)) (nI (A.length + 1)) σ := by
          conv => lhs; unfold rf_Sr_firstFault_L7
          simp (disch := omega) only [h1, hsg, hro, hj, z_lt, z_le, z_eq, z_ltl, z_lel, z_llt, z_lle, z_eql, z_add, z_addl, z_ladd, z_mul, z_mull, z_lmul, z_sub, z_subl, z_cl, z_ib, z_nm, z_m1, z_mlt, if_pos, if_neg, ge_iff_le, gt_iff_lt, ite_true, ite_false, if_true, if_false, Option.bind_some, z_10, eq_self]
        rw [st]
        exact hi
    · rw [if_neg c1]
      by_cases c3 : 48 ≤ x ∧ x < 58
      · have hro : rf_Ro_roomOfSign (nI x) σ = some (nI (x - 48), σ) := by
          unfold rf_Ro_roomOfSign
          simp (disch := omega) only [z_lt, z_le, z_eq, z_ltl, z_lel, z_llt, z_lle, z_eql, z_add, z_addl, z_ladd, z_mul, z_mull, z_lmul, z_sub, z_subl, z_cl, z_ib, z_nm, z_m1, z_mlt, if_pos, if_neg, ge_iff_le, gt_iff_lt, ite_true, ite_false, if_true, if_false, Option.bind_some, z_10, eq_self]
        by_cases c4 : x < 54
        · have hso := z_so hs (show x - 48 < 6 by omega)
          have hn4 := (hs (x - 48) (by omega)).2.1
          by_cases c5 : n (x - 48) = 0
          · rw [if_neg (by omega)]
            left
            refine ⟨rfl, ?_, by omega⟩
            unfold rf_Sr_firstFault_L7
            simp (disch := omega) only [h1, hsg, hro, hso, c5, z_lt, z_le, z_eq, z_ltl, z_lel, z_llt, z_lle, z_eql, z_add, z_addl, z_ladd, z_mul, z_mull, z_lmul, z_sub, z_subl, z_cl, z_ib, z_nm, z_m1, z_mlt, if_pos, if_neg, ge_iff_le, gt_iff_lt, ite_true, ite_false, if_true, if_false, Option.bind_some, z_10, eq_self]
          · have t1 := z_bt1 ⟨b, hb2⟩ ⟨x - 48, by omega⟩
            simp only at t1
            by_cases c6 : b / 2 ^ (x - 48) % 2 = 0
            · rw [if_pos ⟨c3.1, c4, c5, c6⟩]
              have t3 := z_bt3 ⟨b, hb2⟩ ⟨x - 48, by omega⟩ c6
              have t4 := (z_bt4 ⟨b, hb2⟩ ⟨x - 48, by omega⟩ c6).1
              simp only at t3 t4
              have hi := ih (A ++ [x]) (p + 1) (b + 2 ^ (x - 48)) f hA' (by simp; omega) t4 (by omega)
              simp only [List.length_append, List.length_singleton] at hi
              have st : rf_Sr_firstFault_L7 K (f + 1) (nI b) (nI p) (nI A.length) σ = rf_Sr_firstFault_L7 K f (nI (b + 2 ^ (x - 48))) (nI (p + 1)) (nI (A.length + 1)) σ := by
                conv => lhs; unfold rf_Sr_firstFault_L7
                simp (disch := omega) only [h1, hsg, hro, hso, t1.mpr c6, t3, z_lt, z_le, z_eq, z_ltl, z_lel, z_llt, z_lle, z_eql, z_add, z_addl, z_ladd, z_mul, z_mull, z_lmul, z_sub, z_subl, z_cl, z_ib, z_nm, z_m1, z_mlt, if_pos, if_neg, ge_iff_le, gt_iff_lt, ite_true, ite_false, if_true, if_false, Option.bind_some, z_10, eq_self]
              rw [st]
              exact hi
            · rw [if_neg (fun h => c6 h.2.2.2)]
              left
              refine ⟨rfl, ?_, by omega⟩
              have t1' := fun h => c6 (t1.mp h)
              unfold rf_Sr_firstFault_L7
              simp (disch := omega) only [h1, hsg, hro, hso, t1', z_lt, z_le, z_eq, z_ltl, z_lel, z_llt, z_lle, z_eql, z_add, z_addl, z_ladd, z_mul, z_mull, z_lmul, z_sub, z_subl, z_cl, z_ib, z_nm, z_m1, z_mlt, if_pos, if_neg, ge_iff_le, gt_iff_lt, ite_true, ite_false, if_true, if_false, Option.bind_some, z_10, eq_self]
        · rw [if_neg (by omega)]
          left
          refine ⟨rfl, ?_, by omega⟩
          have hso : rf_Rl_sizesOf (nI (x - 48)) σ = some (0, σ) := by
            unfold rf_Rl_sizesOf
            simp (disch := omega) only [z_lt, z_le, z_eq, z_ltl, z_lel, z_llt, z_lle, z_eql, z_add, z_addl, z_ladd, z_mul, z_mull, z_lmul, z_sub, z_subl, z_cl, z_ib, z_nm, z_m1, z_mlt, if_pos, if_neg, ge_iff_le, gt_iff_lt, ite_true, ite_false, if_true, if_false, Option.bind_some, z_10, eq_self]
          unfold rf_Sr_firstFault_L7
          simp (disch := omega) only [h1, hsg, hro, hso, z_lt, z_le, z_eq, z_ltl, z_lel, z_llt, z_lle, z_eql, z_add, z_addl, z_ladd, z_mul, z_mull, z_lmul, z_sub, z_subl, z_cl, z_ib, z_nm, z_m1, z_mlt, if_pos, if_neg, ge_iff_le, gt_iff_lt, ite_true, ite_false, if_true, if_false, Option.bind_some, z_10, eq_self]
      · rw [if_neg (by omega)]
        have hro : rf_Ro_roomOfSign (nI x) σ = some (-1, σ) := by
          unfold rf_Ro_roomOfSign
          by_cases c7 : x < 48
          · simp (disch := omega) only [z_lt, z_le, z_eq, z_ltl, z_lel, z_llt, z_lle, z_eql, z_add, z_addl, z_ladd, z_mul, z_mull, z_lmul, z_sub, z_subl, z_cl, z_ib, z_nm, z_m1, z_mlt, if_pos, if_neg, ge_iff_le, gt_iff_lt, ite_true, ite_false, if_true, if_false, Option.bind_some, z_10, eq_self]
          · simp (disch := omega) only [z_lt, z_le, z_eq, z_ltl, z_lel, z_llt, z_lle, z_eql, z_add, z_addl, z_ladd, z_mul, z_mull, z_lmul, z_sub, z_subl, z_cl, z_ib, z_nm, z_m1, z_mlt, if_pos, if_neg, ge_iff_le, gt_iff_lt, ite_true, ite_false, if_true, if_false, Option.bind_some, z_10, eq_self]
        have hj : rf_Ro_joins (nI x) σ = some (0, σ) := by
          unfold rf_Ro_joins
          simp (disch := omega) only [z_lt, z_le, z_eq, z_ltl, z_lel, z_llt, z_lle, z_eql, z_add, z_addl, z_ladd, z_mul, z_mull, z_lmul, z_sub, z_subl, z_cl, z_ib, z_nm, z_m1, z_mlt, if_pos, if_neg, ge_iff_le, gt_iff_lt, ite_true, ite_false, if_true, if_false, Option.bind_some, z_10, eq_self]
        left
        refine ⟨rfl, ?_, by omega⟩
        unfold rf_Sr_firstFault_L7
        simp (disch := omega) only [h1, hsg, hro, hj, z_lt, z_le, z_eq, z_ltl, z_lel, z_llt, z_lle, z_eql, z_add, z_addl, z_ladd, z_mul, z_mull, z_lmul, z_sub, z_subl, z_cl, z_ib, z_nm, z_m1, z_mlt, if_pos, if_neg, ge_iff_le, gt_iff_lt, ite_true, ite_false, if_true, if_false, Option.bind_some, z_10, eq_self]
theorem z_of {n : Nat → Nat} {s : Nat → Nat → Nat × Nat} {N : Nat} (K : Int32 → rl_M → Option (Int32 × rl_M)) {σ : rl_M} (hs : z_Sq σ n s) (hN : σ 59 1 = nI N) (hN6 : N ≤ 6) (hn0 : ∀ r, N ≤ r → r < 6 → n r = 0) (M : List Nat) (h2 : z_Row (σ 77) M) (hM : M.length ≤ 16) (hb : ∀ b ∈ M, b ≤ 255) : ∀ (L A : List Nat) (p b f : Nat), M = A ++ L → p ≤ A.length → b < 64 → L.length < f →
    (z_chk n L A.length p b).1 = 1 ∧ rf_Mo_order_L27 (nI M.length) K f (nI p) (nI b) (nI A.length) σ = some (nI (z_chk n L A.length p b).2, σ) ∨ (z_chk n L A.length p b).1 = 0 ∧ rf_Mo_order_L27 (nI M.length) K f (nI p) (nI b) (nI A.length) σ = K (nI (z_chk n L A.length p b).2) σ := by
  intro L
  induction L with
  | nil =>
    intro A p b f hA hp hb2 hf
    obtain ⟨f, rfl⟩ : ∃ g, f = g + 1 := ⟨f - 1, by simp at hf; omega⟩
    rw [List.append_nil] at hA
    subst hA
    right
    simp only [z_chk]
    refine ⟨trivial, ?_⟩
    unfold rf_Mo_order_L27
    simp (disch := omega) only [z_lt, z_le, z_eq, z_ltl, z_lel, z_llt, z_lle, z_eql, z_add, z_addl, z_ladd, z_mul, z_mull, z_lmul, z_sub, z_subl, z_cl, z_ib, z_nm, z_m1, z_mlt, if_pos, if_neg, ge_iff_le, gt_iff_lt, ite_true, ite_false, if_true, if_false, Option.bind_some, z_10, eq_self]
  | cons x L ih =>
    intro A p b f hA hp hb2 hf
    obtain ⟨f, rfl⟩ : ∃ g, f = g + 1 := ⟨f - 1, by simp at hf; omega⟩
    simp only [List.length_cons] at hf
    have hlen : A.length + (L.length + 1) = M.length := by rw [hA]; simp
    have hx : σ 77 A.length = nI x := h2 A.length x (by rw [hA]; simp)
    have hxb : x ≤ 255 := hb x (by rw [hA]; simp)
    have hA' : M = (A ++ [x]) ++ L := by rw [hA]; simp
    simp only [z_chk]
    by_cases c1 : x = 124 ∨ x = 45
    · rw [if_pos c1]
      by_cases c2 : p < 2
      · rw [if_pos c2]
        left
        refine ⟨rfl, ?_⟩
        unfold rf_Mo_order_L27
        rcases c1 with c1 | c1
        · rw [c1] at hx
          simp (disch := omega) only [hx, z_lt, z_le, z_eq, z_ltl, z_lel, z_llt, z_lle, z_eql, z_add, z_addl, z_ladd, z_mul, z_mull, z_lmul, z_sub, z_subl, z_cl, z_ib, z_nm, z_m1, z_mlt, if_pos, if_neg, ge_iff_le, gt_iff_lt, ite_true, ite_false, if_true, if_false, Option.bind_some, z_10, eq_self]
        · rw [c1] at hx
          simp (disch := omega) only [hx, z_lt, z_le, z_eq, z_ltl, z_lel, z_llt, z_lle, z_eql, z_add, z_addl, z_ladd, z_mul, z_mull, z_lmul, z_sub, z_subl, z_cl, z_ib, z_nm, z_m1, z_mlt, if_pos, if_neg, ge_iff_le, gt_iff_lt, ite_true, ite_false, if_true, if_false, Option.bind_some, z_10, eq_self]
      · rw [if_neg c2]
        have hi := ih (A ++ [x]) (p - 1) b f hA' (by simp; omega) hb2 (by omega)
        simp only [List.length_append, List.length_singleton] at hi
        have st : rf_Mo_order_L27 (nI M.length) K (f + 1) (nI p) (nI b) (nI A.length) σ = rf_Mo_order_L27 (nI M.length) K f (nI (p - 1)) (nI b) (nI (A.length + 1)) σ := by
          conv => lhs; unfold rf_Mo_order_L27
          rcases c1 with c1 | c1
          · rw [c1] at hx
            simp (disch := omega) only [hx, z_lt, z_le, z_eq, z_ltl, z_lel, z_llt, z_lle, z_eql, z_add, z_addl, z_ladd, z_mul, z_mull, z_lmul, z_sub, z_subl, z_cl, z_ib, z_nm, z_m1, z_mlt, if_pos, if_neg, ge_iff_le, gt_iff_lt, ite_true, ite_false, if_true, if_false, Option.bind_some, z_10, eq_self]
          · rw [c1] at hx
            simp (disch := omega) only [hx, z_lt, z_le, z_eq, z_ltl, z_lel, z_llt, z_lle, z_eql, z_add, z_addl, z_ladd, z_mul, z_mull, z_lmul, z_sub, z_subl, z_cl, z_ib, z_nm, z_m1, z_mlt, if_pos, if_neg, ge_iff_le, gt_iff_lt, ite_true, ite_false, if_true, if_false, Option.bind_some, z_10, eq_self]
        rw [st]
        exact hi
    · rw [if_neg c1]
      by_cases c3 : 48 ≤ x ∧ x < 48 + N
      · have hir : rf_Mo_isRoom (nI (x - 48)) σ = some (1, σ) := by
          unfold rf_Mo_isRoom
          simp (disch := omega) only [hN, z_lt, z_le, z_eq, z_ltl, z_lel, z_llt, z_lle, z_eql, z_add, z_addl, z_ladd, z_mul, z_mull, z_lmul, z_sub, z_subl, z_cl, z_ib, z_nm, z_m1, z_mlt, if_pos, if_neg, ge_iff_le, gt_iff_lt, ite_true, ite_false, if_true, if_false, Option.bind_some, z_10, eq_self]
        have h60 := (hs (x - 48) (by omega)).1
        have hn4 := (hs (x - 48) (by omega)).2.1
        by_cases c5 : n (x - 48) = 0
        · rw [if_neg (by omega)]
          left
          refine ⟨rfl, ?_⟩
          unfold rf_Mo_order_L27
          simp (disch := omega) only [hx, hir, h60, c5, z_lt, z_le, z_eq, z_ltl, z_lel, z_llt, z_lle, z_eql, z_add, z_addl, z_ladd, z_mul, z_mull, z_lmul, z_sub, z_subl, z_cl, z_ib, z_nm, z_m1, z_mlt, if_pos, if_neg, ge_iff_le, gt_iff_lt, ite_true, ite_false, if_true, if_false, Option.bind_some, z_10, eq_self]
        · have t1 := z_bt2 ⟨b, hb2⟩ ⟨x - 48, by omega⟩
          simp only at t1
          by_cases c6 : b / 2 ^ (x - 48) % 2 = 0
          · rw [if_pos ⟨c3.1, by omega, c5, c6⟩]
            have t3 := z_bt3 ⟨b, hb2⟩ ⟨x - 48, by omega⟩ c6
            have t4 := (z_bt4 ⟨b, hb2⟩ ⟨x - 48, by omega⟩ c6).1
            simp only at t3 t4
            have t1' : ¬ (((nI b >>> (nI (x - 48) &&& 31)) &&& 1) = 1) := fun h => t1.mp h c6
            have hi := ih (A ++ [x]) (p + 1) (b + 2 ^ (x - 48)) f hA' (by simp; omega) t4 (by omega)
            simp only [List.length_append, List.length_singleton] at hi
            have st : rf_Mo_order_L27 (nI M.length) K (f + 1) (nI p) (nI b) (nI A.length) σ = rf_Mo_order_L27 (nI M.length) K f (nI (p + 1)) (nI (b + 2 ^ (x - 48))) (nI (A.length + 1)) σ := by
              conv => lhs; unfold rf_Mo_order_L27
              simp (disch := omega) only [hx, hir, h60, t1', t3, z_lt, z_le, z_eq, z_ltl, z_lel, z_llt, z_lle, z_eql, z_add, z_addl, z_ladd, z_mul, z_mull, z_lmul, z_sub, z_subl, z_cl, z_ib, z_nm, z_m1, z_mlt, if_pos, if_neg, ge_iff_le, gt_iff_lt, ite_true, ite_false, if_true, if_false, Option.bind_some, z_10, eq_self]
            rw [st]
            exact hi
          · rw [if_neg (fun h => c6 h.2.2.2)]
            left
            refine ⟨rfl, ?_⟩
            unfold rf_Mo_order_L27
            simp (disch := omega) only [hx, hir, h60, t1.mpr c6, z_lt, z_le, z_eq, z_ltl, z_lel, z_llt, z_lle, z_eql, z_add, z_addl, z_ladd, z_mul, z_mull, z_lmul, z_sub, z_subl, z_cl, z_ib, z_nm, z_m1, z_mlt, if_pos, if_neg, ge_iff_le, gt_iff_lt, ite_true, ite_false, if_true, if_false, Option.bind_some, z_10, eq_self]
      · have hz : ¬ (48 ≤ x ∧ x < 54 ∧ n (x - 48) ≠ 0 ∧ b / 2 ^ (x - 48) % 2 = 0) := by
          rintro ⟨h1, h2, h3, h4⟩
          exact h3 (hn0 (x - 48) (by omega) (by omega))
        rw [if_neg hz]
        left
        refine ⟨rfl, ?_⟩
        have hir : rf_Mo_isRoom (nI x - 48) σ = some (0, σ) := by
          by_cases c7 : x < 48
          · have h : nI x - 48 < 0 := by
              have e : (0 : Int32).toInt = 0 := by decide
              have e2 : (48 : Int32).toInt = 48 := by decide
              have a := nI_toInt (n := x) (by omega)
              rw [Int32.lt_iff_toInt_lt, Jvm.Kit.i32_sub (by rw [a, e2]; omega) (by rw [a, e2]; omega), a, e2, e]
              omega
            unfold rf_Mo_isRoom
            rw [if_pos h]
          · rw [z_subl (by omega)]
            unfold rf_Mo_isRoom
            simp (disch := omega) only [hN, z_lt, z_le, z_eq, z_ltl, z_lel, z_llt, z_lle, z_eql, z_add, z_addl, z_ladd, z_mul, z_mull, z_lmul, z_sub, z_subl, z_cl, z_ib, z_nm, z_m1, z_mlt, if_pos, if_neg, ge_iff_le, gt_iff_lt, ite_true, ite_false, if_true, if_false, Option.bind_some, z_10, eq_self]
        unfold rf_Mo_order_L27
        have c8 : ¬ (nI x = 124) := by rw [z_eql (by omega) (by omega)]; omega
        have c9 : ¬ (nI x = 45) := by rw [z_eql (by omega) (by omega)]; omega
        have i1 : ¬ (nI M.length ≤ nI A.length) := by rw [z_le (by omega) (by omega)]; omega
        have i2 : rl_ib (nI A.length) 16 = true := by rw [z_ib (by omega)]; omega
        have i3 : (nI A.length).toNatClampNeg = A.length := z_cl (by omega)
        simp only [i1, i2, i3, hx, c8, c9, if_true, if_false, hir, Option.bind_some]
