/-- the curves are those of D, but on the way from room r's sign up -/
def z_CP (g : Nat → Nat) (s : Nat → Nat → Nat × Nat) (D : Nat → Nat → Prop) (r : Nat) (σ : rl_M) : Nat → Lean.Data.AC.Expr → Prop
  | i, .var q => z_Has σ i (z_out g s D i (.var q)) 1
  | i, .op l q => (r ∈ z_rm l ∧ z_CP g s D r σ i l ∧ z_CA g s D σ (i + z_nd l + 1) q) ∨ (¬ r ∈ z_rm l ∧ z_CA g s D σ i l ∧ z_CP g s D r σ (i + z_nd l + 1) q)
theorem z_cp0 {g : Nat → Nat} {s : Nat → Nat → Nat × Nat} {D D' : Nat → Nat → Prop} {r k : Nat} (hr : r < 6) (hk : g k = 48 + r) {σ τ : rl_M} (hH : z_Has τ k (fun p => ∃ j, D' r j ∧ p = s r j) 1) (hF : z_F (23 + 3 * k) σ τ) : ∀ (t : Lean.Data.AC.Expr) (i : Nat), z_Fl g i t → (z_rm t).Nodup → i ≤ k → k ≤ i + z_nd t → (∀ q ∈ z_rm t, q ≠ r → ∀ j, D q j ↔ D' q j) → z_CA g s D σ i t → z_CP g s D' r τ i t := by
  intro t
  induction t with
  | var q =>
    intro i hf hn h1 h2 hd hc
    simp only [z_nd] at h2
    have e : k = i := by omega
    subst e
    have e2 : q = r := by have := hf.1; omega
    subst e2
    exact hH
  | op l q il iq =>
    intro i hf hn h1 h2 hd hc
    have nd := z_nda (A := z_rm l) (B := z_rm q) hn
    rcases z_side hr hf hn h1 h2 hk with ⟨a1, a2⟩ | ⟨a1, a2, a3, a4⟩
    · left
      refine ⟨a1, il i hf.1 nd.1 h1 a2 (fun x hx => hd x (by simp [z_rm, hx])) hc.1, ?_⟩
      refine z_CA_D q _ (fun x hx j => hd x (by simp [z_rm, hx]) (fun e => nd.2.2 r a1 (e ▸ hx)) j) ?_
      exact z_CA_f q _ (fun c h3 h4 => hF c (by omega) (by omega) (by omega)) hc.2.1
    · right
      refine ⟨a2, ?_, iq _ hf.2.1 nd.2.1 a3 a4 (fun x hx => hd x (by simp [z_rm, hx])) hc.2.1⟩
      refine z_CA_D l _ (fun x hx j => hd x (by simp [z_rm, hx]) (fun e => a2 (e ▸ hx)) j) ?_
      exact z_CA_f l _ (fun c h3 h4 => hF c (by omega) (by omega) (by omega)) hc.1
theorem z_pp {g : Nat → Nat} {s : Nat → Nat → Nat × Nat} {D : Nat → Nat → Prop} {m r k : Nat} (hm : m ≤ 11) (hr : r < 6) (hk : g k = 48 + r) : ∀ (t : Lean.Data.AC.Expr) (i : Nat) (σ : rl_M) (x : Nat), z_Or σ g m → z_Tr σ i t → z_Fl g i t → (z_rm t).Nodup → (∀ q ∈ z_rm t, ∀ j, D q j → z_Bs (s q j) 1) → i + z_nd t < m → i ≤ k → k ≤ i + z_nd t → z_CP g s D r σ i t → x + z_nd t ≤ 10 →
    ∃ d τ, d ≤ z_nd t ∧ (∀ f, rf_Pl_pin_L33 (f + d) (σ 12 k) (nI x) σ = rf_Pl_pin_L33 f (σ 12 (i + z_nd t)) (nI (x + d)) τ) ∧ z_CA g s D τ i t ∧ z_FR i (i + z_nd t) σ τ := by
  intro t
  induction t with
  | var q =>
    intro i σ x ho ht hf hn hb hi h1 h2 hc hx
    simp only [z_nd] at h2 ⊢
    have e : k = i := by omega
    subst e
    exact ⟨0, σ, Nat.le_refl _, fun f => rfl, hc, z_FR.rf⟩
  | op l q il iq =>
    intro i σ x ho ht hf hn hb hi h1 h2 hc hx
    have nd := z_nda (A := z_rm l) (B := z_rm q) hn
    have nl := z_nl (.op l q)
    simp only [z_nd] at hi hx
    simp only [z_nd, z_lv] at nl
    have bl : ∀ p, z_out g s D i l p → p.1 ≤ 1000 ∧ p.2 ≤ 1000 := fun p hp => z_Bs_6 (z_out_b l i p (fun y hy => hb y (by simp [z_rm, hy])) hp) (by omega)
    have bq : ∀ p, z_out g s D (i + z_nd l + 1) q p → p.1 ≤ 1000 ∧ p.2 ≤ 1000 := fun p hp => z_Bs_6 (z_out_b q _ p (fun y hy => hb y (by simp [z_rm, hy])) hp) (by omega)
    -- one step more, from a child's parent
    have step : ∀ (d : Nat) (τ : rl_M) (kc : Nat), d ≤ z_nd l + z_nd q + 1 → σ 12 kc = nI (i + (z_nd l + z_nd q + 2)) → (∀ f, rf_Pl_pin_L33 (f + d) (σ 12 k) (nI x) σ = rf_Pl_pin_L33 f (σ 12 kc) (nI (x + d)) τ) → z_CA g s D τ i l → z_CA g s D τ (i + z_nd l + 1) q → z_FR i (i + (z_nd l + z_nd q + 2)) σ τ →
        ∃ d τ, d ≤ z_nd (.op l q) ∧ (∀ f, rf_Pl_pin_L33 (f + d) (σ 12 k) (nI x) σ = rf_Pl_pin_L33 f (σ 12 (i + z_nd (.op l q))) (nI (x + d)) τ) ∧ z_CA g s D τ i (.op l q) ∧ z_FR i (i + z_nd (.op l q)) σ τ := by
      intro d τ kc hd hkc he hcl hcq hfr
      have ho2 := z_Or_f hfr.l6 ho
      have ht2 := z_Tr_f hfr.l6 _ _ ht
      obtain ⟨υ, v1, v2, v3⟩ := z_plj (k := i + (z_nd l + z_nd q + 2)) ho2.1 hm hi (by omega) (by omega) (ho2.2 _ hi) hf.2.2 ht2.2.2.1 ht2.2.2.2.1 (z_CA_top hcl) (z_CA_top hcq) bl bq (by omega)
      have ho3 := z_Or_f v3.fr.l6 ho2
      refine ⟨d + 1, υ, by simp only [z_nd]; omega, ?_, ⟨z_CA_f l i (fun c h1 h2 => v3.fr c (by omega)) hcl, z_CA_f q _ (fun c h1 h2 => v3.fr c (by omega)) hcq, z_Has_x v2 (fun p => Iff.rfl)⟩, ?_⟩
      · intro f
        rw [show f + (d + 1) = (f + 1) + d by omega, he, hkc]
        conv => lhs; unfold rf_Pl_pin_L33
        have hp := z_parent ho3.1 hm hi
        rw [v3.fr.lo 12 (by omega), hfr.lo 12 (by omega)] at hp
        simp (disch := omega) only [z_lt, z_le, z_eq, z_ltl, z_lel, z_llt, z_lle, z_eql, z_add, z_addl, z_ladd, z_mul, z_mull, z_lmul, z_sub, z_subl, z_cl, z_ib, z_nm, z_m1, z_mlt, if_pos, if_neg, ge_iff_le, gt_iff_lt, ite_true, ite_false, if_true, if_false, Option.bind_some, z_10, eq_self, v1, hp, z_nd]
        rw [show x + d + 1 = x + (d + 1) by omega]
      · exact hfr.tr (v3.fr.wk (by omega) (Nat.le_refl _))
    rcases hc with ⟨c1, c2, c3⟩ | ⟨c1, c2, c3⟩
    · rcases z_side hr hf hn h1 h2 hk with ⟨a1, a2⟩ | ⟨a1, a2, a3, a4⟩
      · obtain ⟨d, τ, t1, t2, t3, t4⟩ := il i σ x ho ht.1 hf.1 nd.1 (fun y hy => hb y (by simp [z_rm, hy])) (by omega) h1 a2 c2 (by omega)
        exact step d τ (i + z_nd l) (by omega) ht.2.2.2.2.1 t2 t3 (z_CA_f q _ (fun c h3 h4 => t4 c (by omega)) c3) (t4.wk (by omega) (by omega))
      · exact (a2 c1).elim
    · rcases z_side hr hf hn h1 h2 hk with ⟨a1, a2⟩ | ⟨a1, a2, a3, a4⟩
      · exact (c1 a1).elim
      · obtain ⟨d, τ, t1, t2, t3, t4⟩ := iq (i + z_nd l + 1) σ x ho ht.2.1 hf.2.1 nd.2.1 (fun y hy => hb y (by simp [z_rm, hy])) (by omega) a3 a4 c3 (by omega)
        exact step d τ (i + z_nd l + 1 + z_nd q) (by omega) ht.2.2.2.2.2 t2 (z_CA_f l _ (fun c h3 h4 => t4 c (by omega)) c2) t3 (t4.wk (by omega) (by omega))
/-- room r pinned to its size j -/
def z_Dp (D : Nat → Nat → Prop) (r j : Nat) : Nat → Nat → Prop := fun q i => if q = r then i = j else D q i
theorem z_pin {g : Nat → Nat} {s : Nat → Nat → Nat × Nat} {D : Nat → Nat → Prop} {r k j : Nat} {t : Lean.Data.AC.Expr} {σ : rl_M} (hm : z_nd t + 1 ≤ 11) (hr : r < 6) (hk : g k = 48 + r) (hkt : k ≤ z_nd t) (ho : z_Or σ g (z_nd t + 1)) (ht : z_Tr σ 0 t) (h12 : σ 12 (z_nd t) = -1) (hf : z_Fl g 0 t) (hn : (z_rm t).Nodup) (hb : ∀ q ∈ z_rm t, ∀ i, D q i → z_Bs (s q i) 1) (hbj : z_Bs (s r j) 1) (hc : z_CA g s D σ 0 t) :
    ∃ τ, rf_Pl_pin (nI k) (nI (s r j).1) (nI (s r j).2) σ = some (0, τ) ∧ z_CA g s (z_Dp D r j) τ 0 t ∧ z_FR 0 (z_nd t) σ τ := by
  have F0 : z_F (23 + 3 * k) σ (rl_su σ (23 + 3 * k) 0 (nI 0)) := z_F_cl
  have hap := z_app (rl_su σ (23 + 3 * k) 0 (nI 0)) (23 + 3 * k) 0 (s r j).1 (s r j).2 (by rw [z_su_s]) (by omega)
  have hcv := z_Cv_ap (w := (s r j).1) (h := (s r j).2) (z_Cv_nil (σ := σ) (a := 23 + 3 * k))
  rw [List.length_nil, List.nil_append] at hcv
  have F1 : z_F (23 + 3 * k) σ (z_ap (rl_su σ (23 + 3 * k) 0 (nI 0)) (23 + 3 * k) 0 (s r j).1 (s r j).2) := F0.tr z_F_ap
  generalize z_ap (rl_su σ (23 + 3 * k) 0 (nI 0)) (23 + 3 * k) 0 (s r j).1 (s r j).2 = σ1 at hap hcv F1
  have hH : z_Has σ1 k (fun p => ∃ i, z_Dp D r j r i ∧ p = s r i) 1 := by
    refine ⟨[((s r j).1, (s r j).2)], hcv, ⟨?_, ?_, by simp⟩, by simp⟩
    · intro p hp
      rw [List.mem_singleton] at hp
      refine ⟨j, ?_, hp⟩
      simp only [z_Dp, if_true]
    · rintro p ⟨i, hi, e⟩
      simp only [z_Dp, if_true] at hi
      subst hi
      exact ⟨_, List.mem_singleton.mpr rfl, by rw [e]; exact ⟨Nat.le_refl _, Nat.le_refl _⟩⟩
  have hcp := z_cp0 (D' := z_Dp D r j) hr hk hH F1 t 0 hf hn (by omega) (by omega) (fun q hq e i => by simp only [z_Dp, if_neg e]) hc
  have fr : z_FR k k σ σ1 := F1.fr
  have ho1 := z_Or_f fr.l6 ho
  have ht1 := z_Tr_f fr.l6 _ _ ht
  obtain ⟨d, τ, t1, t2, t3, t4⟩ := z_pp (m := z_nd t + 1) hm hr hk t 0 σ1 0 ho1 ht1 hf hn (by
    intro q hq i hi
    by_cases e : q = r
    · subst e
      simp only [z_Dp, if_true] at hi
      subst hi; exact hbj
    · simp only [z_Dp, if_neg e] at hi
      exact hb q hq i hi) (by omega) (by omega) (by omega) hcp (by omega)
  refine ⟨τ, ?_, t3, ?_⟩
  · unfold rf_Pl_pin
    have hp := z_parent ho1.1 hm (k := k) (by omega)
    have h12' : σ1 12 (z_nd t) = -1 := by rw [fr.lo 12 (by omega)]; exact h12
    simp (disch := omega) only [z_lt, z_le, z_eq, z_ltl, z_lel, z_llt, z_lle, z_eql, z_add, z_addl, z_ladd, z_mul, z_mull, z_lmul, z_sub, z_subl, z_cl, z_ib, z_nm, z_m1, z_mlt, if_pos, if_neg, ge_iff_le, gt_iff_lt, ite_true, ite_false, if_true, if_false, Option.bind_some, z_10, eq_self, z_cv, z_cl0, hap, hp]
    have e := t2 (10000 - d)
    rw [show 10000 - d + d = 10000 by omega] at e
    refine e.trans ?_
    rw [Nat.zero_add, h12']
    obtain ⟨f, hf⟩ : ∃ f, 10000 - d = f + 1 := ⟨9999 - d, by omega⟩
    rw [hf, Nat.zero_add]
    unfold rf_Pl_pin_L33
    simp (disch := omega) only [z_lt, z_le, z_eq, z_ltl, z_lel, z_llt, z_lle, z_eql, z_add, z_addl, z_ladd, z_mul, z_mull, z_lmul, z_sub, z_subl, z_cl, z_ib, z_nm, z_m1, z_mlt, if_pos, if_neg, ge_iff_le, gt_iff_lt, ite_true, ite_false, if_true, if_false, Option.bind_some, z_10, eq_self]
  · rw [Nat.zero_add] at t4
    exact (fr.wk (by omega) hkt).tr t4
def z_FS (k hi : Nat) (σ τ : rl_M) : Prop := (∀ c, c ≠ 16 → (c < 23 ∨ 23 + 3 * hi + 2 < c) → τ c = σ c) ∧ ∀ x, x ≠ k → τ 16 x = σ 16 x
theorem z_FS.l6 {k hi : Nat} {σ τ : rl_M} (h : z_FS k hi σ τ) : ∀ c, c < 16 → τ c = σ c := fun c hc => h.1 c (by omega) (by omega)
theorem z_c56 {g : Nat → Nat} {s : Nat → Nat → Nat × Nat} {n : Nat → Nat} {D : Nat → Nat → Prop} {r k jc bw bh : Nat} {t : Lean.Data.AC.Expr} (hm : z_nd t + 1 ≤ 11) (hr : r < 6) (hk : g k = 48 + r) (hkt : k ≤ z_nd t) (hf : z_Fl g 0 t) (hn : (z_rm t).Nodup) (hb : ∀ q ∈ z_rm t, ∀ i, D q i → z_Bs (s q i) 1) (hbr : ∀ j, j < n r → z_Bs (s r j) 1) (hj : jc < n r) (hbw : bw ≤ 400) (hbh : bh ≤ 400)
    (F1 : ∀ j, j < jc → ∀ p, z_out g s (z_Dp D r j) 0 t p → ¬ (p.1 ≤ bw ∧ p.2 ≤ bh)) (F2 : z_out g s (z_Dp D r jc) 0 t (bw, bh)) : ∀ (d j : Nat) (σ : rl_M) (f : Nat) (D0 : Nat → Nat → Prop), j + d = jc → d < f → z_Or σ g (z_nd t + 1) → z_Sz σ n s → z_Tr σ 0 t → σ 12 (z_nd t) = -1 → (∀ q ∈ z_rm t, q ≠ r → ∀ i, D0 q i ↔ D q i) → (∀ i, D0 r i → z_Bs (s r i) 1) → z_CA g s D0 σ 0 t →
    ∃ τ, rf_Pl_chooseFirstSize_L56 (nI k) (nI r) (23 + 3 * z_nd t) (nI bw) (nI bh) f (nI j) σ = some (0, τ) ∧ z_CA g s (z_Dp D r jc) τ 0 t ∧ τ 16 k = nI jc ∧ z_FS k (z_nd t) σ τ := by
  intro d
  induction d with
  | zero =>
    intro j σ f D0 hjd hfd ho hs ht h12 hd hdr hc
    obtain ⟨f, rfl⟩ : ∃ g, f = g + 1 := ⟨f - 1, by omega⟩
    have e : j = jc := by omega
    subst e
    have h4 := (hs r hr).2.1
    have fr : ∀ c, c ≠ 16 → (rl_su σ 16 k (nI j)) c = σ c := fun c hc => z_su_ce hc
    have fr6 : ∀ c, c < 16 → (rl_su σ 16 k (nI j)) c = σ c := fun c hc => z_su_ce (by omega)
    obtain ⟨τ, t1, t2, t3⟩ := z_pin (D := D0) (σ := rl_su σ 16 k (nI j)) (j := j) hm hr hk hkt (z_Or_f fr6 ho) (z_Tr_f fr6 _ _ ht) (by rw [fr 12 (by omega)]; exact h12) hf hn (fun q hq i hi => by
      by_cases e : q = r
      · subst e; exact hdr i hi
      · exact hb q hq i ((hd q hq e i).mp hi)) (hbr j hj) (z_CA_f t 0 (fun c h1 h2 => fr c (by omega)) hc)
    have t2' : z_CA g s (z_Dp D r j) τ 0 t := z_CA_D t 0 (fun q hq i => by
      by_cases e : q = r
      · simp only [z_Dp, if_pos e]
      · simp only [z_Dp, if_neg e]; exact hd q hq e i) t2
    obtain ⟨L, l1, l2, l3⟩ := z_CA_top t2'
    rw [Nat.zero_add] at l1
    have nl := z_nl t
    have bo := fun p hp => z_Bs_6 (z_out_b (D := z_Dp D r j) (g := g) (s := s) t 0 p (by
      intro q hq i hi
      by_cases e : q = r
      · subst e; simp only [z_Dp, if_true] at hi; subst hi; exact hbr i hj
      · simp only [z_Dp, if_neg e] at hi; exact hb q hq i hi) hp) (by omega)
    have hw := z_hwt τ (23 + 3 * z_nd t) bw bh (by omega) (by omega) l1 ⟨by omega, fun p hp => bo p (l2.1 p hp)⟩
    have ha : L.any (fun p => p.1 ≤ bw && p.2 ≤ bh) = true := by
      obtain ⟨q, hq, e⟩ := l2.2.1 _ F2
      rw [List.any_eq_true]
      exact ⟨q, hq, by simpa using e⟩
    rw [ha] at hw
    refine ⟨τ, ?_, t2', ?_, ?_, ?_⟩
    · unfold rf_Pl_chooseFirstSize_L56
      have hs2 := z_Sz_f fr6 hs
      simp (disch := omega) only [z_so hs hr, z_lt, z_le, z_eq, z_ltl, z_lel, z_llt, z_lle, z_eql, z_add, z_addl, z_ladd, z_mul, z_mull, z_lmul, z_sub, z_subl, z_cl, z_ib, z_nm, z_m1, z_mlt, if_pos, if_neg, ge_iff_le, gt_iff_lt, ite_true, ite_false, if_true, if_false, Option.bind_some, z_10, eq_self, z_wo hs2 hr, z_ho hs2 hr, t1, hw]
    · rw [t3.lo 16 (by omega), z_su_s]
    · intro c hc h2
      rw [t3 c (by omega), z_su_ce hc]
    · intro x hx
      rw [t3.lo 16 (by omega), z_su_j hx]
  | succ d ih =>
    intro j σ f D0 hjd hfd ho hs ht h12 hd hdr hc
    obtain ⟨f, rfl⟩ : ∃ g, f = g + 1 := ⟨f - 1, by omega⟩
    have h4 := (hs r hr).2.1
    have fr : ∀ c, c ≠ 16 → (rl_su σ 16 k (nI j)) c = σ c := fun c hc => z_su_ce hc
    have fr6 : ∀ c, c < 16 → (rl_su σ 16 k (nI j)) c = σ c := fun c hc => z_su_ce (by omega)
    obtain ⟨τ, t1, t2, t3⟩ := z_pin (D := D0) (σ := rl_su σ 16 k (nI j)) (j := j) hm hr hk hkt (z_Or_f fr6 ho) (z_Tr_f fr6 _ _ ht) (by rw [fr 12 (by omega)]; exact h12) hf hn (fun q hq i hi => by
      by_cases e : q = r
      · subst e; exact hdr i hi
      · exact hb q hq i ((hd q hq e i).mp hi)) (hbr j (by omega)) (z_CA_f t 0 (fun c h1 h2 => fr c (by omega)) hc)
    have t2' : z_CA g s (z_Dp D r j) τ 0 t := z_CA_D t 0 (fun q hq i => by
      by_cases e : q = r
      · simp only [z_Dp, if_pos e]
      · simp only [z_Dp, if_neg e]; exact hd q hq e i) t2
    obtain ⟨L, l1, l2, l3⟩ := z_CA_top t2'
    rw [Nat.zero_add] at l1
    have nl := z_nl t
    have bo := fun p hp => z_Bs_6 (z_out_b (D := z_Dp D r j) (g := g) (s := s) t 0 p (by
      intro q hq i hi
      by_cases e : q = r
      · subst e; simp only [z_Dp, if_true] at hi; subst hi; exact hbr i (by omega)
      · simp only [z_Dp, if_neg e] at hi; exact hb q hq i hi) hp) (by omega)
    have hw := z_hwt τ (23 + 3 * z_nd t) bw bh (by omega) (by omega) l1 ⟨by omega, fun p hp => bo p (l2.1 p hp)⟩
    have ha : L.any (fun p => p.1 ≤ bw && p.2 ≤ bh) = false := by
      rw [List.any_eq_false]
      intro q hq h
      have := F1 j (by omega) q (l2.1 q hq)
      simp at h
      exact this h
    rw [ha] at hw
    have fr2 : ∀ c, c < 16 → τ c = σ c := fun c hc => (t3.l6 c hc).trans (fr6 c hc)
    obtain ⟨υ, u1, u2, u3, u4⟩ := ih (j + 1) τ f (z_Dp D r j) (by omega) (by omega) (z_Or_f fr2 ho) (z_Sz_f fr2 hs) (z_Tr_f fr2 _ _ ht) (by rw [fr2 12 (by omega)]; exact h12) (fun q hq e i => by simp only [z_Dp, if_neg e]) (fun i hi => by simp only [z_Dp, if_true] at hi; subst hi; exact hbr i (by omega)) t2'
    refine ⟨υ, ?_, u2, u3, ?_, ?_⟩
    · unfold rf_Pl_chooseFirstSize_L56
      have hs2 := z_Sz_f fr6 hs
      simp (disch := omega) only [z_so hs hr, z_lt, z_le, z_eq, z_ltl, z_lel, z_llt, z_lle, z_eql, z_add, z_addl, z_ladd, z_mul, z_mull, z_lmul, z_sub, z_subl, z_cl, z_ib, z_nm, z_m1, z_mlt, if_pos, if_neg, ge_iff_le, gt_iff_lt, ite_true, ite_false, if_true, if_false, Option.bind_some, z_10, eq_self, z_wo hs2 hr, z_ho hs2 hr, t1, hw, u1, Bool.false_eq_true]
    · intro c hc h2
      rw [u4.1 c hc h2, t3 c (by omega), z_su_ce hc]
    · intro x hx
      rw [u4.2 x hx, t3.lo 16 (by omega), z_su_j hx]
