theorem z_o33 (x1 x2 : Int32) : ∀ (d x : Nat) (σ : rl_M), x + d = 401 → ∃ τ, (∀ (K : rl_M → Option (Int32 × rl_M)) (f : Nat), d < f → rf_Mo_outline_L33 x1 x2 K f (nI x) σ = K τ) ∧ (∀ w, w < 401 → τ 76 w = if x ≤ w then nI 1000 else σ 76 w) ∧ (∀ e, e ≠ 76 → τ e = σ e) := by
  intro d
  induction d with
  | zero =>
    intro x σ hx
    refine ⟨σ, ?_, fun q hq => by rw [if_neg (by omega)], fun _ _ => rfl⟩
    intro K f hf
    obtain ⟨f, rfl⟩ : ∃ g, f = g + 1 := ⟨f - 1, by omega⟩
    unfold rf_Mo_outline_L33
    simp (disch := omega) only [z_lt, z_le, z_eq, z_ltl, z_lel, z_llt, z_lle, z_eql, z_add, z_addl, z_ladd, z_mul, z_mull, z_lmul, z_sub, z_subl, z_cl, z_ib, z_nm, z_m1, z_mlt, if_pos, if_neg, ge_iff_le, gt_iff_lt, ite_true, ite_false, if_true, if_false, Option.bind_some, z_10, eq_self]
  | succ d ih =>
    intro x σ hx
    obtain ⟨τ, t1, t2, t3⟩ := ih (x + 1) (rl_su σ 76 x 1000) (by omega)
    refine ⟨τ, ?_, ?_, fun e he => (t3 e he).trans (z_su_ce he)⟩
    · intro K f hf
      obtain ⟨f, rfl⟩ : ∃ g, f = g + 1 := ⟨f - 1, by omega⟩
      have u := t1 K f (by omega)
      unfold rf_Mo_outline_L33
      simp (disch := omega) only [z_lt, z_le, z_eq, z_ltl, z_lel, z_llt, z_lle, z_eql, z_add, z_addl, z_ladd, z_mul, z_mull, z_lmul, z_sub, z_subl, z_cl, z_ib, z_nm, z_m1, z_mlt, if_pos, if_neg, ge_iff_le, gt_iff_lt, ite_true, ite_false, if_true, if_false, Option.bind_some, z_10, eq_self, u]
    · intro q hq
      rw [t2 q hq]
      by_cases c1 : x + 1 ≤ q
      · rw [if_pos c1, if_pos (by omega)]
      · rw [if_neg c1]
        by_cases c2 : x ≤ q
        · have e : q = x := by omega
          subst e
          rw [if_pos (by omega), z_su_s]; rfl
        · rw [if_neg c2, z_su_j (by omega)]
/-- the least heights, by their widths, of the outlines of Q -/
def z_Ls (σ : rl_M) (Q : Nat × Nat → Prop) : Prop := ∃ ls : Nat → Nat, ∀ w, w < 401 → σ 76 w = nI (ls w) ∧ ls w ≤ 1000 ∧ (ls w < 1000 → Q (w, ls w)) ∧ ∀ p, Q p → p.1 = w → ls w ≤ p.2
theorem z_Ls_x {σ τ : rl_M} {P Q : Nat × Nat → Prop} (h : z_Ls σ P) (e : ∀ p, P p ↔ Q p) (e2 : τ 76 = σ 76) : z_Ls τ Q := by
  obtain ⟨ls, h⟩ := h
  refine ⟨ls, fun w hw => ?_⟩
  obtain ⟨h1, h2, h3, h4⟩ := h w hw
  exact ⟨by rw [e2]; exact h1, h2, fun h => (e _).mp (h3 h), fun p hp => h4 p ((e p).mpr hp)⟩
/-- the outlines of the choices in S that fit -/
def z_Oq (g : Nat → Nat) (s : Nat → Nat → Nat × Nat) (t : Lean.Data.AC.Expr) (W H : Nat) (S : (Nat → Nat) → Prop) (p : Nat × Nat) : Prop := ∃ c, S c ∧ z_ft g s t W H c ∧ z_ev g s c 0 t = p
theorem z_olr {g : Nat → Nat} {s : Nat → Nat → Nat × Nat} {n c : Nat → Nat} {t : Lean.Data.AC.Expr} {W H : Nat} {σ : rl_M} (x1 x2 : Int32) (hk : z_Rk n s t) (hC : z_Rc σ g s n t W H) (h67 : ∀ q, q < 6 → σ 67 q = nI (c q)) (hc : z_Ch n t c) (hL : z_Ls σ (z_Oq g s t W H (z_S n t (z_cd c)))) :
    ∃ τ, z_FM σ τ ∧ (∀ q, q < 6 → τ 67 q = nI (c q)) ∧ z_Ls τ (z_Oq g s t W H (z_S n t (z_cd c + 1))) ∧ ∀ (K : rl_M → Option (Int32 × rl_M)) (f : Nat), rf_Mo_outline_L72 x1 x2 K (f + 1) 1 σ = (rf_Mo_nextChoice τ).bind (fun q => rf_Mo_outline_L72 x1 x2 K f q.1 q.2) := by
  obtain ⟨⟨τ1, t1, t2, t3⟩, hb⟩ := z_ch_la hk hC h67 hc
  have hC1 := z_Rc_f t3.fm hC
  have h671 : ∀ q, q < 6 → τ1 67 q = nI (c q) := fun q hq => by rw [t3 67 (by omega) (by omega) (by omega) (by omega) (by omega)]; exact h67 q hq
  have e76 := t3 76 (by omega) (by omega) (by omega) (by omega) (by omega)
  obtain ⟨a1, a2⟩ := z_La_top t2
  rw [Nat.zero_add] at a1 a2
  have hC2 := hC1
  obtain ⟨g1, g2, g3, g4, g5, g6, g7, g8⟩ := hC2
  have g21 := g2.1
  have hb' := hb
  unfold z_Bs at hb'
  by_cases hft : z_ft g s t W H c
  · have hf2 := hft
    unfold z_ft at hf2
    obtain ⟨ls, hls⟩ := hL
    obtain ⟨l1, l2, l3, l4⟩ := hls (z_ev g s c 0 t).1 (by omega)
    have l1' : τ1 76 (z_ev g s c 0 t).1 = nI (ls (z_ev g s c 0 t).1) := by rw [e76]; exact l1
    have fit := z_fits1 hC1 t2 hb hft
    -- the new row of least heights
    have row : ∀ υ : rl_M, (∀ w, w < 401 → w ≠ (z_ev g s c 0 t).1 → υ 76 w = σ 76 w) → υ 76 (z_ev g s c 0 t).1 = nI (min (ls (z_ev g s c 0 t).1) (z_ev g s c 0 t).2) → z_Ls υ (z_Oq g s t W H (z_S n t (z_cd c + 1))) := by
      intro υ u1 u2
      refine ⟨fun w => if w = (z_ev g s c 0 t).1 then min (ls w) (z_ev g s c 0 t).2 else ls w, fun w hw => ?_⟩
      obtain ⟨m1, m2, m3, m4⟩ := hls w hw
      have old : ∀ p, z_Oq g s t W H (z_S n t (z_cd c)) p → z_Oq g s t W H (z_S n t (z_cd c + 1)) p := by
        rintro p ⟨b, b1, b2, b3⟩
        exact ⟨b, ⟨b1.1, by have := b1.2; omega⟩, b2, b3⟩
      by_cases e : w = (z_ev g s c 0 t).1
      · simp only [if_pos e]
        refine ⟨by subst e; exact u2, by omega, ?_, ?_⟩
        · intro h
          by_cases q : ls w ≤ (z_ev g s c 0 t).2
          · rw [show min (ls w) (z_ev g s c 0 t).2 = ls w by omega]
            exact old _ (m3 (by omega))
          · rw [show min (ls w) (z_ev g s c 0 t).2 = (z_ev g s c 0 t).2 by omega, e]
            exact ⟨c, ⟨hc, by omega⟩, hft, rfl⟩
        · rintro p ⟨b, b1, b2, b3⟩ hp
          rcases z_Seq (g := g) hk hc b1 with h | ⟨h, h'⟩
          · have := m4 p ⟨b, h, b2, b3⟩ hp
            omega
          · rw [← b3, h']; omega
      · simp only [if_neg e]
        refine ⟨(u1 w hw e).trans m1, m2, fun h => old _ (m3 h), ?_⟩
        rintro p ⟨b, b1, b2, b3⟩ hp
        rcases z_Seq (g := g) hk hc b1 with h | ⟨h, h'⟩
        · exact m4 p ⟨b, h, b2, b3⟩ hp
        · rw [← b3, h'] at hp; omega
    by_cases q : ls (z_ev g s c 0 t).1 ≤ (z_ev g s c 0 t).2
    · refine ⟨rl_su τ1 76 (z_ev g s c 0 t).1 (nI (ls (z_ev g s c 0 t).1)), ⟨fun e he => by rw [z_su_ce (by omega)]; exact t3.fm.1 e he, fun j j1 j2 j3 => by rw [z_su_c (by omega)]; exact t3.fm.2 j j1 j2 j3⟩, fun q hq => by rw [z_su_c (by omega)]; exact h671 q hq, row _ (fun w hw hne => by rw [z_su_j hne, e76]) (by rw [z_su_s, show min (ls (z_ev g s c 0 t).1) (z_ev g s c 0 t).2 = ls (z_ev g s c 0 t).1 by omega]), ?_⟩
      intro K f
      conv => lhs; unfold rf_Mo_outline_L72
      simp (disch := omega) only [t1, fit, g21, a1, a2, l1', z_lt, z_le, z_eq, z_ltl, z_lel, z_llt, z_lle, z_eql, z_add, z_addl, z_ladd, z_mul, z_mull, z_lmul, z_sub, z_subl, z_cl, z_ib, z_nm, z_m1, z_mlt, if_pos, if_neg, ge_iff_le, gt_iff_lt, ite_true, ite_false, if_true, if_false, Option.bind_some, z_10, eq_self, Nat.add_sub_cancel]
    · refine ⟨rl_su τ1 76 (z_ev g s c 0 t).1 (nI (z_ev g s c 0 t).2), ⟨fun e he => by rw [z_su_ce (by omega)]; exact t3.fm.1 e he, fun j j1 j2 j3 => by rw [z_su_c (by omega)]; exact t3.fm.2 j j1 j2 j3⟩, fun q hq => by rw [z_su_c (by omega)]; exact h671 q hq, row _ (fun w hw hne => by rw [z_su_j hne, e76]) (by rw [z_su_s, show min (ls (z_ev g s c 0 t).1) (z_ev g s c 0 t).2 = (z_ev g s c 0 t).2 by omega]), ?_⟩
      intro K f
      conv => lhs; unfold rf_Mo_outline_L72
      simp (disch := omega) only [t1, fit, g21, a1, a2, l1', z_lt, z_le, z_eq, z_ltl, z_lel, z_llt, z_lle, z_eql, z_add, z_addl, z_ladd, z_mul, z_mull, z_lmul, z_sub, z_subl, z_cl, z_ib, z_nm, z_m1, z_mlt, if_pos, if_neg, ge_iff_le, gt_iff_lt, ite_true, ite_false, if_true, if_false, Option.bind_some, z_10, eq_self, Nat.add_sub_cancel]
  · refine ⟨τ1, t3.fm, h671, z_Ls_x hL (fun p => ⟨?_, ?_⟩) e76, ?_⟩
    · rintro ⟨b, b1, b2, b3⟩
      exact ⟨b, ⟨b1.1, by have := b1.2; omega⟩, b2, b3⟩
    · rintro ⟨b, b1, b2, b3⟩
      rcases z_Seq (g := g) hk hc b1 with h | ⟨h, h'⟩
      · exact ⟨b, h, b2, b3⟩
      · exfalso
        unfold z_ft at hft b2
        rw [h'] at b2
        exact hft b2
    · intro K f
      have fit := z_fits0 hC1 t2 hb hft
      conv => lhs; unfold rf_Mo_outline_L72
      simp (disch := omega) only [t1, fit, z_lt, z_le, z_eq, z_ltl, z_lel, z_llt, z_lle, z_eql, z_add, z_addl, z_ladd, z_mul, z_mull, z_lmul, z_sub, z_subl, z_cl, z_ib, z_nm, z_m1, z_mlt, if_pos, if_neg, ge_iff_le, gt_iff_lt, ite_true, ite_false, if_true, if_false, Option.bind_some, z_10, eq_self]
theorem z_ol72 {g : Nat → Nat} {s : Nat → Nat → Nat × Nat} {n : Nat → Nat} {t : Lean.Data.AC.Expr} {W H : Nat} (x1 x2 : Int32) (hk : z_Rk n s t) : ∀ (d : Nat) (σ : rl_M) (c : Nat → Nat), 4095 ≤ z_cd c + d → z_Rc σ g s n t W H → (∀ q, q < 6 → σ 67 q = nI (c q)) → z_Ch n t c → z_Ls σ (z_Oq g s t W H (z_S n t (z_cd c))) →
    ∃ τ, (∀ (K : rl_M → Option (Int32 × rl_M)) (f : Nat), d + 2 ≤ f → rf_Mo_outline_L72 x1 x2 K f 1 σ = K τ) ∧ z_FM σ τ ∧ z_Ls τ (z_Oq g s t W H (z_Ch n t)) := by
  have fin : ∀ (d : Nat) (σ τ υ : rl_M) (c : Nat → Nat), z_FM σ τ → z_Ls τ (z_Oq g s t W H (z_S n t (z_cd c + 1))) → (∀ (K : rl_M → Option (Int32 × rl_M)) (f : Nat), rf_Mo_outline_L72 x1 x2 K (f + 1) 1 σ = (rf_Mo_nextChoice τ).bind (fun q => rf_Mo_outline_L72 x1 x2 K f q.1 q.2)) → rf_Mo_nextChoice τ = some (0, υ) → (∀ c'', z_Ch n t c'' → z_cd c'' ≤ z_cd c) → (∀ e, e ≠ 67 → υ e = τ e) →
      ∃ τ, (∀ (K : rl_M → Option (Int32 × rl_M)) (f : Nat), d + 2 ≤ f → rf_Mo_outline_L72 x1 x2 K f 1 σ = K τ) ∧ z_FM σ τ ∧ z_Ls τ (z_Oq g s t W H (z_Ch n t)) := by
    intro d σ τ υ c t1 t3 t4 u1 u2 u3
    refine ⟨υ, ?_, t1.tr ⟨fun e he => u3 e (by omega), fun j _ _ _ => by rw [u3 59 (by omega)]⟩, z_Ls_x t3 (fun p => ⟨fun ⟨b, b1, b2⟩ => ⟨b, b1.1, b2⟩, fun ⟨b, b1, b2⟩ => ⟨b, ⟨b1, by have := u2 b b1; omega⟩, b2⟩⟩) (u3 76 (by omega))⟩
    intro K f hf
    obtain ⟨f, rfl⟩ : ∃ g, f = g + 2 := ⟨f - 2, by omega⟩
    rw [t4 K (f + 1), u1]
    simp only [Option.bind_some]
    unfold rf_Mo_outline_L72
    simp only [if_true]
  intro d
  induction d with
  | zero =>
    intro σ c hd hC h67 hc hB
    obtain ⟨τ, t1, t2, t3, t4⟩ := z_olr x1 x2 hk hC h67 hc hB
    have hC1 := z_Rc_f t1 hC
    rcases z_next hk hC1 t2 hc with ⟨υ, c', u1, u2, u3, u4, u5, u6⟩ | ⟨υ, u1, u2, u3⟩
    · exfalso
      have b0 := u3 0 (by omega); have b1 := u3 1 (by omega); have b2 := u3 2 (by omega); have b3 := u3 3 (by omega); have b4 := u3 4 (by omega); have b5 := u3 5 (by omega)
      have d0 := z_u3 hk (show 0 < 6 by omega); have d1 := z_u3 hk (show 1 < 6 by omega); have d2 := z_u3 hk (show 2 < 6 by omega); have d3 := z_u3 hk (show 3 < 6 by omega); have d4 := z_u3 hk (show 4 < 6 by omega); have d5 := z_u3 hk (show 5 < 6 by omega)
      have : z_cd c' ≤ 4095 := by unfold z_cd; omega
      omega
    · exact fin 0 σ τ υ c t1 t3 t4 u1 u2 u3
  | succ d ih =>
    intro σ c hd hC h67 hc hB
    obtain ⟨τ, t1, t2, t3, t4⟩ := z_olr x1 x2 hk hC h67 hc hB
    have hC1 := z_Rc_f t1 hC
    rcases z_next hk hC1 t2 hc with ⟨υ, c', u1, u2, u3, u4, u5, u6⟩ | ⟨υ, u1, u2, u3⟩
    · have fm : z_FM τ υ := ⟨fun e he => u6 e (by omega), fun j _ _ _ => by rw [u6 59 (by omega)]⟩
      obtain ⟨ω, w1, w2, w3⟩ := ih υ c' (by omega) (z_Rc_f fm hC1) u2 u3 (z_Ls_x t3 (fun p => ⟨fun ⟨b, b1, b2⟩ => ⟨b, ⟨b1.1, by have := b1.2; omega⟩, b2⟩, fun ⟨b, b1, b2⟩ => ⟨b, ⟨b1.1, by
        have h1 := b1.2
        by_cases q : z_cd c < z_cd b
        · have := u5 b b1.1 q; omega
        · omega⟩, b2⟩⟩) (u6 76 (by omega)))
      refine ⟨ω, ?_, (t1.tr fm).tr w2, w3⟩
      intro K f hf
      obtain ⟨f, rfl⟩ : ∃ g, f = g + 1 := ⟨f - 1, by omega⟩
      rw [t4 K f, u1]
      simp only [Option.bind_some]
      exact w1 K f (by omega)
    · exact fin (d + 1) σ τ υ c t1 t3 t4 u1 u2 u3
theorem z_scan {σ : rl_M} {Pf : Nat × Nat → Prop} {F : List (Nat × Nat)} {ls : Nat → Nat} {k : Nat} (x2 : Int32) (K : Int32 → rl_M → Option (Int32 × rl_M)) (hk : k < 2147483648) (hl : F.length ≤ 24) (hF : z_Rep F Pf) (hP : ∀ p, Pf p → p.1 ≤ 400 ∧ p.2 ≤ 400) (hL : ∀ w, w < 401 → σ 76 w = nI (ls w) ∧ ls w ≤ 1000 ∧ (ls w < 1000 → Pf (w, ls w)) ∧ ∀ p, Pf p → p.1 = w → ls w ≤ p.2) :
    ∀ (d w : Nat) (A B : List (Nat × Nat)) (low f : Nat), w + d = 401 → d < f → F = A ++ B → (∀ a ∈ A, a.1 < w) → (∀ b ∈ B, w ≤ b.1) → ((A = [] ∧ low = 1000) ∨ ∃ A' a, A = A' ++ [a] ∧ low = a.2) → A.length ≤ k →
    (∀ p, F[k]? = some p → rf_Mo_outline_L168 (nI k) x2 K f (nI low) (nI A.length) (nI w) σ = K (nI p.1) σ) ∧ (F[k]? = none → rf_Mo_outline_L168 (nI k) x2 K f (nI low) (nI A.length) (nI w) σ = some (-1, σ)) := by
  intro d
  induction d with
  | zero =>
    intro w A B low f hw hf hAB hA hB hlow hAk
    obtain ⟨f, rfl⟩ : ∃ g, f = g + 1 := ⟨f - 1, by omega⟩
    have hBn : B = [] := by
      cases B with
      | nil => rfl
      | cons b B =>
        have h1 := hB b (by simp)
        have h2 := hP b (hF.1 b (by rw [hAB]; simp))
        omega
    subst hBn
    rw [List.append_nil] at hAB
    subst hAB
    refine ⟨fun p hp => ?_, fun _ => ?_⟩
    · have := (List.getElem?_eq_some_iff.mp hp).1
      omega
    · unfold rf_Mo_outline_L168
      simp (disch := omega) only [z_lt, z_le, z_eq, z_ltl, z_lel, z_llt, z_lle, z_eql, z_add, z_addl, z_ladd, z_mul, z_mull, z_lmul, z_sub, z_subl, z_cl, z_ib, z_nm, z_m1, z_mlt, if_pos, if_neg, ge_iff_le, gt_iff_lt, ite_true, ite_false, if_true, if_false, Option.bind_some, z_10, eq_self]
  | succ d ih =>
    intro w A B low f hw hf hAB hA hB hlow hAk
    obtain ⟨f, rfl⟩ : ∃ g, f = g + 1 := ⟨f - 1, by omega⟩
    obtain ⟨l1, l2, l3, l4⟩ := hL w (by omega)
    have hlen : A.length + B.length ≤ 24 := by rw [hAB, List.length_append] at hl; exact hl
    have pw := hF.2.2
    rw [hAB] at pw
    have pw2 := List.pairwise_append.mp pw
    have hlow2 : low ≤ 1000 ∧ ∀ a ∈ A, low ≤ a.2 := by
      rcases hlow with ⟨e1, e2⟩ | ⟨A', a, e1, e2⟩
      · subst e1; exact ⟨by omega, by simp⟩
      · refine ⟨?_, ?_⟩
        · have := hP a (hF.1 a (by rw [hAB, e1]; simp)); omega
        · intro b hb
          rw [e1] at hb pw2
          rcases List.mem_append.mp hb with h | h
          · have := ((List.pairwise_append.mp pw2.1).2.2 b h a (by simp)).2
            omega
          · rw [List.mem_singleton] at h; subst h; omega
    by_cases q : ls w < low
    · -- the next outline
      have hq := l3 (by omega)
      obtain ⟨b, hb, e⟩ := hF.2.1 _ hq
      simp only at e
      have hbB : b ∈ B := by
        rw [hAB] at hb
        rcases List.mem_append.mp hb with h | h
        · have := hlow2.2 b h; omega
        · exact h
      have h1 := hB b hbB
      have h2 := l4 b (hF.1 b (by rw [hAB]; simp [hbB])) (by omega)
      cases B with
      | nil => simp at hbB
      | cons b0 B =>
        have hb0 : b = b0 := by
          rcases List.mem_cons.mp hbB with h | h
          · exact h
          · have h3 := ((List.pairwise_cons.mp pw2.2.1).1 b h).1
            have h4 := hB b0 (by simp)
            omega
        subst hb0
        have eb1 : b.1 = w := by omega
        have eb2 : b.2 = ls w := by omega
        by_cases qk : k = A.length
        · subst qk
          have hget : F[A.length]? = some b := by rw [hAB]; simp
          refine ⟨fun p hp => ?_, fun hn => ?_⟩
          · rw [hget] at hp
            have : b = p := Option.some.inj hp
            subst this
            unfold rf_Mo_outline_L168
            simp (disch := omega) only [l1, z_lt, z_le, z_eq, z_ltl, z_lel, z_llt, z_lle, z_eql, z_add, z_addl, z_ladd, z_mul, z_mull, z_lmul, z_sub, z_subl, z_cl, z_ib, z_nm, z_m1, z_mlt, if_pos, if_neg, ge_iff_le, gt_iff_lt, ite_true, ite_false, if_true, if_false, Option.bind_some, z_10, eq_self]
            rw [eb1]
          · rw [hget] at hn; simp at hn
        · have hi := ih (w + 1) (A ++ [b]) B (ls w) f (by omega) (by omega) (by simpa using hAB) (by
            intro a ha
            rcases List.mem_append.mp ha with h | h
            · have := hA a h; omega
            · rw [List.mem_singleton] at h; subst h; omega) (by
            intro a ha
            have := ((List.pairwise_cons.mp pw2.2.1).1 a ha).1
            omega) (Or.inr ⟨A, b, rfl, eb2.symm⟩) (by simp; omega)
          simp only [List.length_append, List.length_singleton] at hi
          have stp : rf_Mo_outline_L168 (nI k) x2 K (f + 1) (nI low) (nI A.length) (nI w) σ = rf_Mo_outline_L168 (nI k) x2 K f (nI (ls w)) (nI (A.length + 1)) (nI (w + 1)) σ := by
            conv => lhs; unfold rf_Mo_outline_L168
            simp (disch := omega) only [l1, z_lt, z_le, z_eq, z_ltl, z_lel, z_llt, z_lle, z_eql, z_add, z_addl, z_ladd, z_mul, z_mull, z_lmul, z_sub, z_subl, z_cl, z_ib, z_nm, z_m1, z_mlt, if_pos, if_neg, ge_iff_le, gt_iff_lt, ite_true, ite_false, if_true, if_false, Option.bind_some, z_10, eq_self]
          rw [stp]
          exact hi
    · have hi := ih (w + 1) A B low f (by omega) (by omega) hAB (fun a ha => by have := hA a ha; omega) (by
        intro b hb
        have h1 := hB b hb
        by_cases e : b.1 = w
        · exfalso
          have hPb := hF.1 b (by rw [hAB]; simp [hb])
          have h2 := l4 b hPb e
          rcases hlow with ⟨e1, e2⟩ | ⟨A', a, e1, e2⟩
          · have := hP b hPb; omega
          · have := (pw2.2.2 a (by rw [e1]; simp) b hb).2
            omega
        · omega) hlow hAk
      have stp : rf_Mo_outline_L168 (nI k) x2 K (f + 1) (nI low) (nI A.length) (nI w) σ = rf_Mo_outline_L168 (nI k) x2 K f (nI low) (nI A.length) (nI (w + 1)) σ := by
        conv => lhs; unfold rf_Mo_outline_L168
        simp (disch := omega) only [l1, z_lt, z_le, z_eq, z_ltl, z_lel, z_llt, z_lle, z_eql, z_add, z_addl, z_ladd, z_mul, z_mull, z_lmul, z_sub, z_subl, z_cl, z_ib, z_nm, z_m1, z_mlt, if_pos, if_neg, ge_iff_le, gt_iff_lt, ite_true, ite_false, if_true, if_false, Option.bind_some, z_10, eq_self]
      rw [stp]
      exact hi
/-- the reference's outline(): number k of the curve -/
theorem z_oend {σ : rl_M} {Pf : Nat × Nat → Prop} {F : List (Nat × Nat)} {k : Nat} {x2 : Int32} (hx2 : x2 = 0 ∨ x2 = 1) (hk : k < 2147483648) (hl : F.length ≤ 24) (hF : z_Rep F Pf) (hP : ∀ p, Pf p → p.1 ≤ 400 ∧ p.2 ≤ 400) (hL : z_Ls σ Pf) :
    ∃ v, rf_Mo_outline_L168 (nI k) x2 (fun (y : Int32) (m : rl_M) => (if x2 = 0 then some (y, m) else (if rl_ib y 401 = true then some (m 76 y.toNatClampNeg, m) else none))) 10000 1000 0 0 σ = some (v, σ) ∧ (∀ p, F[k]? = some p → v = if x2 = 0 then nI p.1 else nI p.2) ∧ (F[k]? = none → v = -1) := by
  obtain ⟨ls, hls⟩ := hL
  have hs := z_scan x2 (fun (y : Int32) (m : rl_M) => (if x2 = 0 then some (y, m) else (if rl_ib y 401 = true then some (m 76 y.toNatClampNeg, m) else none))) hk hl hF hP hls 401 0 [] F 1000 10000 (by omega) (by omega) rfl (by simp) (fun _ _ => Nat.zero_le _) (Or.inl ⟨rfl, rfl⟩) (Nat.zero_le _)
  cases hg : F[k]? with
  | none => exact ⟨-1, hs.2 hg, fun p hp => by simp at hp, fun _ => rfl⟩
  | some p =>
    have hpF : p ∈ F := List.mem_of_getElem? hg
    have hp := hP p (hF.1 p hpF)
    refine ⟨if x2 = 0 then nI p.1 else nI p.2, ?_, fun q hq => by rw [← Option.some.inj hq], fun h => by simp at h⟩
    refine (hs.1 p hg).trans ?_
    rcases hx2 with rfl | rfl
    · simp only [if_true]
    · obtain ⟨l1, l2, l3, l4⟩ := hls p.1 (by omega)
      have e1 := l4 p (hF.1 p hpF) rfl
      obtain ⟨q, hq, e2⟩ := hF.2.1 _ (l3 (by omega))
      simp only at e2
      have e3 : p.2 ≤ ls p.1 := by
        obtain ⟨i, hi, hi2⟩ := List.getElem_of_mem hpF
        obtain ⟨j, hj, hj2⟩ := List.getElem_of_mem hq
        have pw := List.pairwise_iff_getElem.mp hF.2.2
        rcases Nat.lt_trichotomy i j with h | h | h
        · have := pw i j hi hj h
          rw [hi2, hj2] at this; omega
        · subst h
          have : p = q := hi2.symm.trans hj2
          subst this; omega
        · have := pw j i hj hi h
          rw [hi2, hj2] at this; omega
      have e4 : ls p.1 = p.2 := by omega
      rw [e4] at l1
      simp (disch := omega) only [z_lt, z_le, z_eq, z_ltl, z_lel, z_llt, z_lle, z_eql, z_add, z_addl, z_ladd, z_mul, z_mull, z_lmul, z_sub, z_subl, z_cl, z_ib, z_nm, z_m1, z_mlt, if_pos, if_neg, ge_iff_le, gt_iff_lt, ite_true, ite_false, if_true, if_false, Option.bind_some, z_10, eq_self, l1]
theorem z_outR {g : Nat → Nat} {s : Nat → Nat → Nat × Nat} {n : Nat → Nat} {t : Lean.Data.AC.Expr} {W H k : Nat} {σ : rl_M} {F : List (Nat × Nat)} {x2 : Int32} (hx2 : x2 = 0 ∨ x2 = 1) (hk31 : k < 2147483648) (hk : z_Rk n s t) (hC : z_Rc σ g s n t W H) (hl : F.length ≤ 24) (hF : z_Rep F (z_Pf g s n t W H)) :
    ∃ v τ, rf_Mo_outline (nI k) x2 σ = some (v, τ) ∧ (∀ p, F[k]? = some p → v = if x2 = 0 then nI p.1 else nI p.2) ∧ (F[k]? = none → v = -1) ∧ z_FM (rl_su σ 59 0 0) τ := by
  have hC' : z_Rc (rl_su σ 59 0 0) g s n t W H := by
    obtain ⟨h1, h2, h3, h4, h5, h6, h7⟩ := hC
    refine ⟨h1, ?_, ?_, h4, ?_, ?_, h7⟩
    · unfold z_Mo at *; rw [z_su_j (by omega), z_su_ce (by omega)]; exact h2
    · unfold z_Sq at *; rw [z_su_ce (by omega), z_su_ce (by omega), z_su_ce (by omega)]; exact h3
    · rw [z_su_j (by omega)]; exact h5
    · rw [z_su_j (by omega)]; exact h6
  obtain ⟨τ1, t1, t2, t3⟩ := z_o33 (nI k) x2 401 0 (rl_su σ 59 0 0) (by omega)
  obtain ⟨τ2, u1, u2, u3⟩ := z_fch 6 0 τ1 10000 (by omega) (by omega)
  have fm2 : z_FM (rl_su σ 59 0 0) τ2 := ⟨fun e he => by rw [u3 e (by omega), t3 e (by omega)], fun j _ _ _ => by rw [u3 59 (by omega), t3 59 (by omega)]⟩
  have hC2 := z_Rc_f fm2 hC'
  have e7 := hC2.2.1.1
  have b1 := hC2.1
  obtain ⟨τ3, v1, v2, v3⟩ := z_ol72 (nI k) x2 hk 4095 τ2 (fun _ => 0) (by omega) hC2 (fun q hq => by rw [u2 q hq, if_pos (by omega)]; rfl) (fun q hq => Nat.zero_le _) ⟨fun _ => 1000, fun w hw => ⟨by rw [u3 76 (by omega), t2 w hw, if_pos (by omega)], Nat.le_refl _, fun h => absurd (show 1000 < 1000 from h) (by omega), fun p ⟨b, b1, b2⟩ => by have h := b1.2; have e : z_cd (fun _ => 0) = 0 := rfl; omega⟩⟩
  have hP : ∀ p, z_Pf g s n t W H p → p.1 ≤ 400 ∧ p.2 ≤ 400 := fun p hp => by have h := hp.2; have := hC.2.2.2.2.2.2; omega
  obtain ⟨v, w1, w2, w3⟩ := z_oend (σ := τ3) hx2 hk31 hl hF hP (z_Ls_x v3 (fun p => ⟨fun ⟨b, b1, b2, b3⟩ => by subst b3; exact z_Pf_ev hk b1 b2, fun hp => by
    obtain ⟨c, c1, c2⟩ := z_Pf_of hk hp
    exact ⟨c, c1, by unfold z_ft; rw [c2]; exact hp.2, c2⟩⟩) rfl)
  refine ⟨v, τ3, ?_, w2, w3, fm2.tr v2⟩
  unfold rf_Mo_outline
  have i0 : ¬ (nI k < 0) := by rw [z_ltl (by omega) (by omega)]; omega
  have hin : rf_Mo_isIn x2 0 1 σ = some (1, σ) := by
    unfold rf_Mo_isIn
    rcases hx2 with rfl | rfl <;> rfl
  have e00 : (rl_su σ 59 0 0) 59 0 ≤ 0 := by rw [z_su_s]; decide
  rw [if_neg i0, hin]
  simp only [Option.bind_some, z_10, if_false, if_pos e00]
  refine (t1 _ 10000 (by omega)).trans ?_
  have u1' : rf_Mo_firstChoice τ1 = some (0, τ2) := u1
  simp (disch := omega) only [u1', e7, z_lt, z_le, z_eq, z_ltl, z_lel, z_llt, z_lle, z_eql, z_add, z_addl, z_ladd, z_mul, z_mull, z_lmul, z_sub, z_subl, z_cl, z_ib, z_nm, z_m1, z_mlt, if_pos, if_neg, ge_iff_le, gt_iff_lt, ite_true, ite_false, if_true, if_false, Option.bind_some, z_10, eq_self]
  refine (v1 _ 10000 (by omega)).trans ?_
  exact w1
theorem z_outR0 {k : Nat} {σ : rl_M} {x2 : Int32} (hx2 : x2 = 0 ∨ x2 = 1) (hk31 : k < 2147483648) (h7 : σ 59 7 = nI 0) :
    ∃ τ, rf_Mo_outline (nI k) x2 σ = some (-1, τ) ∧ z_FM (rl_su σ 59 0 0) τ := by
  obtain ⟨τ1, t1, t2, t3⟩ := z_o33 (nI k) x2 401 0 (rl_su σ 59 0 0) (by omega)
  obtain ⟨τ2, u1, u2, u3⟩ := z_fch 6 0 τ1 10000 (by omega) (by omega)
  have fm2 : z_FM (rl_su σ 59 0 0) τ2 := ⟨fun e he => by rw [u3 e (by omega), t3 e (by omega)], fun j _ _ _ => by rw [u3 59 (by omega), t3 59 (by omega)]⟩
  have e7 : τ2 59 7 = nI 0 := by rw [fm2.2 7 (by omega) (by omega) (by omega), z_su_j (by omega)]; exact h7
  obtain ⟨v, w1, w2, w3⟩ := z_oend (σ := τ2) (Pf := fun _ => False) (F := []) hx2 hk31 (by simp) ⟨by simp, fun p hp => hp.elim, by simp⟩ (fun p hp => hp.elim) ⟨fun _ => 1000, fun w hw => ⟨by rw [u3 76 (by omega), t2 w hw, if_pos (by omega)], Nat.le_refl _, fun h => absurd (show 1000 < 1000 from h) (by omega), fun p hp => hp.elim⟩⟩
  have ev := w3 (by simp)
  subst ev
  refine ⟨τ2, ?_, fm2⟩
  unfold rf_Mo_outline
  have i0 : ¬ (nI k < 0) := by rw [z_ltl (by omega) (by omega)]; omega
  have hin : rf_Mo_isIn x2 0 1 σ = some (1, σ) := by
    unfold rf_Mo_isIn
    rcases hx2 with rfl | rfl <;> rfl
  have e00 : (rl_su σ 59 0 0) 59 0 ≤ 0 := by rw [z_su_s]; decide
  have e0 : nI 0 ≤ 0 := by decide
  rw [if_neg i0, hin]
  simp only [Option.bind_some, z_10, if_false, if_pos e00]
  refine (t1 _ 10000 (by omega)).trans ?_
  have u1' : rf_Mo_firstChoice τ1 = some (0, τ2) := u1
  simp only [u1', Option.bind_some, e7, e0, if_true]
  unfold rf_Mo_outline_L72
  simp only [if_true]
  exact w1
