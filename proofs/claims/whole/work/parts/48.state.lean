/-- the abstract state: rooms, their sizes, lot, signs and tree of the order, wishes -/
abbrev z_A : Type := Nat × (Nat → Nat) × (Nat → Nat → Nat × Nat) × (Nat × Nat) × (Nat → Nat) × Option Lean.Data.AC.Expr × Nat × (Nat → Nat) × (Nat → Nat) × (Nat → Nat)
abbrev z_aN (A : z_A) : Nat := A.1
abbrev z_an (A : z_A) : Nat → Nat := A.2.1
abbrev z_as (A : z_A) : Nat → Nat → Nat × Nat := A.2.2.1
abbrev z_aW (A : z_A) : Nat := A.2.2.2.1.1
abbrev z_aH (A : z_A) : Nat := A.2.2.2.1.2
abbrev z_ag (A : z_A) : Nat → Nat := A.2.2.2.2.1
abbrev z_ao (A : z_A) : Option Lean.Data.AC.Expr := A.2.2.2.2.2.1
abbrev z_ak (A : z_A) : Nat := A.2.2.2.2.2.2.1
abbrev z_a1 (A : z_A) : Nat → Nat := A.2.2.2.2.2.2.2.1
abbrev z_a2 (A : z_A) : Nat → Nat := A.2.2.2.2.2.2.2.2.1
abbrev z_a3 (A : z_A) : Nat → Nat := A.2.2.2.2.2.2.2.2.2
/-- the rooms and sizes are as they may be -/
def z_Oa (N : Nat) (n : Nat → Nat) (s : Nat → Nat → Nat × Nat) : Prop := N ≤ 6 ∧ (∀ r, N ≤ r → r < 6 → n r = 0) ∧ ∀ r, r < 6 → n r ≤ 4 ∧ ∀ j, j < n r → z_Bs (s r j) 1
def z_Ot (n g : Nat → Nat) (t : Lean.Data.AC.Expr) : Prop := z_nd t + 1 ≤ 11 ∧ z_Fl g 0 t ∧ (z_rm t).Nodup ∧ ∀ r ∈ z_rm t, r < 6 ∧ n r ≠ 0
def z_Ok (A : z_A) : Prop := z_Oa (z_aN A) (z_an A) (z_as A) ∧ (z_aW A ≤ 400 ∧ z_aH A ≤ 400) ∧ (z_ak A ≤ 10 ∧ ∀ i, i < z_ak A → z_a1 A i < z_aN A ∧ z_a2 A i < z_aN A ∧ 1 ≤ z_a3 A i ∧ z_a3 A i ≤ 60) ∧ ∀ t, z_ao A = some t → z_Ot (z_an A) (z_ag A) t
/-- the class's cells hold the state -/
def z_Cw (σ : rl_M) (k : Nat) (a1 a2 a3 : Nat → Nat) : Prop := σ 19 0 = nI k ∧ ∀ i, i < k → σ 20 i = nI (a1 i) ∧ σ 21 i = nI (a2 i) ∧ σ 22 i = nI (a3 i)
def z_Co1 (σ : rl_M) (g : Nat → Nat) (o : Option Lean.Data.AC.Expr) : Prop := (o = none → σ 8 0 = nI 0 ∧ ∀ r, r < 6 → σ 14 r = -1) ∧ ∀ t, o = some t → z_Or σ g (z_nd t + 1) ∧ z_Tr σ 0 t ∧ σ 12 (z_nd t) = -1 ∧ z_Rn σ g t
def z_Cs (σ : rl_M) (A : z_A) : Prop := σ 4 0 = nI (z_aN A) ∧ z_Sz σ (z_an A) (z_as A) ∧ (σ 3 2 = nI (z_aW A) ∧ σ 3 3 = nI (z_aH A)) ∧ z_Co1 σ (z_ag A) (z_ao A) ∧ z_Cw σ (z_ak A) (z_a1 A) (z_a2 A) (z_a3 A)
/-- the reference's cells hold the state -/
def z_Rw (σ : rl_M) (k : Nat) (a1 a2 a3 : Nat → Nat) : Prop := σ 59 9 = nI k ∧ ∀ i, i < k → σ 64 i = nI (a1 i) ∧ σ 65 i = nI (a2 i) ∧ σ 66 i = nI (a3 i)
def z_Ro1 (σ : rl_M) (g : Nat → Nat) (o : Option Lean.Data.AC.Expr) : Prop := (o = none → σ 59 7 = nI 0) ∧ ∀ t, o = some t → z_Mo σ g (z_nd t + 1)
def z_Rs (σ : rl_M) (A : z_A) : Prop := σ 59 1 = nI (z_aN A) ∧ z_Sq σ (z_an A) (z_as A) ∧ (σ 59 5 = nI (z_aW A) ∧ σ 59 6 = nI (z_aH A)) ∧ z_Ro1 σ (z_ag A) (z_ao A) ∧ z_Rw σ (z_ak A) (z_a1 A) (z_a2 A) (z_a3 A)
/-- the outlines that fit -/
def z_Pa (A : z_A) (p : Nat × Nat) : Prop := ∃ t, z_ao A = some t ∧ z_Pf (z_ag A) (z_as A) (z_an A) t (z_aW A) (z_aH A) p
def z_Ba (A : z_A) (t : Lean.Data.AC.Expr) (c : Nat → Nat) : Prop := z_ao A = some t ∧ z_Best (z_ag A) (z_as A) (z_an A) t (z_aW A) (z_aH A) c
/-- what measure() and settle() have left -/
def z_Fg (σ : rl_M) (A : z_A) : Prop := (σ 3 4 = 0 ∧ σ 3 5 = 0) ∨ (σ 3 4 = 1 ∧ z_Ms σ (z_Pa A) ∧ ((σ 3 5 = 0 ∧ ∀ t, z_ao A = some t → z_CA (z_ag A) (z_as A) (fun r j => j < z_an A r) σ 0 t) ∨ (σ 3 5 = 1 ∧ ∃ t c, z_Ba A t c ∧ z_Dn σ (z_ag A) (z_as A) t c)))
def z_Inv (σ : rl_M) : Prop := ∃ A, z_Ok A ∧ z_Cs σ A ∧ z_Rs σ A ∧ z_Fg σ A
theorem z_Ok.rk {A : z_A} (h : z_Ok A) {t : Lean.Data.AC.Expr} (e : z_ao A = some t) : z_Rk (z_an A) (z_as A) t := by
  have ht := h.2.2.2 t e
  refine ⟨ht.2.2.1, fun r hr => ?_, fun r hr => (h.1.2.2 r hr).1⟩
  have h1 := ht.2.2.2 r hr
  exact ⟨h1.1, by have := h1.2; omega, (h.1.2.2 r h1.1).2⟩
theorem z_Ok.lt {A : z_A} (h : z_Ok A) {t : Lean.Data.AC.Expr} (e : z_ao A = some t) : ∀ r ∈ z_rm t, r < z_aN A := by
  intro r hr
  have h1 := (h.2.2.2 t e).2.2.2 r hr
  have h2 := h.1.2.1 r
  by_cases q : z_aN A ≤ r
  · exact (h1.2 (h2 q h1.1)).elim
  · omega
theorem z_Cs.ct {σ : rl_M} {A : z_A} (h : z_Ok A) (hc : z_Cs σ A) {t : Lean.Data.AC.Expr} (e : z_ao A = some t) : z_Ct σ (z_ag A) (z_as A) (z_an A) t (z_aN A) := by
  have ht := h.2.2.2 t e
  have ho := hc.2.2.2.1.2 t e
  exact ⟨ht.1, ho.1, hc.2.1, ho.2.1, ho.2.2.1, ht.2.1, ho.2.2.2, hc.1, h.1.1, h.lt e⟩
theorem z_Rs.rc {σ : rl_M} {A : z_A} (h : z_Ok A) (hc : z_Rs σ A) {t : Lean.Data.AC.Expr} (e : z_ao A = some t) : z_Rc σ (z_ag A) (z_as A) (z_an A) t (z_aW A) (z_aH A) := by
  have ht := h.2.2.2 t e
  exact ⟨ht.1, hc.2.2.2.1.2 t e, hc.2.1, ht.2.1, hc.2.2.1.1, hc.2.2.1.2, h.2.1.1, h.2.1.2⟩
theorem z_Pa_some {A : z_A} {t : Lean.Data.AC.Expr} (e : z_ao A = some t) (p : Nat × Nat) : z_Pa A p ↔ z_Pf (z_ag A) (z_as A) (z_an A) t (z_aW A) (z_aH A) p := by
  constructor
  · rintro ⟨t', e', h⟩
    rw [e] at e'
    have := Option.some.inj e'
    subst this; exact h
  · intro h; exact ⟨t, e, h⟩
theorem z_Pa_none {A : z_A} (e : z_ao A = none) (p : Nat × Nat) : z_Pa A p ↔ False := by
  constructor
  · rintro ⟨t', e', h⟩
    rw [e] at e'; simp at e'
  · intro h; exact h.elim
theorem z_Ms_x {σ : rl_M} {P Q : Nat × Nat → Prop} (h : z_Ms σ P) (e : ∀ p, P p ↔ Q p) : z_Ms σ Q := by
  obtain ⟨F, y, h1, h2, h3, h4⟩ := h
  exact ⟨F, y, h1, h2, z_Rep_x h3 e, h4⟩
theorem z_Cs_f {σ τ : rl_M} {A : z_A} (h : z_FC σ τ) (hc : z_Cs σ A) : z_Cs τ A := by
  obtain ⟨h1, h2, h3, h4, h5⟩ := hc
  have e : ∀ c, c < 16 → c ≠ 3 → τ c = σ c := fun c hc hn => h.1 c (by omega)
  refine ⟨by rw [e 4 (by omega) (by omega)]; exact h1, ?_, ⟨by rw [h.2 2 (by omega) (by omega) (by omega)]; exact h3.1, by rw [h.2 3 (by omega) (by omega) (by omega)]; exact h3.2⟩, ⟨fun hn => ?_, fun t ht => ?_⟩, ?_⟩
  · unfold z_Sz at *; rw [e 5 (by omega) (by omega), e 6 (by omega) (by omega), e 7 (by omega) (by omega)]; exact h2
  · rw [e 8 (by omega) (by omega), e 14 (by omega) (by omega)]; exact h4.1 hn
  · obtain ⟨a1, a2, a3, a4⟩ := h4.2 t ht
    refine ⟨?_, ?_, by rw [e 12 (by omega) (by omega)]; exact a3, ?_⟩
    · unfold z_Or at *; rw [e 8 (by omega) (by omega), e 9 (by omega) (by omega)]; exact a1
    · exact z_Tr_g t 0 (fun j _ _ => by rw [e 10 (by omega) (by omega), e 11 (by omega) (by omega)]; exact ⟨rfl, rfl⟩) (fun j _ _ => by rw [e 12 (by omega) (by omega)]) a2
    · unfold z_Rn at *; rw [e 14 (by omega) (by omega)]; exact a4
  · unfold z_Cw at *; rw [h.1 19 (by omega), h.1 20 (by omega), h.1 21 (by omega), h.1 22 (by omega)]; exact h5
theorem z_Rs_c {σ τ : rl_M} {A : z_A} (h : ∀ c, 59 ≤ c → c ≤ 66 → τ c = σ c) (hc : z_Rs σ A) : z_Rs τ A := by
  obtain ⟨h1, h2, h3, h4, h5⟩ := hc
  refine ⟨by rw [h 59 (by omega) (by omega)]; exact h1, ?_, by rw [h 59 (by omega) (by omega)]; exact h3, ⟨fun hn => by rw [h 59 (by omega) (by omega)]; exact h4.1 hn, fun t ht => ?_⟩, ?_⟩
  · unfold z_Sq at *; rw [h 60 (by omega) (by omega), h 61 (by omega) (by omega), h 62 (by omega) (by omega)]; exact h2
  · have := h4.2 t ht
    unfold z_Mo at *; rw [h 59 (by omega) (by omega), h 63 (by omega) (by omega)]; exact this
  · unfold z_Rw at *; rw [h 59 (by omega) (by omega), h 64 (by omega) (by omega), h 65 (by omega) (by omega), h 66 (by omega) (by omega)]; exact h5
theorem z_Rs_f {σ τ : rl_M} {A : z_A} (h : z_FM σ τ) (hc : z_Rs σ A) : z_Rs τ A := by
  obtain ⟨h1, h2, h3, h4, h5⟩ := hc
  refine ⟨by rw [h.2 1 (by omega) (by omega) (by omega)]; exact h1, ?_, ⟨by rw [h.2 5 (by omega) (by omega) (by omega)]; exact h3.1, by rw [h.2 6 (by omega) (by omega) (by omega)]; exact h3.2⟩, ⟨fun hn => by rw [h.2 7 (by omega) (by omega) (by omega)]; exact h4.1 hn, fun t ht => ?_⟩, ?_⟩
  · unfold z_Sq at *; rw [h.1 60 (by omega), h.1 61 (by omega), h.1 62 (by omega)]; exact h2
  · have := h4.2 t ht
    unfold z_Mo at *; rw [h.2 7 (by omega) (by omega) (by omega), h.1 63 (by omega)]; exact this
  · unfold z_Rw at *; rw [h.2 9 (by omega) (by omega) (by omega), h.1 64 (by omega), h.1 65 (by omega), h.1 66 (by omega)]; exact h5
/-- the class's half is the same where the cells below 59 are -/
theorem z_Cs_l {σ τ : rl_M} {A : z_A} (h : ∀ c, c < 59 → τ c = σ c) (hc : z_Cs σ A) : z_Cs τ A := by
  obtain ⟨h1, h2, h3, h4, h5⟩ := hc
  refine ⟨by rw [h 4 (by omega)]; exact h1, ?_, by rw [h 3 (by omega)]; exact h3, ⟨fun hn => ?_, fun t ht => ?_⟩, ?_⟩
  · unfold z_Sz at *; rw [h 5 (by omega), h 6 (by omega), h 7 (by omega)]; exact h2
  · rw [h 8 (by omega), h 14 (by omega)]; exact h4.1 hn
  · obtain ⟨a1, a2, a3, a4⟩ := h4.2 t ht
    refine ⟨?_, ?_, by rw [h 12 (by omega)]; exact a3, ?_⟩
    · unfold z_Or at *; rw [h 8 (by omega), h 9 (by omega)]; exact a1
    · exact z_Tr_g t 0 (fun j _ _ => by rw [h 10 (by omega), h 11 (by omega)]; exact ⟨rfl, rfl⟩) (fun j _ _ => by rw [h 12 (by omega)]) a2
    · unfold z_Rn at *; rw [h 14 (by omega)]; exact a4
  · unfold z_Cw at *; rw [h 19 (by omega), h 20 (by omega), h 21 (by omega), h 22 (by omega)]; exact h5
theorem z_Dn_l {σ τ : rl_M} {g : Nat → Nat} {s : Nat → Nat → Nat × Nat} {t : Lean.Data.AC.Expr} {c : Nat → Nat} (hm : z_nd t + 1 ≤ 11) (h : ∀ c, c = 3 ∨ (16 ≤ c ∧ c ≤ 18) ∨ (23 ≤ c ∧ c < 59) → τ c = σ c) (hd : z_Dn σ g s t c) : z_Dn τ g s t c := by
  refine ⟨z_CA_f t 0 (fun e h1 h2 => h e (by omega)) hd.1, ?_, ?_⟩
  · rw [h 16 (by omega)]; exact hd.2.1
  · rw [h 17 (by omega), h 18 (by omega)]; exact hd.2.2
theorem z_Fg_l {σ τ : rl_M} {A : z_A} (ok : z_Ok A) (h : ∀ c, c = 3 ∨ (16 ≤ c ∧ c ≤ 18) ∨ (23 ≤ c ∧ c < 59) → τ c = σ c) (hc : z_Fg σ A) : z_Fg τ A := by
  rcases hc with ⟨h1, h2⟩ | ⟨h1, ⟨F, y, m1, m2, m3, m4⟩, h3⟩
  · exact Or.inl ⟨by rw [h 3 (by omega)]; exact h1, by rw [h 3 (by omega)]; exact h2⟩
  · refine Or.inr ⟨by rw [h 3 (by omega)]; exact h1, ⟨F, y, z_Cv_c m1 (h _ (by omega)) (h _ (by omega)) (h _ (by omega)), m2, m3, by rw [h 3 (by omega)]; exact m4⟩, ?_⟩
    rcases h3 with ⟨a, b⟩ | ⟨a, t, c, b1, b2⟩
    · refine Or.inl ⟨by rw [h 3 (by omega)]; exact a, fun t ht => z_CA_f t 0 (fun e h1 h2 => h e ?_) (b t ht)⟩
      have := (ok.2.2.2 t ht).1
      omega
    · exact Or.inr ⟨by rw [h 3 (by omega)]; exact a, t, c, b1, z_Dn_l (ok.2.2.2 t b1.1).1 h b2⟩
theorem z_M {σ : rl_M} {A : z_A} (ok : z_Ok A) (hc : z_Cs σ A) (hf : z_Fg σ A) : ∃ τ, rf_Pl_measure σ = some (0, τ) ∧ z_Cs τ A ∧ z_Fg τ A ∧ τ 3 4 = 1 ∧ z_Ms τ (z_Pa A) ∧ z_FC σ τ := by
  rcases hf with ⟨h1, h2⟩ | ⟨h1, h2, h3⟩
  · cases e : z_ao A with
    | none =>
      obtain ⟨τ, t1, t2, t3, t4, t5⟩ := z_ms0 h1 (hc.2.2.2.1.1 e).1
      have ms := z_Ms_x t2 (fun p => (z_Pa_none e p).symm)
      exact ⟨τ, t1, z_Cs_f t5 hc, Or.inr ⟨t3, ms, Or.inl ⟨t4.trans h2, fun t ht => by rw [e] at ht; simp at ht⟩⟩, t3, ms, t5⟩
    | some t =>
      have ct := hc.ct ok e
      have rk := ok.rk e
      obtain ⟨τ, t1, t2, t3, t4, t5, t6⟩ := z_msT (W := z_aW A) (H := z_aH A) h1 ct.1 ct.2.1 ct.2.2.1 ct.2.2.2.1 ct.2.2.2.2.2.1 (fun r hr => (rk.2.1 r hr).2.2) hc.2.2.1.1 hc.2.2.1.2 ok.2.1.1 ok.2.1.2
      have ms : z_Ms τ (z_Pa A) := z_Ms_x t3 (fun p => (z_Pa_some e p).symm)
      refine ⟨τ, t1, z_Cs_f t6 hc, Or.inr ⟨t4, ms, Or.inl ⟨t5.trans h2, fun t' ht => ?_⟩⟩, t4, ms, t6⟩
      rw [e] at ht
      have := Option.some.inj ht
      subst this; exact t2
  · exact ⟨σ, z_ms1 h1, hc, Or.inr ⟨h1, h2, h3⟩, h1, h2, z_FC.rf⟩
/-- a best choice stands in the class's cells, or there is none -/
def z_Set (σ : rl_M) (A : z_A) : Prop := (σ 3 8 = -1 ∧ ∀ p, ¬ z_Pa A p) ∨ ∃ t c i, z_Ba A t c ∧ z_Dn σ (z_ag A) (z_as A) t c ∧ σ 3 8 = nI i ∧ i < 24
theorem z_Sl {σ : rl_M} {A : z_A} (ok : z_Ok A) (hc : z_Cs σ A) (hf : z_Fg σ A) : ∃ τ, rf_Pl_settle σ = some (0, τ) ∧ z_Cs τ A ∧ z_Fg τ A ∧ z_Ms τ (z_Pa A) ∧ z_Set τ A ∧ z_FC σ τ := by
  obtain ⟨τ, t1, t2, t3, t4, t5, t6⟩ := z_M ok hc hf
  have t3' := t3
  rcases t3 with ⟨h1, h2⟩ | ⟨h1, h2, h3⟩
  · rw [t4] at h1; exact absurd h1 (by decide)
  · have hp : rf_Pl_settle σ = rf_Pl_settle τ := by
      unfold rf_Pl_settle
      rw [t1, z_ms1 t4]
    rcases h3 with ⟨h5, h6⟩ | ⟨h5, t, c, b1, b2⟩
    · rcases z_bo h2 with ⟨e1, e2⟩ | ⟨i, p, e1, e2, e3, e4, e5⟩
      · refine ⟨τ, ?_, t2, t3', t5, Or.inl ⟨e1, e2⟩, t6⟩
        rw [hp]
        unfold rf_Pl_settle
        rw [z_ms1 t4]
        simp only [Option.bind_some, h5, if_true, z_hb0 e1]
      · obtain ⟨t, e, hpf⟩ := e3.1
        have rk := ok.rk e
        have bo : z_BO (z_Pf (z_ag A) (z_as A) (z_an A) t (z_aW A) (z_aH A)) p := ⟨hpf, fun q hq => e3.2 q ⟨t, e, hq⟩⟩
        obtain ⟨c, c1, c2⟩ := z_best_ex rk bo
        obtain ⟨υ, u1, u2, u3, u4, u5, u6⟩ := z_settle t4 h5 (t2.ct ok e) rk c1 ok.2.1.1 ok.2.1.2 (z_Ms_x t5 (z_Pa_some e)) (h6 t e)
        have ms : z_Ms υ (z_Pa A) := z_Ms_x u3 (fun p => (z_Pa_some e p).symm)
        obtain ⟨⟨j, j1, j2⟩, -, -⟩ := z_bob rk c1 u3
        exact ⟨υ, hp.trans u1, z_Cs_f u6 t2, Or.inr ⟨u4, ms, Or.inr ⟨u5, t, c, ⟨e, c1⟩, u2⟩⟩, ms, Or.inr ⟨t, c, j, ⟨e, c1⟩, u2, j1, j2⟩, t6.tr u6⟩
    · obtain ⟨⟨j, j1, j2⟩, -, -⟩ := z_bob (ok.rk b1.1) b1.2 (z_Ms_x t5 (z_Pa_some b1.1))
      refine ⟨τ, ?_, t2, t3', t5, Or.inr ⟨t, c, j, b1, b2, j1, j2⟩, t6⟩
      rw [hp]
      unfold rf_Pl_settle
      rw [z_ms1 t4]
      have e10 : ¬ ((1 : Int32) = 0) := by decide
      simp only [Option.bind_some, h5, e10, if_false]
/-- the reference has its best choice, or none -/
def z_Fd (σ : rl_M) (A : z_A) : Prop := (σ 59 15 = 0 ∧ ∀ p, ¬ z_Pa A p) ∨ ∃ t c, z_Ba A t c ∧ σ 59 15 = 1 ∧ σ 59 16 = nI (z_ev (z_ag A) (z_as A) c 0 t).1 ∧ σ 59 17 = nI (z_ev (z_ag A) (z_as A) c 0 t).2 ∧ (∀ q, q < 6 → σ 68 q = nI (c q)) ∧ z_La σ (z_ag A) (z_as A) c 0 t ∧ z_Co (σ 71) (σ 72) (z_ag A) (z_as A) c 0 t 0 0
theorem z_Fb {σ : rl_M} {A : z_A} (ok : z_Ok A) (hc : z_Rs σ A) : ∃ τ, rf_Mo_findBest σ = some (0, τ) ∧ z_Rs τ A ∧ z_Fd τ A ∧ z_FM σ τ := by
  cases e : z_ao A with
  | none =>
    obtain ⟨τ, t1, t2, t3⟩ := z_find0 (hc.2.2.2.1.1 e)
    exact ⟨τ, t1, z_Rs_f t2 hc, Or.inl ⟨t3, fun p hp => (z_Pa_none e p).mp hp⟩, t2⟩
  | some t =>
    obtain ⟨τ, t1, t2, t3⟩ := z_find (ok.rk e) (hc.rc ok e)
    refine ⟨τ, t1, z_Rs_f t2 hc, ?_, t2⟩
    rcases t3 with ⟨h1, h2⟩ | ⟨c, h1, h2⟩
    · exact Or.inl ⟨h1, fun p hp => h2 p ((z_Pa_some e p).mp hp)⟩
    · exact Or.inr ⟨t, c, ⟨e, h1⟩, h2⟩
