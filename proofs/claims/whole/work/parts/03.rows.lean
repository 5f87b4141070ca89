/-- the numbers that the cells hold: a cell's number, a place in it -/
abbrev rl_M : Type := Nat → Nat → Int32
/-- where the cells lie; numbers of classes and slots; the classes of int[], long[], Curve[] -/
abbrev rl_E : Type := (Nat → Nat) × va_G × ClassId × ClassId × ClassId
def rl_su (σ : rl_M) (a j : Nat) (v : Int32) : rl_M := fun k => if k = a then upd (σ a) j v else σ k
theorem rl_su_s (σ : rl_M) (a j : Nat) (v : Int32) : rl_su σ a j v a = upd (σ a) j v := if_pos rfl
theorem rl_su_n {σ : rl_M} {a j : Nat} {v : Int32} {k : Nat} (h : k ≠ a) : rl_su σ a j v k = σ k := if_neg h
def rl_ib (i : Int32) (n : Nat) : Bool := decide (0 ≤ i.toInt) && decide (i.toInt < (n : Int))
theorem rl_ib_in {i : Int32} {n : Nat} (h : rl_ib i n = true) : vp_in i n := by
  rw [vp_in_iff]; simpa [rl_ib] using h
def rl_zb (v : Int32) : Bool := decide (v = 0) || decide (v = 1)
theorem rl_if {α : Type} {c : Prop} {i : Decidable c} {a : Option α} {r : α} (h : @ite _ c i a none = some r) : c ∧ a = some r := by
  by_cases hc : c
  · rw [if_pos hc] at h; exact ⟨hc, h⟩
  · rw [if_neg hc] at h; cases h
theorem rl_ift {α : Type} {c : Prop} {i : Decidable c} {a b : Option α} {r : α} (hc : c) (h : @ite _ c i a b = some r) : a = some r := by rwa [if_pos hc] at h
theorem rl_iff {α : Type} {c : Prop} {i : Decidable c} {a b : Option α} {r : α} (hc : ¬ c) (h : @ite _ c i a b = some r) : b = some r := by rwa [if_neg hc] at h
theorem rl_bd {α β : Type} {x : Option α} {f : α → Option β} {r : β} (h : x.bind f = some r) : ∃ q, x = some q ∧ f q = some r := by
  cases x with
  | none => cases h
  | some q => exact ⟨q, rfl, h⟩
theorem rl_ns {α : Type} {r : α} (h : none = some r) : False := by cases h
abbrev rl_Cl : List vw_C := [(nR_Ro, nT_Ro, 3), (nR_Sr, nT_Sr, 2), (nR_Pl, nT_Pl, 12), (nR_Rl, nT_Rl, 4), (nR_St, nT_St, 7), (nR_Wl, nT_Wl, 4), (nR_Cu, nT_Cu, 3), (nR_Mo, nT_Mo, 27)]
def rl_N : Nat := 79
def rl_cv (i : Int32) : Nat := 23 + 3 * i.toNatClampNeg
def rl_cvb (a : Nat) : Bool := decide (23 ≤ a) && (decide (a < 59) && decide ((a - 23) % 3 = 0))
theorem rl_cvb_iff {a : Nat} : rl_cvb a = true ↔ 23 ≤ a ∧ a < 59 ∧ (a - 23) % 3 = 0 := by simp [rl_cvb]
theorem rl_cv56 : rl_cvb 56 = true := by decide
theorem rl_cv_ok {i : Int32} (h : rl_ib i 11 = true) : rl_cvb (rl_cv i) = true := by
  have h1 : i.toNatClampNeg < 11 := by
    have := rl_ib_in h
    exact Nat.not_le.mp fun q => this (Or.inr q)
  rw [rl_cvb_iff, rl_cv]; omega
def rl_lo (E : rl_E) (k : Nat) (f : Nat → Int32) : va_E := match k with
  | 0 => .inr (0, [.ref (E.1 1), .ref (E.1 3), .ref (E.1 19)])
  | 1 => .inr (1, [.int (f 0), .ref (E.1 2)])
  | 2 => .inl (E.2.2.1, 16, .inl f)
  | 3 => .inr (2, [.ref (E.1 4), .ref (E.1 8), .int (f 2), .int (f 3), .int (f 4), .int (f 5), .ref (E.1 15), .ref (E.1 56), .int (f 8), .ref (E.1 16), .ref (E.1 17), .ref (E.1 18)])
  | 4 => .inr (3, [.int (f 0), .ref (E.1 5), .ref (E.1 6), .ref (E.1 7)])
  | 5 => .inl (E.2.2.1, 6, .inl f)
  | 6 => .inl (E.2.2.1, 24, .inl f)
  | 7 => .inl (E.2.2.1, 24, .inl f)
  | 8 => .inr (4, [.int (f 0), .ref (E.1 9), .ref (E.1 10), .ref (E.1 11), .ref (E.1 12), .ref (E.1 13), .ref (E.1 14)])
  | 9 => .inl (E.2.2.1, 11, .inl f)
  | 10 => .inl (E.2.2.1, 11, .inl f)
  | 11 => .inl (E.2.2.1, 11, .inl f)
  | 12 => .inl (E.2.2.1, 11, .inl f)
  | 13 => .inl (E.2.2.1, 11, .inl f)
  | 14 => .inl (E.2.2.1, 6, .inl f)
  | 15 => .inl (E.2.2.2.2, 11, .inr (.inr (.inr (.inr (fun i => some (E.1 (23 + 3 * i)))))))
  | 16 => .inl (E.2.2.1, 11, .inl f)
  | 17 => .inl (E.2.2.1, 11, .inl f)
  | 18 => .inl (E.2.2.1, 11, .inl f)
  | 19 => .inr (5, [.int (f 0), .ref (E.1 20), .ref (E.1 21), .ref (E.1 22)])
  | 20 => .inl (E.2.2.1, 10, .inl f)
  | 21 => .inl (E.2.2.1, 10, .inl f)
  | _ => .inl (E.2.2.1, 10, .inl f)
def rl_hi (E : rl_E) (k : Nat) (f : Nat → Int32) : va_E := match k with
  | 0 => .inr (7, [.int (f 0), .int (f 1), .ref (E.1 60), .ref (E.1 61), .ref (E.1 62), .int (f 5), .int (f 6), .int (f 7), .ref (E.1 63), .int (f 9), .ref (E.1 64), .ref (E.1 65), .ref (E.1 66), .ref (E.1 67), .ref (E.1 68), .int (f 15), .int (f 16), .int (f 17), .ref (E.1 69), .ref (E.1 70), .ref (E.1 71), .ref (E.1 72), .ref (E.1 73), .ref (E.1 74), .ref (E.1 75), .ref (E.1 76), .ref (E.1 77)])
  | 1 => .inl (E.2.2.1, 6, .inl f)
  | 2 => .inl (E.2.2.1, 24, .inl f)
  | 3 => .inl (E.2.2.1, 24, .inl f)
  | 4 => .inl (E.2.2.1, 16, .inl f)
  | 5 => .inl (E.2.2.1, 10, .inl f)
  | 6 => .inl (E.2.2.1, 10, .inl f)
  | 7 => .inl (E.2.2.1, 10, .inl f)
  | 8 => .inl (E.2.2.1, 6, .inl f)
  | 9 => .inl (E.2.2.1, 6, .inl f)
  | 10 => .inl (E.2.2.1, 16, .inl f)
  | 11 => .inl (E.2.2.1, 16, .inl f)
  | 12 => .inl (E.2.2.1, 16, .inl f)
  | 13 => .inl (E.2.2.1, 16, .inl f)
  | 14 => .inl (E.2.2.1, 16, .inl f)
  | 15 => .inl (E.2.2.1, 16, .inl f)
  | 16 => .inl (E.2.2.1, 16, .inl f)
  | 17 => .inl (E.2.2.1, 401, .inl f)
  | 18 => .inl (E.2.2.1, 16, .inl f)
  | _ => .inl (E.2.2.2.1, 1, .inr (.inl (fun j => (f j).toInt64)))
def rl_cr (E : rl_E) (k : Nat) (f : Nat → Int32) : va_E :=
  if k < 23 then rl_lo E k f else if k < 59 then (if (k - 23) % 3 = 0 then .inr (6, [.int (f 0), .ref (E.1 (k + 1)), .ref (E.1 (k + 2))]) else .inl (E.2.2.1, 24, .inl f)) else rl_hi E (k - 59) f
theorem rl_o0 (E : rl_E) : 0 < rl_N ∧ ∀ f : Nat → Int32, rl_cr E 0 f = .inr (0, [.ref (E.1 1), .ref (E.1 3), .ref (E.1 19)]) := ⟨by decide, fun _ => rfl⟩
theorem rl_o1 (E : rl_E) : 1 < rl_N ∧ ∀ f : Nat → Int32, rl_cr E 1 f = .inr (1, [.int (f 0), .ref (E.1 2)]) := ⟨by decide, fun _ => rfl⟩
theorem rl_a2 (E : rl_E) : 2 < rl_N ∧ ∀ f : Nat → Int32, rl_cr E 2 f = .inl (E.2.2.1, 16, .inl f) := ⟨by decide, fun _ => rfl⟩
theorem rl_o3 (E : rl_E) : 3 < rl_N ∧ ∀ f : Nat → Int32, rl_cr E 3 f = .inr (2, [.ref (E.1 4), .ref (E.1 8), .int (f 2), .int (f 3), .int (f 4), .int (f 5), .ref (E.1 15), .ref (E.1 56), .int (f 8), .ref (E.1 16), .ref (E.1 17), .ref (E.1 18)]) := ⟨by decide, fun _ => rfl⟩
theorem rl_o4 (E : rl_E) : 4 < rl_N ∧ ∀ f : Nat → Int32, rl_cr E 4 f = .inr (3, [.int (f 0), .ref (E.1 5), .ref (E.1 6), .ref (E.1 7)]) := ⟨by decide, fun _ => rfl⟩
theorem rl_a5 (E : rl_E) : 5 < rl_N ∧ ∀ f : Nat → Int32, rl_cr E 5 f = .inl (E.2.2.1, 6, .inl f) := ⟨by decide, fun _ => rfl⟩
theorem rl_a6 (E : rl_E) : 6 < rl_N ∧ ∀ f : Nat → Int32, rl_cr E 6 f = .inl (E.2.2.1, 24, .inl f) := ⟨by decide, fun _ => rfl⟩
theorem rl_a7 (E : rl_E) : 7 < rl_N ∧ ∀ f : Nat → Int32, rl_cr E 7 f = .inl (E.2.2.1, 24, .inl f) := ⟨by decide, fun _ => rfl⟩
theorem rl_o8 (E : rl_E) : 8 < rl_N ∧ ∀ f : Nat → Int32, rl_cr E 8 f = .inr (4, [.int (f 0), .ref (E.1 9), .ref (E.1 10), .ref (E.1 11), .ref (E.1 12), .ref (E.1 13), .ref (E.1 14)]) := ⟨by decide, fun _ => rfl⟩
theorem rl_a9 (E : rl_E) : 9 < rl_N ∧ ∀ f : Nat → Int32, rl_cr E 9 f = .inl (E.2.2.1, 11, .inl f) := ⟨by decide, fun _ => rfl⟩
theorem rl_a10 (E : rl_E) : 10 < rl_N ∧ ∀ f : Nat → Int32, rl_cr E 10 f = .inl (E.2.2.1, 11, .inl f) := ⟨by decide, fun _ => rfl⟩
theorem rl_a11 (E : rl_E) : 11 < rl_N ∧ ∀ f : Nat → Int32, rl_cr E 11 f = .inl (E.2.2.1, 11, .inl f) := ⟨by decide, fun _ => rfl⟩
theorem rl_a12 (E : rl_E) : 12 < rl_N ∧ ∀ f : Nat → Int32, rl_cr E 12 f = .inl (E.2.2.1, 11, .inl f) := ⟨by decide, fun _ => rfl⟩
theorem rl_a13 (E : rl_E) : 13 < rl_N ∧ ∀ f : Nat → Int32, rl_cr E 13 f = .inl (E.2.2.1, 11, .inl f) := ⟨by decide, fun _ => rfl⟩
theorem rl_a14 (E : rl_E) : 14 < rl_N ∧ ∀ f : Nat → Int32, rl_cr E 14 f = .inl (E.2.2.1, 6, .inl f) := ⟨by decide, fun _ => rfl⟩
theorem rl_a15 (E : rl_E) : 15 < rl_N ∧ ∀ f, rl_cr E 15 f = .inl (E.2.2.2.2, 11, .inr (.inr (.inr (.inr (fun i => some (E.1 (23 + 3 * i))))))) := ⟨by decide, fun _ => rfl⟩
theorem rl_a16 (E : rl_E) : 16 < rl_N ∧ ∀ f : Nat → Int32, rl_cr E 16 f = .inl (E.2.2.1, 11, .inl f) := ⟨by decide, fun _ => rfl⟩
theorem rl_a17 (E : rl_E) : 17 < rl_N ∧ ∀ f : Nat → Int32, rl_cr E 17 f = .inl (E.2.2.1, 11, .inl f) := ⟨by decide, fun _ => rfl⟩
theorem rl_a18 (E : rl_E) : 18 < rl_N ∧ ∀ f : Nat → Int32, rl_cr E 18 f = .inl (E.2.2.1, 11, .inl f) := ⟨by decide, fun _ => rfl⟩
theorem rl_o19 (E : rl_E) : 19 < rl_N ∧ ∀ f : Nat → Int32, rl_cr E 19 f = .inr (5, [.int (f 0), .ref (E.1 20), .ref (E.1 21), .ref (E.1 22)]) := ⟨by decide, fun _ => rfl⟩
theorem rl_a20 (E : rl_E) : 20 < rl_N ∧ ∀ f : Nat → Int32, rl_cr E 20 f = .inl (E.2.2.1, 10, .inl f) := ⟨by decide, fun _ => rfl⟩
theorem rl_a21 (E : rl_E) : 21 < rl_N ∧ ∀ f : Nat → Int32, rl_cr E 21 f = .inl (E.2.2.1, 10, .inl f) := ⟨by decide, fun _ => rfl⟩
theorem rl_a22 (E : rl_E) : 22 < rl_N ∧ ∀ f : Nat → Int32, rl_cr E 22 f = .inl (E.2.2.1, 10, .inl f) := ⟨by decide, fun _ => rfl⟩
theorem rl_o59 (E : rl_E) : 59 < rl_N ∧ ∀ f : Nat → Int32, rl_cr E 59 f = .inr (7, [.int (f 0), .int (f 1), .ref (E.1 60), .ref (E.1 61), .ref (E.1 62), .int (f 5), .int (f 6), .int (f 7), .ref (E.1 63), .int (f 9), .ref (E.1 64), .ref (E.1 65), .ref (E.1 66), .ref (E.1 67), .ref (E.1 68), .int (f 15), .int (f 16), .int (f 17), .ref (E.1 69), .ref (E.1 70), .ref (E.1 71), .ref (E.1 72), .ref (E.1 73), .ref (E.1 74), .ref (E.1 75), .ref (E.1 76), .ref (E.1 77)]) := ⟨by decide, fun _ => rfl⟩
theorem rl_a60 (E : rl_E) : 60 < rl_N ∧ ∀ f : Nat → Int32, rl_cr E 60 f = .inl (E.2.2.1, 6, .inl f) := ⟨by decide, fun _ => rfl⟩
theorem rl_a61 (E : rl_E) : 61 < rl_N ∧ ∀ f : Nat → Int32, rl_cr E 61 f = .inl (E.2.2.1, 24, .inl f) := ⟨by decide, fun _ => rfl⟩
theorem rl_a62 (E : rl_E) : 62 < rl_N ∧ ∀ f : Nat → Int32, rl_cr E 62 f = .inl (E.2.2.1, 24, .inl f) := ⟨by decide, fun _ => rfl⟩
theorem rl_a63 (E : rl_E) : 63 < rl_N ∧ ∀ f : Nat → Int32, rl_cr E 63 f = .inl (E.2.2.1, 16, .inl f) := ⟨by decide, fun _ => rfl⟩
theorem rl_a64 (E : rl_E) : 64 < rl_N ∧ ∀ f : Nat → Int32, rl_cr E 64 f = .inl (E.2.2.1, 10, .inl f) := ⟨by decide, fun _ => rfl⟩
theorem rl_a65 (E : rl_E) : 65 < rl_N ∧ ∀ f : Nat → Int32, rl_cr E 65 f = .inl (E.2.2.1, 10, .inl f) := ⟨by decide, fun _ => rfl⟩
theorem rl_a66 (E : rl_E) : 66 < rl_N ∧ ∀ f : Nat → Int32, rl_cr E 66 f = .inl (E.2.2.1, 10, .inl f) := ⟨by decide, fun _ => rfl⟩
theorem rl_a67 (E : rl_E) : 67 < rl_N ∧ ∀ f : Nat → Int32, rl_cr E 67 f = .inl (E.2.2.1, 6, .inl f) := ⟨by decide, fun _ => rfl⟩
theorem rl_a68 (E : rl_E) : 68 < rl_N ∧ ∀ f : Nat → Int32, rl_cr E 68 f = .inl (E.2.2.1, 6, .inl f) := ⟨by decide, fun _ => rfl⟩
theorem rl_a69 (E : rl_E) : 69 < rl_N ∧ ∀ f : Nat → Int32, rl_cr E 69 f = .inl (E.2.2.1, 16, .inl f) := ⟨by decide, fun _ => rfl⟩
theorem rl_a70 (E : rl_E) : 70 < rl_N ∧ ∀ f : Nat → Int32, rl_cr E 70 f = .inl (E.2.2.1, 16, .inl f) := ⟨by decide, fun _ => rfl⟩
theorem rl_a71 (E : rl_E) : 71 < rl_N ∧ ∀ f : Nat → Int32, rl_cr E 71 f = .inl (E.2.2.1, 16, .inl f) := ⟨by decide, fun _ => rfl⟩
theorem rl_a72 (E : rl_E) : 72 < rl_N ∧ ∀ f : Nat → Int32, rl_cr E 72 f = .inl (E.2.2.1, 16, .inl f) := ⟨by decide, fun _ => rfl⟩
theorem rl_a73 (E : rl_E) : 73 < rl_N ∧ ∀ f : Nat → Int32, rl_cr E 73 f = .inl (E.2.2.1, 16, .inl f) := ⟨by decide, fun _ => rfl⟩
theorem rl_a74 (E : rl_E) : 74 < rl_N ∧ ∀ f : Nat → Int32, rl_cr E 74 f = .inl (E.2.2.1, 16, .inl f) := ⟨by decide, fun _ => rfl⟩
theorem rl_a75 (E : rl_E) : 75 < rl_N ∧ ∀ f : Nat → Int32, rl_cr E 75 f = .inl (E.2.2.1, 16, .inl f) := ⟨by decide, fun _ => rfl⟩
theorem rl_a76 (E : rl_E) : 76 < rl_N ∧ ∀ f : Nat → Int32, rl_cr E 76 f = .inl (E.2.2.1, 401, .inl f) := ⟨by decide, fun _ => rfl⟩
theorem rl_a77 (E : rl_E) : 77 < rl_N ∧ ∀ f : Nat → Int32, rl_cr E 77 f = .inl (E.2.2.1, 16, .inl f) := ⟨by decide, fun _ => rfl⟩
theorem rl_a78 (E : rl_E) : 78 < rl_N ∧ ∀ f : Nat → Int32, rl_cr E 78 f = .inl (E.2.2.2.1, 1, .inr (.inl (fun j => (f j).toInt64))) := ⟨by decide, fun _ => rfl⟩
theorem rl_oC {E : rl_E} {a : Nat} (h : rl_cvb a = true) : a < rl_N ∧ ∀ f : Nat → Int32, rl_cr E a f = .inr (6, [.int (f 0), .ref (E.1 (a + 1)), .ref (E.1 (a + 2))]) := by
  rw [rl_cvb_iff] at h
  refine ⟨by unfold rl_N; omega, fun f => ?_⟩
  rw [rl_cr, if_neg (by omega), if_pos (by omega), if_pos (by omega)]
theorem rl_aC1 {E : rl_E} {a : Nat} (h : rl_cvb a = true) : a + 1 < rl_N ∧ ∀ f : Nat → Int32, rl_cr E (a + 1) f = .inl (E.2.2.1, 24, .inl f) := by
  rw [rl_cvb_iff] at h
  refine ⟨by unfold rl_N; omega, fun f => ?_⟩
  rw [rl_cr, if_neg (by omega), if_pos (by omega), if_neg (by omega)]
theorem rl_aC2 {E : rl_E} {a : Nat} (h : rl_cvb a = true) : a + 2 < rl_N ∧ ∀ f : Nat → Int32, rl_cr E (a + 2) f = .inl (E.2.2.1, 24, .inl f) := by
  rw [rl_cvb_iff] at h
  refine ⟨by unfold rl_N; omega, fun f => ?_⟩
  rw [rl_cr, if_neg (by omega), if_pos (by omega), if_neg (by omega)]
def rl_wo (E : rl_E) (σ : rl_M) : va_W := (List.range rl_N).map (fun k => (E.1 k, rl_cr E k (σ k)))
theorem rl_wo_at {E : rl_E} {σ : rl_M} {a : Nat} (h : a < rl_N) : (rl_wo E σ)[a]? = some (E.1 a, rl_cr E a (σ a)) := by
  unfold rl_wo
  rw [List.getElem?_map, List.getElem?_range h]; rfl
theorem rl_wo_of {E : rl_E} {σ : rl_M} {k : Nat} {q : Nat × va_E} (h : (rl_wo E σ)[k]? = some q) : k < rl_N ∧ q = (E.1 k, rl_cr E k (σ k)) := by
  by_cases hk : k < rl_N
  · rw [rl_wo_at hk] at h
    exact ⟨hk, (Option.some.inj h).symm⟩
  · have : (rl_wo E σ).length ≤ k := by unfold rl_wo; rw [List.length_map, List.length_range]; omega
    rw [List.getElem?_eq_none this] at h
    cases h
theorem rl_wo_set {E : rl_E} {σ : rl_M} {a j : Nat} {v : Int32} (h : a < rl_N) : (rl_wo E σ).set a (E.1 a, rl_cr E a (upd (σ a) j v)) = rl_wo E (rl_su σ a j v) := by
  apply List.ext_getElem?
  intro i
  have hlen : ∀ τ : rl_M, (rl_wo E τ).length = rl_N := fun τ => by unfold rl_wo; rw [List.length_map, List.length_range]
  by_cases hi : i = a
  · subst hi
    rw [List.getElem?_set_self (by rw [hlen]; exact h), rl_wo_at h, rl_su_s]
  · rw [List.getElem?_set_ne (Ne.symm hi)]
    by_cases hN : i < rl_N
    · rw [rl_wo_at hN, rl_wo_at hN, rl_su_n hi]
    · rw [List.getElem?_eq_none (by rw [hlen]; omega), List.getElem?_eq_none (by rw [hlen]; omega)]
def rl_A (E : rl_E) : Nat → Prop := fun q => ∃ k, k < rl_N ∧ q = E.1 k
/-- a static of Throwable: where it lies (no cell of ours), a reference or null -/
def rl_Ls (n d : String) (E : rl_E) (U : State) : Prop := ∃ (c : ClassId) (k : Class) (i : Nat) (f : Field) (a : Nat) (cell : Cell) (v : Value), U.vm.findClass "java/lang/Throwable" = some c ∧ U.fieldFound? "java/lang/Throwable" n d = some (c, k, i, f) ∧ f.isStatic = true ∧ k.statics = some a ∧ U.heap[a]? = some cell ∧ cell.vm.isStatics = true ∧ cell.cls = c ∧ f.slot < cell.slots.size ∧ k.staticTypes[f.slot]? = some f.type ∧ cell.slots[f.slot]? = some v ∧ (v = .null ∨ ∃ t, v = .ref t) ∧ ¬ rl_A E a
theorem rl_Ls.moved {n d : String} {E : rl_E} {u U : State} (hvm : u.vm.Alike U.vm) (hq : ∀ a : Nat, a < u.heap.size → ¬ rl_A E a → U.heap[a]? = u.heap[a]?) (h : rl_Ls n d E u) : rl_Ls n d E U := by
  obtain ⟨c, k, i, f, a, cell, v, h1, h2, h3, h4, h5, h6, h7, h8, h9, h10, h11, h12⟩ := h
  obtain ⟨k', hi', he⟩ := State.fieldFound?_setVm hvm h2
  exact ⟨c, k', i, f, a, cell, v, by rw [hvm.findClass]; exact h1, hi', h3, by rw [he]; exact h4, by rw [hq a (Array.getElem?_eq_some_iff.mp h5).1 h12]; exact h5, h6, h7, h8, by rw [he]; exact h9, h10, h11, h12⟩
theorem rl_Ls.lays {n d : String} {E : rl_E} {U : State} {args : Array Value} (h : rl_Ls n d E U) : (Cond.laysStatic "java/lang/Throwable" n d).before args U = true := by
  obtain ⟨c, k, i, f, a, cell, v, h1, h2, h3, h4, h5, h6, h7, h8, h9, h10, h11, h12⟩ := h
  exact Cond.laysStatic_of h1 h2 h3 h4 h5 h6 h7 h8 h9
theorem rl_Ls.isRef {n d : String} {E : rl_E} {U : State} {args : Array Value} (h : rl_Ls n d E U) : (Cond.isRef (.static "java/lang/Throwable" n d)).before args U = true := by
  obtain ⟨c, k, i, f, a, cell, v, h1, h2, h3, h4, h5, h6, h7, h8, h9, h10, h11, h12⟩ := h
  have hv : (Term.static "java/lang/Throwable" n d).eval args U none [] U = some v := Term.static_eval h2 h3 h4 h5 h6 h10
  rcases h11 with rfl | ⟨t, rfl⟩ <;> simp [Cond.before, Cond.holds, Cond.value, hv]
/-- what else is carried: links into the nest, the texts of the exceptions, words on the exceptions' classes, two statics of Throwable -/
def rl_Ex (E : rl_E) (U : State) : Prop :=
  (va_Nw (.methodLinkNest nR_Sr 23 ny_Ro_roomOfSign nR_Ro) U ∧ va_Nw (.methodLinkNest nR_Sr 31 ny_Ro_joins nR_Ro) U ∧ va_Nw (.methodLinkNest nR_St 62 ny_Ro_roomOfSign nR_Ro) U ∧ va_Nw (.methodLinkNest nR_St 54 ny_Ro_joins nR_Ro) U) ∧
  ((∃ a, vk_R nR_Ro 42 "there are 6 rooms" a U) ∧ (∃ a, vk_R nR_Ro 176 "a number is out of its bounds" a U) ∧ (∃ a, vk_R nR_Ro 63 "the room has 4 sizes" a U) ∧ (∃ a, vk_R nR_Ro 178 "k is below 0" a U) ∧ (∃ a, vk_R nR_Ro 173 "both rooms are one" a U) ∧ (∃ a, vk_R nR_Ro 142 "there are 10 wishes" a U)) ∧
  (va_Nw (.declares (Bundle.initS "java/lang/RuntimeException")) U ∧ va_Nw (.declares (Bundle.initS "java/lang/Exception")) U ∧ va_Nw (.declares (Bundle.initS "java/lang/Throwable")) U) ∧
  (va_Nw (.castable "java/lang/IllegalArgumentException" "java/lang/IllegalArgumentException") U ∧ va_Nw (.castable "java/lang/IllegalStateException" "java/lang/IllegalStateException") U ∧ va_Nc "java/lang/IllegalStateException" "java/lang/IllegalArgumentException" U) ∧
  rl_Ls "UNASSIGNED_STACK" "[Ljava/lang/StackTraceElement;" E U ∧ rl_Ls "SUPPRESSED_SENTINEL" "Ljava/util/List;" E U
theorem rl_Ex.moved {E : rl_E} {u U : State} (hW : u.WarmedH U.vm) (hq : ∀ a : Nat, a < u.heap.size → ¬ rl_A E a → U.heap[a]? = u.heap[a]?) (h : rl_Ex E u) : rl_Ex E U := by
  obtain ⟨⟨n1, n2, n3, n4⟩, ⟨⟨a1, s1⟩, ⟨a2, s2⟩, ⟨a3, s3⟩, ⟨a4, s4⟩, ⟨a5, s5⟩, ⟨a6, s6⟩⟩, ⟨d1, d2, d3⟩, ⟨c1, c2, c3⟩, z1, z2⟩ := h
  exact ⟨⟨n1.warmM hW, n2.warmM hW, n3.warmM hW, n4.warmM hW⟩, ⟨⟨a1, s1.warm hW⟩, ⟨a2, s2.warm hW⟩, ⟨a3, s3.warm hW⟩, ⟨a4, s4.warm hW⟩, ⟨a5, s5.warm hW⟩, ⟨a6, s6.warm hW⟩⟩, ⟨d1.warmD hW, d2.warmD hW, d3.warmD hW⟩, ⟨c1.warmC hW, c2.warmC hW, c3.moved hW.alike⟩, z1.moved hW.alike hq, z2.moved hW.alike hq⟩
theorem rl_Ex.same {E : rl_E} {u U : State} (hv : U.vm = u.vm) (hh : U.heap = u.heap) (h : rl_Ex E u) : rl_Ex E U := by
  have hW : u.WarmedH U.vm := by rw [hv]; exact State.WarmedH.refl u
  exact h.moved hW (fun a _ _ => by rw [hh])
def rl_Ok (E : rl_E) (U : State) : Prop := va_K E.2.1 rl_Cl [(E.2.2.1, .int), (E.2.2.2.1, .long), (E.2.2.2.2, .object "RoomLayouts$Curve")] U ∧ (∀ i j, i < rl_N → j < rl_N → E.1 i = E.1 j → i = j) ∧ rl_Ex E U
theorem rl_Ok.moved {E : rl_E} {u U : State} (hW : u.WarmedH U.vm) (hq : ∀ a : Nat, a < u.heap.size → ¬ rl_A E a → U.heap[a]? = u.heap[a]?) (h : rl_Ok E u) : rl_Ok E U := ⟨va_K.moved hW.alike h.1, h.2.1, h.2.2.moved hW hq⟩
theorem rl_D {E : rl_E} {U : State} (hO : rl_Ok E U) (σ : rl_M) : va_D (rl_A E) (rl_wo E σ) := by
  refine ⟨fun i j p q hi hj hpq => ?_, fun k q hk => ?_⟩
  · obtain ⟨a1, a2⟩ := rl_wo_of hi
    obtain ⟨b1, b2⟩ := rl_wo_of hj
    rw [a2, b2] at hpq
    exact hO.2.1 i j a1 b1 hpq
  · obtain ⟨a1, a2⟩ := rl_wo_of hk
    exact ⟨k, a1, by rw [a2]⟩
def rl_P (E : rl_E) (av : List Value) (σ : rl_M) : Array Value → State → Prop := va_Pc av (fun U => va_P E.2.1 rl_Cl (rl_wo E σ) U.heap ∧ rl_Ok E U)
theorem rl_P_blind (E : rl_E) (av : List Value) (σ : rl_M) : FrameBlind (rl_P E av σ) := fun a U g mk q => by
  obtain ⟨q0, q1, q2⟩ := q
  exact ⟨q0, q1, va_K.moved (u := U) (U := U.calling g mk a) (Vm.Alike.refl U.vm) q2.1, q2.2.1, q2.2.2.same (U := U.calling g mk a) rfl rfl⟩
def rl_Q (E : rl_E) (v : Option Value) (σ : rl_M) : Array Value → State → Outcome → State → Prop := fun _ st oc t => oc = .returned v ∧ va_P E.2.1 rl_Cl (rl_wo E σ) t.heap ∧ va_F (rl_A E) st t
def rl_rv : Int32 → Option Value := fun _ => none
def rl_ri : Int32 → Option Value := fun v => some (.int v)
def rl_QM (below : List Frame) (args : Array Value) (s : State) (E : rl_E) (rv : Int32 → Option Value) (r : Int32 × rl_M) : State → Prop := MQ below (rl_Q E (rv r.1) r.2) args s 0 0 (rl_A E)
/-- THE JUDGEMENT: from the frame at pc with these locals and this stack, over every heap that holds the cells with the numbers σ, the machine comes to a state with Q -/
def rl_G (p : Program) (l : Launch) (e : Env) (R : Room) (s : State) (m : MethodId) (args : Array Value) (below : List Frame) (meth : Method) (c : Code) (nL : Nat) (E : rl_E) (cells slots : Nat) (Q : State → Prop) (σ : rl_M) (pc : Nat) (L : List (Nat × Value)) (st : List Value) : Prop :=
  ∀ (H : Heap) (locs : List Loc) (ls : Array Slot), va_P E.2.1 rl_Cl (rl_wo E σ) H → va_S (rl_A E) s.heap H locs → lv_has ls nL L → W p l e R s m args below meth c H locs cells slots Q (F0 m pc ls st)
theorem rl_TT_good : rl_TT.all goodWord = true := List.all_eq_true.mpr fun w h => (List.mem_filter.mp h).2
theorem rl_gd {w : Cond} (h : w ∈ rl_TT) : w ∈ rl_TT ∧ ((w.onTables && w.keeps) = true ∨ ∃ ty, w = .arrayClass ty) := ⟨h, good_of_word (List.all_eq_true.mp rl_TT_good w h)⟩
theorem rl_GI {w : Cond} (h : w ∈ rl_TT) : GoodIn rl_TT (w :: rl_TT) := fun z hz => by
  rcases List.mem_cons.mp hz with h1 | h1
  · rw [h1]; exact rl_gd h
  · exact rl_gd h1
section RLG
variable {p : Program} {l : Launch} {e : Env} {R : Room} {s : State} {m : MethodId} {args : Array Value} {below : List Frame} {meth : Method} {c : Code} {cells slots : Nat} {Q : State → Prop}
variable {cc : ByteArray} {nL : Nat} {Ts : List Cond} {own : String} {E : rl_E} {σ : rl_M} {pc : Nat} {L : List (Nat × Value)} {st : List Value}
theorem rl_iconst (Γ : CallFix p m c cc nL s args Ts own) {n : Int} {v : Int32} (d : decode cc pc = .ok (.iconst n, 1)) (hv : Int32.ofInt n = v) (k : rl_G p l e R s m args below meth c nL E cells slots Q σ (pc + 1) L (.int v :: st)) : rl_G p l e R s m args below meth c nL E cells slots Q σ (pc) L st := fun H locs ls h1 h2 h3 => lv_iconst Γ.1 Γ.2.1 d hv (k H locs ls h1 h2 h3)
theorem rl_bipush (Γ : CallFix p m c cc nL s args Ts own) {n : Int} {v : Int32} (d : decode cc pc = .ok (.bipush n, 2)) (hv : (Int8.ofInt n).toInt32 = v) (k : rl_G p l e R s m args below meth c nL E cells slots Q σ (pc + 2) L (.int v :: st)) : rl_G p l e R s m args below meth c nL E cells slots Q σ (pc) L st := fun H locs ls h1 h2 h3 => lv_bipush Γ.1 Γ.2.1 d hv (k H locs ls h1 h2 h3)
theorem rl_sipush (Γ : CallFix p m c cc nL s args Ts own) {n : Int} {v : Int32} (d : decode cc pc = .ok (.sipush n, 3)) (hv : (Int16.ofInt n).toInt32 = v) (k : rl_G p l e R s m args below meth c nL E cells slots Q σ (pc + 3) L (.int v :: st)) : rl_G p l e R s m args below meth c nL E cells slots Q σ (pc) L st := fun H locs ls h1 h2 h3 => lv_sipush Γ.1 Γ.2.1 d hv (k H locs ls h1 h2 h3)
theorem rl_ldc (Γ : CallFix p m c cc nL s args Ts own) {v : Int32} {index : Nat} (d : decode cc pc = .ok (.ldc index, 2)) (hc : (Jvm.Cond.constant own index v).before args s = true) (k : rl_G p l e R s m args below meth c nL E cells slots Q σ (pc + 2) L (.int v :: st)) : rl_G p l e R s m args below meth c nL E cells slots Q σ (pc) L st := fun H locs ls h1 h2 h3 => lv_ldc Γ.1 Γ.2.1 Γ.2.2.2.1 hc d (k H locs ls h1 h2 h3)
theorem rl_lconst (Γ : CallFix p m c cc nL s args Ts own) {n : Fin 2} {v : Int64} (d : decode cc pc = .ok (.lconst n, 1)) (hv : Int64.ofNat (n : Nat) = v) (k : rl_G p l e R s m args below meth c nL E cells slots Q σ (pc + 1) L (.long v :: st)) : rl_G p l e R s m args below meth c nL E cells slots Q σ (pc) L st := fun H locs ls h1 h2 h3 => lv_lconst Γ.1 Γ.2.1 d hv (k H locs ls h1 h2 h3)
theorem rl_iload_n (Γ : CallFix p m c cc nL s args Ts own) {z : Fin 4} {x : Int32} (d : decode cc pc = .ok (.iload_n z, 1)) (j : Nat) (hl : L[j]? = some ((z : Nat), .int x)) (k : rl_G p l e R s m args below meth c nL E cells slots Q σ (pc + 1) L (.int x :: st)) : rl_G p l e R s m args below meth c nL E cells slots Q σ (pc) L st := fun H locs ls h1 h2 h3 => lv_iload_n Γ.1 Γ.2.1 d rfl (lv_at h3 j hl) (k H locs ls h1 h2 h3)
theorem rl_iload (Γ : CallFix p m c cc nL s args Ts own) {z : Nat} {x : Int32} (d : decode cc pc = .ok (.iload z, 2)) (j : Nat) (hl : L[j]? = some (z, .int x)) (k : rl_G p l e R s m args below meth c nL E cells slots Q σ (pc + 2) L (.int x :: st)) : rl_G p l e R s m args below meth c nL E cells slots Q σ (pc) L st := fun H locs ls h1 h2 h3 => lv_iload Γ.1 Γ.2.1 d (lv_at h3 j hl) (k H locs ls h1 h2 h3)
theorem rl_lload_n (Γ : CallFix p m c cc nL s args Ts own) {z : Fin 4} {x : Int64} (d : decode cc pc = .ok (.lload_n z, 1)) (j : Nat) (hl : L[j]? = some ((z : Nat), .long x)) (k : rl_G p l e R s m args below meth c nL E cells slots Q σ (pc + 1) L (.long x :: st)) : rl_G p l e R s m args below meth c nL E cells slots Q σ (pc) L st := fun H locs ls h1 h2 h3 => lv_lload_n Γ.1 Γ.2.1 d rfl (lv_at h3 j hl) (k H locs ls h1 h2 h3)
theorem rl_lload (Γ : CallFix p m c cc nL s args Ts own) {z : Nat} {x : Int64} (d : decode cc pc = .ok (.lload z, 2)) (j : Nat) (hl : L[j]? = some (z, .long x)) (k : rl_G p l e R s m args below meth c nL E cells slots Q σ (pc + 2) L (.long x :: st)) : rl_G p l e R s m args below meth c nL E cells slots Q σ (pc) L st := fun H locs ls h1 h2 h3 => lv_lload Γ.1 Γ.2.1 d (lv_at h3 j hl) (k H locs ls h1 h2 h3)
theorem rl_aload_n (Γ : CallFix p m c cc nL s args Ts own) {z : Fin 4} {x : Nat} (d : decode cc pc = .ok (.aload_n z, 1)) (j : Nat) (hl : L[j]? = some ((z : Nat), .ref x)) (k : rl_G p l e R s m args below meth c nL E cells slots Q σ (pc + 1) L (.ref x :: st)) : rl_G p l e R s m args below meth c nL E cells slots Q σ (pc) L st := fun H locs ls h1 h2 h3 => lv_aload_n Γ.1 Γ.2.1 d rfl (lv_at h3 j hl) (k H locs ls h1 h2 h3)
theorem rl_aload (Γ : CallFix p m c cc nL s args Ts own) {z : Nat} {x : Nat} (d : decode cc pc = .ok (.aload z, 2)) (j : Nat) (hl : L[j]? = some (z, .ref x)) (k : rl_G p l e R s m args below meth c nL E cells slots Q σ (pc + 2) L (.ref x :: st)) : rl_G p l e R s m args below meth c nL E cells slots Q σ (pc) L st := fun H locs ls h1 h2 h3 => lv_aload Γ.1 Γ.2.1 d (lv_at h3 j hl) (k H locs ls h1 h2 h3)
theorem rl_istore_n (Γ : CallFix p m c cc nL s args Ts own) {z : Fin 4} {x : Int32} {L' : List (Nat × Value)} (d : decode cc pc = .ok (.istore_n z, 1)) (hn : (z : Nat) < nL) (hl : ((z : Nat), Value.int x) :: L.filter (fun q => !(q.1 == (z : Nat)) && !(q.1 + 1 == (z : Nat) && q.2.category == 2)) = L') (k : rl_G p l e R s m args below meth c nL E cells slots Q σ (pc + 1) L' st) : rl_G p l e R s m args below meth c nL E cells slots Q σ (pc) L (.int x :: st) := fun H locs ls h1 h2 h3 => lv_istore_n Γ.1 Γ.2.1 d rfl h3 hn hl (fun ls' h => k H locs ls' h1 h2 h)
theorem rl_istore (Γ : CallFix p m c cc nL s args Ts own) {z : Nat} {x : Int32} {L' : List (Nat × Value)} (d : decode cc pc = .ok (.istore z, 2)) (hn : z < nL) (hl : (z, Value.int x) :: L.filter (fun q => !(q.1 == z) && !(q.1 + 1 == z && q.2.category == 2)) = L') (k : rl_G p l e R s m args below meth c nL E cells slots Q σ (pc + 2) L' st) : rl_G p l e R s m args below meth c nL E cells slots Q σ (pc) L (.int x :: st) := fun H locs ls h1 h2 h3 => lv_istore Γ.1 Γ.2.1 d h3 hn hl (fun ls' h => k H locs ls' h1 h2 h)
theorem rl_lstore_n (Γ : CallFix p m c cc nL s args Ts own) {z : Fin 4} {x : Int64} {L' : List (Nat × Value)} (d : decode cc pc = .ok (.lstore_n z, 1)) (hn : (z : Nat) + 1 < nL) (hl : ((z : Nat), Value.long x) :: L.filter (fun q => !(q.1 == (z : Nat)) && (!(q.1 == (z : Nat) + 1) && !(q.1 + 1 == (z : Nat) && q.2.category == 2))) = L') (k : rl_G p l e R s m args below meth c nL E cells slots Q σ (pc + 1) L' st) : rl_G p l e R s m args below meth c nL E cells slots Q σ (pc) L (.long x :: st) := fun H locs ls h1 h2 h3 => lv_lstore_n Γ.1 Γ.2.1 d rfl h3 hn hl (fun ls' h => k H locs ls' h1 h2 h)
theorem rl_lstore (Γ : CallFix p m c cc nL s args Ts own) {z : Nat} {x : Int64} {L' : List (Nat × Value)} (d : decode cc pc = .ok (.lstore z, 2)) (hn : z + 1 < nL) (hl : (z, Value.long x) :: L.filter (fun q => !(q.1 == z) && (!(q.1 == z + 1) && !(q.1 + 1 == z && q.2.category == 2))) = L') (k : rl_G p l e R s m args below meth c nL E cells slots Q σ (pc + 2) L' st) : rl_G p l e R s m args below meth c nL E cells slots Q σ (pc) L (.long x :: st) := fun H locs ls h1 h2 h3 => lv_lstore Γ.1 Γ.2.1 d h3 hn hl (fun ls' h => k H locs ls' h1 h2 h)
theorem rl_astore_n (Γ : CallFix p m c cc nL s args Ts own) {z : Fin 4} {x : Nat} {L' : List (Nat × Value)} (d : decode cc pc = .ok (.astore_n z, 1)) (hn : (z : Nat) < nL) (hl : ((z : Nat), Value.ref x) :: L.filter (fun q => !(q.1 == (z : Nat)) && !(q.1 + 1 == (z : Nat) && q.2.category == 2)) = L') (k : rl_G p l e R s m args below meth c nL E cells slots Q σ (pc + 1) L' st) : rl_G p l e R s m args below meth c nL E cells slots Q σ (pc) L (.ref x :: st) := fun H locs ls h1 h2 h3 => lv_astore_n Γ.1 Γ.2.1 d rfl h3 hn hl (fun ls' h => k H locs ls' h1 h2 h)
theorem rl_astore (Γ : CallFix p m c cc nL s args Ts own) {z : Nat} {x : Nat} {L' : List (Nat × Value)} (d : decode cc pc = .ok (.astore z, 2)) (hn : z < nL) (hl : (z, Value.ref x) :: L.filter (fun q => !(q.1 == z) && !(q.1 + 1 == z && q.2.category == 2)) = L') (k : rl_G p l e R s m args below meth c nL E cells slots Q σ (pc + 2) L' st) : rl_G p l e R s m args below meth c nL E cells slots Q σ (pc) L (.ref x :: st) := fun H locs ls h1 h2 h3 => lv_astore Γ.1 Γ.2.1 d h3 hn hl (fun ls' h => k H locs ls' h1 h2 h)
theorem rl_iinc (Γ : CallFix p m c cc nL s args Ts own) {z : Nat} {n : Int} {x v : Int32} {L' : List (Nat × Value)} (d : decode cc pc = .ok (.iinc z n, 3)) (j : Nat) (hj : L[j]? = some (z, .int x)) (hv : x + Int32.ofInt n = v) (hn : z < nL) (hl : (z, Value.int v) :: L.filter (fun q => !(q.1 == z) && !(q.1 + 1 == z && q.2.category == 2)) = L') (k : rl_G p l e R s m args below meth c nL E cells slots Q σ (pc + 3) L' st) : rl_G p l e R s m args below meth c nL E cells slots Q σ (pc) L st := fun H locs ls h1 h2 h3 => lv_iinc Γ.1 Γ.2.1 d h3 hj hv hn hl (fun ls' h => k H locs ls' h1 h2 h)
theorem rl_iadd (Γ : CallFix p m c cc nL s args Ts own) {x y : Int32} (d : decode cc pc = .ok (.iadd, 1))  (k : rl_G p l e R s m args below meth c nL E cells slots Q σ (pc + 1) L (.int (x + y) :: st)) : rl_G p l e R s m args below meth c nL E cells slots Q σ (pc) L (.int y :: .int x :: st) := fun H locs ls h1 h2 h3 => lv_iadd Γ.1 Γ.2.1 d (k H locs ls h1 h2 h3)
theorem rl_isub (Γ : CallFix p m c cc nL s args Ts own) {x y : Int32} (d : decode cc pc = .ok (.isub, 1))  (k : rl_G p l e R s m args below meth c nL E cells slots Q σ (pc + 1) L (.int (x - y) :: st)) : rl_G p l e R s m args below meth c nL E cells slots Q σ (pc) L (.int y :: .int x :: st) := fun H locs ls h1 h2 h3 => lv_isub Γ.1 Γ.2.1 d (k H locs ls h1 h2 h3)
theorem rl_imul (Γ : CallFix p m c cc nL s args Ts own) {x y : Int32} (d : decode cc pc = .ok (.imul, 1))  (k : rl_G p l e R s m args below meth c nL E cells slots Q σ (pc + 1) L (.int (x * y) :: st)) : rl_G p l e R s m args below meth c nL E cells slots Q σ (pc) L (.int y :: .int x :: st) := fun H locs ls h1 h2 h3 => lv_imul Γ.1 Γ.2.1 d (k H locs ls h1 h2 h3)
theorem rl_iand (Γ : CallFix p m c cc nL s args Ts own) {x y : Int32} (d : decode cc pc = .ok (.iand, 1))  (k : rl_G p l e R s m args below meth c nL E cells slots Q σ (pc + 1) L (.int (x &&& y) :: st)) : rl_G p l e R s m args below meth c nL E cells slots Q σ (pc) L (.int y :: .int x :: st) := fun H locs ls h1 h2 h3 => lv_iand Γ.1 Γ.2.1 d (k H locs ls h1 h2 h3)
theorem rl_ior (Γ : CallFix p m c cc nL s args Ts own) {x y : Int32} (d : decode cc pc = .ok (.ior, 1))  (k : rl_G p l e R s m args below meth c nL E cells slots Q σ (pc + 1) L (.int (x ||| y) :: st)) : rl_G p l e R s m args below meth c nL E cells slots Q σ (pc) L (.int y :: .int x :: st) := fun H locs ls h1 h2 h3 => lv_ior Γ.1 Γ.2.1 d (k H locs ls h1 h2 h3)
theorem rl_ixor (Γ : CallFix p m c cc nL s args Ts own) {x y : Int32} (d : decode cc pc = .ok (.ixor, 1))  (k : rl_G p l e R s m args below meth c nL E cells slots Q σ (pc + 1) L (.int (x ^^^ y) :: st)) : rl_G p l e R s m args below meth c nL E cells slots Q σ (pc) L (.int y :: .int x :: st) := fun H locs ls h1 h2 h3 => lv_ixor Γ.1 Γ.2.1 d (k H locs ls h1 h2 h3)
theorem rl_ishl (Γ : CallFix p m c cc nL s args Ts own) {x y : Int32} (d : decode cc pc = .ok (.ishl, 1))  (k : rl_G p l e R s m args below meth c nL E cells slots Q σ (pc + 1) L (.int (x <<< (y &&& 31)) :: st)) : rl_G p l e R s m args below meth c nL E cells slots Q σ (pc) L (.int y :: .int x :: st) := fun H locs ls h1 h2 h3 => lv_ishl Γ.1 Γ.2.1 d (k H locs ls h1 h2 h3)
theorem rl_ishr (Γ : CallFix p m c cc nL s args Ts own) {x y : Int32} (d : decode cc pc = .ok (.ishr, 1))  (k : rl_G p l e R s m args below meth c nL E cells slots Q σ (pc + 1) L (.int (x >>> (y &&& 31)) :: st)) : rl_G p l e R s m args below meth c nL E cells slots Q σ (pc) L (.int y :: .int x :: st) := fun H locs ls h1 h2 h3 => lv_ishr Γ.1 Γ.2.1 d (k H locs ls h1 h2 h3)
theorem rl_idiv (Γ : CallFix p m c cc nL s args Ts own) {x y : Int32} (d : decode cc pc = .ok (.idiv, 1)) (hne : ¬ y = 0) (k : rl_G p l e R s m args below meth c nL E cells slots Q σ (pc + 1) L (.int (x / y) :: st)) : rl_G p l e R s m args below meth c nL E cells slots Q σ (pc) L (.int y :: .int x :: st) := fun H locs ls h1 h2 h3 => lv_idiv Γ.1 Γ.2.1 d hne (k H locs ls h1 h2 h3)
theorem rl_irem (Γ : CallFix p m c cc nL s args Ts own) {x y : Int32} (d : decode cc pc = .ok (.irem, 1)) (hne : ¬ y = 0) (k : rl_G p l e R s m args below meth c nL E cells slots Q σ (pc + 1) L (.int (x - x / y * y) :: st)) : rl_G p l e R s m args below meth c nL E cells slots Q σ (pc) L (.int y :: .int x :: st) := fun H locs ls h1 h2 h3 => lv_irem Γ.1 Γ.2.1 d hne (k H locs ls h1 h2 h3)
theorem rl_ineg (Γ : CallFix p m c cc nL s args Ts own) {x : Int32} (d : decode cc pc = .ok (.ineg, 1))  (k : rl_G p l e R s m args below meth c nL E cells slots Q σ (pc + 1) L (.int (-x) :: st)) : rl_G p l e R s m args below meth c nL E cells slots Q σ (pc) L (.int x :: st) := fun H locs ls h1 h2 h3 => lv_ineg Γ.1 Γ.2.1 d (k H locs ls h1 h2 h3)
theorem rl_land (Γ : CallFix p m c cc nL s args Ts own) {x y : Int64} (d : decode cc pc = .ok (.land, 1))  (k : rl_G p l e R s m args below meth c nL E cells slots Q σ (pc + 1) L (.long (x &&& y) :: st)) : rl_G p l e R s m args below meth c nL E cells slots Q σ (pc) L (.long y :: .long x :: st) := fun H locs ls h1 h2 h3 => lv_land Γ.1 Γ.2.1 d (k H locs ls h1 h2 h3)
theorem rl_lor (Γ : CallFix p m c cc nL s args Ts own) {x y : Int64} (d : decode cc pc = .ok (.lor, 1))  (k : rl_G p l e R s m args below meth c nL E cells slots Q σ (pc + 1) L (.long (x ||| y) :: st)) : rl_G p l e R s m args below meth c nL E cells slots Q σ (pc) L (.long y :: .long x :: st) := fun H locs ls h1 h2 h3 => lv_lor Γ.1 Γ.2.1 d (k H locs ls h1 h2 h3)
theorem rl_lxor (Γ : CallFix p m c cc nL s args Ts own) {x y : Int64} (d : decode cc pc = .ok (.lxor, 1))  (k : rl_G p l e R s m args below meth c nL E cells slots Q σ (pc + 1) L (.long (x ^^^ y) :: st)) : rl_G p l e R s m args below meth c nL E cells slots Q σ (pc) L (.long y :: .long x :: st) := fun H locs ls h1 h2 h3 => lv_lxor Γ.1 Γ.2.1 d (k H locs ls h1 h2 h3)
theorem rl_ladd (Γ : CallFix p m c cc nL s args Ts own) {x y : Int64} (d : decode cc pc = .ok (.ladd, 1))  (k : rl_G p l e R s m args below meth c nL E cells slots Q σ (pc + 1) L (.long (x + y) :: st)) : rl_G p l e R s m args below meth c nL E cells slots Q σ (pc) L (.long y :: .long x :: st) := fun H locs ls h1 h2 h3 => lv_ladd Γ.1 Γ.2.1 d (k H locs ls h1 h2 h3)
theorem rl_lsub (Γ : CallFix p m c cc nL s args Ts own) {x y : Int64} (d : decode cc pc = .ok (.lsub, 1))  (k : rl_G p l e R s m args below meth c nL E cells slots Q σ (pc + 1) L (.long (x - y) :: st)) : rl_G p l e R s m args below meth c nL E cells slots Q σ (pc) L (.long y :: .long x :: st) := fun H locs ls h1 h2 h3 => lv_lsub Γ.1 Γ.2.1 d (k H locs ls h1 h2 h3)
theorem rl_lmul (Γ : CallFix p m c cc nL s args Ts own) {x y : Int64} (d : decode cc pc = .ok (.lmul, 1))  (k : rl_G p l e R s m args below meth c nL E cells slots Q σ (pc + 1) L (.long (x * y) :: st)) : rl_G p l e R s m args below meth c nL E cells slots Q σ (pc) L (.long y :: .long x :: st) := fun H locs ls h1 h2 h3 => lv_lmul Γ.1 Γ.2.1 d (k H locs ls h1 h2 h3)
theorem rl_i2l (Γ : CallFix p m c cc nL s args Ts own) {x : Int32} (d : decode cc pc = .ok (.i2l, 1))  (k : rl_G p l e R s m args below meth c nL E cells slots Q σ (pc + 1) L (.long x.toInt64 :: st)) : rl_G p l e R s m args below meth c nL E cells slots Q σ (pc) L (.int x :: st) := fun H locs ls h1 h2 h3 => lv_i2l Γ.1 Γ.2.1 d rfl (k H locs ls h1 h2 h3)
theorem rl_l2i (Γ : CallFix p m c cc nL s args Ts own) {x : Int64} (d : decode cc pc = .ok (.l2i, 1))  (k : rl_G p l e R s m args below meth c nL E cells slots Q σ (pc + 1) L (.int x.toInt32 :: st)) : rl_G p l e R s m args below meth c nL E cells slots Q σ (pc) L (.long x :: st) := fun H locs ls h1 h2 h3 => lv_l2i Γ.1 Γ.2.1 d rfl (k H locs ls h1 h2 h3)
theorem rl_lushr (Γ : CallFix p m c cc nL s args Ts own) {x : Int64} {y : Int32} (d : decode cc pc = .ok (.lushr, 1))  (k : rl_G p l e R s m args below meth c nL E cells slots Q σ (pc + 1) L (.long (x.toUInt64 >>> (y.toInt64.toUInt64 &&& Int64.toUInt64 63)).toInt64 :: st)) : rl_G p l e R s m args below meth c nL E cells slots Q σ (pc) L (.int y :: .long x :: st) := fun H locs ls h1 h2 h3 => lv_lushr Γ.1 Γ.2.1 d rfl (k H locs ls h1 h2 h3)
theorem rl_lshl (Γ : CallFix p m c cc nL s args Ts own) {x : Int64} {y : Int32} (d : decode cc pc = .ok (.lshl, 1))  (k : rl_G p l e R s m args below meth c nL E cells slots Q σ (pc + 1) L (.long (x <<< (y.toInt64 &&& 63)) :: st)) : rl_G p l e R s m args below meth c nL E cells slots Q σ (pc) L (.int y :: .long x :: st) := fun H locs ls h1 h2 h3 => lv_lshl Γ.1 Γ.2.1 d rfl (k H locs ls h1 h2 h3)
theorem rl_lshr (Γ : CallFix p m c cc nL s args Ts own) {x : Int64} {y : Int32} (d : decode cc pc = .ok (.lshr, 1))  (k : rl_G p l e R s m args below meth c nL E cells slots Q σ (pc + 1) L (.long (x >>> (y.toInt64 &&& 63)) :: st)) : rl_G p l e R s m args below meth c nL E cells slots Q σ (pc) L (.int y :: .long x :: st) := fun H locs ls h1 h2 h3 => lv_lshr Γ.1 Γ.2.1 d rfl (k H locs ls h1 h2 h3)
theorem rl_iushr (Γ : CallFix p m c cc nL s args Ts own) {x y : Int32} (d : decode cc pc = .ok (.iushr, 1))  (k : rl_G p l e R s m args below meth c nL E cells slots Q σ (pc + 1) L (.int (x.toUInt32 >>> (y.toUInt32 &&& Int32.toUInt32 31)).toInt32 :: st)) : rl_G p l e R s m args below meth c nL E cells slots Q σ (pc) L (.int y :: .int x :: st) := fun H locs ls h1 h2 h3 => lv_iushr Γ.1 Γ.2.1 d rfl (k H locs ls h1 h2 h3)
theorem rl_dup (Γ : CallFix p m c cc nL s args Ts own) {a : Value} (d : decode cc pc = .ok (.dup, 1)) (ha : a.category = 1) (k : rl_G p l e R s m args below meth c nL E cells slots Q σ (pc + 1) L (a :: a :: st)) : rl_G p l e R s m args below meth c nL E cells slots Q σ (pc) L (a :: st) := fun H locs ls h1 h2 h3 => lv_dup Γ.1 Γ.2.1 d ha (k H locs ls h1 h2 h3)
theorem rl_pop (Γ : CallFix p m c cc nL s args Ts own) {a : Value} (d : decode cc pc = .ok (.pop, 1)) (ha : a.category = 1) (k : rl_G p l e R s m args below meth c nL E cells slots Q σ (pc + 1) L st) : rl_G p l e R s m args below meth c nL E cells slots Q σ (pc) L (a :: st) := fun H locs ls h1 h2 h3 => lv_pop Γ.1 Γ.2.1 d ha (k H locs ls h1 h2 h3)
theorem rl_dup_x1 (Γ : CallFix p m c cc nL s args Ts own) {a b : Value} (d : decode cc pc = .ok (.dup_x1, 1)) (ha : a.category = 1) (hb : b.category = 1) (k : rl_G p l e R s m args below meth c nL E cells slots Q σ (pc + 1) L (a :: b :: a :: st)) : rl_G p l e R s m args below meth c nL E cells slots Q σ (pc) L (a :: b :: st) := fun H locs ls h1 h2 h3 => lv_dup_x1 Γ.1 Γ.2.1 d ha hb (k H locs ls h1 h2 h3)
theorem rl_dup2 (Γ : CallFix p m c cc nL s args Ts own) {a b : Value} (d : decode cc pc = .ok (.dup2, 1)) (ha : a.category = 1) (hb : b.category = 1) (k : rl_G p l e R s m args below meth c nL E cells slots Q σ (pc + 1) L (a :: b :: a :: b :: st)) : rl_G p l e R s m args below meth c nL E cells slots Q σ (pc) L (a :: b :: st) := fun H locs ls h1 h2 h3 => lv_dup2_11 Γ.1 Γ.2.1 d ha hb (k H locs ls h1 h2 h3)
theorem rl_if_eq (Γ : CallFix p m c cc nL s args Ts own) {x : Int32} {off : Int} {tgt : Nat} (d : decode cc pc = .ok (.ifCond .eq off, 3)) (ht : (pc : Int) + off = (tgt : Int)) (kt : x = 0 → rl_G p l e R s m args below meth c nL E cells slots Q σ (tgt) L st) (kf : ¬ x = 0 → rl_G p l e R s m args below meth c nL E cells slots Q σ (pc + 3) L st) : rl_G p l e R s m args below meth c nL E cells slots Q σ (pc) L (.int x :: st) := fun H locs ls h1 h2 h3 => lv_if_eq Γ.1 Γ.2.1 d ht (fun z => kt z H locs ls h1 h2 h3) (fun z => kf z H locs ls h1 h2 h3)
theorem rl_icmp_eq (Γ : CallFix p m c cc nL s args Ts own) {x y : Int32} {off : Int} {tgt : Nat} (d : decode cc pc = .ok (.if_icmp .eq off, 3)) (ht : (pc : Int) + off = (tgt : Int)) (kt : x = y → rl_G p l e R s m args below meth c nL E cells slots Q σ (tgt) L st) (kf : ¬ x = y → rl_G p l e R s m args below meth c nL E cells slots Q σ (pc + 3) L st) : rl_G p l e R s m args below meth c nL E cells slots Q σ (pc) L (.int y :: .int x :: st) := fun H locs ls h1 h2 h3 => lv_icmp_eq Γ.1 Γ.2.1 d ht (fun z => kt z H locs ls h1 h2 h3) (fun z => kf z H locs ls h1 h2 h3)
theorem rl_if_ne (Γ : CallFix p m c cc nL s args Ts own) {x : Int32} {off : Int} {tgt : Nat} (d : decode cc pc = .ok (.ifCond .ne off, 3)) (ht : (pc : Int) + off = (tgt : Int)) (kt : ¬ x = 0 → rl_G p l e R s m args below meth c nL E cells slots Q σ (tgt) L st) (kf : x = 0 → rl_G p l e R s m args below meth c nL E cells slots Q σ (pc + 3) L st) : rl_G p l e R s m args below meth c nL E cells slots Q σ (pc) L (.int x :: st) := fun H locs ls h1 h2 h3 => lv_if_ne Γ.1 Γ.2.1 d ht (fun z => kt z H locs ls h1 h2 h3) (fun z => kf z H locs ls h1 h2 h3)
theorem rl_icmp_ne (Γ : CallFix p m c cc nL s args Ts own) {x y : Int32} {off : Int} {tgt : Nat} (d : decode cc pc = .ok (.if_icmp .ne off, 3)) (ht : (pc : Int) + off = (tgt : Int)) (kt : ¬ x = y → rl_G p l e R s m args below meth c nL E cells slots Q σ (tgt) L st) (kf : x = y → rl_G p l e R s m args below meth c nL E cells slots Q σ (pc + 3) L st) : rl_G p l e R s m args below meth c nL E cells slots Q σ (pc) L (.int y :: .int x :: st) := fun H locs ls h1 h2 h3 => lv_icmp_ne Γ.1 Γ.2.1 d ht (fun z => kt z H locs ls h1 h2 h3) (fun z => kf z H locs ls h1 h2 h3)
theorem rl_if_lt (Γ : CallFix p m c cc nL s args Ts own) {x : Int32} {off : Int} {tgt : Nat} (d : decode cc pc = .ok (.ifCond .lt off, 3)) (ht : (pc : Int) + off = (tgt : Int)) (kt : x < 0 → rl_G p l e R s m args below meth c nL E cells slots Q σ (tgt) L st) (kf : ¬ x < 0 → rl_G p l e R s m args below meth c nL E cells slots Q σ (pc + 3) L st) : rl_G p l e R s m args below meth c nL E cells slots Q σ (pc) L (.int x :: st) := fun H locs ls h1 h2 h3 => lv_if_lt Γ.1 Γ.2.1 d ht (fun z => kt z H locs ls h1 h2 h3) (fun z => kf z H locs ls h1 h2 h3)
theorem rl_icmp_lt (Γ : CallFix p m c cc nL s args Ts own) {x y : Int32} {off : Int} {tgt : Nat} (d : decode cc pc = .ok (.if_icmp .lt off, 3)) (ht : (pc : Int) + off = (tgt : Int)) (kt : x < y → rl_G p l e R s m args below meth c nL E cells slots Q σ (tgt) L st) (kf : ¬ x < y → rl_G p l e R s m args below meth c nL E cells slots Q σ (pc + 3) L st) : rl_G p l e R s m args below meth c nL E cells slots Q σ (pc) L (.int y :: .int x :: st) := fun H locs ls h1 h2 h3 => lv_icmp_lt Γ.1 Γ.2.1 d ht (fun z => kt z H locs ls h1 h2 h3) (fun z => kf z H locs ls h1 h2 h3)
theorem rl_if_ge (Γ : CallFix p m c cc nL s args Ts own) {x : Int32} {off : Int} {tgt : Nat} (d : decode cc pc = .ok (.ifCond .ge off, 3)) (ht : (pc : Int) + off = (tgt : Int)) (kt : 0 ≤ x → rl_G p l e R s m args below meth c nL E cells slots Q σ (tgt) L st) (kf : ¬ 0 ≤ x → rl_G p l e R s m args below meth c nL E cells slots Q σ (pc + 3) L st) : rl_G p l e R s m args below meth c nL E cells slots Q σ (pc) L (.int x :: st) := fun H locs ls h1 h2 h3 => lv_if_ge Γ.1 Γ.2.1 d ht (fun z => kt z H locs ls h1 h2 h3) (fun z => kf z H locs ls h1 h2 h3)
theorem rl_icmp_ge (Γ : CallFix p m c cc nL s args Ts own) {x y : Int32} {off : Int} {tgt : Nat} (d : decode cc pc = .ok (.if_icmp .ge off, 3)) (ht : (pc : Int) + off = (tgt : Int)) (kt : y ≤ x → rl_G p l e R s m args below meth c nL E cells slots Q σ (tgt) L st) (kf : ¬ y ≤ x → rl_G p l e R s m args below meth c nL E cells slots Q σ (pc + 3) L st) : rl_G p l e R s m args below meth c nL E cells slots Q σ (pc) L (.int y :: .int x :: st) := fun H locs ls h1 h2 h3 => lv_icmp_ge Γ.1 Γ.2.1 d ht (fun z => kt z H locs ls h1 h2 h3) (fun z => kf z H locs ls h1 h2 h3)
theorem rl_if_gt (Γ : CallFix p m c cc nL s args Ts own) {x : Int32} {off : Int} {tgt : Nat} (d : decode cc pc = .ok (.ifCond .gt off, 3)) (ht : (pc : Int) + off = (tgt : Int)) (kt : 0 < x → rl_G p l e R s m args below meth c nL E cells slots Q σ (tgt) L st) (kf : ¬ 0 < x → rl_G p l e R s m args below meth c nL E cells slots Q σ (pc + 3) L st) : rl_G p l e R s m args below meth c nL E cells slots Q σ (pc) L (.int x :: st) := fun H locs ls h1 h2 h3 => lv_if_gt Γ.1 Γ.2.1 d ht (fun z => kt z H locs ls h1 h2 h3) (fun z => kf z H locs ls h1 h2 h3)
theorem rl_icmp_gt (Γ : CallFix p m c cc nL s args Ts own) {x y : Int32} {off : Int} {tgt : Nat} (d : decode cc pc = .ok (.if_icmp .gt off, 3)) (ht : (pc : Int) + off = (tgt : Int)) (kt : y < x → rl_G p l e R s m args below meth c nL E cells slots Q σ (tgt) L st) (kf : ¬ y < x → rl_G p l e R s m args below meth c nL E cells slots Q σ (pc + 3) L st) : rl_G p l e R s m args below meth c nL E cells slots Q σ (pc) L (.int y :: .int x :: st) := fun H locs ls h1 h2 h3 => lv_icmp_gt Γ.1 Γ.2.1 d ht (fun z => kt z H locs ls h1 h2 h3) (fun z => kf z H locs ls h1 h2 h3)
theorem rl_if_le (Γ : CallFix p m c cc nL s args Ts own) {x : Int32} {off : Int} {tgt : Nat} (d : decode cc pc = .ok (.ifCond .le off, 3)) (ht : (pc : Int) + off = (tgt : Int)) (kt : x ≤ 0 → rl_G p l e R s m args below meth c nL E cells slots Q σ (tgt) L st) (kf : ¬ x ≤ 0 → rl_G p l e R s m args below meth c nL E cells slots Q σ (pc + 3) L st) : rl_G p l e R s m args below meth c nL E cells slots Q σ (pc) L (.int x :: st) := fun H locs ls h1 h2 h3 => lv_if_le Γ.1 Γ.2.1 d ht (fun z => kt z H locs ls h1 h2 h3) (fun z => kf z H locs ls h1 h2 h3)
theorem rl_icmp_le (Γ : CallFix p m c cc nL s args Ts own) {x y : Int32} {off : Int} {tgt : Nat} (d : decode cc pc = .ok (.if_icmp .le off, 3)) (ht : (pc : Int) + off = (tgt : Int)) (kt : x ≤ y → rl_G p l e R s m args below meth c nL E cells slots Q σ (tgt) L st) (kf : ¬ x ≤ y → rl_G p l e R s m args below meth c nL E cells slots Q σ (pc + 3) L st) : rl_G p l e R s m args below meth c nL E cells slots Q σ (pc) L (.int y :: .int x :: st) := fun H locs ls h1 h2 h3 => lv_icmp_le Γ.1 Γ.2.1 d ht (fun z => kt z H locs ls h1 h2 h3) (fun z => kf z H locs ls h1 h2 h3)
theorem rl_goto (Γ : CallFix p m c cc nL s args Ts own) {off : Int} {tgt : Nat} (d : decode cc pc = .ok (.goto off, 3)) (ht : (pc : Int) + off = (tgt : Int)) (k : rl_G p l e R s m args below meth c nL E cells slots Q σ (tgt) L st) : rl_G p l e R s m args below meth c nL E cells slots Q σ (pc) L st := fun H locs ls h1 h2 h3 => lv_goto Γ.1 Γ.2.1 d ht (k H locs ls h1 h2 h3)

theorem rl_Gsub {L' : List (Nat × Value)} (ks : List Nat) (hl : lv_pick L ks = L') (k : rl_G p l e R s m args below meth c nL E cells slots Q σ pc L' st) : rl_G p l e R s m args below meth c nL E cells slots Q σ pc L st := fun H locs ls h1 h2 h3 => k H locs ls h1 h2 (lv_sub h3 ks hl)
theorem rl_start {av : List Value} (hP : va_P E.2.1 rl_Cl (rl_wo E σ) s.heap) (hn : (lg_sl av).length ≤ nL) (k : rl_G p l e R s m args below meth c nL E cells slots Q σ 0 (lv_args 0 av) []) : W p l e R s m args below meth c s.heap [] cells slots Q (entryFrame m av.toArray nL) := by
  rw [lg_entry_eq]
  exact k s.heap [] _ hP va_S.rf (lv_entry av hn)
theorem rl_get (Γ : CallFix p m c cc nL s args rl_TT own) {index : Nat} (d : decode cc pc = .ok (.getfield index, 3)) (hO : rl_Ok E s) {a ci k : Nat} {fs : (Nat → Int32) → List Value} (ho : a < rl_N ∧ ∀ f, rl_cr E a f = .inr (ci, fs f)) {C : String} {T : u_T} {Nf : Nat} (hc : rl_Cl[ci]? = some (C, T, Nf)) (hk : k < Nf) {v : Value} (hv : (fs (σ a))[k]? = some v) (hl : (∀ w ∈ u_ws C T Nf, w ∈ rl_TT) ∧ Cond.fieldLink own index (T k).1 (T k).2.1 (T k).2.2.1 ∈ rl_TT) (kk : rl_G p l e R s m args below meth c nL E cells slots Q σ (pc + 3) L (v :: st)) : rl_G p l e R s m args below meth c nL E cells slots Q σ (pc) L (.ref (E.1 a) :: st) := fun H locs ls h1 h2 h3 =>
  va_get (D := E.2.1) (cl := rl_Cl) (ws := rl_wo E σ) Γ.1 Γ.2.1 Γ.2.2.2.2 hl.1 Γ.2.2.2.1 hO.1 h1 a ((rl_wo_at ho.1).trans (by rw [ho.2])) hc k hk (Γ.2.2.2.2 _ hl.2) (fun _ h => h) hv d (kk H locs ls h1 h2 h3)
theorem rl_put (Γ : CallFix p m c cc nL s args rl_TT own) {index : Nat} (d : decode cc pc = .ok (.putfield index, 3)) (hO : rl_Ok E s) {a ci k : Nat} {fs : (Nat → Int32) → List Value} (ho : a < rl_N ∧ ∀ f, rl_cr E a f = .inr (ci, fs f)) {C : String} {T : u_T} {Nf : Nat} (hc : rl_Cl[ci]? = some (C, T, Nf)) (hk : k < Nf) {v : Int32} (hs : ∀ (f : Nat → Int32) (x : Int32), fs (upd f k x) = (fs f).set k (.int x)) (hl : (∀ w ∈ u_ws C T Nf, w ∈ rl_TT) ∧ Cond.fieldLink own index (T k).1 (T k).2.1 (T k).2.2.1 ∈ rl_TT) (ty0 : Nat → FieldType) (hty : ∀ k, k < Nf → parseFieldDescriptor (T k).2.2.1 = some (ty0 k)) (hnm : ∀ a, a < Nf → ∀ b, b < Nf → a ≠ b → (T a).2.1 ≠ (T b).2.1) (hfin : (T k).2.2.2 = false) (hlen : ∀ f, k < (fs f).length) (hn : narrow (ty0 k) (.int v) = .int v ∧ fits (ty0 k) (.int v) = true) (kk : rl_G p l e R s m args below meth c nL E cells slots Q (rl_su σ a k v) (pc + 3) L (st)) : rl_G p l e R s m args below meth c nL E cells slots Q σ (pc) L (.int v :: .ref (E.1 a) :: st) := fun H locs ls h1 h2 h3 =>
  va_put (D := E.2.1) (cl := rl_Cl) (ws := rl_wo E σ) (H0 := s.heap) Γ.1 Γ.2.1 Γ.2.2.2.2 hl.1 ty0 hty hnm Γ.2.2.2.1 hO.1 h1 (rl_D hO σ) h2 a ((rl_wo_at ho.1).trans (by rw [ho.2])) hc k hk (Γ.2.2.2.2 _ hl.2) (fun _ h => h) hfin (hty k hk) hn.1 hn.2 (hlen _) d (fun H1 locs1 hP _ hS => kk H1 locs1 ls (by rw [← hs, ← ho.2, rl_wo_set ho.1] at hP; exact hP) hS h3)
theorem rl_ild (Γ : CallFix p m c cc nL s args rl_TT own) (d : decode cc pc = .ok (.iaload, 1)) (hO : rl_Ok E s) {a n : Nat} {i : Int32} (ho : a < rl_N ∧ ∀ f : Nat → Int32, rl_cr E a f = .inl (E.2.2.1, n, .inl f)) (hi : vp_in i n) (kk : rl_G p l e R s m args below meth c nL E cells slots Q σ (pc + 1) L (.int (σ a i.toNatClampNeg) :: st)) : rl_G p l e R s m args below meth c nL E cells slots Q σ (pc) L (.int i :: .ref (E.1 a) :: st) := fun H locs ls h1 h2 h3 =>
  va_iald (D := E.2.1) (cl := rl_Cl) (ws := rl_wo E σ) Γ.1 Γ.2.1 hO.1 h1 a 0 ((rl_wo_at ho.1).trans (by rw [ho.2])) rfl hi d (kk H locs ls h1 h2 h3)
theorem rl_ist (Γ : CallFix p m c cc nL s args rl_TT own) (d : decode cc pc = .ok (.iastore, 1)) (hO : rl_Ok E s) {a n : Nat} {i x : Int32} (ho : a < rl_N ∧ ∀ f : Nat → Int32, rl_cr E a f = .inl (E.2.2.1, n, .inl f)) (hi : vp_in i n) (kk : rl_G p l e R s m args below meth c nL E cells slots Q (rl_su σ a i.toNatClampNeg x) (pc + 1) L (st)) : rl_G p l e R s m args below meth c nL E cells slots Q σ (pc) L (.int x :: .int i :: .ref (E.1 a) :: st) := fun H locs ls h1 h2 h3 =>
  va_iast (D := E.2.1) (cl := rl_Cl) (ws := rl_wo E σ) (H0 := s.heap) Γ.1 Γ.2.1 hO.1 h1 (rl_D hO σ) h2 a 0 ((rl_wo_at ho.1).trans (by rw [ho.2])) rfl hi d (fun H1 locs1 hP _ hS => kk H1 locs1 ls (by rw [← ho.2, rl_wo_set ho.1] at hP; exact hP) hS h3)
theorem rl_ald (Γ : CallFix p m c cc nL s args rl_TT own) (d : decode cc pc = .ok (.aaload, 1)) (hO : rl_Ok E s) {i : Int32} (ho : 15 < rl_N ∧ ∀ f : Nat → Int32, rl_cr E 15 f = .inl (E.2.2.2.2, 11, .inr (.inr (.inr (.inr (fun i => some (E.1 (23 + 3 * i)))))))) (hi : vp_in i 11) (kk : rl_G p l e R s m args below meth c nL E cells slots Q σ (pc + 1) L (.ref (E.1 (rl_cv i)) :: st)) : rl_G p l e R s m args below meth c nL E cells slots Q σ (pc) L (.int i :: .ref (E.1 15) :: st) := fun H locs ls h1 h2 h3 =>
  va_aldq (D := E.2.1) (cl := rl_Cl) (ws := rl_wo E σ) (f := fun i => some (E.1 (23 + 3 * i))) Γ.1 Γ.2.1 hO.1 h1 15 2 ((rl_wo_at ho.1).trans (by rw [ho.2])) rfl hi d (kk H locs ls h1 h2 h3)
theorem rl_mmax (Γ : CallFix p m c cc nL s args rl_TT own) {index : Nat} (d : decode cc pc = .ok (.invokestatic index, 3)) (g1 : (Cond.methodLink own index Lib.Math.max.name).before args s = true) (g2 : (Cond.static Lib.Math.max.name).before args s = true) (g3 : (Cond.initialized "java/lang/Math").before args s = true) (g4 : (Cond.code Lib.Math.max.name Lib.Math.max.code 2 (some .int)).before args s = true) (hf : 1 ≤ R.frames) (hlo : (st.map fun v => v.category).sum + 13 ≤ R.locals) (hcl : cells ≤ R.cells ∧ slots ≤ R.slots) {x y : Int32} (kk : rl_G p l e R s m args below meth c nL E cells slots Q σ (pc + 3) L (.int (if x < y then y else x) :: st)) : rl_G p l e R s m args below meth c nL E cells slots Q σ (pc) L (.int y :: .int x :: st) := fun H locs ls h1 h2 h3 =>
  va_mmax Γ.1 Γ.2.1 (Γ.2.2.1.trans h3.1.symm) Γ.2.2.2.1 g1 g2 g3 g4 hf hlo hcl.1 hcl.2 d (kk H locs ls h1 h2 h3)
theorem rl_mmin (Γ : CallFix p m c cc nL s args rl_TT own) {index : Nat} (d : decode cc pc = .ok (.invokestatic index, 3)) (g1 : (Cond.methodLink own index Lib.Math.min.name).before args s = true) (g2 : (Cond.static Lib.Math.min.name).before args s = true) (g3 : (Cond.initialized "java/lang/Math").before args s = true) (g4 : (Cond.code Lib.Math.min.name Lib.Math.min.code 2 (some .int)).before args s = true) (hf : 1 ≤ R.frames) (hlo : (st.map fun v => v.category).sum + 13 ≤ R.locals) (hcl : cells ≤ R.cells ∧ slots ≤ R.slots) {x y : Int32} (kk : rl_G p l e R s m args below meth c nL E cells slots Q σ (pc + 3) L (.int (if y < x then y else x) :: st)) : rl_G p l e R s m args below meth c nL E cells slots Q σ (pc) L (.int y :: .int x :: st) := fun H locs ls h1 h2 h3 =>
  va_mmin Γ.1 Γ.2.1 (Γ.2.2.1.trans h3.1.symm) Γ.2.2.2.1 g1 g2 g3 g4 hf hlo hcl.1 hcl.2 d (kk H locs ls h1 h2 h3)
/-- behind a call -/
theorem rl_goon {v : Option Value} {τ : rl_M} {H : Heap} {locs : List Loc} {ls : Array Slot} {st0 : List Value} {a : Array Value} (hr : va_Run p l e R s m args below meth c H locs cells slots 0 0 (F0 m pc ls st0) st (rl_Q E v τ a) (rl_A E)) (hS : va_S (rl_A E) s.heap H locs) (h3 : lv_has ls nL L) (kk : rl_G p l e R s m args below meth c nL E cells slots Q τ (pc + 3) L (v.toList ++ st)) : W p l e R s m args below meth c H locs cells slots Q (F0 m pc ls st0) := by
  intro T hT X
  obtain ⟨v', st₀, t, T', L', h0, X', hL, e1, e2, ⟨hv, hP, hz, hk⟩, stp⟩ := hr T hT X
  cases hv
  rw [h0] at hz hk
  obtain ⟨t2, a1, b1⟩ := kk T'.heap (locs ++ L') ls (by rw [e1]; exact hP) ⟨Nat.le_trans hS.1 (by rw [e1]; exact hz), fun q h1 h2 => by rw [e1, hk q (Nat.lt_of_lt_of_le h1 hS.1) h2]; exact hS.2.1 q h1 h2, fun q hq => by
      rcases List.mem_append.mp hq with h | h
      · exact hS.2.2 q h
      · exact hL q h⟩ h3 T' rfl X'
  exact ⟨t2, stp t2 a1, b1⟩
theorem rl_callV {y : MethodName} {bytes : ByteArray} {maxL index : Nat} {ret : Option FieldType} {rm : Room} {v : Option Value} {τ : rl_M} {a ci : Nat} {fs : (Nat → Int32) → List Value} {C : String} {T : u_T} {Nf : Nat} {As st0 : List Value} (Γ : CallFix p m c cc nL s args rl_TT own) (d : decode cc pc = .ok (.invokevirtual index, 3)) (hO : rl_Ok E s) (hM : Met l y (Cond.code y bytes maxL ret :: rl_TT) rm (rl_P E (.ref (E.1 a) :: As) σ) (rl_Q E v τ) 0 0 (rl_A E)) (n : Nat) (g1 : Cond.methodLink own index y ∈ rl_TT) (g2 : Cond.instanceMethod y ∈ rl_TT) (g3 : Cond.selects C y y ∈ rl_TT) (g4 : Cond.initialized C ∈ rl_TT) (g5 : Cond.code y bytes maxL ret ∈ rl_TT) (ho : a < rl_N ∧ ∀ f, rl_cr E a f = .inr (ci, fs f)) (hc : rl_Cl[ci]? = some (C, T, Nf)) (hrm : rm.cells = 0 ∧ rm.slots = 0) (hd : y.cls = C ∧ y.cls ≠ "java/lang/invoke/MethodHandle" ∧ y.cls ≠ "java/lang/invoke/VarHandle" ∧ (parseMethodDescriptor y.desc).map (fun d => d.parameters.length) = some n) (hf : rm.frames + 1 ≤ R.frames) (hlo : 8 + (maxL + 11) + rm.locals ≤ R.locals) (hcl : cells ≤ R.cells ∧ slots ≤ R.slots) (hw : (st.map fun v => v.category).sum ≤ 8) (hn : As.length = n) (hst : st0 = As.reverse ++ .ref (E.1 a) :: st) (kk : rl_G p l e R s m args below meth c nL E cells slots Q τ (pc + 3) L (v.toList ++ st)) : rl_G p l e R s m args below meth c nL E cells slots Q σ (pc) L (st0) := by
  intro H locs ls h1 h2 h3
  have hG : GoodIn rl_TT (wsV own index C y (Cond.code y bytes maxL ret :: rl_TT)) := by
    intro w hw
    rcases List.mem_append.mp hw with h | h
    · simp only [List.mem_cons, List.not_mem_nil, or_false] at h
      rcases h with rfl | rfl | rfl | rfl
      · exact rl_gd g1
      · exact rl_gd g2
      · exact rl_gd g3
      · exact rl_gd g4
    · exact rl_GI g5 w h
  exact rl_goon (va_runV (As := As) (rest := st) Γ hM (cwV n Γ.2.2.2.2 hG rfl hrm.1 hrm.2 hd ⟨hf, hlo⟩) ⟨rl_P_blind E _ σ, va_recv hO.1 h1 hc (q0 := a) ((rl_wo_at ho.1).trans (by rw [ho.2])), fun U hU hW => ⟨rfl, by rw [hU]; exact h1, hO.moved hW (fun q q1 q2 => by rw [hU]; exact h2.2.1 q q1 q2)⟩⟩ rfl hn h3.1 hst (lv_room hw) d hcl) h2 h3 kk
theorem rl_callS {y : MethodName} {bytes : ByteArray} {maxL index : Nat} {ret : Option FieldType} {rm : Room} {v : Option Value} {τ : rl_M} {C : String} {As st0 : List Value} (Γ : CallFix p m c cc nL s args rl_TT own) (d : decode cc pc = .ok (.invokestatic index, 3)) (hO : rl_Ok E s) (hM : Met l y (Cond.code y bytes maxL ret :: rl_TT) rm (rl_P E As σ) (rl_Q E v τ) 0 0 (rl_A E)) (n : Nat) (g1 : Cond.methodLink own index y ∈ rl_TT) (g2 : Cond.static y ∈ rl_TT) (g4 : Cond.initialized C ∈ rl_TT) (g5 : Cond.code y bytes maxL ret ∈ rl_TT) (hrm : rm.cells = 0 ∧ rm.slots = 0) (hd : y.cls = C ∧ y.cls ≠ "java/lang/invoke/MethodHandle" ∧ y.cls ≠ "java/lang/invoke/VarHandle" ∧ (parseMethodDescriptor y.desc).map (fun d => d.parameters.length) = some n) (hf : rm.frames + 1 ≤ R.frames) (hlo : 8 + (maxL + 11) + rm.locals ≤ R.locals) (hcl : cells ≤ R.cells ∧ slots ≤ R.slots) (hw : (st.map fun v => v.category).sum ≤ 8) (hn : As.length = n) (hst : st0 = As.reverse ++ st) (kk : rl_G p l e R s m args below meth c nL E cells slots Q τ (pc + 3) L (v.toList ++ st)) : rl_G p l e R s m args below meth c nL E cells slots Q σ (pc) L (st0) := by
  intro H locs ls h1 h2 h3
  obtain ⟨hC, hd⟩ := hd
  subst hC
  exact rl_goon (va_runS (As := As) (rest := st) Γ hM ⟨callB_of n Γ.2.2.2.2 (rl_GI g5) rfl hrm.1 hrm.2 (Γ.2.2.2.2 _ g4) (Γ.2.2.2.2 _ g1) hd ⟨hf, hlo⟩, Γ.2.2.2.2 _ g2⟩ ⟨rl_P_blind E _ σ, fun U hU hW => ⟨rfl, by rw [hU]; exact h1, hO.moved hW (fun q q1 q2 => by rw [hU]; exact h2.2.1 q q1 q2)⟩⟩ rfl hn h3.1 hst (lv_room hw) d hcl) h2 h3 kk
theorem rl_callSN {y : MethodName} {bytes : ByteArray} {maxL index : Nat} {ret : Option FieldType} {rm : Room} {v : Option Value} {τ : rl_M} {C host : String} {As st0 : List Value} (Γ : CallFix p m c cc nL s args rl_TT own) (d : decode cc pc = .ok (.invokestatic index, 3)) (hO : rl_Ok E s) (hM : Met l y (Cond.code y bytes maxL ret :: rl_TT) rm (rl_P E As σ) (rl_Q E v τ) 0 0 (rl_A E)) (n : Nat) (g1 : va_Nw (.methodLinkNest own index y host) s) (g2 : Cond.static y ∈ rl_TT) (g4 : Cond.initialized C ∈ rl_TT) (g5 : Cond.code y bytes maxL ret ∈ rl_TT) (hrm : rm.cells = 0 ∧ rm.slots = 0) (hd : y.cls = C ∧ y.cls ≠ "java/lang/invoke/MethodHandle" ∧ y.cls ≠ "java/lang/invoke/VarHandle" ∧ (parseMethodDescriptor y.desc).map (fun d => d.parameters.length) = some n) (hf : rm.frames + 1 ≤ R.frames) (hlo : 8 + (maxL + 11) + rm.locals ≤ R.locals) (hcl : cells ≤ R.cells ∧ slots ≤ R.slots) (hw : (st.map fun v => v.category).sum ≤ 8) (hn : As.length = n) (hst : st0 = As.reverse ++ st) (kk : rl_G p l e R s m args below meth c nL E cells slots Q τ (pc + 3) L (v.toList ++ st)) : rl_G p l e R s m args below meth c nL E cells slots Q σ (pc) L (st0) := by
  intro H locs ls h1 h2 h3
  obtain ⟨hC, hd⟩ := hd
  subst hC
  have hc : Cond.code y bytes maxL ret ∈ (Cond.code y bytes maxL ret :: rl_TT) := List.mem_cons_self
  exact rl_goon (va_runSN (As := As) (rest := st) Γ hM ⟨⟨⟨hrm.1, hrm.2, hf, hlo, pay_in Γ.2.2.2.2 (rl_GI g5), hc⟩, Γ.2.2.2.2 _ g5, Γ.2.2.2.2 _ g4, ⟨hd.1, hd.2.1⟩, fun sig h => by
      have h9 := hd.2.2
      rw [h] at h9
      exact (Option.some.inj h9).symm, va_Nw.use rfl g1⟩, Γ.2.2.2.2 _ g2, trivial⟩ ⟨rl_P_blind E _ σ, fun U hU hW => ⟨rfl, by rw [hU]; exact h1, hO.moved hW (fun q q1 q2 => by rw [hU]; exact h2.2.1 q q1 q2)⟩⟩ rfl hn h3.1 hst (lv_room hw) d hcl) h2 h3 kk
theorem rl_callVi {y : MethodName} {bytes : ByteArray} {maxL index : Nat} {ret : Option FieldType} {rm : Room} {r : Int32} {τ : rl_M} {a ci : Nat} {fs : (Nat → Int32) → List Value} {C : String} {T : u_T} {Nf : Nat} {As st0 : List Value} (Γ : CallFix p m c cc nL s args rl_TT own) (d : decode cc pc = .ok (.invokevirtual index, 3)) (hO : rl_Ok E s) (hM : Met l y (Cond.code y bytes maxL ret :: rl_TT) rm (rl_P E (.ref (E.1 a) :: As) σ) (rl_Q E (rl_ri r) τ) 0 0 (rl_A E)) (n : Nat) (g1 : Cond.methodLink own index y ∈ rl_TT) (g2 : Cond.instanceMethod y ∈ rl_TT) (g3 : Cond.selects C y y ∈ rl_TT) (g4 : Cond.initialized C ∈ rl_TT) (g5 : Cond.code y bytes maxL ret ∈ rl_TT) (ho : a < rl_N ∧ ∀ f, rl_cr E a f = .inr (ci, fs f)) (hc : rl_Cl[ci]? = some (C, T, Nf)) (hrm : rm.cells = 0 ∧ rm.slots = 0) (hd : y.cls = C ∧ y.cls ≠ "java/lang/invoke/MethodHandle" ∧ y.cls ≠ "java/lang/invoke/VarHandle" ∧ (parseMethodDescriptor y.desc).map (fun d => d.parameters.length) = some n) (hf : rm.frames + 1 ≤ R.frames) (hlo : 8 + (maxL + 11) + rm.locals ≤ R.locals) (hcl : cells ≤ R.cells ∧ slots ≤ R.slots) (hw : (st.map fun v => v.category).sum ≤ 8) (hn : As.length = n) (hst : st0 = As.reverse ++ .ref (E.1 a) :: st) (kk : rl_G p l e R s m args below meth c nL E cells slots Q τ (pc + 3) L (.int r :: st)) : rl_G p l e R s m args below meth c nL E cells slots Q σ (pc) L (st0) := rl_callV Γ d hO hM n g1 g2 g3 g4 g5 ho hc hrm hd hf hlo hcl hw hn hst kk
theorem rl_callVv {y : MethodName} {bytes : ByteArray} {maxL index : Nat} {ret : Option FieldType} {rm : Room} {r : Int32} {τ : rl_M} {a ci : Nat} {fs : (Nat → Int32) → List Value} {C : String} {T : u_T} {Nf : Nat} {As st0 : List Value} (Γ : CallFix p m c cc nL s args rl_TT own) (d : decode cc pc = .ok (.invokevirtual index, 3)) (hO : rl_Ok E s) (hM : Met l y (Cond.code y bytes maxL ret :: rl_TT) rm (rl_P E (.ref (E.1 a) :: As) σ) (rl_Q E (rl_rv r) τ) 0 0 (rl_A E)) (n : Nat) (g1 : Cond.methodLink own index y ∈ rl_TT) (g2 : Cond.instanceMethod y ∈ rl_TT) (g3 : Cond.selects C y y ∈ rl_TT) (g4 : Cond.initialized C ∈ rl_TT) (g5 : Cond.code y bytes maxL ret ∈ rl_TT) (ho : a < rl_N ∧ ∀ f, rl_cr E a f = .inr (ci, fs f)) (hc : rl_Cl[ci]? = some (C, T, Nf)) (hrm : rm.cells = 0 ∧ rm.slots = 0) (hd : y.cls = C ∧ y.cls ≠ "java/lang/invoke/MethodHandle" ∧ y.cls ≠ "java/lang/invoke/VarHandle" ∧ (parseMethodDescriptor y.desc).map (fun d => d.parameters.length) = some n) (hf : rm.frames + 1 ≤ R.frames) (hlo : 8 + (maxL + 11) + rm.locals ≤ R.locals) (hcl : cells ≤ R.cells ∧ slots ≤ R.slots) (hw : (st.map fun v => v.category).sum ≤ 8) (hn : As.length = n) (hst : st0 = As.reverse ++ .ref (E.1 a) :: st) (kk : rl_G p l e R s m args below meth c nL E cells slots Q τ (pc + 3) L (st)) : rl_G p l e R s m args below meth c nL E cells slots Q σ (pc) L (st0) := rl_callV Γ d hO hM n g1 g2 g3 g4 g5 ho hc hrm hd hf hlo hcl hw hn hst kk
theorem rl_callSi {y : MethodName} {bytes : ByteArray} {maxL index : Nat} {ret : Option FieldType} {rm : Room} {r : Int32} {τ : rl_M} {C : String} {As st0 : List Value} (Γ : CallFix p m c cc nL s args rl_TT own) (d : decode cc pc = .ok (.invokestatic index, 3)) (hO : rl_Ok E s) (hM : Met l y (Cond.code y bytes maxL ret :: rl_TT) rm (rl_P E As σ) (rl_Q E (rl_ri r) τ) 0 0 (rl_A E)) (n : Nat) (g1 : Cond.methodLink own index y ∈ rl_TT) (g2 : Cond.static y ∈ rl_TT) (g4 : Cond.initialized C ∈ rl_TT) (g5 : Cond.code y bytes maxL ret ∈ rl_TT) (hrm : rm.cells = 0 ∧ rm.slots = 0) (hd : y.cls = C ∧ y.cls ≠ "java/lang/invoke/MethodHandle" ∧ y.cls ≠ "java/lang/invoke/VarHandle" ∧ (parseMethodDescriptor y.desc).map (fun d => d.parameters.length) = some n) (hf : rm.frames + 1 ≤ R.frames) (hlo : 8 + (maxL + 11) + rm.locals ≤ R.locals) (hcl : cells ≤ R.cells ∧ slots ≤ R.slots) (hw : (st.map fun v => v.category).sum ≤ 8) (hn : As.length = n) (hst : st0 = As.reverse ++ st) (kk : rl_G p l e R s m args below meth c nL E cells slots Q τ (pc + 3) L (.int r :: st)) : rl_G p l e R s m args below meth c nL E cells slots Q σ (pc) L (st0) := rl_callS Γ d hO hM n g1 g2 g4 g5 hrm hd hf hlo hcl hw hn hst kk
theorem rl_callSv {y : MethodName} {bytes : ByteArray} {maxL index : Nat} {ret : Option FieldType} {rm : Room} {r : Int32} {τ : rl_M} {C : String} {As st0 : List Value} (Γ : CallFix p m c cc nL s args rl_TT own) (d : decode cc pc = .ok (.invokestatic index, 3)) (hO : rl_Ok E s) (hM : Met l y (Cond.code y bytes maxL ret :: rl_TT) rm (rl_P E As σ) (rl_Q E (rl_rv r) τ) 0 0 (rl_A E)) (n : Nat) (g1 : Cond.methodLink own index y ∈ rl_TT) (g2 : Cond.static y ∈ rl_TT) (g4 : Cond.initialized C ∈ rl_TT) (g5 : Cond.code y bytes maxL ret ∈ rl_TT) (hrm : rm.cells = 0 ∧ rm.slots = 0) (hd : y.cls = C ∧ y.cls ≠ "java/lang/invoke/MethodHandle" ∧ y.cls ≠ "java/lang/invoke/VarHandle" ∧ (parseMethodDescriptor y.desc).map (fun d => d.parameters.length) = some n) (hf : rm.frames + 1 ≤ R.frames) (hlo : 8 + (maxL + 11) + rm.locals ≤ R.locals) (hcl : cells ≤ R.cells ∧ slots ≤ R.slots) (hw : (st.map fun v => v.category).sum ≤ 8) (hn : As.length = n) (hst : st0 = As.reverse ++ st) (kk : rl_G p l e R s m args below meth c nL E cells slots Q τ (pc + 3) L (st)) : rl_G p l e R s m args below meth c nL E cells slots Q σ (pc) L (st0) := rl_callS Γ d hO hM n g1 g2 g4 g5 hrm hd hf hlo hcl hw hn hst kk
theorem rl_callSNi {y : MethodName} {bytes : ByteArray} {maxL index : Nat} {ret : Option FieldType} {rm : Room} {r : Int32} {τ : rl_M} {C host : String} {As st0 : List Value} (Γ : CallFix p m c cc nL s args rl_TT own) (d : decode cc pc = .ok (.invokestatic index, 3)) (hO : rl_Ok E s) (hM : Met l y (Cond.code y bytes maxL ret :: rl_TT) rm (rl_P E As σ) (rl_Q E (rl_ri r) τ) 0 0 (rl_A E)) (n : Nat) (g1 : va_Nw (.methodLinkNest own index y host) s) (g2 : Cond.static y ∈ rl_TT) (g4 : Cond.initialized C ∈ rl_TT) (g5 : Cond.code y bytes maxL ret ∈ rl_TT) (hrm : rm.cells = 0 ∧ rm.slots = 0) (hd : y.cls = C ∧ y.cls ≠ "java/lang/invoke/MethodHandle" ∧ y.cls ≠ "java/lang/invoke/VarHandle" ∧ (parseMethodDescriptor y.desc).map (fun d => d.parameters.length) = some n) (hf : rm.frames + 1 ≤ R.frames) (hlo : 8 + (maxL + 11) + rm.locals ≤ R.locals) (hcl : cells ≤ R.cells ∧ slots ≤ R.slots) (hw : (st.map fun v => v.category).sum ≤ 8) (hn : As.length = n) (hst : st0 = As.reverse ++ st) (kk : rl_G p l e R s m args below meth c nL E cells slots Q τ (pc + 3) L (.int r :: st)) : rl_G p l e R s m args below meth c nL E cells slots Q σ (pc) L (st0) := rl_callSN Γ d hO hM n g1 g2 g4 g5 hrm hd hf hlo hcl hw hn hst kk
theorem rl_callSNv {y : MethodName} {bytes : ByteArray} {maxL index : Nat} {ret : Option FieldType} {rm : Room} {r : Int32} {τ : rl_M} {C host : String} {As st0 : List Value} (Γ : CallFix p m c cc nL s args rl_TT own) (d : decode cc pc = .ok (.invokestatic index, 3)) (hO : rl_Ok E s) (hM : Met l y (Cond.code y bytes maxL ret :: rl_TT) rm (rl_P E As σ) (rl_Q E (rl_rv r) τ) 0 0 (rl_A E)) (n : Nat) (g1 : va_Nw (.methodLinkNest own index y host) s) (g2 : Cond.static y ∈ rl_TT) (g4 : Cond.initialized C ∈ rl_TT) (g5 : Cond.code y bytes maxL ret ∈ rl_TT) (hrm : rm.cells = 0 ∧ rm.slots = 0) (hd : y.cls = C ∧ y.cls ≠ "java/lang/invoke/MethodHandle" ∧ y.cls ≠ "java/lang/invoke/VarHandle" ∧ (parseMethodDescriptor y.desc).map (fun d => d.parameters.length) = some n) (hf : rm.frames + 1 ≤ R.frames) (hlo : 8 + (maxL + 11) + rm.locals ≤ R.locals) (hcl : cells ≤ R.cells ∧ slots ≤ R.slots) (hw : (st.map fun v => v.category).sum ≤ 8) (hn : As.length = n) (hst : st0 = As.reverse ++ st) (kk : rl_G p l e R s m args below meth c nL E cells slots Q τ (pc + 3) L (st)) : rl_G p l e R s m args below meth c nL E cells slots Q σ (pc) L (st0) := rl_callSN Γ d hO hM n g1 g2 g4 g5 hrm hd hf hlo hcl hw hn hst kk
theorem rl_iret (Γ : CallFix p m c cc nL s args rl_TT own) (d : decode cc pc = .ok (.ireturn, 1)) (hr : meth.sig.returnType = some .int) (hk : meth.locks = false) {v : Int32} {r : Int32 × rl_M} (h : some (v, σ) = some r) : rl_G p l e R s m args below meth c nL E 0 0 (rl_QM below args s E rl_ri r) σ pc L [.int v] := by
  cases h
  exact fun H locs ls h1 h2 h3 => W.iret (v := v) Γ.1 Γ.2.1 hr (fun t ht hW => ⟨rfl, by rw [ht]; exact h1, h2.F ht⟩) h2.2.2 d
theorem rl_zret (Γ : CallFix p m c cc nL s args rl_TT own) (d : decode cc pc = .ok (.ireturn, 1)) (hr : meth.sig.returnType = some .boolean) (hk : meth.locks = false) {v : Int32} {r : Int32 × rl_M} (hz : rl_zb v = true) (h : some (v, σ) = some r) : rl_G p l e R s m args below meth c nL E 0 0 (rl_QM below args s E rl_ri r) σ pc L [.int v] := by
  cases h
  have hn : narrow .boolean (.int v) = .int v := by
    simp only [rl_zb, Bool.or_eq_true, decide_eq_true_eq] at hz
    rcases hz with rfl | rfl <;> decide
  exact fun H locs ls h1 h2 h3 => W.zret (v := v) Γ.1 Γ.2.1 hr hn (fun t ht hW => ⟨rfl, by rw [ht]; exact h1, h2.F ht⟩) h2.2.2 d
theorem rl_vret (Γ : CallFix p m c cc nL s args rl_TT own) (d : decode cc pc = .ok (.return_, 1)) (hr : meth.sig.returnType = none) (hk : meth.locks = false) {v : Int32} {r : Int32 × rl_M} (h : some (v, σ) = some r) : rl_G p l e R s m args below meth c nL E 0 0 (rl_QM below args s E rl_rv r) σ pc L [] := by
  cases h
  exact fun H locs ls h1 h2 h3 => W.vret Γ.1 Γ.2.1 hr (fun t ht hW => ⟨rfl, by rw [ht]; exact h1, h2.F ht⟩) h2.2.2 d
theorem rl_swIn (Γ : CallFix p m c cc nL s args rl_TT own) {dflt lo hi : Int} {offs : Array Int} {len : Nat} {x k : Int32} {off : Int} {tgt : Nat} (d : decode cc pc = .ok (.tableswitch dflt lo hi offs, len)) (hx : x = k) (h1 : ¬ k.toInt < lo) (h2 : ¬ hi < k.toInt) (ho : offs[(k.toInt - lo).toNat]? = some off) (ht : (pc : Int) + off = (tgt : Int)) (kk : rl_G p l e R s m args below meth c nL E cells slots Q σ (tgt) L (st)) : rl_G p l e R s m args below meth c nL E cells slots Q σ (pc) L (.int x :: st) := by
  subst hx
  exact fun H locs ls a1 a2 a3 => lv_tableIn Γ.1 Γ.2.1 d h1 h2 ho ht (kk H locs ls a1 a2 a3)
theorem rl_swOut (Γ : CallFix p m c cc nL s args rl_TT own) {dflt lo hi : Int} {offs : Array Int} {len : Nat} {x : Int32} {tgt : Nat} (d : decode cc pc = .ok (.tableswitch dflt lo hi offs, len)) (h : x.toInt < lo ∨ hi < x.toInt) (ht : (pc : Int) + dflt = (tgt : Int)) (kk : rl_G p l e R s m args below meth c nL E cells slots Q σ (tgt) L (st)) : rl_G p l e R s m args below meth c nL E cells slots Q σ (pc) L (.int x :: st) :=
  fun H locs ls a1 a2 a3 => lv_tableOut Γ.1 Γ.2.1 d h ht (kk H locs ls a1 a2 a3)
theorem rl_ldc2 (Γ : CallFix p m c cc nL s args rl_TT own) {index : Nat} {v : Int64} (d : decode cc pc = .ok (.ldc2_w index, 3)) (hc : Cond.constantLong own index v ∈ rl_TT) (kk : rl_G p l e R s m args below meth c nL E cells slots Q σ (pc + 3) L (.long v :: st)) : rl_G p l e R s m args below meth c nL E cells slots Q σ (pc) L (st) := fun H locs ls h1 h2 h3 => lv_ldc2 Γ.1 Γ.2.1 Γ.2.2.2.1 (Γ.2.2.2.2 _ hc) d (kk H locs ls h1 h2 h3)
end RLG
theorem rl_n0 {E : rl_E} {s : State} (h : rl_Ok E s) : va_Nw (.methodLinkNest nR_Sr 23 ny_Ro_roomOfSign nR_Ro) s := h.2.2.1.1
theorem rl_n1 {E : rl_E} {s : State} (h : rl_Ok E s) : va_Nw (.methodLinkNest nR_Sr 31 ny_Ro_joins nR_Ro) s := h.2.2.1.2.1
theorem rl_n2 {E : rl_E} {s : State} (h : rl_Ok E s) : va_Nw (.methodLinkNest nR_St 62 ny_Ro_roomOfSign nR_Ro) s := h.2.2.1.2.2.1
theorem rl_n3 {E : rl_E} {s : State} (h : rl_Ok E s) : va_Nw (.methodLinkNest nR_St 54 ny_Ro_joins nR_Ro) s := h.2.2.1.2.2.2
theorem rl_out4 {x : Int32} (h0 : ¬ x = 0) (h1 : ¬ x = 1) (h2 : ¬ x = 2) (h3 : ¬ x = 3) : x.toInt < 0 ∨ 3 < x.toInt := by
  have a0 := lv_neT (a := 0) h0 rfl
  have a1 := lv_neT (a := 1) h1 rfl
  have a2 := lv_neT (a := 2) h2 rfl
  have a3 := lv_neT (a := 3) h3 rfl
  omega
theorem rl_ni {v : Int32} : narrow .int (.int v) = .int v ∧ fits .int (.int v) = true := ⟨rfl, rfl⟩
theorem rl_nz {v : Int32} (h : rl_zb v = true) : narrow .boolean (.int v) = .int v ∧ fits .boolean (.int v) = true := by
  simp only [rl_zb, Bool.or_eq_true, decide_eq_true_eq] at h
  rcases h with rfl | rfl <;> decide
