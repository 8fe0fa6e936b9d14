/-! plans with a supposition -/
def FrA (μ μ' : Mm) : Prop := (∀ k, k < 20 → μ'.1 k = μ.1 k) ∧ μ'.2 = μ.2
def FrB (ν ν' : Mm) : Prop := (∀ k, 1 ≤ k → k ≤ 6 → ν'.1 k = ν.1 k) ∧ ν'.1 0 4 = ν.1 0 4
theorem FrA_rf (a : Mm) : FrA a a := ⟨fun _ _ => rfl, rfl⟩
theorem FrB_rf (a : Mm) : FrB a a := ⟨fun _ _ _ => rfl, rfl⟩
theorem FrA_tr {a b c : Mm} (h : FrA a b) (k : FrA b c) : FrA a c := ⟨fun i hi => (k.1 i hi).trans (h.1 i hi), k.2.trans h.2⟩
theorem FrB_tr {a b c : Mm} (h : FrB a b) (k : FrB b c) : FrB a c := ⟨fun i h1 h2 => (k.1 i h1 h2).trans (h.1 i h1 h2), k.2.trans h.2⟩
theorem FrC_A {a b : Mm} (h : FrC a b) : FrA a b := ⟨fun k hk => h.2 k (by omega), h.1⟩
theorem FrL_B {a b : Mm} (h : FrL a b) : FrB a b := ⟨fun k h1 h2 => h.2.1 k (by omega), h.2.2 4 (by omega) (by omega)⟩
theorem FrA_w {a b : Mm} {k i : Nat} {v : Int32} (h : FrA a b) (h1 : 20 ≤ k) : FrA a (wI b k i v) := ⟨fun j hj => by rw [wI_ne (by omega)]; exact h.1 j hj, h.2⟩
theorem FrB_w {a b : Mm} {k i : Nat} {v : Int32} (h : FrB a b) (h1 : 7 ≤ k) : FrB a (wI b k i v) := ⟨fun j h2 h3 => by rw [wI_ne (by omega)]; exact h.1 j h2 h3, by rw [wI_ne (by omega)]; exact h.2⟩
theorem FrB_0 {a b : Mm} {i : Nat} {v : Int32} (h : FrB a b) (h1 : i ≠ 4) : FrB a (wI b 0 i v) := ⟨fun j h2 h3 => by rw [wI_ne (by omega)]; exact h.1 j h2 h3, by rw [wI_eq, u_ne (by omega)]; exact h.2⟩
theorem uu {f : Nat → Int32} {i : Nat} {x y : Int32} : upd (upd f i x) i y = upd f i y := by
  funext j; unfold upd; by_cases c : j = i <;> simp [c]
theorem us {f : Nat → Int32} {i : Nat} : upd f i (f i) = f := by
  funext j; unfold upd; by_cases c : j = i <;> simp [c]
theorem pu_pu {P : Pl} {r i : Nat} {x y : Int32} : pu (pu P r i x) r i y = pu P r i y := by
  unfold pu
  refine Prod.ext rfl ?_
  funext a
  by_cases c : a = r
  · simp only [if_pos c]; exact uu
  · simp only [if_neg c]
theorem pu_self {P : Pl} {r i : Nat} {x : Int32} (h : P.2 r i = x) : pu P r i x = P := by
  unfold pu
  refine Prod.ext rfl ?_
  funext a
  by_cases c : a = r
  · subst c; show (if a = a then upd (P.2 a) i x else P.2 a) = P.2 a; rw [if_pos rfl, ← h]; exact us
  · simp only [if_neg c]
theorem pu_eq {P : Pl} {r i : Nat} {x : Int32} : (pu P r i x).2 r = upd (P.2 r) i x := if_pos rfl
theorem pu_ne {P : Pl} {r i a : Nat} {x : Int32} (h : a ≠ r) : (pu P r i x).2 a = P.2 a := if_neg h
/-- the suppositions -/
theorem PC_gone {P : Pl} {μ : Mm} (h : PC P μ) (x : Int32) : PC (pu P 9 0 x) (wI μ 20 10 x) := by
  obtain ⟨c1, c2, c3, c4, c5, c6, c7, c8, c9, c10, c11, c12, c13⟩ := h
  exact ⟨c1, c2, c3, c4, c5, c6, c7, c8, c9, rfl, c11, c12, c13⟩
theorem PM_gone {P : Pl} {ν : Mm} (h : PM P ν) (x : Int32) : PM (pu P 9 0 x) (wI ν 0 15 x) := by
  obtain ⟨c1, c2, c3, c4, c5, c6, c7, c8, c9, c10, c11, c12, c13⟩ := h
  exact ⟨c1, c2, c3, c4, c5, c6, c7, c8, c9, rfl, c11, c12, c13⟩
theorem PV_gone {P : Pl} (h : PV P) (x : Int32) : PV (pu P 9 0 x) := by
  obtain ⟨c1, c2, c3, c4, c5, c6, c7, c8, c9, c10, c11⟩ := h
  exact ⟨c1, c2, c3, c4, c5, c6, c7, c8, c9, c10, c11⟩
theorem PC_kept {P : Pl} {μ : Mm} (h : PC P μ) (x : Int32) : PC (pu P 9 3 x) (wI μ 20 13 x) := by
  obtain ⟨c1, c2, c3, c4, c5, c6, c7, c8, c9, c10, c11, c12, c13⟩ := h
  exact ⟨c1, c2, c3, c4, c5, c6, c7, c8, c9, c10, c11, c12, rfl⟩
theorem PM_kept {P : Pl} {ν : Mm} (h : PM P ν) (x : Int32) : PM (pu P 9 3 x) (wI ν 0 18 x) := by
  obtain ⟨c1, c2, c3, c4, c5, c6, c7, c8, c9, c10, c11, c12, c13⟩ := h
  exact ⟨c1, c2, c3, c4, c5, c6, c7, c8, c9, c10, c11, c12, rfl⟩
theorem PV_kept {P : Pl} (h : PV P) {x : Int32} (hx : Rg 9 x) : PV (pu P 9 3 x) := by
  obtain ⟨c1, c2, c3, c4, c5, c6, c7, c8, c9, c10, c11⟩ := h
  exact ⟨c1, c2, c3, c4, c5, c6, c7, c8, c9, c10, Or.inr hx⟩
theorem PC_odd {P : Pl} {μ : Mm} (h : PC P μ) (x : Int32) (hk : μ.1 20 11 = P.2 9 2) : PC (pu P 9 1 x) (wI μ 20 12 x) := by
  obtain ⟨c1, c2, c3, c4, c5, c6, c7, c8, c9, c10, c11, c12, c13⟩ := h
  exact ⟨c1, c2, c3, c4, c5, c6, c7, c8, c9, c10, rfl, fun _ => hk, c13⟩
theorem PM_odd {P : Pl} {ν : Mm} (h : PM P ν) (x : Int32) (hk : ν.1 0 17 = P.2 9 2) : PM (pu P 9 1 x) (wI ν 0 16 x) := by
  obtain ⟨c1, c2, c3, c4, c5, c6, c7, c8, c9, c10, c11, c12, c13⟩ := h
  exact ⟨c1, c2, c3, c4, c5, c6, c7, c8, c9, c10, rfl, fun _ => hk, c13⟩
theorem PV_odd {P : Pl} (h : PV P) (x : Int32) (hx : Rg 9 (P.2 9 2)) : PV (pu P 9 1 x) := by
  obtain ⟨c1, c2, c3, c4, c5, c6, c7, c8, c9, c10, c11⟩ := h
  exact ⟨c1, c2, c3, c4, c5, c6, c7, c8, c9, fun _ => hx, c11⟩
theorem PC_oth {P : Pl} {μ : Mm} (h : PC P μ) (x : Int32) : PC (pu P 9 2 x) (wI μ 20 11 x) := by
  obtain ⟨c1, c2, c3, c4, c5, c6, c7, c8, c9, c10, c11, c12, c13⟩ := h
  exact ⟨c1, c2, c3, c4, c5, c6, c7, c8, c9, c10, c11, fun _ => rfl, c13⟩
theorem PM_oth {P : Pl} {ν : Mm} (h : PM P ν) (x : Int32) : PM (pu P 9 2 x) (wI ν 0 17 x) := by
  obtain ⟨c1, c2, c3, c4, c5, c6, c7, c8, c9, c10, c11, c12, c13⟩ := h
  exact ⟨c1, c2, c3, c4, c5, c6, c7, c8, c9, c10, c11, fun _ => rfl, c13⟩
theorem PV_oth {P : Pl} (h : PV P) {x : Int32} (hx : Rg 9 x) : PV (pu P 9 2 x) := by
  obtain ⟨c1, c2, c3, c4, c5, c6, c7, c8, c9, c10, c11⟩ := h
  exact ⟨c1, c2, c3, c4, c5, c6, c7, c8, c9, fun _ => hx, c11⟩
theorem PM_oth_back {P : Pl} {ν : Mm} {x : Int32} (h : PM (pu P 9 2 x) ν) (hk : P.2 9 1 = -1) : PM P ν := by
  obtain ⟨c1, c2, c3, c4, c5, c6, c7, c8, c9, c10, c11, c12, c13⟩ := h
  exact ⟨c1, c2, c3, c4, c5, c6, c7, c8, c9, c10, c11, fun z => absurd hk z, c13⟩
theorem PC_turn {P : Pl} {μ : Mm} {w : Nat} (h : PC P μ) (x : Int32) : PC (pu P 6 w x) (wI μ 27 w x) := by
  obtain ⟨c1, c2, c3, c4, c5, c6, c7, c8, c9, c10, c11, c12, c13⟩ := h
  refine ⟨c1, c2, c3, c4, c5, c6, ?_, c8, c9, c10, c11, c12, c13⟩
  intro k hk
  rw [pu_eq, wI_eq, u_if, u_if, c7 k hk]
theorem PM_turn {P : Pl} {ν : Mm} {w : Nat} (h : PM P ν) (x : Int32) : PM (pu P 6 w x) (wI ν 9 w x) := by
  obtain ⟨c1, c2, c3, c4, c5, c6, c7, c8, c9, c10, c11, c12, c13⟩ := h
  refine ⟨c1, c2, c3, c4, c5, c6, ?_, c8, c9, c10, c11, c12, c13⟩
  intro k hk
  rw [pu_eq, wI_eq, u_if, u_if, c7 k hk]
theorem PV_turn {P : Pl} {w : Nat} (h : PV P) {x : Int32} (hx : Rg 3 x) : PV (pu P 6 w x) := by
  obtain ⟨c1, c2, c3, c4, c5, c6, c7, c8, c9, c10, c11⟩ := h
  refine ⟨c1, c2, c3, c4, c5, c6, ?_, c8, c9, c10, c11⟩
  intro k hk
  rw [pu_eq, u_if]
  by_cases c : k = w
  · rw [if_pos c]; exact hx
  · rw [if_neg c]; exact c7 k hk
theorem PC_look {P : Pl} {μ : Mm} {w : Nat} (h : PC P μ) (x : Int32) : PC (pu P 1 w x) (wI μ 22 w x) := by
  obtain ⟨c1, c2, c3, c4, c5, c6, c7, c8, c9, c10, c11, c12, c13⟩ := h
  refine ⟨c1, c2, c3, c4, ?_, c6, c7, c8, c9, c10, c11, c12, c13⟩
  intro k hk
  have := c5 k hk
  refine ⟨this.1, ?_, this.2.2⟩
  rw [pu_eq, wI_eq, u_if, u_if, this.2.1]
theorem PM_look {P : Pl} {ν : Mm} {w : Nat} (h : PM P ν) (x : Int32) : PM (pu P 1 w x) (wI ν 7 (3 * w + 1) x) := by
  obtain ⟨c1, c2, c3, c4, c5, c6, c7, c8, c9, c10, c11, c12, c13⟩ := h
  refine ⟨c1, c2, c3, c4, ?_, c6, c7, c8, c9, c10, c11, c12, c13⟩
  intro k hk
  have := c5 k hk
  refine ⟨?_, ?_, ?_⟩
  · rw [pu_ne (by omega), wI_eq, u_ne (by omega)]; exact this.1
  · rw [pu_eq, wI_eq, u_if, u_if, this.2.1]
    by_cases c : k = w
    · rw [if_pos c, if_pos (by omega)]
    · rw [if_neg c, if_neg (by omega)]
  · rw [pu_ne (by omega), wI_eq, u_ne (by omega)]; exact this.2.2
theorem PV_look {P : Pl} {w : Nat} (h : PV P) {x : Int32} (hx : Rg 9 x) : PV (pu P 1 w x) := by
  obtain ⟨c1, c2, c3, c4, c5, c6, c7, c8, c9, c10, c11⟩ := h
  refine ⟨c1, c2, c3, c4, ?_, c6, c7, c8, c9, c10, c11⟩
  intro k hk
  rw [pu_eq, u_if]
  by_cases c : k = w
  · rw [if_pos c]; exact hx
  · rw [if_neg c]; exact c5 k hk
theorem PC_taste {P : Pl} {μ : Mm} {w : Nat} (h : PC P μ) (x : Int32) : PC (pu P 3 w x) (wI μ 24 w x) := by
  obtain ⟨c1, c2, c3, c4, c5, c6, c7, c8, c9, c10, c11, c12, c13⟩ := h
  refine ⟨c1, c2, c3, c4, c5, ?_, c7, c8, c9, c10, c11, c12, c13⟩
  intro k hk
  have := c6 k hk
  refine ⟨?_, this.2.1, this.2.2⟩
  rw [pu_eq, wI_eq, u_if, u_if, this.1]
theorem PM_taste {P : Pl} {ν : Mm} {w : Nat} (h : PM P ν) (x : Int32) : PM (pu P 3 w x) (wI ν 8 (3 * w) x) := by
  obtain ⟨c1, c2, c3, c4, c5, c6, c7, c8, c9, c10, c11, c12, c13⟩ := h
  refine ⟨c1, c2, c3, c4, c5, ?_, c7, c8, c9, c10, c11, c12, c13⟩
  intro k hk
  have := c6 k hk
  refine ⟨?_, ?_, ?_⟩
  · rw [pu_eq, wI_eq, u_if, u_if, this.1]
    by_cases c : k = w
    · rw [if_pos c, if_pos (by omega)]
    · rw [if_neg c, if_neg (by omega)]
  · rw [pu_ne (by omega), wI_eq, u_ne (by omega)]; exact this.2.1
  · rw [pu_ne (by omega), wI_eq, u_ne (by omega)]; exact this.2.2
theorem PV_taste {P : Pl} {w : Nat} (h : PV P) (x : Int32) : PV (pu P 3 w x) := by
  obtain ⟨c1, c2, c3, c4, c5, c6, c7, c8, c9, c10, c11⟩ := h
  exact ⟨c1, c2, c3, c4, c5, c6, c7, c8, c9, c10, c11⟩
/-- a write that the plan does not see -/
theorem PC_w {P : Pl} {μ : Mm} {k i : Nat} {v : Int32} (h : PC P μ) (hk : 28 ≤ k) : PC P (wI μ k i v) := by
  unfold PC at *
  rw [wI_ne (by omega), wI_ne (by omega), wI_ne (by omega), wI_ne (by omega), wI_ne (by omega), wI_ne (by omega), wI_ne (by omega), wI_ne (by omega), wI_ne (by omega), wI_ne (by omega), wI_ne (by omega), wI_ne (by omega)]
  exact h
theorem PM_w {P : Pl} {ν : Mm} {k i : Nat} {v : Int32} (h : PM P ν) (hk : 11 ≤ k) (hk2 : k ≠ 23) : PM P (wI ν k i v) := by
  unfold PM at *
  rw [wI_ne (by omega), wI_ne (by omega), wI_ne (by omega), wI_ne (by omega), wI_ne (by omega), wI_ne (by omega)]
  exact h
