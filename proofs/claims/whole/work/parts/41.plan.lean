/-! A plan, as both sides hold it: numbers (things, judges, events, sights) and rows (0 sorts, 1 looks, 2 owners, 3 tastes, 4 eyes, 5 friends, 6 turns, 7 events, 8 sights, 9 suppositions). -/
abbrev Pl : Type := (Nat → Nat) × (Nat → Nat → Int32)
def pu (P : Pl) (r i : Nat) (v : Int32) : Pl := (P.1, fun a => if a = r then upd (P.2 a) i v else P.2 a)
def PC (P : Pl) (μ : Mm) : Prop :=
  μ.1 20 1 = nI (P.1 0) ∧ μ.1 20 5 = nI (P.1 1) ∧ μ.1 7 1 = nI (P.1 2) ∧ μ.1 9 1 = nI (P.1 3) ∧
  (∀ k, k < P.1 0 → μ.1 21 k = P.2 0 k ∧ μ.1 22 k = P.2 1 k ∧ μ.1 23 k = P.2 2 k) ∧
  (∀ k, k < P.1 1 → μ.1 24 k = P.2 3 k ∧ μ.1 25 k = P.2 4 k ∧ μ.1 26 k = P.2 5 k) ∧
  (∀ k, k < 12 → μ.1 27 k = P.2 6 k) ∧ (∀ k, k < 3 * P.1 2 → μ.1 8 k = P.2 7 k) ∧ (∀ k, k < 3 * P.1 3 → μ.1 10 k = P.2 8 k) ∧
  μ.1 20 10 = P.2 9 0 ∧ μ.1 20 12 = P.2 9 1 ∧ (P.2 9 1 ≠ -1 → μ.1 20 11 = P.2 9 2) ∧ μ.1 20 13 = P.2 9 3
def PM (P : Pl) (ν : Mm) : Prop :=
  ν.1 0 7 = nI (P.1 0) ∧ ν.1 0 9 = nI (P.1 1) ∧ ν.1 0 13 = nI (P.1 2) ∧ ν.1 0 33 = nI (P.1 3) ∧
  (∀ k, k < P.1 0 → ν.1 7 (3 * k) = P.2 0 k ∧ ν.1 7 (3 * k + 1) = P.2 1 k ∧ ν.1 7 (3 * k + 2) = P.2 2 k) ∧
  (∀ k, k < P.1 1 → ν.1 8 (3 * k) = P.2 3 k ∧ ν.1 8 (3 * k + 1) = P.2 4 k ∧ ν.1 8 (3 * k + 2) = P.2 5 k) ∧
  (∀ k, k < 12 → ν.1 9 k = P.2 6 k) ∧ (∀ k, k < 3 * P.1 2 → ν.1 10 k = P.2 7 k) ∧ (∀ k, k < 3 * P.1 3 → ν.1 23 k = P.2 8 k) ∧
  ν.1 0 15 = P.2 9 0 ∧ ν.1 0 16 = P.2 9 1 ∧ (P.2 9 1 ≠ -1 → ν.1 0 17 = P.2 9 2) ∧ ν.1 0 18 = P.2 9 3
def PV (P : Pl) : Prop :=
  P.1 0 ≤ 10 ∧ P.1 1 ≤ 4 ∧ P.1 2 ≤ 8 ∧ P.1 3 ≤ 8 ∧ (∀ k, k < P.1 0 → Rg 9 (P.2 1 k)) ∧ (∀ k, k < P.1 1 → Rg 9 (P.2 4 k)) ∧ (∀ k, k < 12 → Rg 3 (P.2 6 k)) ∧
  (∀ k, k < P.1 2 → Rg 9 (P.2 7 (3 * k + 2))) ∧ (∀ k, k < P.1 3 → Rg 11 (P.2 8 (3 * k)) ∧ Rg 9 (P.2 8 (3 * k + 1)) ∧ Rg 3 (P.2 8 (3 * k + 2))) ∧
  (P.2 9 1 ≠ -1 → Rg 9 (P.2 9 2)) ∧ (P.2 9 3 = -1 ∨ Rg 9 (P.2 9 3))
/-- what a run of the year leaves alone -/
def FrC (μ μ' : Mm) : Prop := μ'.2 = μ.2 ∧ ∀ k, (k < 28 ∨ 33 < k) → μ'.1 k = μ.1 k
def FrM (ν ν' : Mm) : Prop := ν'.2 = ν.2 ∧ (∀ k, (1 ≤ k ∧ k ≤ 10 ∨ 16 < k) → ν'.1 k = ν.1 k) ∧ (∀ i, i ≠ 25 → i ≠ 26 → ν'.1 0 i = ν.1 0 i)
def FrP (w : Nat) (ν ν' : Mm) : Prop := ν'.2 = ν.2 ∧ (∀ k, (1 ≤ k ∧ k ≤ 10 ∨ 16 < k ∧ k ≠ 22) → ν'.1 k = ν.1 k) ∧ (∀ i, i ≠ 25 → i ≠ 26 → ν'.1 0 i = ν.1 0 i) ∧ (∀ i, i < 3 * w → ν'.1 22 i = ν.1 22 i)
def FrL (ν ν' : Mm) : Prop := ν'.2 = ν.2 ∧ (∀ k, (1 ≤ k ∧ k ≤ 10 ∨ 22 < k) → ν'.1 k = ν.1 k) ∧ (∀ i, i ≠ 25 → i ≠ 26 → ν'.1 0 i = ν.1 0 i)
theorem FrC_rf (μ : Mm) : FrC μ μ := ⟨rfl, fun _ _ => rfl⟩
theorem FrM_rf (μ : Mm) : FrM μ μ := ⟨rfl, fun _ _ => rfl, fun _ _ _ => rfl⟩
theorem FrC_tr {a b c : Mm} (h : FrC a b) (k : FrC b c) : FrC a c := ⟨k.1.trans h.1, fun i hi => (k.2 i hi).trans (h.2 i hi)⟩
theorem FrM_tr {a b c : Mm} (h : FrM a b) (k : FrM b c) : FrM a c := ⟨k.1.trans h.1, fun i hi => (k.2.1 i hi).trans (h.2.1 i hi), fun i h1 h2 => (k.2.2 i h1 h2).trans (h.2.2 i h1 h2)⟩
theorem FrC_w {a b : Mm} {k i : Nat} {v : Int32} (h : FrC a b) (h1 : 28 ≤ k) (h2 : k ≤ 33) : FrC a (wI b k i v) :=
  ⟨h.1, fun j hj => by rw [wI_ne (by omega)]; exact h.2 j hj⟩
theorem FrM_w {a b : Mm} {k i : Nat} {v : Int32} (h : FrM a b) (h1 : 11 ≤ k) (h2 : k ≤ 16) : FrM a (wI b k i v) :=
  ⟨h.1, fun j hj => by rw [wI_ne (by omega)]; exact h.2.1 j hj, fun j h3 h4 => by rw [wI_ne (by omega)]; exact h.2.2 j h3 h4⟩
theorem FrM_0 {a b : Mm} {i : Nat} {v : Int32} (h : FrM a b) (h1 : i = 25 ∨ i = 26) : FrM a (wI b 0 i v) :=
  ⟨h.1, fun j hj => by rw [wI_ne (by omega)]; exact h.2.1 j hj, fun j h3 h4 => by rw [wI_eq, u_ne (by omega)]; exact h.2.2 j h3 h4⟩
theorem PC_fr {P : Pl} {a b : Mm} (h : FrC a b) (hp : PC P a) : PC P b := by
  unfold PC at *
  rw [h.2 20 (by omega), h.2 7 (by omega), h.2 9 (by omega), h.2 21 (by omega), h.2 22 (by omega), h.2 23 (by omega), h.2 24 (by omega), h.2 25 (by omega), h.2 26 (by omega), h.2 27 (by omega), h.2 8 (by omega), h.2 10 (by omega)]
  exact hp
theorem PM_frL {P : Pl} {a b : Mm} (h : FrL a b) (hp : PM P a) : PM P b := by
  unfold PM at *
  rw [h.2.2 7 (by omega) (by omega), h.2.2 9 (by omega) (by omega), h.2.2 13 (by omega) (by omega), h.2.2 33 (by omega) (by omega), h.2.2 15 (by omega) (by omega), h.2.2 16 (by omega) (by omega), h.2.2 17 (by omega) (by omega), h.2.2 18 (by omega) (by omega), h.2.1 7 (by omega), h.2.1 8 (by omega), h.2.1 9 (by omega), h.2.1 10 (by omega), h.2.1 23 (by omega)]
  exact hp
theorem FrM_L {a b : Mm} (h : FrM a b) : FrL a b := ⟨h.1, fun k hk => h.2.1 k (by omega), h.2.2⟩
theorem FrM_P {a b : Mm} (w : Nat) (h : FrM a b) : FrP w a b := ⟨h.1, fun k hk => h.2.1 k (by omega), h.2.2, fun i _ => by rw [h.2.1 22 (by omega)]⟩
theorem FrP_L {a b : Mm} {w : Nat} (h : FrP w a b) : FrL a b := ⟨h.1, fun k hk => h.2.1 k (by omega), h.2.2.1⟩
theorem FrP_w {a b : Mm} {w k i : Nat} {v : Int32} (h : FrP w a b) (h1 : 11 ≤ k) (h2 : k ≤ 16) : FrP w a (wI b k i v) :=
  ⟨h.1, fun j hj => by rw [wI_ne (by omega)]; exact h.2.1 j hj, fun j h3 h4 => by rw [wI_ne (by omega)]; exact h.2.2.1 j h3 h4, fun j h3 => by rw [wI_ne (by omega)]; exact h.2.2.2 j h3⟩
theorem FrP_22 {a b : Mm} {w i : Nat} {v : Int32} (h : FrP w a b) (h1 : 3 * w ≤ i) : FrP w a (wI b 22 i v) :=
  ⟨h.1, fun j hj => by rw [wI_ne (by omega)]; exact h.2.1 j hj, fun j h3 h4 => by rw [wI_ne (by omega)]; exact h.2.2.1 j h3 h4, fun j h3 => by rw [wI_eq, u_ne (by omega)]; exact h.2.2.2 j h3⟩
theorem FrP_0 {a b : Mm} {w i : Nat} {v : Int32} (h : FrP w a b) (h1 : i = 25 ∨ i = 26) : FrP w a (wI b 0 i v) :=
  ⟨h.1, fun j hj => by rw [wI_ne (by omega)]; exact h.2.1 j hj, fun j h3 h4 => by rw [wI_eq, u_ne (by omega)]; exact h.2.2.1 j h3 h4, fun j h3 => by rw [wI_ne (by omega)]; exact h.2.2.2 j h3⟩
theorem PM_fr {P : Pl} {a b : Mm} (h : FrM a b) (hp : PM P a) : PM P b := PM_frL (FrM_L h) hp
/-- the year behind w weeks, on both sides -/
def RY (P : Pl) (w : Nat) (μ ν : Mm) : Prop :=
  (∀ k, k < P.1 0 → μ.1 29 k = ν.1 11 k ∧ Rg 9 (ν.1 11 k)) ∧
  (∀ k, k < P.1 0 → μ.1 30 k = ν.1 12 k ∧ Rg (6 * w) (ν.1 12 k)) ∧
  (∀ k, k < P.1 0 → μ.1 31 k = ν.1 13 k ∧ Rg w (ν.1 13 k)) ∧
  (∀ k, k < P.1 0 → bt (μ.1 28 5) k = ν.1 14 k) ∧
  (∀ k, k < 32 → P.1 0 ≤ k → bt (μ.1 28 5) k = 0) ∧
  (∀ i, i < 3 * w → μ.1 33 i = ν.1 22 i ∧ (ν.1 22 i = -1 ∨ ∃ k, k < P.1 0 ∧ ν.1 22 i = nI k)) ∧
  (∀ v, v < w → ∀ p q, p < q → q < 3 → ν.1 22 (3 * v + p) = -1 ∨ ν.1 22 (3 * v + p) ≠ ν.1 22 (3 * v + q)) ∧
  (∀ k, k < P.1 0 → (bt (ν.1 0 26) k = 1 ↔ ∃ i, i < 3 * w ∧ ν.1 22 i = nI k))
/-- what befell in the week -/
def RH (P : Pl) (μ ν : Mm) : Prop :=
  (∀ k, k < P.1 0 → ((ν.1 16 k = 0 ∨ ν.1 16 k = 1) ∧ (bt (μ.1 28 7) k = 1 ↔ (ν.1 16 k = 1 ∨ P.2 9 3 = nI k)))) ∧ μ.1 28 8 = ν.1 0 25
def WE (P : Pl) (w : Nat) (a b : Mm) (μ ν : Mm) : Prop := RY P w μ ν ∧ RH P μ ν ∧ FrC a μ ∧ FrM b ν
theorem hap2 {P : Pl} {w : Nat} {a b μ ν : Mm} (hV : PV P) (hw : w ≤ 12) (h : WE P w a b μ ν) (kd : Int32) {t : Nat} (ht : t < 10) :
    E2 (F_X7_happen kd (nI t) μ) (F_X9_happens kd (nI t) ν) (WE P w a b) := by
  obtain ⟨⟨r1, r2, r3, r4, r5, r6, r7, r8⟩, ⟨g1, g2⟩, f1, f2⟩ := h
  unfold F_X7_happen F_X9_happens
  by_cases c0 : kd = 0
  · subst c0
    simp (disch := omega) only [if_true, if_pos, gi_in, F_J9_min_7cf53, F_X9_lesser, bindS, n_c]
    refine E2_some ⟨⟨?_, r2, r3, r4, r5, r6, r7, r8⟩, ⟨g1, g2⟩, FrC_w f1 (by omega) (by omega), FrM_w f2 (by omega) (by omega)⟩
    intro k hk
    have := r1 k hk
    rw [wI_eq, wI_eq, u_if, u_if]
    by_cases e : k = t
    · subst e
      rw [if_pos rfl, if_pos rfl, min_eq, this.1]
      exact ⟨rfl, Rg_min this.2⟩
    · rw [if_neg e, if_neg e]; exact this
  · rw [if_neg c0, if_neg c0]
    by_cases c1 : kd = 1
    · subst c1
      simp (disch := omega) only [if_true, if_pos, gi_in, bindS, n_c]
      refine E2_some ⟨⟨r1, r2, r3, r4, r5, r6, r7, r8⟩, ⟨?_, g2⟩, FrC_w f1 (by omega) (by omega), FrM_w f2 (by omega) (by omega)⟩
      intro k hk
      have := g1 k hk
      have hn := hV.1
      rw [wI_eq, wI_eq, u_if, u_if, if_pos rfl, bt_or1 (by omega), bt_sh1 (by omega) (by omega)]
      by_cases e : k = t
      · subst e; simp
      · rw [if_neg e, this.2]; refine ⟨this.1, ?_⟩
        have e' : ¬ t = k := fun h => e h.symm
        simp [e']
    · rw [if_neg c1, if_neg c1]
      refine For2 (fun n i s => L_X7_happen_53 n (nI i) s) (fun n i s => L_X9_happens_48 n (nI i) s) 10 FUEL FUEL (fun i s t => WE P w a b s t) (fun f g => E2 f g (WE P w a b)) ?_ ?_ 0 _ _ FUEL FUEL ?_ (by omega) rfl rfl (by decide) (by decide)
      · intro n m s t _ _ h
        simp (disch := omega) only [L_X7_happen_53_s, L_X9_happens_48_s, n_lel, if_pos]
        exact E2_some h
      · intro n m i s t _ _ hi h ih
        simp (disch := omega) only [L_X7_happen_53_s, L_X9_happens_48_s, n_lel, if_neg, gi_in, F_J9_max_7cf53, F_X9_greater, bindS, n_c, n_ar]
        apply ih
        obtain ⟨⟨r1, r2, r3, r4, r5, r6, r7, r8⟩, ⟨g1, g2⟩, f1, f2⟩ := h
        refine ⟨⟨r1, ?_, r3, r4, r5, r6, r7, r8⟩, ⟨g1, g2⟩, FrC_w f1 (by omega) (by omega), FrM_w f2 (by omega) (by omega)⟩
        intro k hk
        have := r2 k hk
        rw [wI_eq, wI_eq, u_if, u_if]
        by_cases e : k = i
        · subst e
          rw [if_pos rfl, if_pos rfl, max_eq, this.1]
          exact ⟨rfl, Rg_dec (d := 1) (by omega) (by omega) this.2⟩
        · rw [if_neg e, if_neg e]; exact this
      · refine ⟨⟨r1, r2, r3, r4, r5, r6, r7, ?_⟩, ⟨g1, rfl⟩, FrC_w f1 (by omega) (by omega), FrM_0 f2 (by omega)⟩
        exact r8
