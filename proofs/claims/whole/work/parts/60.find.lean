/-! finding, on the model's side -/
def pmT (P : Pl) (ν : Mm) : Prop := ν.1 0 7 = nI (P.1 0) ∧ (∀ k, k < P.1 0 → ν.1 7 (3 * k) = P.2 0 k ∧ ν.1 7 (3 * k + 1) = P.2 1 k ∧ ν.1 7 (3 * k + 2) = P.2 2 k)
def pmJ (P : Pl) (ν : Mm) : Prop := ν.1 0 9 = nI (P.1 1) ∧ (∀ k, k < P.1 1 → ν.1 8 (3 * k) = P.2 3 k ∧ ν.1 8 (3 * k + 1) = P.2 4 k ∧ ν.1 8 (3 * k + 2) = P.2 5 k)
def pmB (P : Pl) (ν : Mm) : Prop := ∀ k, k < 12 → ν.1 9 k = P.2 6 k
def pmO (P : Pl) (ν : Mm) : Prop := ν.1 0 13 = nI (P.1 2) ∧ ν.1 0 33 = nI (P.1 3) ∧ (∀ k, k < 3 * P.1 2 → ν.1 10 k = P.2 7 k) ∧ (∀ k, k < 3 * P.1 3 → ν.1 23 k = P.2 8 k) ∧
  ν.1 0 15 = P.2 9 0 ∧ ν.1 0 16 = P.2 9 1 ∧ (P.2 9 1 ≠ -1 → ν.1 0 17 = P.2 9 2) ∧ ν.1 0 18 = P.2 9 3
theorem PM_of {P : Pl} {ν : Mm} (a : pmT P ν) (b : pmJ P ν) (c : pmB P ν) (d : pmO P ν) : PM P ν :=
  ⟨a.1, b.1, d.1, d.2.1, a.2, b.2, c, d.2.2.1, d.2.2.2.1, d.2.2.2.2.1, d.2.2.2.2.2.1, d.2.2.2.2.2.2.1, d.2.2.2.2.2.2.2⟩
theorem PM_T {P : Pl} {ν : Mm} (h : PM P ν) : pmT P ν := ⟨h.1, h.2.2.2.2.1⟩
theorem PM_J {P : Pl} {ν : Mm} (h : PM P ν) : pmJ P ν := ⟨h.2.1, h.2.2.2.2.2.1⟩
theorem PM_B {P : Pl} {ν : Mm} (h : PM P ν) : pmB P ν := h.2.2.2.2.2.2.1
theorem PM_O {P : Pl} {ν : Mm} (h : PM P ν) : pmO P ν := ⟨h.2.2.1, h.2.2.2.1, h.2.2.2.2.2.2.2.1, h.2.2.2.2.2.2.2.2.1, h.2.2.2.2.2.2.2.2.2.1, h.2.2.2.2.2.2.2.2.2.2.1, h.2.2.2.2.2.2.2.2.2.2.2.1, h.2.2.2.2.2.2.2.2.2.2.2.2⟩
def Kp (a b : Mm) : Prop := (∀ P, pmO P a → pmO P b) ∧ FrB a b
theorem FrT_B {c d : Nat} {a b : Mm} (h : FrT c d a b) (hc : 7 ≤ c) (hd : d ≠ 4) : FrB a b := ⟨fun k h1 h2 => h.1 k (by omega) (by omega), h.2.1 4 (by omega)⟩
theorem FrT_O {c d : Nat} {a b : Mm} (h : FrT c d a b) (hc : c = 7 ∨ c = 8 ∨ c = 9) (hd : d < 12) {P : Pl} (p : pmO P a) : pmO P b := by
  unfold pmO at *
  rw [h.2.1 13 (by omega), h.2.1 33 (by omega), h.2.1 15 (by omega), h.2.1 16 (by omega), h.2.1 17 (by omega), h.2.1 18 (by omega), h.1 10 (by omega) (by omega), h.1 23 (by omega) (by omega)]
  exact p
theorem rT {μ ν ν' : Mm} (h : Iv μ ν) (f : FrB ν ν') : ∃ ν'', F_X9_readsThings ν' = some (μ.1 1 2, ν'') ∧ pmT (Td μ) ν'' ∧ FrT 7 7 ν' ν'' := by
  obtain ⟨⟨n, a⟩, -⟩ := h
  have t0 := Td0 a
  obtain ⟨h1, h2, h3, h4, h5, h6⟩ := a
  have e5 : ν'.1 5 = ν.1 5 := f.1 5 (by omega) (by omega)
  have e6 : ν'.1 6 0 = nI n := by rw [f.1 6 (by omega) (by omega)]; exact h3
  obtain ⟨v, ν'', e, ft, g1, g2, g3⟩ := rdThings h1 e6
  have ev : v = μ.1 1 2 := by
    refine Ft_u ft (Ft_cg h6 ?_)
    intro i hi
    unfold gR
    rw [e5, h5 i hi]
  subst ev
  refine ⟨ν'', e, ⟨?_, ?_⟩, g3⟩
  · rw [g1, t0.1]
  · intro k hk
    have z0 := t0.2.2 k 0 hk (by omega)
    have z1 := t0.2.2 k 1 hk (by omega)
    have z2 := t0.2.2 k 2 hk (by omega)
    have lt : k < (n + 1) / 4 := by
      have := hk; rw [t0.1, if_pos z0.1] at this; exact this
    have y0 := g2 z0.1 k 0 lt (by omega)
    have y1 := g2 z0.1 k 1 lt (by omega)
    have y2 := g2 z0.1 k 2 lt (by omega)
    rw [Tr0, Tr1, Tr2, h5 _ (by omega), h5 _ z1.2.1, h5 _ z2.2.1, ← e5]
    exact ⟨y0, y1, y2⟩
theorem rJ {μ ν ν' : Mm} (h : Iv μ ν) (f : FrB ν ν') : ∃ ν'', F_X9_readsJudges ν' = some (μ.1 3 2, ν'') ∧ pmJ (Td μ) ν'' ∧ FrT 8 9 ν' ν'' := by
  obtain ⟨-, ⟨n, a⟩, -⟩ := h
  have t0 := Td1 a
  obtain ⟨h1, h2, h3, h4, h5, h6⟩ := a
  have e5 : ν'.1 5 = ν.1 5 := f.1 5 (by omega) (by omega)
  have e6 : ν'.1 6 1 = nI n := by rw [f.1 6 (by omega) (by omega)]; exact h3
  obtain ⟨v, ν'', e, ft, g1, g2, g3⟩ := rdJudges h1 e6
  have ev : v = μ.1 3 2 := by
    refine Ft_u ft (Ft_cg h6 ?_)
    intro i hi
    unfold gR
    rw [e5, h5 i hi]
  subst ev
  refine ⟨ν'', e, ⟨?_, ?_⟩, g3⟩
  · rw [g1, t0.1]
  · intro k hk
    have z0 := t0.2.2 k 0 hk (by omega)
    have z1 := t0.2.2 k 1 hk (by omega)
    have z2 := t0.2.2 k 2 hk (by omega)
    have lt : k < (n + 1) / 4 := by
      have := hk; rw [t0.1, if_pos z0.1] at this; exact this
    have y0 := g2 z0.1 k 0 lt (by omega)
    have y1 := g2 z0.1 k 1 lt (by omega)
    have y2 := g2 z0.1 k 2 lt (by omega)
    rw [Tr3, Tr4, Tr5, h5 _ (by omega), h5 _ z1.2.1, h5 _ z2.2.1, ← e5]
    exact ⟨y0, y1, y2⟩
def tl (μ : Mm) : Int32 := if μ.1 5 2 = -1 then μ.1 5 1 else 0
theorem rB {μ ν ν' : Mm} (h : Iv μ ν) (f : FrB ν ν') : ∃ ν'', F_X9_readsBox ν' = some (μ.1 5 2, ν'') ∧ pmB (Td μ) ν'' ∧ ν''.1 0 11 = tl μ ∧ FrT 9 11 ν' ν'' := by
  obtain ⟨-, -, ⟨n, a⟩, -⟩ := h
  have t6 := Td6 a
  obtain ⟨h1, h2, h3, h5, h6⟩ := a
  have e5 : ν'.1 5 = ν.1 5 := f.1 5 (by omega) (by omega)
  have e6 : ν'.1 6 2 = nI n := by rw [f.1 6 (by omega) (by omega)]; exact h3
  obtain ⟨v, ν'', e, ft, g1, g2, g3⟩ := rdBox h1 e6
  have ev : v = μ.1 5 2 := by
    refine Ft_u ft (Ft_cg h6 ?_)
    intro i hi
    unfold gB
    rw [e5, h5 i hi]
  subst ev
  refine ⟨ν'', e, ?_, ?_, g3⟩
  · intro k hk
    rw [g2 k hk, (t6 k).1, e5]
    by_cases c : μ.1 5 2 = -1 ∧ k < n
    · rw [if_pos c, if_pos c, h5 k c.2]
    · rw [if_neg c, if_neg c]
  · rw [g1]
    unfold tl
    by_cases c : μ.1 5 2 = -1
    · rw [if_pos c, if_pos c, h2]
    · rw [if_neg c, if_neg c]; rfl
theorem IvO {μ ν : Mm} (h : Iv μ ν) : pmO (Td μ) ν := by
  obtain ⟨-, -, -, ⟨n3, d⟩, ⟨n4, e⟩, -, -, g1, g2, g3⟩ := h
  refine ⟨?_, ?_, ?_, ?_, g1, g2, fun z => absurd rfl z, g3⟩
  · rw [Td2 d]; exact d.2.2.1
  · rw [Td3 e]; exact e.2.2.1
  · intro k hk
    rw [Td2 d] at hk; rw [Tr7]; exact (d.2.2.2.1 k hk).symm
  · intro k hk
    rw [Td3 e] at hk; rw [Tr8]; exact (e.2.2.2.1 k hk).symm
theorem pmT_T {P : Pl} {a b : Mm} {c d : Nat} (h : FrT c d a b) (hc : c ≠ 7) (hd : d ≠ 7) (p : pmT P a) : pmT P b := by
  unfold pmT at *; rw [h.1 7 (by omega) (Ne.symm hc), h.2.1 7 (Ne.symm hd)]; exact p
theorem pmJ_T {P : Pl} {a b : Mm} {c d : Nat} (h : FrT c d a b) (hc : c ≠ 8) (hd : d ≠ 9) (p : pmJ P a) : pmJ P b := by
  unfold pmJ at *; rw [h.1 8 (by omega) (Ne.symm hc), h.2.1 9 (Ne.symm hd)]; exact p
theorem pmB_T {P : Pl} {a b : Mm} {c d : Nat} (h : FrT c d a b) (hc : c ≠ 9) (p : pmB P a) : pmB P b := by
  unfold pmB at *; rw [h.1 9 (by omega) (Ne.symm hc)]; exact p
theorem findM {μ ν ν' : Mm} (h : Iv μ ν) (f : FrB ν ν') (po : pmO (Td μ) ν') : ∃ ν'', F_X9_find ν' = some ν'' ∧ PM (Td μ) ν'' ∧ LR (Td μ) ν'' ∧ FrB ν ν'' ∧ ν''.1 0 11 = tl μ := by
  obtain ⟨μ1, -, pc, -⟩ := takeC h
  obtain ⟨a, e1, p1, f1⟩ := rT h f
  have fb1 := FrB_tr f (FrT_B f1 (by omega) (by omega))
  obtain ⟨b, e2, p2, f2⟩ := rJ h fb1
  have fb2 := FrB_tr fb1 (FrT_B f2 (by omega) (by omega))
  obtain ⟨c, e3, p3, p4, f3⟩ := rB h fb2
  have fb3 := FrB_tr fb2 (FrT_B f3 (by omega) (by omega))
  have pm : PM (Td μ) c := PM_of (pmT_T f3 (by omega) (by omega) (pmT_T f2 (by omega) (by omega) p1)) (pmJ_T f3 (by omega) (by omega) p2) p3 (FrT_O f3 (by omega) (by omega) (FrT_O f2 (by omega) (by omega) (FrT_O f1 (by omega) (by omega) po)))
  obtain ⟨d, e4, f4, lr⟩ := RUN (TdV h) pc pm
  refine ⟨d, ?_, PM_frL f4 pm, lr, FrB_tr fb3 (FrL_B f4), ?_⟩
  · unfold F_X9_find
    rw [e1, bindS, e2, bindS, e3, bindS, e4, bindS]
  · rw [f4.2.2 11 (by omega) (by omega)]; exact p4
theorem Iv_back {μ ν μ' ν' : Mm} (h : Iv μ ν) (f : ∀ k, k < 20 → μ'.1 k = μ.1 k) (g : FrB ν ν') (p : pmO (Td μ) ν') : Iv μ' ν' := by
  obtain ⟨⟨n0, a⟩, ⟨n1, b⟩, ⟨n2, c⟩, ⟨n3, d⟩, ⟨n4, e⟩, sh, la, su⟩ := h
  have t2 := Td2 d
  have t3 := Td3 e
  refine ⟨⟨n0, ?_⟩, ⟨n1, ?_⟩, ⟨n2, ?_⟩, ⟨n3, ?_⟩, ⟨n4, ?_⟩, ?_, ?_, p.2.2.2.2.1, p.2.2.2.2.2.1, p.2.2.2.2.2.2.2⟩
  · unfold tx1 at *; rw [f 1 (by omega), f 2 (by omega), g.1 5 (by omega) (by omega), g.1 6 (by omega) (by omega)]; exact a
  · unfold tx3 at *; rw [f 3 (by omega), f 4 (by omega), g.1 5 (by omega) (by omega), g.1 6 (by omega) (by omega)]; exact b
  · unfold tx5 at *; rw [f 5 (by omega), f 6 (by omega), g.1 5 (by omega) (by omega), g.1 6 (by omega) (by omega)]; exact c
  · unfold evI at *
    rw [f 7 (by omega), f 8 (by omega)]
    refine ⟨d.1, d.2.1, by rw [p.1, t2], ?_, d.2.2.2.2⟩
    intro i hi
    have := p.2.2.1 i (by rw [t2]; exact hi)
    rw [this, Tr7]
  · unfold siI at *
    rw [f 9 (by omega), f 10 (by omega)]
    refine ⟨e.1, e.2.1, by rw [p.2.1, t3], ?_, e.2.2.2.2⟩
    intro i hi
    have := p.2.2.2.1 i (by rw [t3]; exact hi)
    rw [this, Tr8]
  · intro s hs
    rw [f _ (by omega), f _ (by omega), g.1 1 (by omega) (by omega), g.1 2 (by omega) (by omega), g.1 3 (by omega) (by omega)]
    exact sh s hs
  · rw [f 0 (by omega), g.2]; exact la
