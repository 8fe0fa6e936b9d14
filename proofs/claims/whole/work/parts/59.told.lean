/-! the told plan on both sides -/
theorem vl_rg {lf b : Int32} {q : Nat} (hl : lf = 0 ∨ lf = 1) (h : ¬ vl lf q b = -9) : Rg 9 (vl lf q b) := by
  by_cases c0 : q = 0
  · subst c0
    unfold vl at *
    rw [if_pos rfl] at *
    by_cases c1 : b = 115
    · rw [if_pos c1]; exact ⟨0, by omega, rfl⟩
    · rw [if_neg c1] at *
      by_cases c2 : b = 99
      · rw [if_pos c2]; exact ⟨1, by omega, rfl⟩
      · rw [if_neg c2] at *
        by_cases c3 : b = 119
        · rw [if_pos c3]; exact ⟨2, by omega, rfl⟩
        · rw [if_neg c3] at h; exact absurd rfl h
  · by_cases c1 : q = 1
    · subst c1
      rw [vl1 hl] at h
      have h := Decidable.not_not.mp h
      unfold vl
      rw [if_neg (by omega), if_pos rfl, if_pos h]
      have : ∃ a, 48 ≤ a ∧ a ≤ 57 ∧ b = nI a := by
        rcases hl with rfl | rfl
        · exact ge48 (k := 48) (by omega) h.1 h.2
        · obtain ⟨a, h1, h2⟩ := ge48 (k := 49) (by omega) h.1 h.2
          exact ⟨a, by omega, h2⟩
      obtain ⟨a, h1, h2, rfl⟩ := this
      rw [sub48 h1 h2]; exact ⟨a - 48, by omega, rfl⟩
    · by_cases c2 : q = 2
      · subst c2
        rw [vl2] at h
        have h := Decidable.not_not.mp h
        unfold vl
        rw [if_neg (by omega), if_neg (by omega), if_pos rfl, if_pos h]
        obtain ⟨a, h1, h2, rfl⟩ := ge48 (k := 48) (by omega) h.1 (Int32.le_trans h.2 (by decide))
        rw [sub48 h1 h2]; exact ⟨a - 48, by omega, rfl⟩
      · unfold vl at *
        rw [if_neg c0, if_neg c1, if_neg c2] at *
        by_cases c3 : b = 59
        · rw [if_pos c3]; exact ⟨0, by omega, rfl⟩
        · rw [if_neg c3] at h; exact absurd rfl h
theorem Tr0 (μ : Mm) (k : Nat) : (Td μ).2 0 k = vl 0 0 (μ.1 2 (4 * k)) := by
  unfold Td
  simp
theorem Tr1 (μ : Mm) (k : Nat) : (Td μ).2 1 k = vl 0 1 (μ.1 2 (4 * k + 1)) := by
  unfold Td
  simp
theorem Tr2 (μ : Mm) (k : Nat) : (Td μ).2 2 k = vl 0 2 (μ.1 2 (4 * k + 2)) := by
  unfold Td
  simp
theorem Tr3 (μ : Mm) (k : Nat) : (Td μ).2 3 k = vl 1 0 (μ.1 4 (4 * k)) := by
  unfold Td
  simp
theorem Tr4 (μ : Mm) (k : Nat) : (Td μ).2 4 k = vl 1 1 (μ.1 4 (4 * k + 1)) := by
  unfold Td
  simp
theorem Tr5 (μ : Mm) (k : Nat) : (Td μ).2 5 k = vl 1 2 (μ.1 4 (4 * k + 2)) := by
  unfold Td
  simp
theorem Tr7 (μ : Mm) (k : Nat) : (Td μ).2 7 k = μ.1 8 k := by
  unfold Td
  simp
theorem Tr8 (μ : Mm) (k : Nat) : (Td μ).2 8 k = μ.1 10 k := by
  unfold Td
  simp
theorem eR_n {n : Nat} (h : eR n = true) : n = 0 ∨ n % 4 = 3 := by unfold eR at h; exact of_decide_eq_true h
theorem Td0 {n : Nat} {μ ν : Mm} (h : tx1 n μ ν) : (Td μ).1 0 = (if μ.1 1 2 = -1 then (n + 1) / 4 else 0) ∧ (Td μ).1 0 ≤ 10 ∧ (∀ k q, k < (Td μ).1 0 → q < 3 → μ.1 1 2 = -1 ∧ 4 * k + q < n ∧ ¬ vl 0 q (μ.1 2 (4 * k + q)) = -9) := by
  obtain ⟨h1, h2, h3, h4, h5, h6⟩ := h
  have e : (Td μ).1 0 = (if μ.1 1 2 = -1 then (n + 1) / 4 else 0) := by
    show (if μ.1 1 2 = -1 then ((μ.1 1 1).toNatClampNeg + 1) / 4 else 0) = _
    rw [h2, n_c (by omega)]
  rw [e]
  refine ⟨rfl, ?_, ?_⟩
  · split <;> omega
  · intro k q hk hq
    by_cases c : μ.1 1 2 = -1
    · rw [if_pos c] at hk
      obtain ⟨g1, g2⟩ := Ft_ok (by omega) h6 c
      have := eR_n g2
      refine ⟨c, by omega, ?_⟩
      have g := g1 (4 * k + q) (by omega)
      unfold gR at g
      rw [show (4 * k + q) % 4 = q from by omega] at g
      exact g
    · rw [if_neg c] at hk; omega
theorem Td1 {n : Nat} {μ ν : Mm} (h : tx3 n μ ν) : (Td μ).1 1 = (if μ.1 3 2 = -1 then (n + 1) / 4 else 0) ∧ (Td μ).1 1 ≤ 4 ∧ (∀ k q, k < (Td μ).1 1 → q < 3 → μ.1 3 2 = -1 ∧ 4 * k + q < n ∧ ¬ vl 1 q (μ.1 4 (4 * k + q)) = -9) := by
  obtain ⟨h1, h2, h3, h4, h5, h6⟩ := h
  have e : (Td μ).1 1 = (if μ.1 3 2 = -1 then (n + 1) / 4 else 0) := by
    show (if μ.1 3 2 = -1 then ((μ.1 3 1).toNatClampNeg + 1) / 4 else 0) = _
    rw [h2, n_c (by omega)]
  rw [e]
  refine ⟨rfl, ?_, ?_⟩
  · split <;> omega
  · intro k q hk hq
    by_cases c : μ.1 3 2 = -1
    · rw [if_pos c] at hk
      obtain ⟨g1, g2⟩ := Ft_ok (by omega) h6 c
      have := eR_n g2
      refine ⟨c, by omega, ?_⟩
      have g := g1 (4 * k + q) (by omega)
      unfold gR at g
      rw [show (4 * k + q) % 4 = q from by omega] at g
      exact g
    · rw [if_neg c] at hk; omega
theorem Td6 {n : Nat} {μ ν : Mm} (h : tx5 n μ ν) (k : Nat) : (Td μ).2 6 k = (if μ.1 5 2 = -1 ∧ k < n then μ.1 6 k - 48 else 0) ∧ Rg 3 ((Td μ).2 6 k) := by
  obtain ⟨h1, h2, h3, h4, h5⟩ := h
  have e : (Td μ).2 6 k = (if μ.1 5 2 = -1 ∧ k < n then μ.1 6 k - 48 else 0) := by
    show (if μ.1 5 2 = -1 ∧ k < (μ.1 5 1).toNatClampNeg then μ.1 6 k - 48 else 0) = _
    rw [h2, n_c (by omega)]
  refine ⟨e, ?_⟩
  rw [e]
  by_cases c : μ.1 5 2 = -1 ∧ k < n
  · rw [if_pos c]
    have g := (Ft_ok (by omega) h5 c.1).1 k c.2
    obtain ⟨a, a1, a2, ea⟩ := ge48 (k := 48) (by omega) g.1 (Int32.le_trans g.2 (by decide))
    have g2 := g.2
    rw [ea, n_ler (by omega) (by omega)] at g2
    rw [ea, sub48 a1 a2]; exact ⟨a - 48, by omega, rfl⟩
  · rw [if_neg c]; exact ⟨0, by omega, rfl⟩
theorem Td2 {n : Nat} {μ ν : Mm} (h : evI n μ ν) : (Td μ).1 2 = n := by
  show (μ.1 7 1).toNatClampNeg = n
  rw [h.2.1, n_c (by have := h.1; omega)]
theorem Td3 {n : Nat} {μ ν : Mm} (h : siI n μ ν) : (Td μ).1 3 = n := by
  show (μ.1 9 1).toNatClampNeg = n
  rw [h.2.1, n_c (by have := h.1; omega)]
theorem TdV {μ ν : Mm} (h : Iv μ ν) : PV (Td μ) := by
  obtain ⟨⟨n0, a⟩, ⟨n1, b⟩, ⟨n2, c⟩, ⟨n3, d⟩, ⟨n4, e⟩, -⟩ := h
  have t2 := Td2 d
  have t3 := Td3 e
  refine ⟨(Td0 a).2.1, (Td1 b).2.1, by rw [t2]; exact d.1, by rw [t3]; exact e.1, ?_, ?_, fun k _ => (Td6 c k).2, ?_, ?_, ?_, Or.inl rfl⟩
  · intro k hk
    exact vl_rg (Or.inl rfl) ((Td0 a).2.2 k 1 hk (by omega)).2.2
  · intro k hk
    exact vl_rg (Or.inr rfl) ((Td1 b).2.2 k 1 hk (by omega)).2.2
  · intro k hk
    rw [t2] at hk; exact d.2.2.2.2 k hk
  · intro k hk
    rw [t3] at hk; exact e.2.2.2.2 k hk
  · intro z; exact absurd rfl z
theorem size1 {μ ν : Mm} (h : Iv μ ν) : F_X3_size_1 μ = some (nI ((Td μ).1 0), μ) := by
  obtain ⟨⟨n0, a⟩, -⟩ := h
  unfold F_X3_size_1
  rw [(Td0 a).1, a.2.1]
  have := a.1
  simp (config := { implicitDefEqProofs := false }) (disch := omega) only [n_ar, n_div]
  by_cases c : μ.1 1 2 = -1
  · rw [if_pos c, if_pos c]
  · rw [if_neg c, if_neg c]; rfl
theorem size3 {μ ν : Mm} (h : Iv μ ν) : F_X3_size_3 μ = some (nI ((Td μ).1 1), μ) := by
  obtain ⟨-, ⟨n1, b⟩, -⟩ := h
  unfold F_X3_size_3
  rw [(Td1 b).1, b.2.1]
  have := b.1
  simp (config := { implicitDefEqProofs := false }) (disch := omega) only [n_ar, n_div]
  by_cases c : μ.1 3 2 = -1
  · rw [if_pos c, if_pos c]
  · rw [if_neg c, if_neg c]; rfl
theorem takeC {μ ν : Mm} (h : Iv μ ν) : ∃ μ1, F_X8_planAsTold μ = some μ1 ∧ PC (Td μ) μ1 ∧ FrA μ μ1 := by
  have hV := TdV h
  have s1 := size1 h
  have s3 := size3 h
  obtain ⟨⟨n0, a⟩, ⟨n1, b⟩, ⟨n2, c⟩, ⟨n3, d⟩, ⟨n4, e⟩, -⟩ := h
  have t0 := Td0 a
  have t1 := Td1 b
  have t6 := Td6 c
  have l0 := a.1
  have l1 := b.1
  have l2 := c.1
  have q1 := hV.1
  have q2 := hV.2.1
  unfold F_X8_planAsTold F_X2_take
  rw [s1, bindS]
  have st1 : ∃ s, L_X2_take_11 FUEL 0 (wI μ 20 1 (nI ((Td μ).1 0))) = L_X2_take_79 FUEL 0 s ∧ FrA μ s ∧ s.1 20 1 = nI ((Td μ).1 0) ∧ s.1 20 5 = nI ((Td μ).1 1) ∧ (∀ k, k < (Td μ).1 0 → s.1 21 k = (Td μ).2 0 k ∧ s.1 22 k = (Td μ).2 1 k ∧ s.1 23 k = (Td μ).2 2 k) := by
    refine For1 (fun n i s => L_X2_take_11 n (nI i) s) ((Td μ).1 0) FUEL (fun i s => FrA μ s ∧ s.1 20 1 = nI ((Td μ).1 0) ∧ (∀ k, k < i → s.1 21 k = (Td μ).2 0 k ∧ s.1 22 k = (Td μ).2 1 k ∧ s.1 23 k = (Td μ).2 2 k)) (fun o => ∃ s, o = L_X2_take_79 FUEL 0 s ∧ FrA μ s ∧ s.1 20 1 = nI ((Td μ).1 0) ∧ s.1 20 5 = nI ((Td μ).1 1) ∧ (∀ k, k < (Td μ).1 0 → s.1 21 k = (Td μ).2 0 k ∧ s.1 22 k = (Td μ).2 1 k ∧ s.1 23 k = (Td μ).2 2 k)) ?_ ?_ 0 _ FUEL ⟨FrA_w (FrA_rf μ) (by omega), rfl, fun k hk => absurd hk (by omega)⟩ (by omega) rfl (by rw [FUELe]; omega)
    · rintro n s _ ⟨g1, g2, g3⟩
      have e3 : F_X3_size_3 s = some (nI ((Td μ).1 1), s) := by
        unfold F_X3_size_3 at s3 ⊢
        rw [g1.1 3 (by omega)]
        have := congrArg Prod.fst (Option.some.inj s3)
        simp only at this
        rw [this]
      simp (config := { implicitDefEqProofs := false }) (disch := omega) only [L_X2_take_11_s, g2, n_le, Nat.le_refl, if_true, e3, bindS]
      exact ⟨_, rfl, FrA_w g1 (by omega), g2, rfl, g3⟩
    · rintro n i s _ hi ⟨g1, g2, g3⟩ ih
      have p : ∀ s', FrA μ s' → ∀ q, q < 3 → F_X3_part_1 (nI i) (nI q) s' = some (vl 0 q (μ.1 2 (4 * i + q)), s') := by
        intro s' g q hq
        have v := (t0.2.2 i q hi hq)
        rw [part1 hq (by omega) (by rw [g.1 2 (by omega)]; exact v.2.2), g.1 2 (by omega)]
      have f1 := FrA_w (k := 21) (i := i) (v := vl 0 0 (μ.1 2 (4 * i + 0))) g1 (by omega)
      have f2 := FrA_w (k := 22) (i := i) (v := vl 0 1 (μ.1 2 (4 * i + 1))) f1 (by omega)
      have p0 := p s g1 0 (by omega)
      have p1 := p _ f1 1 (by omega)
      have p2 := p _ f2 2 (by omega)
      rw [show (nI 0 : Int32) = 0 from rfl] at p0
      rw [show (nI 1 : Int32) = 1 from rfl] at p1
      rw [show (nI 2 : Int32) = 2 from rfl] at p2
      simp (config := { implicitDefEqProofs := false }) (disch := omega) only [L_X2_take_11_s, g2, n_le, if_neg, p0, bindS, gi_in, n_c, p1, p2, n_ar]
      apply ih
      refine ⟨FrA_w f2 (by omega), g2, ?_⟩
      intro k hk
      simp (config := { implicitDefEqProofs := false }) (disch := omega) only [wI_ne, wI_eq, u_if]
      by_cases z : k = i
      · subst z; simp only [if_true]; rw [Tr0, Tr1, Tr2]; exact ⟨rfl, rfl, rfl⟩
      · simp only [if_neg z]; exact g3 k (by omega)
  obtain ⟨s, e1, g1, g2, g3, g4⟩ := st1
  rw [e1]
  have st2 : ∃ s', L_X2_take_79 FUEL 0 s = L_X2_take_139 FUEL 0 s' ∧ FrA μ s' ∧ s'.1 20 = s.1 20 ∧ s'.1 21 = s.1 21 ∧ s'.1 22 = s.1 22 ∧ s'.1 23 = s.1 23 ∧ (∀ k, k < (Td μ).1 1 → s'.1 24 k = (Td μ).2 3 k ∧ s'.1 25 k = (Td μ).2 4 k ∧ s'.1 26 k = (Td μ).2 5 k) := by
    refine For1 (fun n i s => L_X2_take_79 n (nI i) s) ((Td μ).1 1) FUEL (fun i s' => FrA μ s' ∧ s'.1 20 = s.1 20 ∧ s'.1 21 = s.1 21 ∧ s'.1 22 = s.1 22 ∧ s'.1 23 = s.1 23 ∧ (∀ k, k < i → s'.1 24 k = (Td μ).2 3 k ∧ s'.1 25 k = (Td μ).2 4 k ∧ s'.1 26 k = (Td μ).2 5 k)) (fun o => ∃ s', o = L_X2_take_139 FUEL 0 s' ∧ FrA μ s' ∧ s'.1 20 = s.1 20 ∧ s'.1 21 = s.1 21 ∧ s'.1 22 = s.1 22 ∧ s'.1 23 = s.1 23 ∧ (∀ k, k < (Td μ).1 1 → s'.1 24 k = (Td μ).2 3 k ∧ s'.1 25 k = (Td μ).2 4 k ∧ s'.1 26 k = (Td μ).2 5 k)) ?_ ?_ 0 s FUEL ⟨g1, rfl, rfl, rfl, rfl, fun k hk => absurd hk (by omega)⟩ (by omega) rfl (by rw [FUELe]; omega)
    · rintro n s' _ ⟨k1, k2, k3⟩
      have e5 : s'.1 20 5 = nI ((Td μ).1 1) := by rw [k2]; exact g3
      simp (config := { implicitDefEqProofs := false }) (disch := omega) only [L_X2_take_79_s, e5, n_le, Nat.le_refl, if_true]
      exact ⟨_, rfl, k1, k2, k3⟩
    · rintro n i s' _ hi ⟨k1, k2, k3, k4, k5, k6⟩ ih
      have e5 : s'.1 20 5 = nI ((Td μ).1 1) := by rw [k2]; exact g3
      have p : ∀ s', FrA μ s' → ∀ q, q < 3 → F_X3_part_3 (nI i) (nI q) s' = some (vl 1 q (μ.1 4 (4 * i + q)), s') := by
        intro s' g q hq
        have v := (t1.2.2 i q hi hq)
        rw [part3 hq (by omega) (by rw [g.1 4 (by omega)]; exact v.2.2), g.1 4 (by omega)]
      have f1 := FrA_w (k := 24) (i := i) (v := vl 1 0 (μ.1 4 (4 * i + 0))) k1 (by omega)
      have f2 := FrA_w (k := 25) (i := i) (v := vl 1 1 (μ.1 4 (4 * i + 1))) f1 (by omega)
      have p0 := p s' k1 0 (by omega)
      have p1 := p _ f1 1 (by omega)
      have p2 := p _ f2 2 (by omega)
      rw [show (nI 0 : Int32) = 0 from rfl] at p0
      rw [show (nI 1 : Int32) = 1 from rfl] at p1
      rw [show (nI 2 : Int32) = 2 from rfl] at p2
      simp (config := { implicitDefEqProofs := false }) (disch := omega) only [L_X2_take_79_s, e5, n_le, if_neg, p0, bindS, gi_in, n_c, p1, p2, n_ar]
      apply ih
      refine ⟨FrA_w f2 (by omega), k2, k3, k4, k5, ?_⟩
      intro k hk
      simp (config := { implicitDefEqProofs := false }) (disch := omega) only [wI_ne, wI_eq, u_if]
      by_cases z : k = i
      · subst z; simp only [if_true]; rw [Tr3, Tr4, Tr5]; exact ⟨rfl, rfl, rfl⟩
      · simp only [if_neg z]; exact k6 k (by omega)
  obtain ⟨s', e2, k1, k2, k3, k4, k5, k6⟩ := st2
  rw [e2]
  have st3 : Ev (L_X2_take_139 FUEL 0 s') (fun μ1 => PC (Td μ) μ1 ∧ FrA μ μ1) := by
    refine For1 (fun n i s => L_X2_take_139 n (nI i) s) 12 FUEL (fun i t => FrA μ t ∧ (∀ j, j ≠ 27 → t.1 j = s'.1 j) ∧ (∀ k, k < i → t.1 27 k = (Td μ).2 6 k)) (fun o => Ev o (fun μ1 => PC (Td μ) μ1 ∧ FrA μ μ1)) ?_ ?_ 0 s' FUEL ⟨k1, fun _ _ => rfl, fun k hk => absurd hk (by omega)⟩ (by omega) rfl (by decide)
    · rintro n t _ ⟨j1, j2, j3⟩
      simp (config := { implicitDefEqProofs := false }) (disch := omega) only [L_X2_take_139_s, n_lel, if_pos]
      refine Ev_some ⟨⟨?_, ?_, ?_, ?_, ?_, ?_, j3, ?_, ?_, rfl, rfl, fun z => absurd rfl z, rfl⟩, FrA_w (FrA_w (FrA_w (FrA_w j1 (by omega)) (by omega)) (by omega)) (by omega)⟩
      · show t.1 20 1 = _; rw [j2 20 (by omega), k2]; exact g2
      · show t.1 20 5 = _; rw [j2 20 (by omega), k2]; exact g3
      · show t.1 7 1 = _; rw [j1.1 7 (by omega), d.2.1, Td2 d]
      · show t.1 9 1 = _; rw [j1.1 9 (by omega), e.2.1, Td3 e]
      · intro k hk
        show t.1 21 k = _ ∧ t.1 22 k = _ ∧ t.1 23 k = _
        rw [j2 21 (by omega), j2 22 (by omega), j2 23 (by omega), k3, k4, k5]; exact g4 k hk
      · intro k hk
        show t.1 24 k = _ ∧ t.1 25 k = _ ∧ t.1 26 k = _
        rw [j2 24 (by omega), j2 25 (by omega), j2 26 (by omega)]; exact k6 k hk
      · intro k _
        rw [Tr7]; show t.1 8 k = μ.1 8 k
        rw [j1.1 8 (by omega)]
      · intro k _
        rw [Tr8]; show t.1 10 k = μ.1 10 k
        rw [j1.1 10 (by omega)]
    · rintro n i t _ hi ⟨j1, j2, j3⟩ ih
      have ej : F_X6_judgeAt (nI i) t = some ((Td μ).2 6 i, t) := by
        unfold F_X6_judgeAt F_X6_size
        rw [bindS, j1.1 5 (by omega), j1.1 6 (by omega), (t6 i).1, c.2.1]
        by_cases z : μ.1 5 2 = -1
        · simp only [if_pos z, n_le (show n2 < 2147483648 by omega) (show i < 2147483648 by omega)]
          by_cases y : n2 ≤ i
          · rw [if_pos y, if_neg (fun x => absurd x.2 (by omega))]
          · rw [if_neg y, if_pos ⟨z, by omega⟩, gi_in hi (by omega), n_c (by omega)]
        · simp only [if_neg z]
          rw [if_pos (by rw [n_lel (by omega) (by omega)]; omega), if_neg (fun x => z x.1)]
      simp (config := { implicitDefEqProofs := false }) (disch := omega) only [L_X2_take_139_s, n_lel, if_neg, ej, bindS, gi_in, n_c, n_ar]
      apply ih
      refine ⟨FrA_w j1 (by omega), fun j hj => by rw [wI_ne hj]; exact j2 j hj, ?_⟩
      intro k hk
      rw [wI_eq, u_if]
      by_cases z : k = i
      · rw [if_pos z, z]
      · rw [if_neg z]; exact j3 k (by omega)
  obtain ⟨μ1, e3, r1, r2⟩ := st3
  rw [e3, bindS]
  exact ⟨μ1, rfl, r1, r2⟩
