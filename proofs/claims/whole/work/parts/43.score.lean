def cn (f : Nat → Int32) : Nat → Nat
  | 0 => 0
  | n + 1 => cn f n + (if f n = -1 then 0 else 1)
theorem cn_cg {f g : Nat → Int32} : ∀ {n : Nat}, (∀ k, k < n → f k = g k) → cn f n = cn g n
  | 0, _ => rfl
  | n + 1, h => by rw [cn, cn, cn_cg (fun k hk => h k (by omega)), h n (by omega)]
theorem cn_le (f : Nat → Int32) : ∀ n, cn f n ≤ n
  | 0 => by simp [cn]
  | n + 1 => by have := cn_le f n; rw [cn]; split <;> omega
def RS (P : Pl) (w : Nat) (μ ν : Mm) : Prop :=
  (∀ k, k < P.1 0 → μ.1 32 k = ν.1 15 k ∧ (ν.1 15 k = -1 ∨ (Rg (w + 21) (ν.1 15 k) ∧ ν.1 14 k = 0))) ∧ μ.1 28 6 = nI (cn (ν.1 15) (P.1 0))
def RSi (P : Pl) (w i : Nat) (μ ν : Mm) : Prop :=
  (∀ k, k < i → μ.1 32 k = ν.1 15 k ∧ (ν.1 15 k = -1 ∨ (Rg (w + 21) (ν.1 15 k) ∧ ν.1 14 k = 0))) ∧ μ.1 28 6 = nI (cn (ν.1 15) i)
theorem RSi_none {P : Pl} {w i : Nat} {s t : Mm} (h : RSi P w i s t) : RSi P w (i + 1) (wI s 32 i (-1)) (wI t 15 i (-1)) := by
  obtain ⟨h1, h2⟩ := h
  refine ⟨?_, ?_⟩
  · intro k hk
    rw [wI_eq, wI_eq, u_if, u_if]
    by_cases e : k = i
    · rw [if_pos e, if_pos e]; exact ⟨rfl, Or.inl rfl⟩
    · rw [if_neg e, if_neg e]; exact h1 k (by omega)
  · rw [wI_ne (by omega), h2, wI_eq, cn, u_eq, if_pos rfl, Nat.add_zero]
    exact congrArg nI (cn_cg (fun k hk => (u_ne (by omega)).symm))
theorem RSi_some {P : Pl} {w i : Nat} {s t : Mm} {v : Int32} (h : RSi P w i s t) (hv : Rg (w + 21) v) (hw : w < 100) (hf : t.1 14 i = 0) : RSi P w (i + 1) (wI (wI s 32 i v) 28 6 (nI (cn (t.1 15) i) + 1)) (wI t 15 i v) := by
  obtain ⟨h1, h2⟩ := h
  have hne : ¬ v = -1 := by
    obtain ⟨x, hx, rfl⟩ := hv
    rw [n_ne1 (by omega)]; exact not_false
  refine ⟨?_, ?_⟩
  · intro k hk
    rw [wI_ne (by omega), wI_eq, wI_eq, u_if, u_if]
    by_cases e : k = i
    · rw [if_pos e, if_pos e]; subst e; exact ⟨rfl, Or.inr ⟨hv, hf⟩⟩
    · rw [if_neg e, if_neg e]; exact h1 k (by omega)
  · rw [wI_eq, u_eq, wI_eq, cn, u_eq, if_neg hne, n_ar]
    have : cn (t.1 15) i = cn (upd (t.1 15) i v) i := cn_cg (fun k hk => (u_ne (by omega)).symm)
    rw [this]
theorem scTail {P : Pl} {w j : Nat} {b s t : Mm} (hV : PV P) (hM : PM P b) (hj : j < 4) {n i : Nat} (hi : P.1 0 ≤ i) (hi2 : i ≤ 10) (hn : n + i = FUEL) (hr : RY P w s t) (hs : RSi P w (P.1 0) s t) (hf : FrM b t) :
    Ev (L_X9_scores_9 n (nI j) (nI i) t) (fun t' => RY P w s t' ∧ RS P w s t' ∧ FrM b t') := by
  refine For1 (fun n i t => L_X9_scores_9 n (nI j) (nI i) t) 10 FUEL (fun i t => P.1 0 ≤ i ∧ RY P w s t ∧ RSi P w (P.1 0) s t ∧ FrM b t) (fun o => Ev o (fun t' => RY P w s t' ∧ RS P w s t' ∧ FrM b t')) ?_ ?_ i t n ⟨hi, hr, hs, hf⟩ hi2 hn (by decide)
  · intro n t _ h
    simp (disch := omega) only [L_X9_scores_9_s, n_lel, if_pos]
    exact Ev_some ⟨h.2.1, h.2.2.1, h.2.2.2⟩
  · intro n i t _ hi h ih
    obtain ⟨g1, ⟨r1, r2, r3, r4, r5, r6, r7, r8⟩, g3, g4⟩ := h
    have pm := PM_fr g4 hM
    have q1 := hV.1
    have q2 := hV.2.1
    simp (disch := omega) only [L_X9_scores_9_s, n_lel, if_neg, isJ (n := P.1 1) _ _ pm.2.1, isT (n := P.1 0) _ _ pm.1, bindS, F_X9_scores_61, F_X9_scores_62, F_X9_scores_84, gi_in, n_c, if_true, n_ar]
    have key : Ev (L_X9_scores_9 n (nI j) (nI (i + 1)) (wI t 15 i (-1))) (fun t' => RY P w s t' ∧ RS P w s t' ∧ FrM b t') := by
      apply ih
      refine ⟨by omega, ⟨r1, r2, r3, r4, r5, r6, r7, r8⟩, ⟨?_, ?_⟩, FrM_w g4 (by omega) (by omega)⟩
      · intro k hk
        have := g3.1 k hk
        rw [wI_eq, u_ne (by omega)]
        exact this
      · rw [g3.2, wI_eq]
        exact congrArg nI (cn_cg (fun k hk => (u_ne (by omega)).symm))
    by_cases c : (if j < P.1 1 then (1 : Int32) else 0) = 0
    · rw [if_pos c]; exact key
    · rw [if_neg c]; exact key
theorem sco2 {P : Pl} {w : Nat} {a b μ ν : Mm} (hV : PV P) (hC : PC P a) (hM : PM P b) (hw : w < 12) (h : WE P w a b μ ν) :
    E2 ((F_X2_judgeIn (nI w) μ).bind (fun q => F_X7_scoreAll q.1 q.2)) (F_X9_scores (nI w) ν) (fun s t => RY P w s t ∧ RS P w s t ∧ FrC a s ∧ FrM b t) := by
  obtain ⟨c1, c2, c3, c4, c5, c6, c7, c8, c9, c10, c11, c12, c13⟩ := PC_fr h.2.2.1 hC
  obtain ⟨d1, d2, d3, d4, d5, d6, d7, d8, d9, d10, d11, d12, d13⟩ := PM_fr h.2.2.2 hM
  have q1 := hV.1
  have q2 := hV.2.1
  obtain ⟨j, hj, ej⟩ := hV.2.2.2.2.2.2.1 w hw
  simp (disch := omega) only [F_X2_judgeIn, F_X9_scores, gi_in, n_c, c7, d7, c2, ej, n_le]
  by_cases cj : P.1 1 ≤ j
  · rw [if_pos cj, bindS]
    unfold F_X7_scoreAll
    refine For2 (fun n i s => L_X7_scoreAll_7 n (-1) (nI i) s) (fun n i s => L_X9_scores_9 n (nI j) (nI i) s) (P.1 0) FUEL FUEL (fun i s t => WE P w a b s t ∧ RSi P w i s t) (fun f g => E2 f g (fun s t => RY P w s t ∧ RS P w s t ∧ FrC a s ∧ FrM b t)) ?_ ?_ 0 _ _ FUEL FUEL ?_ (by omega) rfl rfl (by rw [FUELe]; omega) (by rw [FUELe]; omega)
    · intro n m s t _ hm hs
      have pc := PC_fr hs.1.2.2.1 hC
      simp (disch := omega) only [L_X7_scoreAll_7_s, pc.1, n_le, Nat.le_refl, if_true]
      obtain ⟨r, er, z⟩ := scTail (n := m + 1) hV hM (j := j) (by omega) (Nat.le_refl _) (by omega) hm hs.1.1 hs.2 hs.1.2.2.2
      exact ⟨s, r, rfl, er, z.1, z.2.1, hs.1.2.2.1, z.2.2⟩
    · intro n m i s t _ _ hi hs ih
      have pc := PC_fr hs.1.2.2.1 hC
      have pm := PM_fr hs.1.2.2.2 hM
      simp (disch := omega) only [L_X7_scoreAll_7_s, pc.1, n_le, if_neg, if_true, F_X7_scoreAll_37, F_X7_scoreAll_70, gi_in, n_c, n_ar, L_X9_scores_9_s, n_lel, isJ (n := P.1 1) _ _ pm.2.1, bindS, F_X9_scores_61, F_X9_scores_62, F_X9_scores_84]
      apply ih
      obtain ⟨⟨⟨r1, r2, r3, r4, r5, r6, r7, r8⟩, g, f1, f2⟩, hs⟩ := hs
      exact ⟨⟨⟨r1, r2, r3, r4, r5, r6, r7, r8⟩, g, FrC_w f1 (by omega) (by omega), FrM_w f2 (by omega) (by omega)⟩, RSi_none hs⟩
    · obtain ⟨⟨r1, r2, r3, r4, r5, r6, r7, r8⟩, g, f1, f2⟩ := h
      exact ⟨⟨⟨r1, r2, r3, r4, r5, r6, r7, r8⟩, g, FrC_w f1 (by omega) (by omega), f2⟩, fun k hk => absurd hk (by omega), rfl⟩
  · rw [if_neg cj, bindS]
    unfold F_X7_scoreAll
    refine For2 (fun n i s => L_X7_scoreAll_7 n (nI j) (nI i) s) (fun n i s => L_X9_scores_9 n (nI j) (nI i) s) (P.1 0) FUEL FUEL (fun i s t => WE P w a b s t ∧ RSi P w i s t) (fun f g => E2 f g (fun s t => RY P w s t ∧ RS P w s t ∧ FrC a s ∧ FrM b t)) ?_ ?_ 0 _ _ FUEL FUEL ?_ (by omega) rfl rfl (by rw [FUELe]; omega) (by rw [FUELe]; omega)
    · intro n m s t _ hm hs
      have pc := PC_fr hs.1.2.2.1 hC
      simp (disch := omega) only [L_X7_scoreAll_7_s, pc.1, n_le, Nat.le_refl, if_true]
      obtain ⟨r, er, z⟩ := scTail (n := m + 1) hV hM (j := j) (by omega) (Nat.le_refl _) (by omega) hm hs.1.1 hs.2 hs.1.2.2.2
      exact ⟨s, r, rfl, er, z.1, z.2.1, hs.1.2.2.1, z.2.2⟩
    · intro n m i s t _ _ hi hs ih
      obtain ⟨⟨⟨r1, r2, r3, r4, r5, r6, r7, r8⟩, ⟨g1, g2⟩, f1, f2⟩, hs⟩ := hs
      obtain ⟨c1, c2, c3, c4, c5, c6, c7, c8, c9, c10, c11, c12, c13⟩ := PC_fr f1 hC
      obtain ⟨d1, d2, d3, d4, d5, d6, d7, d8, d9, d10, d11, d12, d13⟩ := PM_fr f2 hM
      have ne1 : ¬ nI j = -1 := by rw [n_ne1 (by omega)]; exact not_false
      simp (disch := omega) only [L_X7_scoreAll_7_s, c1, n_le, if_neg ne1, if_neg, if_true, F_X7_scoreAll_37, F_X7_scoreAll_70, gi_in, n_c, n_ar, bt_def, L_X9_scores_9_s, n_lel, isJ (n := P.1 1) _ _ d2, isT (n := P.1 0) _ _ d1, if_pos, show ((1 : Int32) = 0) = False from by decide, if_false, bindS, F_X9_scores_61, F_X9_scores_62, F_X9_scores_84, scC, scM, d13]
      have hh := g1 i hi
      have h4 := r4 i hi
      have none : E2 (L_X7_scoreAll_7 n (nI j) (nI (i + 1)) (wI s 32 i (-1))) (L_X9_scores_9 m (nI j) (nI (i + 1)) (wI t 15 i (-1))) (fun s t => RY P w s t ∧ RS P w s t ∧ FrC a s ∧ FrM b t) :=
        ih _ _ ⟨⟨⟨r1, r2, r3, r4, r5, r6, r7, r8⟩, ⟨g1, g2⟩, FrC_w f1 (by omega) (by omega), FrM_w f2 (by omega) (by omega)⟩, RSi_none hs⟩
      by_cases k1 : t.1 16 i = 0
      · rw [if_pos k1]
        by_cases k2 : t.1 14 i = 0
        · rw [if_pos k2]
          by_cases k3 : P.2 9 3 = nI i
          · rw [if_pos k3, if_pos (by rw [bt_or1 (by omega)]; exact Or.inl (hh.2.mpr (Or.inr k3)))]
            exact none
          · have nb : ¬ bt (s.1 28 7 ||| s.1 28 5) i = 1 := by
              rw [bt_or1 (by omega), hh.2, h4, k1, k2]
              rintro ((z | z) | z)
              · exact absurd z (by decide)
              · exact k3 z
              · exact absurd z (by decide)
            rw [if_neg nb, if_neg k3]
            have e29 := r1 i hi
            have e31 := r3 i hi
            have ev := (c5 i hi)
            have ew := (c6 j (by omega))
            have ev' := (d5 i hi)
            have ew' := (d6 j (by omega))
            rw [ev.1, ev.2.2, ew.1, ew.2.1, ew.2.2, ev'.1, ev'.2.2, ew'.1, ew'.2.1, ew'.2.2, e29.1, e31.1, g2, show (wI s 32 i (sv (P.2 0 i) (t.1 11 i) (t.1 13 i) (t.1 0 25) (P.2 3 j) (P.2 4 j) (P.2 2 i) (P.2 5 j))).1 28 6 = s.1 28 6 from rfl, hs.2]
            have rg := sv_rg (so := P.2 0 i) (ra := t.1 0 25) (ta := P.2 3 j) (ow := P.2 2 i) (fr := P.2 5 j) e29.2 e31.2 (hV.2.2.2.2.2.1 j (by omega))
            apply ih
            exact ⟨⟨⟨r1, r2, r3, r4, r5, r6, r7, r8⟩, ⟨g1, g2⟩, FrC_w (FrC_w f1 (by omega) (by omega)) (by omega) (by omega), FrM_w f2 (by omega) (by omega)⟩, RSi_some hs rg (by omega) k2⟩
        · have b1 : bt (s.1 28 7 ||| s.1 28 5) i = 1 := by
            rw [bt_or1 (by omega)]; right
            rw [← bt_n0 (by omega), h4]; exact k2
          rw [if_neg k2, if_pos b1]
          exact none
      · have b1 : bt (s.1 28 7 ||| s.1 28 5) i = 1 := by
          rw [bt_or1 (by omega)]; left
          exact hh.2.mpr (Or.inl (hh.1.resolve_left k1))
        rw [if_neg k1, if_pos b1]
        exact none
    · obtain ⟨⟨r1, r2, r3, r4, r5, r6, r7, r8⟩, g, f1, f2⟩ := h
      exact ⟨⟨⟨r1, r2, r3, r4, r5, r6, r7, r8⟩, g, FrC_w f1 (by omega) (by omega), f2⟩, fun k hk => absurd hk (by omega), rfl⟩
