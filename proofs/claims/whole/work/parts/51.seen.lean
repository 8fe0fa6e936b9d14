/-! spare, never, looked, tastes -/
theorem spare2 {P : Pl} {μ ν : Mm} {i : Int32} (hV : PV P) (hP : P.2 9 0 = 0) (hi : i = -1 ∨ i = 0 ∨ i = 1) (pc : PC P μ) (pm : PM P ν) :
    E2 ((F_X8_standsWithout 0 μ).bind (fun q2 => if q2.1 = 0 then L_X8_sparedEvents_16 FUEL 0 q2.2 else some (0, q2.2))) (F_X9_spareBy i ν) (fun q r => r.1 = spV i q.1 ∧ FrA μ q.2 ∧ FrB ν r.2 ∧ PM P r.2) := by
  have q8 := hV.2.2.1
  unfold F_X9_spareBy
  refine E2_bind (stand2 hV hP 0 ⟨0, by rw [pu_self hP]; exact pc⟩ pm) ?_
  rintro ⟨q, s⟩ ⟨r, t⟩ ⟨h1, h2, h3, h4, h5, h6⟩
  simp only at h1 h2 h3 h4 h5 h6 ⊢
  subst h1
  rcases h2 with rfl | rfl
  · simp only [if_true]
    refine For2 (fun n e s => L_X8_sparedEvents_16 n (nI e) s) (fun n e t => L_X9_spareBy_21 n i (nI e) t) (P.1 2) FUEL FUEL (fun e s t => (∃ y, PC (pu P 9 0 y) s) ∧ PM P t ∧ FrA μ s ∧ FrB ν t) (fun f g => E2 f g (fun q r => r.1 = spV i q.1 ∧ FrA μ q.2 ∧ FrB ν r.2 ∧ PM P r.2)) ?_ ?_ 0 s t FUEL FUEL ⟨h3, h4, h5, h6⟩ (by omega) rfl rfl (by rw [FUELe]; omega) (by rw [FUELe]; omega)
    · intro n m s t _ _ h
      have c3 : s.1 7 1 = nI (P.1 2) := by obtain ⟨y, z⟩ := h.1; exact z.2.2.1
      have d3 : t.1 0 13 = nI (P.1 2) := h.2.1.2.2.1
      simp (disch := omega) only [L_X8_sparedEvents_16_s, L_X9_spareBy_21_s, c3, d3, n_le, Nat.le_refl, if_true]
      refine For2 (fun n e s => L_X8_sparedEvents_49 n (nI e) s) (fun n e t => L_X9_spareBy_66 n i (nI e) t) (P.1 2) FUEL FUEL (fun e s t => (∃ y, PC (pu P 9 0 y) s) ∧ PM P t ∧ FrA μ s ∧ FrB ν t) (fun f g => E2 f g (fun q r => r.1 = spV i q.1 ∧ FrA μ q.2 ∧ FrB ν r.2 ∧ PM P r.2)) ?_ ?_ 0 s t FUEL FUEL h (by omega) rfl rfl (by rw [FUELe]; omega) (by rw [FUELe]; omega)
      · intro n m s t _ _ h
        have c3 : s.1 7 1 = nI (P.1 2) := by obtain ⟨y, z⟩ := h.1; exact z.2.2.1
        have d3 : t.1 0 13 = nI (P.1 2) := h.2.1.2.2.1
        simp (disch := omega) only [L_X8_sparedEvents_49_s, L_X9_spareBy_66_s, c3, d3, n_le, Nat.le_refl, if_true]
        exact E2_some ⟨(spV_n i).symm, h.2.2.1, h.2.2.2, h.2.1⟩
      · intro n m e s t _ _ he h ih
        have c3 : s.1 7 1 = nI (P.1 2) := by obtain ⟨y, z⟩ := h.1; exact z.2.2.1
        have d3 : t.1 0 13 = nI (P.1 2) := h.2.1.2.2.1
        simp (disch := omega) only [L_X8_sparedEvents_49_s, L_X9_spareBy_66_s, c3, d3, n_le, if_neg, n_ar]
        refine For2 (fun n' f s => L_X8_sparedEvents_64 (L_X8_sparedEvents_49 n) n' (nI e) (nI f) s) (fun n' f t => L_X9_spareBy_78 (L_X9_spareBy_66 m) n' i (nI e) (nI f) t) (P.1 2) (FUEL + (e + 1)) (FUEL + (e + 1)) (fun f s t => e < f ∧ (∃ y, PC (pu P 9 0 y) s) ∧ PM P t ∧ FrA μ s ∧ FrB ν t) (fun f g => E2 f g (fun q r => r.1 = spV i q.1 ∧ FrA μ q.2 ∧ FrB ν r.2 ∧ PM P r.2)) ?_ ?_ (e + 1) s t FUEL FUEL ⟨by omega, h⟩ (by omega) rfl rfl (by rw [FUELe]; omega) (by rw [FUELe]; omega)
        · intro n' m' s t _ _ h
          have c3 : s.1 7 1 = nI (P.1 2) := by obtain ⟨y, z⟩ := h.2.1; exact z.2.2.1
          have d3 : t.1 0 13 = nI (P.1 2) := h.2.2.1.2.2.1
          simp (disch := omega) only [L_X8_sparedEvents_64_s, L_X9_spareBy_78_s, c3, d3, n_le, Nat.le_refl, if_true, n_ar]
          exact ih s t h.2
        · intro n' m' f s t _ _ hf h ih2
          have c3 : s.1 7 1 = nI (P.1 2) := by obtain ⟨y, z⟩ := h.2.1; exact z.2.2.1
          have d3 : t.1 0 13 = nI (P.1 2) := h.2.2.1.2.2.1
          simp (disch := omega) only [L_X8_sparedEvents_64_s, L_X9_spareBy_78_s, c3, d3, n_le, if_neg, n_ar]
          refine E2_bind (stand2 hV hP _ h.2.1 h.2.2.1) ?_
          rintro ⟨q, s'⟩ ⟨r, t'⟩ ⟨h1, h2, h3, h4, h5, h6⟩
          simp only at h1 h2 h3 h4 h5 h6 ⊢
          subst h1
          rcases h2 with rfl | rfl
          · simp only [if_true]
            exact ih2 s' t' ⟨by omega, h3, h4, FrA_tr h.2.2.2.1 h5, FrB_tr h.2.2.2.2 h6⟩
          · simp only [show ((1 : Int32) = 0) = False from by decide, if_false]
            refine E2_some ⟨?_, FrA_tr h.2.2.2.1 h5, FrB_tr h.2.2.2.2 h6, h4⟩
            have sp := spV_2 h.1 (show f < 8 by omega)
            rcases hi with rfl | rfl | rfl
            · exact sp.1.symm
            · exact sp.2.1.symm
            · exact sp.2.2.symm
    · intro n m e s t _ _ he h ih
      have c3 : s.1 7 1 = nI (P.1 2) := by obtain ⟨y, z⟩ := h.1; exact z.2.2.1
      have d3 : t.1 0 13 = nI (P.1 2) := h.2.1.2.2.1
      simp (disch := omega) only [L_X8_sparedEvents_16_s, L_X9_spareBy_21_s, c3, d3, n_le, if_neg, n_ar]
      refine E2_bind (stand2 hV hP _ h.1 h.2.1) ?_
      rintro ⟨q, s'⟩ ⟨r, t'⟩ ⟨h1, h2, h3, h4, h5, h6⟩
      simp only at h1 h2 h3 h4 h5 h6 ⊢
      subst h1
      rcases h2 with rfl | rfl
      · simp only [if_true]
        exact ih s' t' ⟨h3, h4, FrA_tr h.2.2.1 h5, FrB_tr h.2.2.2 h6⟩
      · simp only [show ((1 : Int32) = 0) = False from by decide, if_false]
        refine E2_some ⟨?_, FrA_tr h.2.2.1 h5, FrB_tr h.2.2.2 h6, h4⟩
        have sp := spV_1 (show e < 8 by omega)
        rcases hi with rfl | rfl | rfl
        · exact sp.1.symm
        · exact sp.2.1.symm
        · exact sp.2.2.symm
  · simp only [show ((1 : Int32) = 0) = False from by decide, if_false]
    refine E2_some ⟨?_, h5, h6, h4⟩
    rcases hi with rfl | rfl | rfl
    · exact spV_0.1.symm
    · exact spV_0.2.1.symm
    · exact spV_0.2.2.symm
theorem seen2 {P : Pl} {s t : Mm} (hV : PV P) (pc : PC P s) (pm : PM P t) :
    ∃ s1 b s2 t2, F_X7_run 12 s = some s1 ∧ F_X7_bearsOut (s1.1 20 1) s1 = some (b, s2) ∧ F_X9_isSeen t = some (b, t2) ∧ (b = 0 ∨ b = 1) ∧ PC P s2 ∧ PM P t2 ∧ FrC s s2 ∧ FrL t t2 ∧ RY P 12 s2 t2 := by
  obtain ⟨s1, t1, e1, e2, f1, f2, ry, pc1, pm1⟩ := LIVE hV pc pm
  obtain ⟨⟨v, sv⟩, ⟨v', tv⟩, e3, e4, g1, g2, g3, g4⟩ := bear2 hV pc1 pm1 ry
  simp only at g1 g2 g3 g4
  subst g1 g2 g3
  refine ⟨sv, v, sv, tv, e1, by rw [pc1.1]; exact e3, ?_, g4, pc1, pm1, f1, f2, ry⟩
  unfold F_X9_isSeen; rw [e2, bindS, e4]
theorem orif {b x y : Int32} (h : b = 0 ∨ b = 1) : (x ||| (if b = 0 then 0 else y)) = (if b = 0 then x else x ||| y) := by
  rcases h with rfl | rfl
  · simp only [if_true, Int32.or_zero]
  · simp only [show ((1 : Int32) = 0) = False from by decide, if_false]
theorem never2 {P : Pl} {μ ν : Mm} (hV : PV P) (hP : P.2 9 0 = 0) (pc : PC P μ) (pm : PM P ν) :
    E2 (L_X8_never_8 FUEL 0 0 μ) (F_X9_neverNow ν) (fun q r => q.1 = r.1 ∧ FrA μ q.2 ∧ FrB ν r.2 ∧ PM P r.2) := by
  have q8 := hV.2.2.1
  unfold F_X9_neverNow
  refine For2 (fun n e (s : Int32 × Mm) => L_X8_never_8 n s.1 (nI e) s.2) (fun n e (t : Int32 × Mm) => L_X9_neverNow_4 n t.1 (nI e) t.2) (P.1 2) FUEL FUEL (fun e s t => s.1 = t.1 ∧ (∃ y, PC (pu P 9 0 y) s.2) ∧ (∃ y, PM (pu P 9 0 y) t.2) ∧ FrA μ s.2 ∧ FrB ν t.2) (fun f g => E2 f g (fun q r => q.1 = r.1 ∧ FrA μ q.2 ∧ FrB ν r.2 ∧ PM P r.2)) ?_ ?_ 0 (0, μ) (0, ν) FUEL FUEL ⟨rfl, ⟨0, by rw [pu_self hP]; exact pc⟩, ⟨0, by rw [pu_self hP]; exact pm⟩, FrA_rf μ, FrB_rf ν⟩ (by omega) rfl rfl (by rw [FUELe]; omega) (by rw [FUELe]; omega)
  · rintro n m ⟨x, s⟩ ⟨y, t⟩ _ _ ⟨h1, ⟨z, h2⟩, ⟨z', h3⟩, h4, h5⟩
    simp only at h1 h2 h3 h4 h5
    subst h1
    have c3 : s.1 7 1 = nI (P.1 2) := h2.2.2.1
    have d3 : t.1 0 13 = nI (P.1 2) := h3.2.2.1
    simp (disch := omega) only [L_X8_never_8_s, L_X9_neverNow_4_s, c3, d3, n_le, Nat.le_refl, if_true]
    have := PM_gone h3 0
    rw [pu_pu, pu_self hP] at this
    exact E2_some ⟨rfl, h4, FrB_0 h5 (by omega), this⟩
  · rintro n m e ⟨x, s⟩ ⟨y, t⟩ _ _ he ⟨h1, ⟨z, h2⟩, ⟨z', h3⟩, h4, h5⟩ ih
    simp only at h1 h2 h3 h4 h5
    subst h1
    have c3 : s.1 7 1 = nI (P.1 2) := h2.2.2.1
    have d3 : t.1 0 13 = nI (P.1 2) := h3.2.2.1
    have pc' := PC_gone h2 (1 <<< (nI e &&& 31))
    have pm' := PM_gone h3 (1 <<< (nI e &&& 31))
    rw [pu_pu] at pc' pm'
    obtain ⟨s1, b, s2, t2, e1, e2, e3, hb, pc2, pm2, f1, f2, ry⟩ := seen2 (PV_gone hV _) pc' pm'
    simp (disch := omega) only [L_X8_never_8_s, L_X9_neverNow_4_s, c3, d3, n_le, if_neg, e1, e2, e3, bindS, F_X8_never_69, F_X9_neverNow_34, n_ar, orif hb]
    exact ih (_, _) (_, _) ⟨rfl, ⟨_, pc2⟩, ⟨_, pm2⟩, FrA_tr (FrA_w h4 (by omega)) (FrC_A f1), FrB_tr (FrB_0 h5 (by omega)) (FrL_B f2)⟩
theorem tastes2 {P : Pl} {j : Nat} {μ ν : Mm} (hV : PV P) (hj : j < P.1 1) (pc : PC P μ) (pm : PM P ν) :
    E2 (L_X8_tastes_25 FUEL (nI j) 0 0 μ) (F_X9_tastesOf (nI j) ν) (fun q r => q.1 = r.1 ∧ FrA μ q.2 ∧ FrB ν r.2 ∧ PM P r.2) := by
  have q2 := hV.2.1
  unfold F_X9_tastesOf
  simp (disch := omega) only [n_ml, gi_in, n_c, (pm.2.2.2.2.2.1 j hj).1]
  refine For2 (fun n e (s : Int32 × Mm) => L_X8_tastes_25 n (nI j) s.1 (nI e) s.2) (fun n e (t : Int32 × Mm) => L_X9_tastesOf_14 n (nI j) (P.2 3 j) t.1 (nI e) t.2) 3 FUEL FUEL (fun e s t => s.1 = t.1 ∧ (∃ y, PC (pu P 3 j y) s.2) ∧ (∃ y, PM (pu P 3 j y) t.2) ∧ FrA μ s.2 ∧ FrB ν t.2) (fun f g => E2 f g (fun q r => q.1 = r.1 ∧ FrA μ q.2 ∧ FrB ν r.2 ∧ PM P r.2)) ?_ ?_ 0 (0, μ) (0, ν) FUEL FUEL ⟨rfl, ⟨P.2 3 j, by rw [pu_self rfl]; exact pc⟩, ⟨P.2 3 j, by rw [pu_self rfl]; exact pm⟩, FrA_rf μ, FrB_rf ν⟩ (by omega) rfl rfl (by decide) (by decide)
  · rintro n m ⟨x, s⟩ ⟨y, t⟩ _ _ ⟨h1, ⟨z, h2⟩, ⟨z', h3⟩, h4, h5⟩
    simp only at h1 h2 h3 h4 h5
    subst h1
    simp (disch := omega) only [L_X8_tastes_25_s, L_X9_tastesOf_14_s, n_lel, if_pos, n_ml, gi_in, n_c]
    have := PM_taste (w := j) h3 (P.2 3 j)
    rw [pu_pu, pu_self rfl] at this
    exact E2_some ⟨rfl, h4, FrB_w h5 (by omega), this⟩
  · rintro n m e ⟨x, s⟩ ⟨y, t⟩ _ _ he ⟨h1, ⟨z, h2⟩, ⟨z', h3⟩, h4, h5⟩ ih
    simp only at h1 h2 h3 h4 h5
    subst h1
    have pc' := PC_taste (w := j) h2 (nI e)
    have pm' := PM_taste (w := j) h3 (nI e)
    rw [pu_pu] at pc' pm'
    obtain ⟨s1, b, s2, t2, e1, e2, e3, hb, pc2, pm2, f1, f2, ry⟩ := seen2 (PV_taste hV _) pc' pm'
    simp (disch := omega) only [L_X8_tastes_25_s, L_X9_tastesOf_14_s, n_lel, if_neg, n_ml, gi_in, n_c, e1, e2, e3, bindS, F_X8_tastes_80, F_X9_tastesOf_46, n_ar, orif hb]
    exact ih (_, _) (_, _) ⟨rfl, ⟨_, pc2⟩, ⟨_, pm2⟩, FrA_tr (FrA_w h4 (by omega)) (FrC_A f1), FrB_tr (FrB_w h5 (by omega)) (FrL_B f2)⟩
