/-! the choices -/
def ChI (s : Mm) (b m : Int32) : Prop := s.1 34 0 = b ∧ s.1 34 1 = m ∧ ((b = -1 ∧ m = -1) ∨ b ≠ -1)
def F34 (s s' : Mm) : Prop := (∀ k, k ≠ 34 → s'.1 k = s.1 k) ∧ s'.2 = s.2
theorem PC_34 {P : Pl} {s s' : Mm} (h : PC P s) (f : F34 s s') : PC P s' := by
  unfold PC at *
  rw [f.1 20 (by omega), f.1 7 (by omega), f.1 9 (by omega), f.1 21 (by omega), f.1 22 (by omega), f.1 23 (by omega), f.1 24 (by omega), f.1 25 (by omega), f.1 26 (by omega), f.1 27 (by omega), f.1 8 (by omega), f.1 10 (by omega)]
  exact h
theorem F34_A {a s s' : Mm} (h : FrA a s) (f : F34 s s') : FrA a s' := ⟨fun k hk => (f.1 k (by omega)).trans (h.1 k hk), f.2.trans h.2⟩
theorem off {s : Mm} {b m v : Int32} {c B : Nat} (h : ChI s b m) (hv : Rg B v) (hB : B < 1000000) (hc : c < 1000) :
    ∃ s', F_X0_offer (nI c) v s = some s' ∧ ChI s' (if v ≤ m then b else nI c) (if v ≤ m then m else v) ∧ F34 s s' := by
  obtain ⟨h1, h2, h3⟩ := h
  have ne1 : nI c ≠ -1 := by rw [ne_eq, n_ne1 (by omega)]; exact not_false
  have take : ∃ s', F_X0_offer_16 (nI c) v s = some s' ∧ ChI s' (nI c) v ∧ F34 s s' := by
    refine ⟨_, rfl, ⟨?_, ?_, Or.inr ne1⟩, ?_, rfl⟩
    · rw [wI_eq, u_ne (by omega), wI_eq, u_eq]
    · rw [wI_eq, u_eq]
    · intro k hk; rw [wI_ne hk, wI_ne hk]
  unfold F_X0_offer
  rw [h1, h2]
  by_cases e : b = -1
  · have hm : m = -1 := by
      rcases h3 with z | z
      · exact z.2
      · exact absurd e z
    have : ¬ v ≤ m := by
      obtain ⟨x, hx, rfl⟩ := hv
      rw [hm, n_lt1 (by omega)]; exact not_false
    rw [if_pos e, if_neg this, if_neg this]; exact take
  · rw [if_neg e]
    by_cases d : v ≤ m
    · rw [if_pos d, if_pos d, if_pos d]; exact ⟨s, rfl, ⟨h1, h2, Or.inr e⟩, fun _ _ => rfl, rfl⟩
    · rw [if_neg d, if_neg d, if_neg d]; exact take
theorem clr (μ : Mm) : ∃ s, F_X0_clear μ = some s ∧ ChI s (-1) (-1) ∧ F34 μ s := by
  refine ⟨_, rfl, ⟨?_, ?_, Or.inl ⟨rfl, rfl⟩⟩, ?_, rfl⟩
  · rw [wI_eq, u_ne (by omega), wI_eq, u_eq]
  · rw [wI_eq, u_eq]
  · intro k hk; rw [wI_ne hk, wI_ne hk]
theorem ChI_fr {s s' : Mm} {b m : Int32} (h : ChI s b m) (f : FrC s s') : ChI s' b m := by
  unfold ChI at *; rw [f.2 34 (by omega)]; exact h
theorem ChI_w {s : Mm} {b m : Int32} {k i : Nat} {v : Int32} (h : ChI s b m) (f : k ≠ 34) : ChI (wI s k i v) b m := by
  unfold ChI at *; rw [wI_ne (Ne.symm f)]; exact h
theorem brush2 {P : Pl} {k : Nat} {μ ν : Mm} {what : Int32} (hV : PV P) (hk : k < P.1 0) (hP : P.2 9 1 = -1) (pc : PC P μ) (pm : PM P ν) :
    E2 ((F_X0_clear μ).bind (fun q2 => L_X8_chooseBrush_21 FUEL (nI k) 0 (wI q2 20 11 (nI k)))) (F_X9_brushOf (nI k) what ν) (fun s r => r.1 = (if what = 0 then s.1 34 0 else s.1 34 1) ∧ FrA μ s ∧ FrB ν r.2 ∧ PM P r.2) := by
  have q1 := hV.1
  obtain ⟨s0, e0, ch0, f0⟩ := clr μ
  rw [e0, bindS]
  unfold F_X9_brushOf
  have rk : Rg 9 (nI k) := ⟨k, by omega, rfl⟩
  refine For2 (fun n i s => L_X8_chooseBrush_21 n (nI k) (nI i) s) (fun n i (t : Int32 × Int32 × Mm) => L_X9_brushOf_13 n (nI k) what t.1 t.2.1 (nI i) t.2.2) 12 FUEL FUEL
    (fun i s t => ChI s t.1 t.2.1 ∧ (∃ x, PC (pu (pu P 9 2 (nI k)) 9 1 x) s) ∧ (∃ x, PM (pu (pu P 9 2 (nI k)) 9 1 x) t.2.2) ∧ FrA μ s ∧ FrB ν t.2.2 ∧ s.1 20 11 = nI k ∧ t.2.2.1 0 17 = nI k)
    (fun f g => E2 f g (fun s r => r.1 = (if what = 0 then s.1 34 0 else s.1 34 1) ∧ FrA μ s ∧ FrB ν r.2 ∧ PM P r.2)) ?_ ?_ 0 _ (-1, -1, _) FUEL FUEL ?_ (by omega) rfl rfl (by decide) (by decide)
  · intro n m s t _ _ h
    obtain ⟨bb, mm, t⟩ := t
    obtain ⟨h1, ⟨x, h2⟩, ⟨y, h3⟩, h4, h5, h6, h7⟩ := h
    simp only at h1 h3 h5 h7
    simp (disch := omega) only [L_X8_chooseBrush_21_s, L_X9_brushOf_13_s, n_lel, if_pos]
    refine E2_some ⟨?_, h4, FrB_0 h5 (by omega), ?_⟩
    · rw [h1.1, h1.2.1]
    · have := PM_odd h3 (-1) h7
      rw [pu_pu, pu_self (P := pu P 9 2 (nI k)) (r := 9) (i := 1) (x := -1) hP] at this
      exact PM_oth_back this hP
  · intro n m i s t _ _ hi h ih
    obtain ⟨bb, mm, t⟩ := t
    obtain ⟨h1, ⟨x, h2⟩, ⟨y, h3⟩, h4, h5, h6, h7⟩ := h
    simp only at h1 h3 h5 h7
    have pc' := PC_odd h2 (nI i) h6
    have pm' := PM_odd h3 (nI i) h7
    rw [pu_pu] at pc' pm'
    obtain ⟨s1, t1, e1, e2, f1, f2, ry, pc1, pm1⟩ := LIVE (PV_odd (PV_oth hV rk) (nI i) rk) pc' pm'
    simp (disch := omega) only [L_X8_chooseBrush_21_s, L_X9_brushOf_13_s, n_lel, if_neg, e1, e2, bindS, gi_in, n_c, F_X9_brushOf_47, F_X9_greater, n_ar]
    have r2 := ry.2.1 k hk
    obtain ⟨s2, e3, ch, f3⟩ := off (c := i) (ChI_fr (ChI_w h1 (by omega)) f1) r2.2 (by omega) (by omega)
    rw [r2.1, e3, bindS]
    refine ih s2 (_, _, _) ⟨ch, ⟨nI i, PC_34 pc1 f3⟩, ⟨nI i, pm1⟩, F34_A (FrA_tr (FrA_w h4 (by omega)) (FrC_A f1)) f3, FrB_tr (FrB_0 h5 (by omega)) (FrL_B f2), ?_, ?_⟩
    · rw [f3.1 20 (by omega), f1.2 20 (by omega)]; exact h6
    · show t1.1 0 17 = nI k
      rw [f2.2.2 17 (by omega) (by omega)]; exact h7
  · refine ⟨ChI_w ch0 (by omega), ⟨-1, ?_⟩, ⟨-1, ?_⟩, FrA_w (F34_A (FrA_rf μ) f0) (by omega), FrB_0 (FrB_rf ν) (by omega), rfl, rfl⟩
    · rw [pu_self (P := pu P 9 2 (nI k)) (r := 9) (i := 1) (x := -1) hP]; exact PC_oth (PC_34 pc f0) _
    · rw [pu_self (P := pu P 9 2 (nI k)) (r := 9) (i := 1) (x := -1) hP]; exact PM_oth pm _
theorem rival2 {P : Pl} {k : Nat} {μ ν : Mm} {what : Int32} (hV : PV P) (hk : k < P.1 0) (hP : P.2 9 3 = -1) (pc : PC P μ) (pm : PM P ν) :
    E2 ((F_X0_clear μ).bind (fun q2 => L_X8_chooseRival_13 FUEL (nI k) 0 q2)) (F_X9_rivalOf (nI k) what ν) (fun s r => r.1 = (if what = 0 then s.1 34 0 else s.1 34 1) ∧ FrA μ s ∧ FrB ν r.2 ∧ PM P r.2) := by
  have q1 := hV.1
  obtain ⟨s0, e0, ch0, f0⟩ := clr μ
  rw [e0, bindS]
  unfold F_X9_rivalOf
  refine For2 (fun n i s => L_X8_chooseRival_13 n (nI k) (nI i) s) (fun n i (t : Int32 × Int32 × Mm) => L_X9_rivalOf_8 n (nI k) what t.1 t.2.1 (nI i) t.2.2) (P.1 0) FUEL FUEL
    (fun i s t => ChI s t.1 t.2.1 ∧ (∃ x, PC (pu P 9 3 x) s) ∧ (∃ x, PM (pu P 9 3 x) t.2.2) ∧ FrA μ s ∧ FrB ν t.2.2)
    (fun f g => E2 f g (fun s r => r.1 = (if what = 0 then s.1 34 0 else s.1 34 1) ∧ FrA μ s ∧ FrB ν r.2 ∧ PM P r.2)) ?_ ?_ 0 _ (-1, -1, _) FUEL FUEL ?_ (by omega) rfl rfl (by rw [FUELe]; omega) (by rw [FUELe]; omega)
  · intro n m s t _ _ h
    obtain ⟨bb, mm, t⟩ := t
    obtain ⟨h1, ⟨x, h2⟩, ⟨y, h3⟩, h4, h5⟩ := h
    simp only at h1 h3 h5
    have c1 : s.1 20 1 = nI (P.1 0) := h2.1
    have d1 : t.1 0 7 = nI (P.1 0) := h3.1
    simp (disch := omega) only [L_X8_chooseRival_13_s, L_X9_rivalOf_8_s, c1, d1, n_le, Nat.le_refl, if_true]
    refine E2_some ⟨?_, h4, FrB_0 h5 (by omega), ?_⟩
    · rw [h1.1, h1.2.1]
    · have := PM_kept h3 (-1)
      rw [pu_pu, pu_self hP] at this
      exact this
  · intro n m i s t _ _ hi h ih
    obtain ⟨bb, mm, t⟩ := t
    obtain ⟨h1, ⟨x, h2⟩, ⟨y, h3⟩, h4, h5⟩ := h
    simp only at h1 h3 h5
    have c1 : s.1 20 1 = nI (P.1 0) := h2.1
    have d1 : t.1 0 7 = nI (P.1 0) := h3.1
    simp (disch := omega) only [L_X8_chooseRival_13_s, L_X9_rivalOf_8_s, c1, d1, n_le, if_neg, n_eq, F_X8_chooseRival_67, F_X9_rivalOf_64, n_ar]
    by_cases c : i = k
    · rw [if_pos c, if_pos c]
      exact ih s (_, _, _) ⟨h1, ⟨x, h2⟩, ⟨y, h3⟩, h4, h5⟩
    · rw [if_neg c, if_neg c]
      have pc' := PC_kept h2 (nI i)
      have pm' := PM_kept h3 (nI i)
      rw [pu_pu] at pc' pm'
      obtain ⟨s1, t1, e1, e2, f1, f2, ry, pc1, pm1⟩ := LIVE (PV_kept hV ⟨i, by omega, rfl⟩) pc' pm'
      simp (disch := omega) only [e1, e2, bindS, gi_in, n_c, F_X9_rivalOf_50, F_X9_rivalOf_64, F_X9_greater, n_ar]
      have r2 := ry.2.1 k hk
      obtain ⟨s2, e3, ch, f3⟩ := off (c := i) (ChI_fr (ChI_w h1 (by omega)) f1) r2.2 (by omega) (by omega)
      rw [r2.1, e3, bindS]
      exact ih s2 (_, _, _) ⟨ch, ⟨nI i, PC_34 pc1 f3⟩, ⟨nI i, pm1⟩, F34_A (FrA_tr (FrA_w h4 (by omega)) (FrC_A f1)) f3, FrB_tr (FrB_0 h5 (by omega)) (FrL_B f2)⟩
  · refine ⟨ch0, ⟨-1, ?_⟩, ⟨-1, ?_⟩, F34_A (FrA_rf μ) f0, FrB_rf ν⟩
    · rw [pu_self hP]; exact PC_34 pc f0
    · rw [pu_self hP]; exact pm
theorem send2 {P : Pl} {w : Nat} {μ ν : Mm} {who what : Int32} (hV : PV P) (hw : w < 12) (pc : PC P μ) (pm : PM P ν) :
    E2 ((F_X0_clear μ).bind (fun q2 => L_X8_chooseJudge_13 FUEL (nI w) who 0 q2)) (F_X9_sendOf (nI w) who what ν) (fun s r => r.1 = (if what = 0 then s.1 34 0 else s.1 34 1) ∧ FrA μ s ∧ FrB ν r.2 ∧ PM P r.2) := by
  have q1 := hV.1
  have q2 := hV.2.1
  obtain ⟨s0, e0, ch0, f0⟩ := clr μ
  rw [e0, bindS]
  unfold F_X9_sendOf
  simp (disch := omega) only [gi_in, n_c, pm.2.2.2.2.2.2.1]
  refine For2 (fun n i s => L_X8_chooseJudge_13 n (nI w) who (nI i) s) (fun n i (t : Int32 × Int32 × Mm) => L_X9_sendOf_17 n (nI w) who what (P.2 6 w) t.1 t.2.1 (nI i) t.2.2) (P.1 1) FUEL FUEL
    (fun i s t => ChI s t.1 t.2.1 ∧ (∃ x, PC (pu P 6 w x) s) ∧ (∃ x, PM (pu P 6 w x) t.2.2) ∧ FrA μ s ∧ FrB ν t.2.2)
    (fun f g => E2 f g (fun s r => r.1 = (if what = 0 then s.1 34 0 else s.1 34 1) ∧ FrA μ s ∧ FrB ν r.2 ∧ PM P r.2)) ?_ ?_ 0 _ (-1, -1, _) FUEL FUEL ?_ (by omega) rfl rfl (by rw [FUELe]; omega) (by rw [FUELe]; omega)
  · intro n m s t _ _ h
    obtain ⟨bb, mm, t⟩ := t
    obtain ⟨h1, ⟨x, h2⟩, ⟨y, h3⟩, h4, h5⟩ := h
    simp only at h1 h3 h5
    have c1 : s.1 20 5 = nI (P.1 1) := h2.2.1
    have d1 : t.1 0 9 = nI (P.1 1) := h3.2.1
    simp (disch := omega) only [L_X8_chooseJudge_13_s, L_X9_sendOf_17_s, c1, d1, n_le, Nat.le_refl, if_true, gi_in, n_c]
    refine E2_some ⟨?_, h4, FrB_w h5 (by omega), ?_⟩
    · rw [h1.1, h1.2.1]
    · have := PM_turn (w := w) h3 (P.2 6 w)
      rw [pu_pu, pu_self rfl] at this
      exact this
  · intro n m i s t _ _ hi h ih
    obtain ⟨bb, mm, t⟩ := t
    obtain ⟨h1, ⟨x, h2⟩, ⟨y, h3⟩, h4, h5⟩ := h
    simp only at h1 h3 h5
    have c1 : s.1 20 5 = nI (P.1 1) := h2.2.1
    have d1 : t.1 0 9 = nI (P.1 1) := h3.2.1
    have pc' := PC_turn (w := w) h2 (nI i)
    have pm' := PM_turn (w := w) h3 (nI i)
    rw [pu_pu] at pc' pm'
    have hV' := PV_turn (w := w) hV (x := nI i) ⟨i, by omega, rfl⟩
    obtain ⟨s1, t1, e1, e2, f1, f2, ry, pc1, pm1⟩ := LIVE hV' pc' pm'
    obtain ⟨⟨v, sv⟩, ⟨v', tv⟩, e3, e4, g1, g2, g3, g4⟩ := own2 hV' (Nat.le_refl _) pc1 pm1 ry who
    simp only at g1 g2 g3 g4
    subst g1 g2 g3
    simp (disch := omega) only [L_X8_chooseJudge_13_s, L_X9_sendOf_17_s, c1, d1, n_le, if_neg, gi_in, n_c, e1, e2, bindS, e3, e4, F_X9_sendOf_59, F_X9_greater, n_ar]
    obtain ⟨s2, e5, ch, f3⟩ := off (c := i) (ChI_fr (ChI_w h1 (by omega)) f1) g4 (by omega) (by omega)
    rw [e5, bindS]
    exact ih s2 (_, _, _) ⟨ch, ⟨nI i, PC_34 pc1 f3⟩, ⟨nI i, pm1⟩, F34_A (FrA_tr (FrA_w h4 (by omega)) (FrC_A f1)) f3, FrB_tr (FrB_w h5 (by omega)) (FrL_B f2)⟩
  · refine ⟨ch0, ⟨P.2 6 w, ?_⟩, ⟨P.2 6 w, ?_⟩, F34_A (FrA_rf μ) f0, FrB_rf ν⟩
    · rw [pu_self rfl]; exact PC_34 pc f0
    · rw [pu_self rfl]; exact pm
theorem champ2 {P : Pl} {s t : Mm} (hV : PV P) (pc : PC P s) (pm : PM P t) (ry : RY P 12 s t) :
    E2 ((F_X0_clear s).bind (fun q2 => L_X8_champion_15 FUEL 0 q2)) (F_X9_championNow t) (fun q r => q.1 = r.1 ∧ FrA s q.2 ∧ r.2 = t) := by
  obtain ⟨s0, e0, ch0, f0⟩ := clr s
  rw [e0, bindS]
  have ryk : ∀ z, F34 s z → RY P 12 z t := by
    intro z f; unfold RY at *; rw [f.1 29 (by omega), f.1 30 (by omega), f.1 31 (by omega), f.1 28 (by omega), f.1 33 (by omega)]; exact ry
  have own : ∀ z, F34 s z → ∀ b : Nat, ∃ v, Rg 720 v ∧ F_X7_coloursOf (nI b) z = some (v, z) ∧ F_X9_ownedBy (nI b) t = some (v, t) := by
    intro z f b
    obtain ⟨⟨v, sv⟩, ⟨v', tv⟩, e3, e4, g1, g2, g3, g4⟩ := own2 hV (Nat.le_refl _) (PC_34 pc f) pm (ryk z f) (nI b)
    simp only at g1 g2 g3 g4
    subst g1 g2 g3
    exact ⟨v, g4, e3, e4⟩
  obtain ⟨v0, r0, a0, b0⟩ := own s0 f0 0
  obtain ⟨s1, e1, ch1, f1⟩ := off (c := 0) ch0 r0 (by omega) (by omega)
  have nv : ¬ v0 ≤ -1 := by obtain ⟨x, hx, rfl⟩ := r0; rw [n_lt1 (by omega)]; exact not_false
  rw [if_neg nv, if_neg nv] at ch1
  have step : L_X8_champion_15 FUEL 0 s0 = L_X8_champion_15 999 (nI 1) s1 := by
    show L_X8_champion_15 (999 + 1) (nI 0) s0 = _
    rw [L_X8_champion_15_s]
    simp (disch := omega) only [n_lel, if_neg, a0, bindS, e1, n_ar]
  rw [step]
  unfold F_X9_championNow
  refine For2 (fun n i s => L_X8_champion_15 n (nI i) s) (fun n i x => L_X9_championNow_4 n x (nI i) t) 6 1000 1001
    (fun i z x => F34 s z ∧ ∃ b v, b < 6 ∧ x = nI b ∧ ChI z (nI b) v ∧ F_X9_ownedBy (nI b) t = some (v, t))
    (fun f g => E2 f g (fun q r => q.1 = r.1 ∧ FrA s q.2 ∧ r.2 = t)) ?_ ?_ 1 s1 0 999 FUEL ?_ (by omega) rfl rfl (by omega) (by omega)
  · intro n m z x _ _ h
    obtain ⟨fz, b, v, hb, rfl, ch, eo⟩ := h
    simp (disch := omega) only [L_X8_champion_15_s, L_X9_championNow_4_s, n_lel, if_pos]
    exact E2_some ⟨ch.1, F34_A (FrA_rf s) fz, rfl⟩
  · intro n m i z x _ _ hi h ih
    obtain ⟨fz, b, v, hb, rfl, ch, eo⟩ := h
    obtain ⟨v1, r1, a1, b1⟩ := own z fz i
    obtain ⟨z1, e3, ch3, f3⟩ := off (c := i) ch r1 (by omega) (by omega)
    simp (disch := omega) only [L_X8_champion_15_s, L_X9_championNow_4_s, n_lel, if_neg, a1, b1, eo, bindS, e3, n_ar, F_X9_championNow_28]
    have fz1 : F34 s z1 := ⟨fun k hk => (f3.1 k hk).trans (fz.1 k hk), f3.2.trans fz.2⟩
    apply ih
    refine ⟨fz1, ?_⟩
    by_cases c : v1 ≤ v
    · rw [if_pos c, if_pos c] at ch3
      exact ⟨b, v, hb, by rw [if_pos c], ch3, eo⟩
    · rw [if_neg c, if_neg c] at ch3
      exact ⟨i, v1, hi, by rw [if_neg c], ch3, b1⟩
  · exact ⟨⟨fun k hk => (f1.1 k hk).trans (f0.1 k hk), f1.2.trans f0.2⟩, 0, v0, by omega, rfl, ch1, b0⟩
/-! events left out -/
theorem RY_0w {P : Pl} {w : Nat} {s t : Mm} {i : Nat} {v : Int32} (h : RY P w s t) (hi : i ≠ 26) : RY P w s (wI t 0 i v) := by
  obtain ⟨r1, r2, r3, r4, r5, r6, r7, r8⟩ := h
  refine ⟨r1, r2, r3, r4, r5, r6, r7, ?_⟩
  rw [wI_eq, u_ne (by omega)]; exact r8
theorem stand2 {P : Pl} {s t : Mm} (hV : PV P) (hP : P.2 9 0 = 0) (x : Int32) (pc : ∃ y, PC (pu P 9 0 y) s) (pm : PM P t) :
    E2 (F_X8_standsWithout x s) (F_X9_isSpared x t) (fun q r => q.1 = r.1 ∧ (r.1 = 0 ∨ r.1 = 1) ∧ (∃ y, PC (pu P 9 0 y) q.2) ∧ PM P r.2 ∧ FrA s q.2 ∧ FrB t r.2) := by
  obtain ⟨y, pc⟩ := pc
  have pc' := PC_gone pc x
  rw [pu_pu] at pc'
  obtain ⟨s1, t1, e1, e2, f1, f2, ry, pc1, pm1⟩ := LIVE (PV_gone hV x) pc' (PM_gone pm x)
  have pm2 := PM_gone pm1 0
  rw [pu_pu, pu_self hP] at pm2
  have lf := left0 (P := pu P 9 0 x) (PV_gone hV x) (t := wI t1 0 15 0) pm2.1 (RY_0w ry (by omega))
  unfold F_X8_standsWithout F_X9_isSpared
  rw [e1, bindS, e2, bindS, lf, bindS]
  refine E2_some ⟨rfl, ?_, ⟨x, pc1⟩, pm2, FrA_tr (FrA_w (FrA_rf s) (by omega)) (FrC_A f1), FrB_0 (FrB_tr (FrB_0 (FrB_rf t) (by omega)) (FrL_B f2)) (by omega)⟩
  by_cases c : s1.1 28 5 = 0
  · right; simp only [if_pos c]
  · left; simp only [if_neg c]
def bcV (x : Int32) : Int32 := ((F_J6_bitCount_0f7a4 x (fun _ _ => 0, fun _ _ => 0)).getD (0, (fun _ _ => 0, fun _ _ => 0))).1
theorem bc_e (x : Int32) (μ : Mm) : F_J6_bitCount_0f7a4 x μ = some (bcV x, μ) := rfl
/-- the number of the i-th bit that is set, from place x3 on, x2 being ahead of it -/
def nbL : Nat → Int32 → Int32 → Int32 → Int32 → Int32
  | 0, _, _, _, _ => -1
  | n + 1, x0, x1, x2, x3 => if 8 ≤ x3 then -1 else if ((x0 >>> (x3 &&& 31)) &&& 1) = 1 then (if x2 = x1 then x3 else nbL n x0 x1 (x2 + 1) (x3 + 1)) else nbL n x0 x1 x2 (x3 + 1)
theorem nbL_s (n : Nat) (x0 x1 x2 x3 : Int32) : nbL (n + 1) x0 x1 x2 x3 = (if 8 ≤ x3 then -1 else if ((x0 >>> (x3 &&& 31)) &&& 1) = 1 then (if x2 = x1 then x3 else nbL n x0 x1 (x2 + 1) (x3 + 1)) else nbL n x0 x1 x2 (x3 + 1)) := rfl
theorem nb_l (x0 x1 : Int32) (μ : Mm) : ∀ (k e n : Nat) (x2 : Int32), e + k = 8 → k < n → L_X8_numberOfBit_4 n x0 x1 x2 (nI e) μ = some (nbL (k + 1) x0 x1 x2 (nI e), μ)
  | k, e, 0, x2, _, hn => absurd hn (Nat.not_lt_zero k)
  | 0, e, n + 1, x2, he, hn => by
    obtain rfl : e = 8 := by omega
    rw [L_X8_numberOfBit_4_s, nbL_s, if_pos (by decide), if_pos (by decide)]
  | k + 1, e, n + 1, x2, he, hn => by
    have h8 : ¬ ((8 : Int32) ≤ nI e) := by
      have q : ∀ e < 8, ¬ ((8 : Int32) ≤ nI e) := by decide +kernel
      exact q e (by omega)
    have hs : nI e + 1 = nI (e + 1) := nI_add e 1
    have ih := fun x2 => nb_l x0 x1 μ k (e + 1) n x2 (by omega) (by omega)
    rw [L_X8_numberOfBit_4_s, nbL_s, if_neg h8, if_neg h8]
    unfold F_X8_numberOfBit_29
    rw [hs]
    by_cases c : ((x0 >>> (nI e &&& 31)) &&& 1) = 1
    · rw [if_pos c, if_pos c]
      by_cases c2 : x2 = x1
      · rw [if_pos c2, if_pos c2]
      · rw [if_neg c2, if_neg c2]; exact ih _
    · rw [if_neg c, if_neg c]; exact ih _
theorem nb_e (x i : Int32) (μ : Mm) : F_X8_numberOfBit x i μ = some (nbL 9 x i 0 0, μ) := nb_l x i μ 8 0 FUEL 0 rfl (by rw [FUELe]; omega)
def spV (i bits : Int32) : Int32 := if bits = -1 then -1 else if i = -1 then bcV bits else nbL 9 bits i 0 0
theorem sp_e (i bits : Int32) (μ : Mm) : (if bits = -1 then some ((-1 : Int32), μ) else if i = (-1) then (F_J6_bitCount_0f7a4 bits μ).bind (fun q7 => some (q7.1, q7.2)) else (F_X8_numberOfBit bits i μ).bind (fun q6 => some (q6.1, q6.2))) = some (spV i bits, μ) := by
  unfold spV
  rw [bc_e, nb_e, bindS, bindS]
  by_cases c1 : bits = -1
  · rw [if_pos c1, if_pos c1]
  · rw [if_neg c1, if_neg c1]
    by_cases c2 : i = -1
    · rw [if_pos c2, if_pos c2]
    · rw [if_neg c2, if_neg c2]
theorem spV_0 : spV (-1) 0 = 0 ∧ spV 0 0 = -1 ∧ spV 1 0 = -1 := by decide +kernel
theorem spV_n : ∀ i, spV i (-1) = -1 := fun i => by unfold spV; rw [if_pos rfl]
theorem spV_1 {e : Nat} (h : e < 8) : spV (-1) (1 <<< (nI e &&& 31)) = 1 ∧ spV 0 (1 <<< (nI e &&& 31)) = nI e ∧ spV 1 (1 <<< (nI e &&& 31)) = -1 := by
  have : ∀ e < 8, spV (-1) (1 <<< (nI e &&& 31)) = 1 ∧ spV 0 (1 <<< (nI e &&& 31)) = nI e ∧ spV 1 (1 <<< (nI e &&& 31)) = -1 := by decide +kernel
  exact this e h
theorem spV_2 {e f : Nat} (h : e < f) (hf : f < 8) : spV (-1) (1 <<< (nI e &&& 31) ||| 1 <<< (nI f &&& 31)) = 2 ∧ spV 0 (1 <<< (nI e &&& 31) ||| 1 <<< (nI f &&& 31)) = nI e ∧ spV 1 (1 <<< (nI e &&& 31) ||| 1 <<< (nI f &&& 31)) = nI f := by
  have : ∀ f < 8, ∀ e < f, spV (-1) (1 <<< (nI e &&& 31) ||| 1 <<< (nI f &&& 31)) = 2 ∧ spV 0 (1 <<< (nI e &&& 31) ||| 1 <<< (nI f &&& 31)) = nI e ∧ spV 1 (1 <<< (nI e &&& 31) ||| 1 <<< (nI f &&& 31)) = nI f := by decide +kernel
  exact this f hf e h
