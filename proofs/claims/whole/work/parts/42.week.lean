/-! One week, side by side. -/
theorem bt_def (x : Int32) (t : Nat) : (x >>> (nI t &&& 31)) &&& 1 = bt x t := rfl
theorem EK_bl {α β γ δ ε : Type} {f : Option ε} {k : ε → Option γ} {K : α → Option γ} {g : Option δ} {K' : β → Option δ} {Q' : ε → Prop} {Q : α → β → Prop} (h : Ev f Q') (hk : ∀ q, Q' q → EK (k q) K g K' Q) : EK (f.bind k) K g K' Q := by
  obtain ⟨q, rfl, hr⟩ := h; exact hk q hr
theorem EK_b2 {α β γ δ ε ζ : Type} {f : Option ε} {k : ε → Option γ} {K : α → Option γ} {g : Option ζ} {k' : ζ → Option δ} {K' : β → Option δ} {Q' : ε → ζ → Prop} {Q : α → β → Prop} (h : E2 f g Q') (hk : ∀ q r, Q' q r → EK (k q) K (k' r) K' Q) : EK (f.bind k) K (g.bind k') K' Q := by
  obtain ⟨q, r, rfl, rfl, hr⟩ := h; exact hk q r hr
theorem evs2 {P : Pl} {w : Nat} {a b μ ν : Mm} (hV : PV P) (hC : PC P a) (hM : PM P b) (hw : w < 12) (h : RY P w μ ν) (f1 : FrC a μ) (f2 : FrM b ν) :
    EK (F_X7_doEvents (nI w) μ) some (F_X9_passes (nI w) ν) (F_X9_passes_106 (nI w)) (WE P w a b) := by
  unfold F_X7_doEvents F_X7_doEvents_24 F_X9_passes
  have st1 : ∃ ν1, L_X9_passes_7 FUEL (nI w) 0 (wI ν 0 25 0) = L_X9_passes_28 FUEL (nI w) 0 ν1 ∧ RY P w μ ν1 ∧ FrM b ν1 ∧ (∀ k, k < 10 → ν1.1 16 k = 0) ∧ ν1.1 0 25 = 0 := by
    refine For1 (fun n i s => L_X9_passes_7 n (nI w) (nI i) s) 10 FUEL (fun i s => RY P w μ s ∧ FrM b s ∧ (∀ k, k < i → s.1 16 k = 0) ∧ s.1 0 25 = 0) (fun o => ∃ ν1, o = L_X9_passes_28 FUEL (nI w) 0 ν1 ∧ RY P w μ ν1 ∧ FrM b ν1 ∧ (∀ k, k < 10 → ν1.1 16 k = 0) ∧ ν1.1 0 25 = 0) ?_ ?_ 0 _ FUEL ?_ (by omega) rfl (by decide)
    · intro n s _ hs
      simp (disch := omega) only [L_X9_passes_7_s, n_lel, if_pos]
      exact ⟨s, rfl, hs⟩
    · intro n i s _ hi hs ih
      simp (disch := omega) only [L_X9_passes_7_s, n_lel, if_neg, gi_in, n_c, n_ar]
      apply ih
      obtain ⟨s1, s2, s3, s4⟩ := hs
      refine ⟨s1, FrM_w s2 (by omega) (by omega), ?_, s4⟩
      intro k hk
      rw [wI_eq, u_if]
      by_cases e : k = i
      · rw [if_pos e]
      · rw [if_neg e]; exact s3 k (by omega)
    · obtain ⟨r1, r2, r3, r4, r5, r6, r7, r8⟩ := h
      exact ⟨⟨r1, r2, r3, r4, r5, r6, r7, r8⟩, FrM_0 f2 (by omega), fun k hk => absurd hk (by omega), rfl⟩
  obtain ⟨ν1, e1, h1, f3, z1, z2⟩ := st1
  rw [e1]
  have n10 := hV.1
  have ne8 := hV.2.2.1
  refine For2 (fun n i s => L_X7_doEvents_35 n (nI w) (nI i) s) (fun n i s => L_X9_passes_28 n (nI w) (nI i) s) (P.1 2) FUEL FUEL (fun i s t => WE P w a b s t) (fun f g => EK f some g (F_X9_passes_106 (nI w)) (WE P w a b)) ?_ ?_ 0 _ _ FUEL FUEL ?_ (by omega) rfl rfl (by rw [FUELe]; omega) (by rw [FUELe]; omega)
  · intro n m s t _ _ hs
    obtain ⟨c1, c2, c3, c4, c5, c6, c7, c8, c9, c10, c11, c12, c13⟩ := PC_fr hs.2.2.1 hC
    obtain ⟨d1, d2, d3, d4, d5, d6, d7, d8, d9, d10, d11, d12, d13⟩ := PM_fr hs.2.2.2 hM
    simp (disch := omega) only [L_X7_doEvents_35_s, L_X9_passes_28_s, c3, d3, n_le, if_pos, Nat.le_refl, if_true, c11, d11]
    by_cases e : P.2 9 1 = nI w
    · have hne : P.2 9 1 ≠ -1 := by rw [e]; intro z; rw [n_ne1 (by omega)] at z; exact z
      obtain ⟨v, hv, ev⟩ := hV.2.2.2.2.2.2.2.2.2.1 hne
      rw [if_pos e, if_pos e, c12 hne, d12 hne, ev]
      refine EK_b2 (hap2 hV (by omega) hs 0 (by omega)) ?_
      intro q r hq
      exact ⟨q, r, rfl, rfl, hq⟩
    · rw [if_neg e, if_neg e]
      exact ⟨s, t, rfl, rfl, hs⟩
  · intro n m i s t _ _ hi hs ih
    obtain ⟨c1, c2, c3, c4, c5, c6, c7, c8, c9, c10, c11, c12, c13⟩ := PC_fr hs.2.2.1 hC
    obtain ⟨d1, d2, d3, d4, d5, d6, d7, d8, d9, d10, d11, d12, d13⟩ := PM_fr hs.2.2.2 hM
    obtain ⟨v, hv, ev⟩ := hV.2.2.2.2.2.2.2.1 i hi
    simp (disch := omega) only [L_X7_doEvents_35_s, L_X9_passes_28_s, c3, d3, n_le, if_neg, F_X1_part_7, n_ml, n_ar, gi_in, n_c, bindS, F_X7_doEvents_85, F_X9_passes_83, bt_def, F_X9_isIn, c8, d8, c10, d10]
    by_cases e : P.2 7 (3 * i + 1) = nI w
    · rw [if_pos e, if_pos e]
      rcases bt01 (P.2 9 0) (t := i) (by omega) with z | z
      · simp only [z, if_true]
        have e0 : P.2 7 (3 * i + 0) = P.2 7 (3 * i) := rfl
        simp (disch := omega) only [show ((0 : Int32) = 1) = False from by decide, if_false, if_true, n_ar, gi_in, n_c, c8, d8, bindS]
        rw [show (3 * i + 0) = 3 * i from rfl, ev]
        refine EK_b2 (hap2 hV (by omega) hs _ (by omega)) ?_
        intro q r hq
        exact ih q r hq
      · simp only [z, show ((1 : Int32) = 0) = False from by decide, if_false, if_true]
        exact ih s t hs
    · rw [if_neg e, if_neg e]
      have : (if bt (P.2 9 0) i = 0 then L_X7_doEvents_35 n (nI w) (nI (i + 1)) s else L_X7_doEvents_35 n (nI w) (nI (i + 1)) s) = L_X7_doEvents_35 n (nI w) (nI (i + 1)) s := by
        by_cases z : bt (P.2 9 0) i = 0
        · rw [if_pos z]
        · rw [if_neg z]
      rw [this]
      exact ih s t hs
  · obtain ⟨r1, r2, r3, r4, r5, r6, r7, r8⟩ := h1
    have pc := PC_fr f1 hC
    refine ⟨⟨r1, r2, r3, r4, r5, r6, r7, r8⟩, ⟨?_, z2.symm⟩, FrC_w (FrC_w f1 (by omega) (by omega)) (by omega) (by omega), f3⟩
    intro k hk
    have k13 : μ.1 20 13 = P.2 9 3 := pc.2.2.2.2.2.2.2.2.2.2.2.2
    rw [z1 k (by omega), wI_eq, u_eq, wI_ne (by omega), k13]
    refine ⟨Or.inl rfl, ?_⟩
    rcases hV.2.2.2.2.2.2.2.2.2.2 with z | ⟨v, hv, z⟩
    · rw [z, if_pos rfl, bt_0 (by omega), n_en1 (by omega)]; decide
    · rw [z, if_neg (by rw [n_ne1 (by omega)]; exact not_false), bt_sh1 (by omega) (by omega), n_eq (by omega) (by omega)]
      simp

/-! scores -/
theorem cmp_lt {x y : Int64} : (lg_cmp x y < 0) = (x.toInt < y.toInt) := by
  apply propext
  unfold lg_cmp
  rw [← Int64.lt_iff_toInt_lt]
  by_cases h : x > y
  · rw [if_pos h]
    constructor
    · intro z; exact absurd z (by decide)
    · intro z; exact absurd z (Int64.not_lt.mpr (Int64.le_of_lt h))
  · rw [if_neg h]
    by_cases e : x = y
    · rw [if_pos e]; subst e
      constructor
      · intro z; exact absurd z (by decide)
      · intro z; exact absurd z h
    · rw [if_neg e]
      constructor
      · intro _
        rcases Int64.lt_or_eq_of_le (Int64.not_lt.mp h) with z | z
        · exact z
        · exact absurd z e
      · intro _; decide
theorem cmp_gt {x y : Int64} : (0 < lg_cmp x y) = (y.toInt < x.toInt) := by
  apply propext
  unfold lg_cmp
  rw [← Int64.lt_iff_toInt_lt]
  by_cases h : x > y
  · rw [if_pos h]
    exact ⟨fun _ => h, fun _ => by decide⟩
  · rw [if_neg h]
    by_cases e : x = y
    · rw [if_pos e]
      exact ⟨fun z => absurd z (by decide), fun z => absurd z h⟩
    · rw [if_neg e]
      exact ⟨fun z => absurd z (by decide), fun z => absurd z h⟩
theorem in_gen (x : Int32) (lo hi : Int64) (μ : Mm) : F_X9_in x.toInt64 lo hi μ = some ((if lo.toInt ≤ x.toInt ∧ x.toInt ≤ hi.toInt then 1 else 0), μ) := by
  unfold F_X9_in
  simp only [cmp_lt, cmp_gt, Int32.toInt_toInt64]
  by_cases h1 : x.toInt < lo.toInt
  · rw [if_pos h1, if_neg (by omega)]
  · rw [if_neg h1]
    by_cases h2 : hi.toInt < x.toInt
    · rw [if_pos h2, if_neg (by omega)]
    · rw [if_neg h2, if_pos (by omega)]
theorem in_n {k n : Nat} (hk : k < 1000000) (hn : n < 1000000) (μ : Mm) : F_X9_in (nI k).toInt64 0 ((nI n - 1).toInt64) μ = some ((if k < n then 1 else 0), μ) := by
  rw [in_gen, Int32.toInt_toInt64, show (nI n - 1 : Int32) = nI n - nI 1 from rfl, pk_sub_toInt (by omega) (by omega), nI_toInt (by omega)]
  have e0 : (0 : Int64).toInt = 0 := rfl
  rw [e0]
  by_cases h : k < n
  · rw [if_pos h, if_pos (by omega)]
  · rw [if_neg h, if_neg (by omega)]
theorem gb_if {α : Type} {c : Prop} [Decidable c] {k : Option α} : gb (if c then (1 : Int32) else 0) k = k := by
  unfold gb
  by_cases h : c
  · rw [if_pos h, if_pos (Or.inr rfl)]
  · rw [if_neg h, if_pos (Or.inl rfl)]
theorem isJ {k n : Nat} {ν : Mm} (hk : k < 1000000) (hn : n < 1000000) (e : ν.1 0 9 = nI n) : F_X9_isJudge (nI k) ν = some ((if k < n then 1 else 0), ν) := by
  unfold F_X9_isJudge; rw [e, in_n hk hn, bindS, gb_if]
theorem isT {k n : Nat} {ν : Mm} (hk : k < 1000000) (hn : n < 1000000) (e : ν.1 0 7 = nI n) : F_X9_isThing (nI k) ν = some ((if k < n then 1 else 0), ν) := by
  unfold F_X9_isThing; rw [e, in_n hk hn, bindS, gb_if]
def sv (so lk fi ra ta ey ow fr : Int32) : Int32 :=
  if ow = fr then (if so = ta then (if so = 2 then lk + fi else if so = 1 then (if ra = 0 then lk else if lk - 2 ≤ 0 then 0 else lk - 2) else lk) + ey else (if so = 2 then lk + fi else if so = 1 then (if ra = 0 then lk else if lk - 2 ≤ 0 then 0 else lk - 2) else lk)) + 3
  else (if so = ta then (if so = 2 then lk + fi else if so = 1 then (if ra = 0 then lk else if lk - 2 ≤ 0 then 0 else lk - 2) else lk) + ey else (if so = 2 then lk + fi else if so = 1 then (if ra = 0 then lk else if lk - 2 ≤ 0 then 0 else lk - 2) else lk))
theorem Rg_add {A B : Nat} {x y : Int32} (hx : Rg A x) (hy : Rg B y) : Rg (A + B) (x + y) := by
  obtain ⟨a, h1, rfl⟩ := hx; obtain ⟨b, h2, rfl⟩ := hy
  exact ⟨a + b, by omega, n_aa a b⟩
theorem sv_rg {so lk fi ra ta ey ow fr : Int32} {w : Nat} (h1 : Rg 9 lk) (h2 : Rg w fi) (h3 : Rg 9 ey) : Rg (w + 21) (sv so lk fi ra ta ey ow fr) := by
  have base : Rg (9 + w) (if so = 2 then lk + fi else if so = 1 then (if ra = 0 then lk else if lk - 2 ≤ 0 then 0 else lk - 2) else lk) := by
    by_cases c : so = 2
    · rw [if_pos c]; exact Rg_add h1 h2
    · rw [if_neg c]
      by_cases c1 : so = 1
      · rw [if_pos c1]
        by_cases c2 : ra = 0
        · rw [if_pos c2]; exact Rg_mono h1 (by omega)
        · rw [if_neg c2]; exact Rg_mono (Rg_dec (d := 2) (by omega) (by omega) h1) (by omega)
      · rw [if_neg c1]; exact Rg_mono h1 (by omega)
  have b2 : Rg (9 + w + 9) (if so = ta then (if so = 2 then lk + fi else if so = 1 then (if ra = 0 then lk else if lk - 2 ≤ 0 then 0 else lk - 2) else lk) + ey else (if so = 2 then lk + fi else if so = 1 then (if ra = 0 then lk else if lk - 2 ≤ 0 then 0 else lk - 2) else lk)) := by
    by_cases c : so = ta
    · rw [if_pos c]; exact Rg_add base h3
    · rw [if_neg c]; exact Rg_mono base (by omega)
  unfold sv
  by_cases c : ow = fr
  · rw [if_pos c]; exact Rg_mono (Rg_add (B := 3) b2 ⟨3, by omega, rfl⟩) (by omega)
  · rw [if_neg c]; exact Rg_mono b2 (by omega)
theorem scC {μ : Mm} {j t : Nat} (hj : j < 4) (ht : t < 10) : F_X7_scoreBy (nI j) (nI t) μ = some (sv (μ.1 21 t) (μ.1 29 t) (μ.1 31 t) (μ.1 28 8) (μ.1 24 j) (μ.1 25 j) (μ.1 23 t) (μ.1 26 j), μ) := by
  simp (disch := omega) only [F_X7_scoreBy, F_X7_scoreBy_29, F_X7_scoreBy_56, F_X7_scoreBy_82, gi_in, n_c, F_J9_max_7cf53, bindS, max_eq]
  unfold sv
  by_cases c2 : μ.1 21 t = 2
  · have c1 : ¬ μ.1 21 t = 1 := by rw [c2]; decide
    simp only [if_pos c2, if_neg c1]
    by_cases c3 : μ.1 21 t = μ.1 24 j
    · simp only [if_pos c3]
    · simp only [if_neg c3]
  · simp only [if_neg c2]
    by_cases c1 : μ.1 21 t = 1
    · simp only [if_pos c1]
      by_cases c4 : μ.1 28 8 = 0
      · simp only [if_pos c4]
        by_cases c3 : μ.1 21 t = μ.1 24 j
        · simp only [if_pos c3]
        · simp only [if_neg c3]
      · simp only [if_neg c4]
        by_cases c3 : μ.1 21 t = μ.1 24 j
        · simp only [if_pos c3]
        · simp only [if_neg c3]
    · simp only [if_neg c1]
      by_cases c3 : μ.1 21 t = μ.1 24 j
      · simp only [if_pos c3]
      · simp only [if_neg c3]
theorem scM {ν : Mm} {j t : Nat} (hj : j < 4) (ht : t < 10) : F_X9_scoreOf (nI t) (nI j) ν = some (sv (ν.1 7 (3 * t)) (ν.1 11 t) (ν.1 13 t) (ν.1 0 25) (ν.1 8 (3 * j)) (ν.1 8 (3 * j + 1)) (ν.1 7 (3 * t + 2)) (ν.1 8 (3 * j + 2)), ν) := by
  simp (disch := omega) only [F_X9_scoreOf, F_X9_scoreOf_59, F_X9_scoreOf_57, F_X9_scoreOf_89, gi_in, n_c, n_ml, n_ar, F_X9_greater, bindS, Int32.add_zero]
  unfold sv
  have sy : ∀ x y : Int32, (x = y) = (y = x) := fun x y => propext ⟨Eq.symm, Eq.symm⟩
  simp only [sy (ν.1 8 (3 * j)) (ν.1 7 (3 * t))]
  by_cases c2 : ν.1 7 (3 * t) = 2
  · simp only [if_pos c2]
    by_cases c3 : ν.1 7 (3 * t) = ν.1 8 (3 * j)
    · simp only [if_pos c3]
    · simp only [if_neg c3]
  · simp only [if_neg c2]
    by_cases c1 : ν.1 7 (3 * t) = 1
    · simp only [if_pos c1]
      by_cases c4 : ν.1 0 25 = 0
      · simp only [if_pos c4]
        by_cases c3 : ν.1 7 (3 * t) = ν.1 8 (3 * j)
        · simp only [if_pos c3]
        · simp only [if_neg c3]
      · simp only [if_neg c4]
        by_cases c3 : ν.1 7 (3 * t) = ν.1 8 (3 * j)
        · simp only [if_pos c3]
        · simp only [if_neg c3]
    · simp only [if_neg c1]
      by_cases c3 : ν.1 7 (3 * t) = ν.1 8 (3 * j)
      · simp only [if_pos c3]
      · simp only [if_neg c3]
