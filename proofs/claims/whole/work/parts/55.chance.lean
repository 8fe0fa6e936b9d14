/-! chance -/
def wt (a c : Nat) : Nat → Nat
  | 0 => 1
  | n + 1 => wt a c n * (if bt (nI a) n = 0 then c else 16 - c)
theorem wt_le {a c : Nat} (hc : c ≤ 16) : ∀ n, wt a c n ≤ 16 ^ n
  | 0 => by simp [wt]
  | n + 1 => by
    rw [wt, Nat.pow_succ]
    apply Nat.mul_le_mul (wt_le hc n)
    split <;> omega
theorem wt8 {a c n : Nat} (hc : c ≤ 16) (hn : n ≤ 8) : wt a c n ≤ 4294967296 := Nat.le_trans (wt_le hc n) (Nat.pow_le_pow_right (n := 16) (by omega) hn : 16 ^ n ≤ 16 ^ 8)
theorem n64 {c : Nat} (h : c < 2147483648) : (nI c).toInt64 = lN c := by
  rw [← Int64.toInt_inj, Int32.toInt_toInt64, nI_toInt (by omega), pk_lT (by omega)]
theorem l_mul (a b : Nat) : lN a * lN b = lN (a * b) := lN_mul a b
theorem sh32 {e : Nat} (h : e ≤ 8) : (1 : Int32) <<< (nI e &&& 31) = nI (2 ^ e) := by
  have : ∀ e < 9, (1 : Int32) <<< (nI e &&& 31) = nI (2 ^ e) := by decide +kernel
  exact this e (by omega)
theorem wtC {a c e : Nat} {s : Mm} (hc : c ≤ 16) (he : e ≤ 8) (hs : s.1 7 1 = nI e) : F_X8_weightWithout (nI a) (nI c) s = some (lN (wt a c e), s) := by
  unfold F_X8_weightWithout
  refine For1 (fun n i x => L_X8_weightWithout_5 n (nI a) (nI c) x (nI i) s) e FUEL (fun i x => x = lN (wt a c i)) (fun o => o = some (lN (wt a c e), s)) ?_ ?_ 0 1 FUEL rfl (by omega) rfl (by rw [FUELe]; omega)
  · rintro n x _ rfl
    simp (config := { implicitDefEqProofs := false }) (disch := omega) only [L_X8_weightWithout_5_s, hs, n_le, Nat.le_refl, if_true]
  · rintro n i x _ hi rfl ih
    simp (config := { implicitDefEqProofs := false }) (disch := omega) only [L_X8_weightWithout_5_s, hs, n_le, if_neg, F_X8_weightWithout_37, bt_def, n_ar, n_sl, n64]
    apply ih
    rw [wt]
    rcases bt01 (nI a) (t := i) (by omega) with c | c
    · simp only [c, if_true, l_mul]
    · simp only [c, show ((1 : Int32) = 0) = False from by decide, if_false, l_mul]
theorem wtM {a c e k u : Nat} {x4 : Int64} {what : Int32} {K : Int32 → Int32 → Int32 → Int64 → Int32 → Mm → Option (Int64 × Mm)} {t : Mm} (hc : c ≤ 16) (he : e ≤ 8) (ht : t.1 0 13 = nI e) :
    L_X9_chanceOf_45 K FUEL (nI c) (nI k) what x4 (nI a) (lN u) 0 t = K (nI c) (nI k) what (x4 + lN (u * wt a c e)) (nI (a + 1)) t := by
  refine For1 (fun n i x => L_X9_chanceOf_45 K n (nI c) (nI k) what x4 (nI a) x (nI i) t) e FUEL (fun i x => x = lN (u * wt a c i)) (fun o => o = K (nI c) (nI k) what (x4 + lN (u * wt a c e)) (nI (a + 1)) t) ?_ ?_ 0 (lN u) FUEL (by rw [wt, Nat.mul_one]) (by omega) rfl (by rw [FUELe]; omega)
  · rintro n x _ rfl
    simp (config := { implicitDefEqProofs := false }) (disch := omega) only [L_X9_chanceOf_45_s, ht, n_le, Nat.le_refl, if_true, n_ar]
  · rintro n i x _ hi rfl ih
    simp (config := { implicitDefEqProofs := false }) (disch := omega) only [L_X9_chanceOf_45_s, ht, n_le, if_neg, F_X9_isIn, bt_def, bindS, F_X9_chanceOf_76, n_ar, n_sl, n64]
    apply ih
    rw [wt]
    rcases bt01 (nI a) (t := i) (by omega) with c | c
    · simp only [c, show ((0 : Int32) = 1) = False from by decide, if_false, if_true, l_mul, Nat.mul_assoc]
    · simp only [c, show ((1 : Int32) = 0) = False from by decide, if_false, if_true, l_mul, Nat.mul_assoc]
theorem PC_wL {P : Pl} {s : Mm} {i : Nat} {v : Int64} (h : PC P s) : PC P (wL s 35 i v) := h
theorem weigh2 {P : Pl} {c k : Nat} {μ ν : Mm} {what : Int32} (hV : PV P) (hP : P.2 9 0 = 0) (hc : c ≤ 16) (hk : k < 10) (pc : PC P μ) (pm : PM P ν) :
    E2 (L_X8_weighBests_6 FUEL (nI c) 0 μ) (F_X9_chanceOf (nI c) (nI k) what ν) (fun s r => (∀ z, z.1 7 1 = μ.1 7 1 → F_X8_partOfFraction (s.2 35 k) what z = some (r.1, z)) ∧ (∀ j, j < 20 → s.1 j = μ.1 j) ∧ FrB ν r.2 ∧ PM P r.2) := by
  have q1 := hV.1
  have q8 := hV.2.2.1
  have p8 : 2 ^ P.1 2 ≤ 256 := (Nat.pow_le_pow_right (n := 2) (by omega) q8 : 2 ^ P.1 2 ≤ 2 ^ 8)
  have z : ∃ s, L_X8_weighBests_6 FUEL (nI c) 0 μ = L_X8_weighBests_27 FUEL (nI c) 0 s ∧ s.1 = μ.1 ∧ (∀ i, i < 10 → s.2 35 i = 0) := by
    refine For1 (fun n i s => L_X8_weighBests_6 n (nI c) (nI i) s) 10 FUEL (fun i s => s.1 = μ.1 ∧ (∀ j, j < i → s.2 35 j = 0)) (fun o => ∃ s, o = L_X8_weighBests_27 FUEL (nI c) 0 s ∧ s.1 = μ.1 ∧ (∀ i, i < 10 → s.2 35 i = 0)) ?_ ?_ 0 μ FUEL ⟨rfl, fun j hj => absurd hj (by omega)⟩ (by omega) rfl (by decide)
    · intro n s _ h
      simp (config := { implicitDefEqProofs := false }) (disch := omega) only [L_X8_weighBests_6_s, n_lel, if_pos]
      exact ⟨s, rfl, h⟩
    · intro n i s _ hi h ih
      simp (config := { implicitDefEqProofs := false }) (disch := omega) only [L_X8_weighBests_6_s, n_lel, if_neg, gi_in, n_c, n_ar]
      apply ih
      refine ⟨h.1, ?_⟩
      intro j hj
      show vp_updL (s.2 35) i 0 j = 0
      unfold vp_updL
      by_cases d : j = i
      · rw [if_pos d]
      · rw [if_neg d]; exact h.2 j (by omega)
  obtain ⟨s0, e0, z1, z2⟩ := z
  rw [e0]
  have pc0 : PC P s0 := by unfold PC at *; rw [z1]; exact pc
  have ne0 : s0.1 7 1 = nI (P.1 2) := pc0.2.2.1
  unfold F_X9_chanceOf
  refine For2 (fun n a s => L_X8_weighBests_27 n (nI c) (nI a) s) (fun n a (t : Int64 × Mm) => L_X9_chanceOf_6 n (nI c) (nI k) what t.1 (nI a) t.2) (2 ^ P.1 2) FUEL FUEL
    (fun a s t => (∃ S, S ≤ a * 4294967296 ∧ s.2 35 k = lN S ∧ t.1 = lN S) ∧ (∃ y, PC (pu P 9 0 y) s) ∧ (∃ y, PM (pu P 9 0 y) t.2) ∧ (∀ j, j < 20 → s.1 j = μ.1 j) ∧ FrB ν t.2)
    (fun f g => E2 f g (fun s r => (∀ z, z.1 7 1 = μ.1 7 1 → F_X8_partOfFraction (s.2 35 k) what z = some (r.1, z)) ∧ (∀ j, j < 20 → s.1 j = μ.1 j) ∧ FrB ν r.2 ∧ PM P r.2)) ?_ ?_ 0 s0 (0, ν) FUEL FUEL ⟨⟨0, by omega, z2 k (by omega), rfl⟩, ⟨0, by rw [pu_self hP]; exact pc0⟩, ⟨0, by rw [pu_self hP]; exact pm⟩, fun j _ => by rw [z1], FrB_rf ν⟩ (Nat.zero_le _) rfl rfl (by rw [FUELe]; omega) (by rw [FUELe]; omega)
  · rintro n m s ⟨x, t⟩ _ _ ⟨⟨S, hS, e1, e2⟩, ⟨y, h2⟩, ⟨y', h3⟩, h4, h5⟩
    simp only at e2 h3 h5
    have c3 : s.1 7 1 = nI (P.1 2) := h2.2.2.1
    have d3 : t.1 0 13 = nI (P.1 2) := h3.2.2.1
    have d3' : (wI t 0 15 0).1 0 13 = nI (P.1 2) := d3
    obtain ⟨v, vC, vM⟩ := frac (S := S) (e := P.1 2) (what := what) (by omega) q8
    simp (config := { implicitDefEqProofs := false }) (disch := omega) only [L_X8_weighBests_27_s, L_X9_chanceOf_6_s, c3, d3, d3', sh32 q8, sh64 q8, n_le, Nat.le_refl, if_true, e2, vM, bindS]
    have pm2 := PM_gone h3 0
    rw [pu_pu, pu_self hP] at pm2
    refine E2_some ⟨?_, h4, FrB_0 h5 (by omega), pm2⟩
    intro z hz
    rw [e1]
    apply vC
    rw [hz, ← h4 7 (by omega)]; exact c3
  · rintro n m a s ⟨x, t⟩ _ _ ha ⟨⟨S, hS, e1, e2⟩, ⟨y, h2⟩, ⟨y', h3⟩, h4, h5⟩ ih
    simp only at e2 h3 h5
    have c3 : s.1 7 1 = nI (P.1 2) := h2.2.2.1
    have d3 : t.1 0 13 = nI (P.1 2) := h3.2.2.1
    have pc' := PC_gone h2 (nI a)
    have pm' := PM_gone h3 (nI a)
    rw [pu_pu] at pc' pm'
    obtain ⟨s1, t1, r1, r2, f1, f2, ry, pc1, pm1⟩ := LIVE (PV_gone hV _) pc' pm'
    obtain ⟨⟨b, sb⟩, ⟨b', tb⟩, r3, r4, g1, g2, g3, g4⟩ := most2 (PV_gone hV (nI a)) pm1 ry
    simp only at g1 g2 g3 g4
    subst g1 g2 g3
    have r3' : F_X7_mostColoured (sb.1 20 1) sb = some (b, sb) := by rw [pc1.1]; exact r3
    have d3' : tb.1 0 13 = nI (P.1 2) := pm1.2.2.1
    have wl := wt8 (a := a) (n := P.1 2) hc q8
    have uu : (if b = nI k then (1 : Int64) else 0) = lN (if b = nI k then 1 else 0) := by split <;> rfl
    simp (config := { implicitDefEqProofs := false }) (disch := omega) only [L_X8_weighBests_27_s, L_X9_chanceOf_6_s, c3, d3, sh32 q8, n_le, if_neg, wtC hc q8 c3, bindS, l_eq0, r2, r4, F_X9_chanceOf_40, F_X8_weighBests_110, n_ar, uu, wtM hc q8 d3', e2, lN_add]
    have fb : FrB ν tb := FrB_tr (FrB_0 h5 (by omega)) (FrL_B f2)
    have hS' : S ≤ (a + 1) * 4294967296 := Nat.le_trans hS (Nat.mul_le_mul_right _ (Nat.le_succ a))
    by_cases w0 : wt a c (P.1 2) = 0
    · rw [if_pos w0]
      refine ih s (_, tb) ⟨⟨S, hS', e1, ?_⟩, ⟨y, h2⟩, ⟨_, pm1⟩, h4, fb⟩
      show lN (S + _) = lN S
      rw [w0, Nat.mul_zero, Nat.add_zero]
    · rw [if_neg w0, r1, bindS, r3', bindS]
      have fa : ∀ j, j < 20 → sb.1 j = μ.1 j := by
        intro j hj
        rw [f1.2 j (by omega), wI_ne (by omega)]; exact h4 j hj
      have s35 : sb.2 35 k = lN S := by rw [f1.1]; exact e1
      rcases g4 with g4 | ⟨b', hb, g4⟩
      · rw [if_pos g4]
        refine ih sb (_, tb) ⟨⟨S, hS', s35, ?_⟩, ⟨_, pc1⟩, ⟨_, pm1⟩, fa, fb⟩
        show lN (S + _) = lN S
        rw [if_neg (by rw [g4, n_en1 (by omega)]; exact not_false), Nat.zero_mul, Nat.add_zero]
      · have hb' : b' < 10 := by have : b' < P.1 0 := hb; omega
        rw [if_neg (by rw [g4, n_ne1 (by omega)]; exact not_false), g4]
        simp (config := { implicitDefEqProofs := false }) (disch := omega) only [gi_in, n_c]
        refine ih _ (_, tb) ⟨⟨S + (if b' = k then 1 else 0) * wt a c (P.1 2), ?_, ?_, ?_⟩, ⟨_, PC_wL pc1⟩, ⟨_, pm1⟩, fa, fb⟩
        · by_cases d : b' = k
          · rw [if_pos d, Nat.one_mul, Nat.succ_mul]; exact Nat.add_le_add hS wl
          · rw [if_neg d, Nat.zero_mul, Nat.add_zero]; exact hS'
        · show vp_updL (sb.2 35) b' (sb.2 35 b' + lN (wt a c (P.1 2))) k = _
          unfold vp_updL
          by_cases d : b' = k
          · rw [if_pos d.symm, if_pos d, d, s35, lN_add, Nat.one_mul]
          · rw [if_neg (fun z => d z.symm), if_neg d, s35, Nat.zero_mul, Nat.add_zero]
        · show lN (S + _) = _
          by_cases d : b' = k
          · rw [if_pos d, if_pos (by rw [d])]
          · rw [if_neg d, if_neg (by rw [n_eq (by omega) (by omega)]; exact d)]
