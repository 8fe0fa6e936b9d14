/-! looked and ask -/
theorem wayM {k v : Nat} {x was : Int32} {K : Int32 → Int32 → Int32 → Int32 → Mm → Option (Int32 × Mm)} {t : Mm} (hk : k < 10) (hv : v < 10) :
    ∃ t', L_X9_lookedOf_56 K FUEL (nI k) was x (nI v) 0 t = K (nI k) was x (nI (v + 1)) t' ∧ (∀ j, j ≠ 24 → t'.1 j = t.1 j) ∧ t'.2 = t.2 ∧ (∀ w, w < 12 → t'.1 24 (12 * v + w) = nI (pf t w k)) ∧ (∀ i, i < 12 * v → t'.1 24 i = t.1 24 i) := by
  refine For1 (fun n w s => L_X9_lookedOf_56 K n (nI k) was x (nI v) (nI w) s) 12 FUEL (fun i t' => (∀ j, j ≠ 24 → t'.1 j = t.1 j) ∧ t'.2 = t.2 ∧ (∀ w, w < i → t'.1 24 (12 * v + w) = nI (pf t w k)) ∧ (∀ i, i < 12 * v → t'.1 24 i = t.1 24 i)) (fun o => ∃ t', o = K (nI k) was x (nI (v + 1)) t' ∧ (∀ j, j ≠ 24 → t'.1 j = t.1 j) ∧ t'.2 = t.2 ∧ (∀ w, w < 12 → t'.1 24 (12 * v + w) = nI (pf t w k)) ∧ (∀ i, i < 12 * v → t'.1 24 i = t.1 24 i)) ?_ ?_ 0 t FUEL ⟨fun _ _ => rfl, rfl, fun w hw => absurd hw (by omega), fun _ _ => rfl⟩ (by omega) rfl (by decide)
  · intro n s _ h
    simp (config := { implicitDefEqProofs := false }) (disch := omega) only [L_X9_lookedOf_56_s, n_lel, if_pos, n_ar]
    exact ⟨s, rfl, h⟩
  · intro n w s _ hw h ih
    obtain ⟨h1, h2, h3, h4⟩ := h
    have e22 : pf s w k = pf t w k := by unfold pf; rw [h1 22 (by omega)]
    simp (config := { implicitDefEqProofs := false }) (disch := omega) only [L_X9_lookedOf_56_s, n_lel, if_neg, plM hw, bindS, n_ml, n_aa, gi_in, n_c, n_ar, e22]
    apply ih
    refine ⟨fun j hj => by rw [wI_ne hj]; exact h1 j hj, h2, ?_, ?_⟩
    · intro w' hw'
      rw [wI_eq, u_if]
      by_cases c : w' = w
      · rw [if_pos (by omega), c]
      · rw [if_neg (by omega)]; exact h3 w' (by omega)
    · intro i hi
      rw [wI_eq, u_ne (by omega)]; exact h4 i hi

theorem looked2 {P : Pl} {k : Nat} {μ ν : Mm} (hV : PV P) (hk : k < P.1 0) (pc : PC P μ) (pm : PM P ν) :
    E2 (L_X8_looked_25 FUEL (nI k) 0 0 μ) (F_X9_lookedOf (nI k) ν) (fun q r => q.1 = r.1 ∧ FrA μ q.2 ∧ FrB ν r.2 ∧ PM P r.2) := by
  have q1 := hV.1
  unfold F_X9_lookedOf
  simp (config := { implicitDefEqProofs := false }) (disch := omega) only [n_ml, n_ar, gi_in, n_c, (pm.2.2.2.2.1 k hk).2.1]
  refine For2 (fun n e (s : Int32 × Mm) => L_X8_looked_25 n (nI k) s.1 (nI e) s.2) (fun n e (t : Int32 × Mm) => L_X9_lookedOf_16 n (nI k) (P.2 1 k) t.1 (nI e) t.2) 10 FUEL FUEL (fun e s t => s.1 = t.1 ∧ (∃ y, PC (pu P 1 k y) s.2) ∧ (∃ y, PM (pu P 1 k y) t.2) ∧ FrA μ s.2 ∧ FrB ν t.2) (fun f g => E2 f g (fun q r => q.1 = r.1 ∧ FrA μ q.2 ∧ FrB ν r.2 ∧ PM P r.2)) ?_ ?_ 0 (0, μ) (0, ν) FUEL FUEL ⟨rfl, ⟨P.2 1 k, by rw [pu_self rfl]; exact pc⟩, ⟨P.2 1 k, by rw [pu_self rfl]; exact pm⟩, FrA_rf μ, FrB_rf ν⟩ (by omega) rfl rfl (by decide) (by decide)
  · rintro n m ⟨x, s⟩ ⟨y, t⟩ _ _ ⟨h1, ⟨z, h2⟩, ⟨z', h3⟩, h4, h5⟩
    simp only at h1 h2 h3 h4 h5
    subst h1
    simp (config := { implicitDefEqProofs := false }) (disch := omega) only [L_X8_looked_25_s, L_X9_lookedOf_16_s, n_lel, n_ltl, if_pos, n_ml, n_ar, gi_in, n_c]
    have := PM_look (w := k) h3 (P.2 1 k)
    rw [pu_pu, pu_self rfl] at this
    exact E2_some ⟨rfl, h4, FrB_w h5 (by omega), this⟩
  · rintro n m e ⟨x, s⟩ ⟨y, t⟩ _ _ he ⟨h1, ⟨z, h2⟩, ⟨z', h3⟩, h4, h5⟩ ih
    simp only at h1 h2 h3 h4 h5
    subst h1
    have pc' := PC_look (w := k) h2 (nI e)
    have pm' := PM_look (w := k) h3 (nI e)
    rw [pu_pu] at pc' pm'
    obtain ⟨s1, b, s2, t2, e1, e2, e3, hb, pc2, pm2, f1, f2, ry⟩ := seen2 (PV_look hV ⟨e, by omega, rfl⟩) pc' pm'
    simp (config := { implicitDefEqProofs := false }) (disch := omega) only [L_X8_looked_25_s, L_X9_lookedOf_16_s, n_lel, n_ltl, if_neg, n_ml, n_ar, gi_in, n_c, e1, e2, e3, bindS, F_X8_looked_81, F_X9_lookedOf_51, orif hb]
    obtain ⟨t3, e4, w1, w2, w3, w4⟩ := wayM (k := k) (v := e) (x := if b = 0 then x else x ||| 1 <<< (nI e &&& 31)) (was := P.2 1 k) (K := L_X9_lookedOf_16 m) (t := t2) (by omega) he
    rw [e4]
    refine ih (_, _) (_, _) ⟨rfl, ⟨_, pc2⟩, ⟨nI e, ?_⟩, FrA_tr (FrA_w h4 (by omega)) (FrC_A f1), ?_⟩
    · unfold PM at *
      simp only [w1 0 (by omega), w1 7 (by omega), w1 8 (by omega), w1 9 (by omega), w1 10 (by omega), w1 23 (by omega)]
      exact pm2
    · have fb := FrB_tr (FrB_w (k := 7) (i := 3 * k + 1) (v := nI e) h5 (by omega)) (FrL_B f2)
      exact ⟨fun j h6 h7 => by show t3.1 j = _; rw [w1 j (by omega)]; exact fb.1 j h6 h7, by show t3.1 0 4 = _; rw [w1 0 (by omega)]; exact fb.2⟩
def ct (x : Int32) (wy : Nat → Int32) (w p : Nat) : Nat → Nat
  | 0 => 0
  | n + 1 => ct x wy w p n + (if bt x n = 1 ∧ wy (12 * n + w) = nI p then 1 else 0)
theorem ct_cg {x x' : Int32} {wy wy' : Nat → Int32} {w p : Nat} : ∀ {n : Nat}, (∀ j, j < n → bt x j = bt x' j ∧ wy (12 * j + w) = wy' (12 * j + w)) → ct x wy w p n = ct x' wy' w p n
  | 0, _ => rfl
  | n + 1, h => by rw [ct, ct, ct_cg (fun j hj => h j (by omega)), (h n (by omega)).1, (h n (by omega)).2]
theorem ct_le (x : Int32) (wy : Nat → Int32) (w p : Nat) : ∀ n, ct x wy w p n ≤ n
  | 0 => by simp [ct]
  | n + 1 => by have := ct_le x wy w p n; rw [ct]; split <;> omega
theorem tlC {k v : Nat} {K : Int32 → Int32 → Mm → Option Mm} {s t : Mm} (hk : k < 10) (hp : ∀ w, w < 12 → ∀ s', (∀ j, j ≠ 36 → s'.1 j = s.1 j) → F_X7_placeOf (nI w) (nI k) s' = some (nI (pf t w k), s')) :
    ∃ s', L_X8_tallyPlaces_82 K FUEL (nI k) (nI v) 0 s = K (nI k) (nI (v + 1)) s' ∧ (∀ j, j ≠ 36 → s'.1 j = s.1 j) ∧ s'.2 = s.2 ∧ (∀ w p, w < 12 → p < 4 → s'.1 36 (4 * w + p) = s.1 36 (4 * w + p) + (if pf t w k = p then 1 else 0)) := by
  refine For1 (fun n w s => L_X8_tallyPlaces_82 K n (nI k) (nI v) (nI w) s) 12 FUEL (fun i s' => (∀ j, j ≠ 36 → s'.1 j = s.1 j) ∧ s'.2 = s.2 ∧ (∀ w p, w < i → p < 4 → s'.1 36 (4 * w + p) = s.1 36 (4 * w + p) + (if pf t w k = p then 1 else 0)) ∧ (∀ j, 4 * i ≤ j → s'.1 36 j = s.1 36 j)) (fun o => ∃ s', o = K (nI k) (nI (v + 1)) s' ∧ (∀ j, j ≠ 36 → s'.1 j = s.1 j) ∧ s'.2 = s.2 ∧ (∀ w p, w < 12 → p < 4 → s'.1 36 (4 * w + p) = s.1 36 (4 * w + p) + (if pf t w k = p then 1 else 0))) ?_ ?_ 0 s FUEL ⟨fun _ _ => rfl, rfl, fun w p hw => absurd hw (by omega), fun _ _ => rfl⟩ (by omega) rfl (by decide)
  · intro n s' _ h
    simp (config := { implicitDefEqProofs := false }) (disch := omega) only [L_X8_tallyPlaces_82_s, n_lel, if_pos, F_X8_tallyPlaces_116, n_ar]
    exact ⟨s', rfl, h.1, h.2.1, h.2.2.1⟩
  · intro n w s' _ hw h ih
    obtain ⟨h1, h2, h3, h4⟩ := h
    have l3 := pf_le t w k
    simp (config := { implicitDefEqProofs := false }) (disch := omega) only [L_X8_tallyPlaces_82_s, n_lel, if_neg, hp w hw s' h1, bindS, n_mr, n_aa, gi_in, n_c, n_ar]
    apply ih
    refine ⟨fun j hj => by rw [wI_ne hj]; exact h1 j hj, h2, ?_, ?_⟩
    · intro w' p hw' hp'
      rw [wI_eq, u_if]
      by_cases c : w' = w
      · subst c
        by_cases d : pf t w' k = p
        · rw [if_pos (by omega), if_pos d, d, h4 _ (by omega)]
        · rw [if_neg (by omega), if_neg d, h4 _ (by omega), Int32.add_zero]
      · rw [if_neg (by omega)]; exact h3 w' p (by omega) hp'
    · intro j hj
      rw [wI_eq, u_ne (by omega)]; exact h4 j (by omega)

theorem tally2 {P : Pl} {k : Nat} {μ ν : Mm} (hV : PV P) (hk : k < P.1 0) (pc : PC P μ) (pm : PM P ν) :
    E2 (L_X8_tallyPlaces_6 FUEL (nI k) 0 μ) (F_X9_lookedOf (nI k) ν) (fun s r => (∀ w p, w < 12 → p < 4 → s.1 36 (4 * w + p) = nI (ct r.1 (r.2.1 24) w p 10)) ∧ (∀ v w, v < 10 → w < 12 → ∃ p, p ≤ 3 ∧ r.2.1 24 (12 * v + w) = nI p) ∧ FrA μ s ∧ FrB ν r.2 ∧ PM P r.2) := by
  have q1 := hV.1
  have z : ∃ s, L_X8_tallyPlaces_6 FUEL (nI k) 0 μ = L_X8_tallyPlaces_30 FUEL (nI k) 0 s ∧ (∀ j, j ≠ 36 → s.1 j = μ.1 j) ∧ s.2 = μ.2 ∧ (∀ i, i < 48 → s.1 36 i = 0) := by
    refine For1 (fun n i s => L_X8_tallyPlaces_6 n (nI k) (nI i) s) 48 FUEL (fun i s => (∀ j, j ≠ 36 → s.1 j = μ.1 j) ∧ s.2 = μ.2 ∧ (∀ j, j < i → s.1 36 j = 0)) (fun o => ∃ s, o = L_X8_tallyPlaces_30 FUEL (nI k) 0 s ∧ (∀ j, j ≠ 36 → s.1 j = μ.1 j) ∧ s.2 = μ.2 ∧ (∀ i, i < 48 → s.1 36 i = 0)) ?_ ?_ 0 μ FUEL ⟨fun _ _ => rfl, rfl, fun j hj => absurd hj (by omega)⟩ (by omega) rfl (by decide)
    · intro n s _ h
      simp (config := { implicitDefEqProofs := false }) (disch := omega) only [L_X8_tallyPlaces_6_s, n_lel, if_pos]
      exact ⟨s, rfl, h⟩
    · intro n i s _ hi h ih
      simp (config := { implicitDefEqProofs := false }) (disch := omega) only [L_X8_tallyPlaces_6_s, n_lel, if_neg, gi_in, n_c, n_ar]
      apply ih
      refine ⟨fun j hj => by rw [wI_ne hj]; exact h.1 j hj, h.2.1, ?_⟩
      intro j hj
      rw [wI_eq, u_if]
      by_cases c : j = i
      · rw [if_pos c]
      · rw [if_neg c]; exact h.2.2 j (by omega)
  obtain ⟨s0, e0, z1, z2, z3⟩ := z
  rw [e0]
  have pc36 : ∀ {Q : Pl} {a b : Mm}, (∀ j, j ≠ 36 → b.1 j = a.1 j) → PC Q a → PC Q b := by
    intro Q a b h hp
    unfold PC at *
    simp only [h 20 (by omega), h 7 (by omega), h 9 (by omega), h 21 (by omega), h 22 (by omega), h 23 (by omega), h 24 (by omega), h 25 (by omega), h 26 (by omega), h 27 (by omega), h 8 (by omega), h 10 (by omega)]
    exact hp
  unfold F_X9_lookedOf
  simp (config := { implicitDefEqProofs := false }) (disch := omega) only [n_ml, n_ar, gi_in, n_c, (pm.2.2.2.2.1 k hk).2.1]
  refine For2 (fun n e s => L_X8_tallyPlaces_30 n (nI k) (nI e) s) (fun n e (t : Int32 × Mm) => L_X9_lookedOf_16 n (nI k) (P.2 1 k) t.1 (nI e) t.2) 10 FUEL FUEL (fun e s t => (∀ w p, w < 12 → p < 4 → s.1 36 (4 * w + p) = nI (ct t.1 (t.2.1 24) w p e)) ∧ (∀ v w, v < e → w < 12 → ∃ p, p ≤ 3 ∧ t.2.1 24 (12 * v + w) = nI p) ∧ (∀ j, j < 32 → e ≤ j → bt t.1 j = 0) ∧ (∃ y, PC (pu P 1 k y) s) ∧ (∃ y, PM (pu P 1 k y) t.2) ∧ FrA μ s ∧ FrB ν t.2) (fun f g => E2 f g (fun s r => (∀ w p, w < 12 → p < 4 → s.1 36 (4 * w + p) = nI (ct r.1 (r.2.1 24) w p 10)) ∧ (∀ v w, v < 10 → w < 12 → ∃ p, p ≤ 3 ∧ r.2.1 24 (12 * v + w) = nI p) ∧ FrA μ s ∧ FrB ν r.2 ∧ PM P r.2)) ?_ ?_ 0 s0 (0, ν) FUEL FUEL ⟨?_, fun v w hv => absurd hv (by omega), fun j hj _ => bt_0 hj, ⟨P.2 1 k, by rw [pu_self rfl]; exact pc36 z1 pc⟩, ⟨P.2 1 k, by rw [pu_self rfl]; exact pm⟩, ⟨fun j hj => z1 j (by omega), z2⟩, FrB_rf ν⟩ (by omega) rfl rfl (by decide) (by decide)
  · rintro n m s ⟨y, t⟩ _ _ ⟨h1, h2, -, -, ⟨z', h3⟩, h4, h5⟩
    simp only at h1 h2 h3 h4 h5
    simp (config := { implicitDefEqProofs := false }) (disch := omega) only [L_X8_tallyPlaces_30_s, L_X9_lookedOf_16_s, n_lel, n_ltl, if_pos, n_ml, n_ar, gi_in, n_c]
    have := PM_look (w := k) h3 (P.2 1 k)
    rw [pu_pu, pu_self rfl] at this
    exact E2_some ⟨h1, h2, h4, FrB_w h5 (by omega), this⟩
  · rintro n m e s ⟨x, t⟩ _ _ he ⟨h1, h2, h0, ⟨z, h3⟩, ⟨z', h4⟩, h5, h6⟩ ih
    simp only at h1 h2 h0 h3 h4 h5 h6
    have pc' := PC_look (w := k) h3 (nI e)
    have pm' := PM_look (w := k) h4 (nI e)
    rw [pu_pu] at pc' pm'
    obtain ⟨s1, b, s2, t2, e1, e2, e3, hb, pc2, pm2, f1, f2, ry⟩ := seen2 (PV_look hV ⟨e, by omega, rfl⟩) pc' pm'
    have s36 : s2.1 36 = s.1 36 := f1.2 36 (by omega)
    have t24 : t2.1 24 = t.1 24 := f2.2.1 24 (by omega)
    simp (config := { implicitDefEqProofs := false }) (disch := omega) only [L_X8_tallyPlaces_30_s, L_X9_lookedOf_16_s, n_lel, n_ltl, if_neg, n_ml, n_ar, gi_in, n_c, e1, e2, e3, bindS, F_X8_tallyPlaces_116, F_X9_lookedOf_51, orif hb]
    obtain ⟨t3, e4, w1, w2, w3, w4⟩ := wayM (k := k) (v := e) (x := if b = 0 then x else x ||| 1 <<< (nI e &&& 31)) (was := P.2 1 k) (K := L_X9_lookedOf_16 m) (t := t2) (by omega) he
    rw [e4]
    have pm3 : PM (pu P 1 k (nI e)) t3 := by
      unfold PM at *
      simp only [w1 0 (by omega), w1 7 (by omega), w1 8 (by omega), w1 9 (by omega), w1 10 (by omega), w1 23 (by omega)]
      exact pm2
    have fb0 := FrB_tr (FrB_w (k := 7) (i := 3 * k + 1) (v := nI e) h6 (by omega)) (FrL_B f2)
    have fb : FrB ν t3 := ⟨fun j h6 h7 => by rw [w1 j (by omega)]; exact fb0.1 j h6 h7, by rw [w1 0 (by omega)]; exact fb0.2⟩
    have wy : ∀ v w, v < e + 1 → w < 12 → ∃ p, p ≤ 3 ∧ t3.1 24 (12 * v + w) = nI p := by
      intro v w hv hw
      by_cases c : v = e
      · subst c; exact ⟨pf t2 w k, pf_le _ _ _, w3 w hw⟩
      · rw [w4 _ (by omega), t24]; exact h2 v w (by omega) hw
    rcases hb with rfl | rfl
    · simp only [if_true]
      refine ih s2 (x, t3) ⟨?_, wy, fun j hj hj2 => h0 j hj (by omega), ⟨_, pc2⟩, ⟨_, pm3⟩, FrA_tr (FrA_w h5 (by omega)) (FrC_A f1), fb⟩
      intro w p hw hp
      show s2.1 36 (4 * w + p) = nI (ct x (t3.1 24) w p (e + 1))
      rw [s36, h1 w p hw hp, ct, if_neg (by rw [h0 e (by omega) (by omega)]; intro y; exact absurd y.1 (by decide)), Nat.add_zero]
      refine congrArg nI (ct_cg ?_)
      intro j hj
      rw [w4 _ (by omega), t24]; exact ⟨rfl, rfl⟩
    · simp only [show ((1 : Int32) = 0) = False from by decide, if_false]
      obtain ⟨s3, e5, u1, u2, u3⟩ := tlC (k := k) (v := e) (K := L_X8_tallyPlaces_30 n) (s := s2) (t := t2) (by omega) (by
        intro w hw s' hs'
        refine plC (P := pu P 1 k (nI e)) hw (Nat.le_refl _) (by omega) ?_
        unfold RY at *
        simp only [hs' 29 (by omega), hs' 30 (by omega), hs' 31 (by omega), hs' 28 (by omega), hs' 33 (by omega)]
        exact ry)
      rw [e5]
      have fa := FrA_tr (FrA_w (k := 22) (i := k) (v := nI e) h5 (by omega)) (FrC_A f1)
      refine ih s3 (x ||| 1 <<< (nI e &&& 31), t3) ⟨?_, wy, ?_, ⟨_, pc36 u1 pc2⟩, ⟨_, pm3⟩, ⟨fun j hj => by rw [u1 j (by omega)]; exact fa.1 j hj, u2.trans fa.2⟩, fb⟩
      · intro w p hw hp
        show s3.1 36 (4 * w + p) = nI (ct (x ||| 1 <<< (nI e &&& 31)) (t3.1 24) w p (e + 1))
        rw [u3 w p hw hp, s36, h1 w p hw hp, ct, w3 w hw, bt_seq (by omega)]
        have cc : ct x (t.1 24) w p e = ct (x ||| 1 <<< (nI e &&& 31)) (t3.1 24) w p e := by
          apply ct_cg
          intro j hj
          rw [w4 _ (by omega), t24, bt_sne (by omega) (by omega) (by omega)]; exact ⟨rfl, rfl⟩
        rw [← cc]
        by_cases d : pf t2 w k = p
        · rw [if_pos d, if_pos ⟨rfl, by rw [d]⟩, n_ar]
        · rw [if_neg d, if_neg (fun y => d (by have y := y.2; rw [n_eq (by have := pf_le t2 w k; omega) (by omega)] at y; exact y)), Int32.add_zero, Nat.add_zero]
      · intro j hj hj2
        show bt (x ||| 1 <<< (nI e &&& 31)) j = 0
        rw [bt_sne (by omega) hj (by omega)]; exact h0 j hj (by omega)
  · intro w p hw hp
    rw [z3 _ (by omega)]; rfl
