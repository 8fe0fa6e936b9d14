/-! years -/
theorem bv_nI (x : Int32) : x = nI x.toBitVec.toNat := by
  rw [← Int32.toBitVec_inj]
  apply BitVec.eq_of_toNat_eq
  rw [pk_tn x.toBitVec.isLt]
theorem ush16 (x : Int32) : ∃ a, a < 65536 ∧ (x.toUInt32 >>> ((16 : Int32).toUInt32 &&& Int32.toUInt32 31)).toInt32 = nI a := by
  have e := pk_ushr x 16 16 (by decide)
  refine ⟨x.toBitVec.toNat / 2 ^ 16, ?_, ?_⟩
  · have := x.toBitVec.isLt
    omega
  · rw [← e]; exact bv_nI _
def lcg (x : Int32) : Int32 := (1103515245 * x) + 12345
def lo4 (x : Int32) : Int32 := ((x.toUInt32 >>> ((16 : Int32).toUInt32 &&& Int32.toUInt32 31)).toInt32) - ((x.toUInt32 >>> ((16 : Int32).toUInt32 &&& Int32.toUInt32 31)).toInt32) / 4 * 4
theorem lo4_rg (x : Int32) : Rg 3 (lo4 x) := by
  obtain ⟨a, ha, e⟩ := ush16 x
  unfold lo4
  rw [e, n_rem (by omega) (by omega) (by omega)]
  exact ⟨a % 4, by omega, rfl⟩
theorem lot_e (t : Mm) : F_X9_lot 4 t = some (lo4 (lcg (t.1 0 36)), wI t 0 36 (lcg (t.1 0 36))) := by
  unfold F_X9_lot gz lo4 lcg
  rw [if_neg (by decide), wI_eq, u_eq]
def DrI (s0 t0 : Mm) (i : Nat) (s : Int32 × Mm) (t : Mm) : Prop := s.1 = t.1 0 36 ∧ (∀ k, k < i → s.2.1 27 k = t.1 9 k ∧ Rg 3 (t.1 9 k)) ∧ (∀ j, j ≠ 27 → s.2.1 j = s0.1 j) ∧ s.2.2 = s0.2 ∧ (∀ j, j ≠ 0 → j ≠ 9 → t.1 j = t0.1 j) ∧ (∀ i, i ≠ 36 → t.1 0 i = t0.1 0 i)
theorem DrI_n {s0 t0 s t t' : Mm} {i : Nat} {x y v : Int32} (h : DrI s0 t0 i (x, s) t) (hv : Rg 3 v) (a : t'.1 0 36 = y) (b : ∀ j, j ≠ 0 → t'.1 j = t.1 j) (c : ∀ i, i ≠ 36 → t'.1 0 i = t.1 0 i) : DrI s0 t0 (i + 1) (y, wI s 27 i v) (wI t' 9 i v) := by
  obtain ⟨h1, h2, h3, h4, h5, h6⟩ := h
  refine ⟨?_, ?_, ?_, h4, ?_, ?_⟩
  · rw [wI_ne (by omega)]; exact a.symm
  · intro k hk
    show (wI s 27 i v).1 27 k = _ ∧ _
    rw [wI_eq, wI_eq, u_if, u_if, b 9 (by omega)]
    by_cases e : k = i
    · rw [if_pos e, if_pos e]; exact ⟨rfl, hv⟩
    · rw [if_neg e, if_neg e]; exact h2 k (by omega)
  · intro j hj
    show (wI s 27 i v).1 j = _
    rw [wI_ne hj]; exact h3 j hj
  · intro j hj hj2
    rw [wI_ne hj2, b j hj]; exact h5 j hj hj2
  · intro j hj
    rw [wI_ne (by omega), c j hj]; exact h6 j hj
theorem drawL {n : Nat} {seed what : Int32} {s0 t0 : Mm} (hn : n ≤ 12) : ∃ s t, F_X8_drawBox seed (nI n) s0 = some s ∧ F_X9_yearsOf seed (nI n) what t0 = (F_X9_lives t).bind (fun q2 => (F_X9_readsBox q2).bind (fun q3 => if what = 0 then (F_X9_bestNow q3.2).bind (fun q7 => some (q7.1, q7.2)) else (F_X9_leftBy 0 q3.2).bind (fun q5 => (F_X9_ones q5.1 q5.2).bind (fun q6 => some (q6.1, q6.2))))) ∧ ∃ x, DrI s0 t0 12 (x, s) t := by
  unfold F_X8_drawBox F_X9_yearsOf
  refine For2 (fun m i (s : Int32 × Mm) => L_X8_drawBox_5 m (nI n) s.1 (nI i) s.2) (fun m i t => L_X9_yearsOf_8 m (nI n) what (nI i) t) 12 FUEL FUEL (DrI s0 t0)
    (fun f g => ∃ s t, f = some s ∧ g = (F_X9_lives t).bind (fun q2 => (F_X9_readsBox q2).bind (fun q3 => if what = 0 then (F_X9_bestNow q3.2).bind (fun q7 => some (q7.1, q7.2)) else (F_X9_leftBy 0 q3.2).bind (fun q5 => (F_X9_ones q5.1 q5.2).bind (fun q6 => some (q6.1, q6.2))))) ∧ ∃ x, DrI s0 t0 12 (x, s) t) ?_ ?_ 0 (seed, s0) (wI t0 0 36 seed) FUEL FUEL ?_ (by omega) rfl rfl (by decide) (by decide)
  · rintro m m' ⟨x, s⟩ t _ _ g
    simp (config := { implicitDefEqProofs := false }) (disch := omega) only [L_X8_drawBox_5_s, L_X9_yearsOf_8_s, n_lel, if_pos]
    exact ⟨s, t, rfl, rfl, x, g⟩
  · rintro m m' i ⟨x, s⟩ t _ _ hi g ih
    by_cases c : n ≤ i
    · simp (config := { implicitDefEqProofs := false }) (disch := omega) only [L_X8_drawBox_5_s, L_X9_yearsOf_8_s, n_lel, n_le, if_neg, if_pos, F_X8_drawBox_58, F_X9_yearsOf_36, gi_in, n_c, n_ar]
      exact ih (x, wI s 27 i 0) (wI t 9 i 0) (DrI_n g ⟨0, by omega, rfl⟩ g.1.symm (fun _ _ => rfl) (fun _ _ => rfl))
    · simp (config := { implicitDefEqProofs := false }) (disch := omega) only [L_X8_drawBox_5_s, L_X9_yearsOf_8_s, n_lel, n_le, if_neg, F_X8_drawBox_58, F_X9_yearsOf_36, gi_in, n_c, n_ar, lot_e, bindS]
      have e : t.1 0 36 = x := g.1.symm
      rw [e]
      exact ih (lcg x, wI s 27 i (lo4 (lcg x))) (wI (wI t 0 36 (lcg x)) 9 i (lo4 (lcg x))) (DrI_n g (lo4_rg _) (by rw [wI_eq, u_eq]) (fun j hj => wI_ne hj) (fun j hj => by rw [wI_eq, u_ne hj]))
  · refine ⟨?_, fun k hk => absurd hk (by omega), fun _ _ => rfl, rfl, ?_, ?_⟩
    · rw [wI_eq, u_eq]
    · intro j hj _; exact wI_ne hj
    · intro j hj; rw [wI_eq, u_ne hj]
/-! ones and bits -/
def on1 : Nat → Int32 → Int32 → Option Int32
  | 0, _, _ => none
  | n + 1, a, x => if x = 0 then some a else on1 n (a + 1) (x &&& (x - 1))
theorem on_ev (μ : Mm) (v : Int32) : ∀ n a x, on1 n a x = some v → ∀ m, n ≤ m → L_X9_ones_4 m a x μ = some (v, μ) := by
  intro n
  induction n with
  | zero => intro a x h; exact absurd h (by simp [on1])
  | succ n ih =>
    intro a x h m hm
    obtain ⟨m, rfl⟩ : ∃ m', m = m' + 1 := ⟨m - 1, by omega⟩
    rw [L_X9_ones_4_s]
    rw [on1] at h
    by_cases c : x = 0
    · rw [if_pos c] at h ⊢
      rw [Option.some.inj h]
    · rw [if_neg c] at h ⊢
      exact ih _ _ h m (by omega)
theorem on_dec : ∀ i < 32, ∀ j < 32, on1 11 0 (nI (32 * i + j)) = some (bcV (nI (32 * i + j))) := by decide +kernel
theorem bits10 {x : Int32} (h : ∀ k, k < 32 → 10 ≤ k → bt x k = 0) : ∃ b, b < 1024 ∧ x = nI b := by
  refine ⟨x.toBitVec.toNat, ?_, bv_nI x⟩
  apply Nat.lt_pow_two_of_testBit (n := 10)
  intro i hi
  by_cases c : i < 32
  · have := h i c hi
    rw [bt_lsb c] at this
    cases e : x.toBitVec.getLsbD i
    · exact e
    · rw [e] at this; exact absurd this (by decide)
  · exact BitVec.getLsbD_of_ge x.toBitVec i (by omega)
theorem ones10 {x : Int32} (h : ∀ k, k < 32 → 10 ≤ k → bt x k = 0) (t : Mm) : F_X9_ones x t = some (bcV x, t) := by
  obtain ⟨b, hb, rfl⟩ := bits10 h
  have e := on_dec (b / 32) (by omega) (b % 32) (by omega)
  rw [show 32 * (b / 32) + b % 32 = b by omega] at e
  exact on_ev t _ 11 0 (nI b) e FUEL (by decide)
/-! the plan with another box -/
def bx (P : Pl) (t : Mm) : Pl := (P.1, fun r k => if r = 6 then t.1 9 k else P.2 r k)
theorem RY_T {P : Pl} {w : Nat} {s a b : Mm} (h : RY P w s a) (f : FrT 9 11 a b) : RY P w s b := by
  unfold RY at *
  rw [f.1 11 (by omega) (by omega), f.1 12 (by omega) (by omega), f.1 13 (by omega) (by omega), f.1 14 (by omega) (by omega), f.1 22 (by omega) (by omega), f.2.1 26 (by omega)]
  exact h
theorem PV_bx {P : Pl} {t : Mm} (hV : PV P) (g : ∀ k, k < 12 → Rg 3 (t.1 9 k)) : PV (bx P t) :=
  ⟨hV.1, hV.2.1, hV.2.2.1, hV.2.2.2.1, hV.2.2.2.2.1, hV.2.2.2.2.2.1, g, hV.2.2.2.2.2.2.2⟩
theorem PC_bx {P : Pl} {t s s0 : Mm} (p : PC P s0) (g3 : ∀ j, j ≠ 27 → s.1 j = s0.1 j) (g : ∀ k, k < 12 → s.1 27 k = t.1 9 k) : PC (bx P t) s := by
  unfold PC at p ⊢
  rw [g3 20 (by omega), g3 7 (by omega), g3 9 (by omega), g3 21 (by omega), g3 22 (by omega), g3 23 (by omega), g3 24 (by omega), g3 25 (by omega), g3 26 (by omega), g3 8 (by omega), g3 10 (by omega)]
  exact ⟨p.1, p.2.1, p.2.2.1, p.2.2.2.1, p.2.2.2.2.1, p.2.2.2.2.2.1, g, p.2.2.2.2.2.2.2⟩
theorem PM_bx {P : Pl} {t : Mm} (a : pmT P t) (b : pmJ P t) (c : pmO P t) : PM (bx P t) t := PM_of (P := bx P t) a b (fun _ _ => rfl) c
theorem bx_T {P : Pl} {t a : Mm} (p : PM (bx P t) a) : pmT P a := PM_T (P := bx P t) p
theorem bx_J {P : Pl} {t a : Mm} (p : PM (bx P t) a) : pmJ P a := PM_J (P := bx P t) p
theorem bx_O {P : Pl} {t a : Mm} (p : PM (bx P t) a) : pmO P a := PM_O (P := bx P t) p
theorem bx_R {P : Pl} {t s a : Mm} {w : Nat} (p : RY (bx P t) w s a) : RY P w s a := p
theorem bx_1 {P : Pl} {t s : Mm} (p : PC (bx P t) s) : s.1 20 1 = nI (P.1 0) := p.1
theorem d_years {μ ν c t : Mm} {n q : Nat} (h : Iv μ ν) (d : DG μ ν c t) (hn : n ≤ 12) (hq : q < 2) (seed : Int32) : E2 (F_X8_years seed (nI n) (nI q) c) (F_X9_yearsOf seed (nI n) (nI q) t) (fun q r => q.1 = r.1 ∧ DG μ ν q.2 r.2 ∧ q.2.2 = c.2) := by
  have hV := TdV h
  obtain ⟨c1, e1, pc, fa⟩ := DG_P h d
  obtain ⟨s, t1, e2, e3, x, -, g2, g3, g4, g5, g6⟩ := drawL (n := n) (seed := seed) (what := nI q) (s0 := c1) (t0 := t) hn
  have g3 : ∀ j, j ≠ 27 → s.1 j = c1.1 j := g3
  have pm := d.2.2
  have hVb : PV (bx (Td μ) t1) := PV_bx hV (fun k hk => (g2 k hk).2)
  have pcb : PC (bx (Td μ) t1) s := PC_bx pc g3 (fun k hk => (g2 k hk).1)
  have pT : pmT (Td μ) t1 := by
    have p := PM_T pm; unfold pmT at p ⊢; rw [g6 7 (by omega), g5 7 (by omega) (by omega)]; exact p
  have pJ : pmJ (Td μ) t1 := by
    have p := PM_J pm; unfold pmJ at p ⊢; rw [g6 9 (by omega), g5 8 (by omega) (by omega)]; exact p
  have pO : pmO (Td μ) t1 := by
    have p := PM_O pm; unfold pmO at p ⊢
    rw [g6 13 (by omega), g6 33 (by omega), g6 15 (by omega), g6 16 (by omega), g6 17 (by omega), g6 18 (by omega), g5 10 (by omega) (by omega), g5 23 (by omega) (by omega)]; exact p
  have pmb : PM (bx (Td μ) t1) t1 := PM_bx pT pJ pO
  have fb1 : FrB t t1 := ⟨fun k h1 h2 => g5 k (by omega) (by omega), g6 4 (by omega)⟩
  obtain ⟨s2, t2, e4, e5, f1, f2, ry, pc2, pm2⟩ := LIVE hVb pcb pmb
  have fb2 := FrB_tr (FrB_tr d.2.1 fb1) (FrL_B f2)
  obtain ⟨t3, e6, pB, -, f3⟩ := rB h fb2
  have pm3 : PM (Td μ) t3 := PM_of (pmT_T f3 (by omega) (by omega) (bx_T pm2)) (pmJ_T f3 (by omega) (by omega) (bx_J pm2)) pB (FrT_O f3 (by omega) (by omega) (bx_O pm2))
  have ry3 : RY (Td μ) 12 s2 t3 := RY_T (bx_R ry) f3
  have dd : DG μ ν s2 t3 ∧ s2.2 = c.2 := by
    refine ⟨⟨fun k hk => ?_, FrB_tr fb2 (FrT_B f3 (by omega) (by omega)), pm3⟩, ?_⟩
    · rw [f1.2 k (by omega), g3 k (by omega), fa.1 k hk, d.1 k hk]
    · exact f1.1.trans (g4.trans fa.2)
  have sz : s2.1 20 1 = nI ((Td μ).1 0) := bx_1 pc2
  unfold F_X8_years
  simp (config := { implicitDefEqProofs := false }) (disch := omega) only [inT (n := 13) (k := n) (by omega) (by omega), inT (n := 2) (k := q) hq (by omega), show (13 : Int32) = nI 13 from rfl, show (2 : Int32) = nI 2 from rfl, bindS, i10, if_false, e1, e2, e3, e4, e5, e6, sz, bindPair, n_eqr]
  by_cases z : q = 0
  · rw [if_pos z, if_pos z]
    refine E2_mono (most2 hV pm3 ry3) ?_
    rintro ⟨a, a'⟩ ⟨b, b'⟩ ⟨h1, h2, h3, -⟩
    simp only at h1 h2 h3
    subst h1 h2
    exact ⟨h3, dd⟩
  · rw [if_neg z, if_neg z, left0 hV pm3.1 ry3, bindS, bc_e, ones10 (fun k h1 h2 => ry3.2.2.2.2.1 k h1 (Nat.le_trans hV.1 h2))]
    exact E2_some ⟨rfl, dd⟩
theorem o_years (a1 a2 a3 : Int32) : OkE (F_X8_years a1 a2 a3) (F_X9_years a1 a2 a3) := by
  intro μ ν h
  obtain ⟨t, e2, d, -, -⟩ := DG_0 h
  have hI := DG_I h d
  unfold F_X9_years
  rcases chk (x := a2) (y := 13) (n := 13) (hi := 12) (by omega) rfl rfl with ⟨n, hn, rfl, c1, c2⟩ | ⟨c1, c2⟩
  · rcases chk (x := a3) (y := 2) (n := 2) (hi := 1) (by omega) rfl rfl with ⟨q, hq, rfl, c3, c4⟩ | ⟨c3, c4⟩
    · simp (config := { implicitDefEqProofs := false }) (disch := omega) only [e2, c2, is2 c4, bindS, i10, if_false, bindPair]
      exact DG_m h (d_years h d (by omega) hq a1)
    · unfold F_X8_years
      simp (config := { implicitDefEqProofs := false }) (disch := omega) only [e2, c1, c2, c3, is20 c4, bindS, i10, if_false, if_true]
      exact oret hI
  · unfold F_X8_years
    simp (config := { implicitDefEqProofs := false }) (disch := omega) only [e2, c1, c2, bindS, if_true]
    exact oret hI
/-! write -/
theorem o_write (a1 a2 : Int32) : OkE (F_X8_write a1 a2) (F_X9_write a1 a2) := by
  intro μ ν h
  obtain ⟨t, e2, d, lr, -⟩ := DG_0 h
  have hI := DG_I h d
  have q1 := (TdV h).1
  unfold F_X8_write F_X9_write F_X4_isLost
  simp (config := { implicitDefEqProofs := false }) (disch := omega) only [e2, bindS, size1 h]
  rcases chT (μ := μ) (x := a1) (TdV h) with ⟨k, hk, rfl, c3, c4⟩ | ⟨c3, c4⟩
  · simp (config := { implicitDefEqProofs := false }) (disch := omega) only [c3, c4 t d.2.2.1, bindS, i10, if_false]
    rcases chk (x := a2) (y := 4) (n := 4) (hi := 3) (by omega) rfl rfl with ⟨s, hs, rfl, c1, c2⟩ | ⟨c1, c2⟩
    · simp (config := { implicitDefEqProofs := false }) (disch := omega) only [c1, isS c2, bindS, i10, if_false, gi_in, n_c]
      obtain ⟨hf, n, m1, m2, m3, m4⟩ := shk hI hs
      rcases hf with ⟨z1, z2, z3⟩ | ⟨f, hf, z1, z2⟩
      · rw [z1, if_neg z3, if_pos rfl, if_neg (by decide)]
        unfold F_X8_found F_X9_finds
        exact fret hI _ _
      · rw [z1, z2, if_pos (n0f hf), if_neg (n1f hf), if_pos rfl]
        unfold F_J9_min_7cf53 F_X9_lesser
        have e5 : (if (12 : Int32) < nI n then (12 : Int32) else nI n) = nI (min n 12) := by
          by_cases z : 12 < n
          · rw [if_pos (by rw [n_ltl (by omega) (by omega)]; exact z), Nat.min_eq_right (by omega)]; rfl
          · rw [if_neg (by rw [n_ltl (by omega) (by omega)]; exact z), Nat.min_eq_left (by omega)]
        have e6 : (if (12 : Int32) ≤ nI n then (12 : Int32) else nI n) = nI (min n 12) := by
          by_cases z : 12 ≤ n
          · rw [if_pos (by rw [n_lel (by omega) (by omega)]; exact z), Nat.min_eq_right z]; rfl
          · rw [if_neg (by rw [n_lel (by omega) (by omega)]; exact z), Nat.min_eq_left (by omega)]
        rw [m2, m3, bindS, bindS, e5, e6]
        have hm : min n 12 ≤ 12 := Nat.min_le_right _ _
        have hm2 : min n 12 ≤ n := Nat.min_le_left _ _
        refine For2 (fun m i c => L_X8_write_59 m (nI k) s (nI (min n 12)) (nI i) c) (fun m i t => L_X9_write_52 m (nI k) (nI s) (nI (min n 12)) (nI i) t) (min n 12) FUEL FUEL
          (fun i c t => Iv c t ∧ PM (Td μ) t ∧ LR (Td μ) t ∧ (∀ k, 1 ≤ k → k ≤ 10 → c.1 k = μ.1 k) ∧ c.1 (12 + 2 * s) 1 = nI f ∧ t.1 1 s = nI f ∧ c.1 (12 + 2 * s) 2 = nI n)
          (fun f g => E2 f g (fun q r => q.1 = r.1 ∧ Iv q.2 r.2)) ?_ ?_ 0 μ t FUEL FUEL ⟨hI, d.2.2, lr, fun _ _ _ => rfl, z1, z2, m2⟩ (by omega) rfl rfl (by rw [FUELe]; omega) (by rw [FUELe]; omega)
        · rintro m m' c t _ _ g
          simp (config := { implicitDefEqProofs := false }) (disch := omega) only [L_X8_write_59_s, L_X9_write_52_s, n_le, Nat.le_refl, if_true]
          exact oret g.1
        · rintro m m' i c t _ _ hi ⟨g1, g2, g3, g4, g5, g6, g7⟩ ih
          obtain ⟨c1, e7, pc, fa⟩ := takeC g1
          rw [Td_cg g4] at pc
          obtain ⟨c2, e8, fc, ys⟩ := (g3 c1 pc).1 i (by omega)
          have fr : ∀ k, k < 20 → c2.1 k = c.1 k := fun k hk => (fc.2 k (by omega)).trans (fa.1 k hk)
          have I2 : Iv c2 t := Iv_back g1 fr (FrB_rf t) (IvO g1)
          simp (config := { implicitDefEqProofs := false }) (disch := omega) only [L_X8_write_59_s, L_X9_write_52_s, n_le, if_neg, n_ml, n_aa, n_ar, gi_in, n_c, rAt e7, e8, bindS, putC, F_X9_cut]
          have f5 : c2.1 (12 + 2 * s) 1 = nI f := by rw [fr _ (by omega)]; exact g5
          have f7 : c2.1 (12 + 2 * s) 2 = nI n := by rw [fr _ (by omega)]; exact g7
          have e9 : c2.1 30 k = t.1 18 (10 * i + k) := (ys.1 k hk).2.1
          rw [f5, g6, e9]
          refine ih _ _ ⟨putS I2 hs (show i < n by omega) m1 f5 f7, ?_, ?_, ?_, ?_, ?_, ?_⟩
          · exact g2
          · exact g3
          · intro j h1 h2
            rw [wI_ne (by omega), fr j (by omega)]; exact g4 j h1 h2
          · rw [wI_ne (by omega)]; exact f5
          · rw [wI_ne (by omega)]; exact g6
          · rw [wI_ne (by omega)]; exact f7
    · simp (config := { implicitDefEqProofs := false }) (disch := omega) only [c1, isS0 c2, bindS, if_true]
      exact oret hI
  · simp (config := { implicitDefEqProofs := false }) (disch := omega) only [c3, c4 t d.2.2.1, bindS, if_true]
    exact oret hI
