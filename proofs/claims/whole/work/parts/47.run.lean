/-! weeks and years -/
def Sn (w : Nat) (ν t : Mm) : Prop := ∀ k, k < 10 → ν.1 17 (10 * w + k) = t.1 11 k ∧ ν.1 18 (10 * w + k) = t.1 12 k ∧ ν.1 19 (10 * w + k) = t.1 13 k ∧ ν.1 20 (10 * w + k) = (if t.1 14 k = 0 then 0 else 1) ∧ ν.1 21 (10 * w + k) = t.1 15 k
def FrK (w : Nat) (ν t : Mm) : Prop := FrL ν t ∧ (∀ r, 17 ≤ r → r ≤ 21 → ∀ i, i < 10 * w → t.1 r i = ν.1 r i) ∧ (∀ i, i < 3 * w → t.1 22 i = ν.1 22 i)
theorem snapM {w : Nat} {t : Mm} (hw : w < 12) :
    Ev (L_X9_passes_118 FUEL (nI w) 0 t) (fun t' => (∀ j, (j < 17 ∨ 21 < j) → t'.1 j = t.1 j) ∧ t'.2 = t.2 ∧ (∀ r, 17 ≤ r → r ≤ 21 → ∀ i, i < 10 * w → t'.1 r i = t.1 r i) ∧ Sn w t' t) := by
  refine For1 (fun n i s => L_X9_passes_118 n (nI w) (nI i) s) 10 FUEL (fun i t' => (∀ j, (j < 17 ∨ 21 < j) → t'.1 j = t.1 j) ∧ t'.2 = t.2 ∧ (∀ r, 17 ≤ r → r ≤ 21 → ∀ i, i < 10 * w → t'.1 r i = t.1 r i) ∧ (∀ k, k < i → t'.1 17 (10 * w + k) = t.1 11 k ∧ t'.1 18 (10 * w + k) = t.1 12 k ∧ t'.1 19 (10 * w + k) = t.1 13 k ∧ t'.1 20 (10 * w + k) = (if t.1 14 k = 0 then 0 else 1) ∧ t'.1 21 (10 * w + k) = t.1 15 k)) (fun o => Ev o (fun t' => (∀ j, (j < 17 ∨ 21 < j) → t'.1 j = t.1 j) ∧ t'.2 = t.2 ∧ (∀ r, 17 ≤ r → r ≤ 21 → ∀ i, i < 10 * w → t'.1 r i = t.1 r i) ∧ Sn w t' t)) ?_ ?_ 0 _ FUEL ?_ (by omega) rfl (by decide)
  · intro n s _ h
    simp (disch := omega) only [L_X9_passes_118_s, n_lel, if_pos]
    exact Ev_some h
  · intro n i s _ hi h ih
    obtain ⟨h1, h2, h3, h4⟩ := h
    simp (disch := omega) only [L_X9_passes_118_s, n_lel, if_neg, gi_in, n_c, n_ml, n_aa, F_X9_passes_199, wI_ne, n_ar, h1 11, h1 12, h1 13, h1 14, h1 15]
    apply ih
    refine ⟨?_, h2, ?_, ?_⟩
    · intro j hj
      rw [wI_ne (by omega), wI_ne (by omega), wI_ne (by omega), wI_ne (by omega), wI_ne (by omega)]
      exact h1 j hj
    · intro r hr hr2 j hj
      have g : ∀ (m : Mm) (c : Nat) (v : Int32), (wI m c (10 * w + i) v).1 r j = m.1 r j := by
        intro m c v
        by_cases e : r = c
        · subst e; rw [wI_eq, u_ne (by omega)]
        · rw [wI_ne e]
      rw [g, g, g, g, g]; exact h3 r hr hr2 j hj
    · intro k hk
      simp (disch := omega) only [wI_ne, wI_eq, u_if]
      by_cases e : k = i
      · subst e
        simp only [if_true]
        exact ⟨trivial, trivial, trivial, trivial, trivial⟩
      · have e' : ¬ 10 * w + k = 10 * w + i := by omega
        simp only [if_neg e']
        exact h4 k (by omega)
  · exact ⟨fun _ _ => rfl, rfl, fun _ _ _ _ _ => rfl, fun k hk => absurd hk (by omega)⟩
def cwk (w : Int32) (μ : Mm) (K : Mm → Option Mm) : Option Mm := (F_X7_doEvents w μ).bind (fun q3 => (F_X2_judgeIn w q3).bind (fun q4 => (F_X7_scoreAll q4.1 q4.2).bind (fun q5 => (F_X7_placeAll w q5).bind K)))
theorem wk2 {P : Pl} {w : Nat} {a b μ ν : Mm} (hV : PV P) (hC : PC P a) (hM : PM P b) (hw : w < 12) (h : RY P w μ ν) (f1 : FrC a μ) (f2 : FrL b ν) :
    ∃ s t, (∀ K, cwk (nI w) μ K = K s) ∧ F_X9_passes (nI w) ν = some t ∧ RY P (w + 1) s t ∧ RSf P s t ∧ FrC a s ∧ FrK w ν t ∧ Sn w t t := by
  have hMν : PM P ν := PM_frL f2 hM
  obtain ⟨q, r, e1, e2, hWE⟩ := evs2 hV hC hMν hw h f1 (FrM_rf ν)
  obtain ⟨q2, r2, e3, e4, h31, h32, h33, h34⟩ := sco2 hV hC hMν hw hWE
  obtain ⟨q3, r3, e5, e6, h41, h42, h43, h44⟩ := pla2 hV hC hMν hw h31 h32 h33 h34
  obtain ⟨t, e7, s1, s2, s3, s4⟩ := snapM (t := r3) hw
  refine ⟨q3, t, ?_, ?_, ?_, ?_, h43, ⟨⟨?_, ?_, ?_⟩, ?_, ?_⟩, ?_⟩
  · intro K
    unfold cwk
    rw [e1, bindS]
    have := congrArg (fun o => Option.bind o (fun q5 => (F_X7_placeAll (nI w) q5).bind K)) e3
    simp only [Option.bind_assoc] at this
    rw [this, bindS, e5, bindS]
  · rw [e2]
    unfold F_X9_passes_106
    rw [e4, bindS, e6, bindS, e7]
  · unfold RY at *
    rw [s1 11 (by omega), s1 12 (by omega), s1 13 (by omega), s1 14 (by omega), s1 22 (by omega), s1 0 (by omega)]
    exact h41
  · unfold RSf at *
    rw [s1 15 (by omega)]
    exact h42
  · rw [s2]; exact h44.1
  · intro k hk; rw [s1 k (by omega)]; exact h44.2.1 k (by omega)
  · intro i h1 h2; rw [s1 0 (by omega)]; exact h44.2.2.1 i h1 h2
  · intro r hr hr2 i hi; rw [s3 r hr hr2 i hi]; rw [h44.2.1 r (by omega)]
  · intro i hi; rw [s1 22 (by omega)]; exact h44.2.2.2 i hi
  · intro k hk
    rw [s1 11 (by omega), s1 12 (by omega), s1 13 (by omega), s1 14 (by omega), s1 15 (by omega)]
    exact s4 k hk
theorem FrL_rf (a : Mm) : FrL a a := ⟨rfl, fun _ _ => rfl, fun _ _ _ => rfl⟩
theorem FrL_tr {a b c : Mm} (h : FrL a b) (k : FrL b c) : FrL a c := ⟨k.1.trans h.1, fun i hi => (k.2.1 i hi).trans (h.2.1 i hi), fun i h1 h2 => (k.2.2 i h1 h2).trans (h.2.2 i h1 h2)⟩
theorem FrL_w {a b : Mm} {k i : Nat} {v : Int32} (h : FrL a b) (h1 : 11 ≤ k) (h2 : k ≤ 22) : FrL a (wI b k i v) :=
  ⟨h.1, fun j hj => by rw [wI_ne (by omega)]; exact h.2.1 j hj, fun j h3 h4 => by rw [wI_ne (by omega)]; exact h.2.2 j h3 h4⟩
theorem FrL_0 {a b : Mm} {i : Nat} {v : Int32} (h : FrL a b) (h1 : i = 25 ∨ i = 26) : FrL a (wI b 0 i v) :=
  ⟨h.1, fun j hj => by rw [wI_ne (by omega)]; exact h.2.1 j hj, fun j h3 h4 => by rw [wI_eq, u_ne (by omega)]; exact h.2.2 j h3 h4⟩
/-- the model's weeks, one after another -/
def pI (ν : Mm) : Nat → Option Mm
  | 0 => some ν
  | w + 1 => (pI ν w).bind (fun s => F_X9_passes (nI w) s)
def Sq (t0 : Mm) (W : Nat) (t : Mm) : Prop := ∀ v, v < W → ∃ tv, pI t0 (v + 1) = some tv ∧ Sn v t tv ∧ ∀ i, i < 3 * (v + 1) → t.1 22 i = tv.1 22 i
theorem seqEx {P : Pl} {a b s0 t0 : Mm} (hV : PV P) (hC : PC P a) (hM : PM P b) (h : RY P 0 s0 t0) (f1 : FrC a s0) (f2 : FrL b t0) :
    ∀ W, W ≤ 12 → ∃ s t, pI t0 W = some t ∧ RY P W s t ∧ FrC a s ∧ FrL b t ∧ Sq t0 W t := by
  intro W
  induction W with
  | zero => intro _; exact ⟨s0, t0, rfl, h, f1, f2, fun v hv => absurd hv (by omega)⟩
  | succ W ih =>
    intro hW
    obtain ⟨s, t, e, r, g1, g2, sq⟩ := ih (by omega)
    obtain ⟨s', t', e1, e2, r', -, g1', g2', sn⟩ := wk2 hV hC hM (by omega) r g1 g2
    have ep : pI t0 (W + 1) = some t' := by rw [pI, e, bindS, e2]
    refine ⟨s', t', ep, r', g1', FrL_tr g2 g2'.1, ?_⟩
    intro v hv
    by_cases c : v = W
    · subst c; exact ⟨t', ep, sn, fun _ _ => rfl⟩
    · obtain ⟨tv, ev, snv, pv⟩ := sq v (by omega)
      refine ⟨tv, ev, ?_, ?_⟩
      · intro k hk
        have z := snv k hk
        have y := g2'.2.1
        rw [y 17 (by omega) (by omega) _ (by omega), y 18 (by omega) (by omega) _ (by omega), y 19 (by omega) (by omega) _ (by omega), y 20 (by omega) (by omega) _ (by omega), y 21 (by omega) (by omega) _ (by omega)]
        exact z
      · intro i hi
        rw [g2'.2.2 i (by omega)]; exact pv i hi
theorem runC {P : Pl} {a b s0 t0 : Mm} (hV : PV P) (hC : PC P a) (hM : PM P b) (h : RY P 0 s0 t0) (f1 : FrC a s0) (f2 : FrL b t0) {W : Nat} (hW : W ≤ 12) :
    Ev (L_X7_run_7 FUEL (nI W) 0 s0) (fun s => ∃ t, pI t0 W = some t ∧ RY P W s t ∧ (0 < W → RSf P s t) ∧ FrC a s) := by
  refine For1 (fun n i s => L_X7_run_7 n (nI W) (nI i) s) W FUEL (fun i s => ∃ t, pI t0 i = some t ∧ RY P i s t ∧ (0 < i → RSf P s t) ∧ FrC a s ∧ FrL b t) (fun o => Ev o (fun s => ∃ t, pI t0 W = some t ∧ RY P W s t ∧ (0 < W → RSf P s t) ∧ FrC a s)) ?_ ?_ 0 _ FUEL ⟨t0, rfl, h, fun z => absurd z (by omega), f1, f2⟩ (by omega) rfl (by rw [FUELe]; omega)
  · intro n s _ hs
    simp (disch := omega) only [L_X7_run_7_s, n_le, Nat.le_refl, if_true]
    obtain ⟨t, h1, h2, h3, h4, -⟩ := hs
    exact Ev_some ⟨t, h1, h2, h3, h4⟩
  · intro n i s _ hi hs ih
    obtain ⟨t, h1, h2, h3, h4, h5⟩ := hs
    simp (disch := omega) only [L_X7_run_7_s, n_le, if_neg, n_ar]
    obtain ⟨s', t', e1, e2, r', rs, g1', g2', sn⟩ := wk2 hV hC hM (by omega) h2 h4 h5
    have e3 := e1 (fun q6 => L_X7_run_7 n (nI W) (nI (i + 1)) q6)
    unfold cwk at e3
    rw [e3]
    apply ih
    exact ⟨t', by rw [pI, h1, bindS, e2], r', fun _ => rs, g1', FrL_tr h5 g2'.1⟩
theorem beginC (μ : Mm) : Ev (F_X7_begin μ) (fun s => FrC μ s ∧ (∀ k, k < 10 → s.1 29 k = μ.1 22 k ∧ s.1 30 k = 0 ∧ s.1 31 k = 0) ∧ s.1 28 5 = 0) := by
  refine For1 (fun n i s => L_X7_begin_7 n (nI i) s) 10 FUEL (fun i s => FrC μ s ∧ (∀ k, k < i → s.1 29 k = μ.1 22 k ∧ s.1 30 k = 0 ∧ s.1 31 k = 0) ∧ s.1 28 5 = 0) (fun o => Ev o (fun s => FrC μ s ∧ (∀ k, k < 10 → s.1 29 k = μ.1 22 k ∧ s.1 30 k = 0 ∧ s.1 31 k = 0) ∧ s.1 28 5 = 0)) ?_ ?_ 0 _ FUEL ?_ (by omega) rfl (by decide)
  · intro n s _ h
    simp (disch := omega) only [L_X7_begin_7_s, n_lel, if_pos]
    exact Ev_some h
  · intro n i s _ hi h ih
    obtain ⟨h1, h2, h3⟩ := h
    simp (disch := omega) only [L_X7_begin_7_s, n_lel, if_neg, gi_in, n_c, n_ar, h1.2 22]
    apply ih
    refine ⟨FrC_w (FrC_w (FrC_w h1 (by omega) (by omega)) (by omega) (by omega)) (by omega) (by omega), ?_, h3⟩
    intro k hk
    simp (disch := omega) only [wI_ne, wI_eq, u_if]
    by_cases e : k = i
    · subst e; simp only [if_true]; exact ⟨trivial, trivial, trivial⟩
    · simp only [if_neg e]; exact h2 k (by omega)
  · exact ⟨FrC_w (FrC_rf μ) (by omega) (by omega), fun k hk => absurd hk (by omega), rfl⟩
theorem beginM (ν : Mm) : ∃ t, F_X9_lives ν = L_X9_lives_58 FUEL 0 t ∧ FrL ν t ∧ (∀ k, k < 10 → t.1 11 k = ν.1 7 (3 * k + 1) ∧ t.1 12 k = 0 ∧ t.1 13 k = 0 ∧ t.1 14 k = 0) ∧ t.1 0 26 = 0 := by
  unfold F_X9_lives
  refine For1 (fun n i s => L_X9_lives_2 n (nI i) s) 10 FUEL (fun i t => FrL ν t ∧ (∀ k, k < i → t.1 11 k = ν.1 7 (3 * k + 1) ∧ t.1 12 k = 0 ∧ t.1 13 k = 0 ∧ t.1 14 k = 0)) (fun o => ∃ t, o = L_X9_lives_58 FUEL 0 t ∧ FrL ν t ∧ (∀ k, k < 10 → t.1 11 k = ν.1 7 (3 * k + 1) ∧ t.1 12 k = 0 ∧ t.1 13 k = 0 ∧ t.1 14 k = 0) ∧ t.1 0 26 = 0) ?_ ?_ 0 _ FUEL ⟨FrL_rf ν, fun k hk => absurd hk (by omega)⟩ (by omega) rfl (by decide)
  · intro n s _ h
    simp (disch := omega) only [L_X9_lives_2_s, n_lel, if_pos]
    exact ⟨_, rfl, FrL_0 h.1 (by omega), h.2, rfl⟩
  · intro n i s _ hi h ih
    obtain ⟨h1, h2⟩ := h
    simp (disch := omega) only [L_X9_lives_2_s, n_lel, if_neg, gi_in, n_c, n_ar, n_ml, h1.2.1 7]
    apply ih
    refine ⟨FrL_w (FrL_w (FrL_w (FrL_w h1 (by omega) (by omega)) (by omega) (by omega)) (by omega) (by omega)) (by omega) (by omega), ?_⟩
    intro k hk
    simp (disch := omega) only [wI_ne, wI_eq, u_if]
    by_cases e : k = i
    · subst e; simp only [if_true]; exact ⟨trivial, trivial, trivial, trivial⟩
    · simp only [if_neg e]; exact h2 k (by omega)
/-- the year of the one side after w + 1 weeks, as the other keeps it -/
def YS (P : Pl) (w : Nat) (s ν : Mm) : Prop :=
  (∀ k, k < P.1 0 → s.1 29 k = ν.1 17 (10 * w + k) ∧ s.1 30 k = ν.1 18 (10 * w + k) ∧ s.1 31 k = ν.1 19 (10 * w + k) ∧ bt (s.1 28 5) k = ν.1 20 (10 * w + k) ∧ s.1 32 k = ν.1 21 (10 * w + k)) ∧
  s.1 28 6 = nI (cn (fun k => ν.1 21 (10 * w + k)) (P.1 0)) ∧ (∀ i, i < 3 * (w + 1) → s.1 33 i = ν.1 22 i)
def LR (P : Pl) (ν : Mm) : Prop := ∀ μ, PC P μ → (∀ w, w < 12 → Ev (F_X7_run (nI (w + 1)) μ) (fun s => FrC μ s ∧ YS P w s ν)) ∧ Ev (F_X7_run 12 μ) (fun s => FrC μ s ∧ RY P 12 s ν)
theorem RUN {P : Pl} {μ0 ν : Mm} (hV : PV P) (hC0 : PC P μ0) (hM : PM P ν) : ∃ ν', F_X9_lives ν = some ν' ∧ FrL ν ν' ∧ LR P ν' := by
  have q1 := hV.1
  obtain ⟨t0, e0, fr0, ro0, z0⟩ := beginM ν
  have start : ∀ μ, PC P μ → ∃ s, F_X7_begin μ = some s ∧ RY P 0 s t0 ∧ FrC μ s := by
    intro μ hC
    obtain ⟨s, es, fs, rs, zs⟩ := beginC μ
    refine ⟨s, es, ⟨?_, ?_, ?_, ?_, ?_, ?_, ?_, ?_⟩, fs⟩
    · intro k hk
      have c := (hC.2.2.2.2.1 k hk).2.1
      have d := (hM.2.2.2.2.1 k hk).2.1
      rw [(rs k (by omega)).1, (ro0 k (by omega)).1, c, d]
      exact ⟨rfl, hV.2.2.2.2.1 k hk⟩
    · intro k hk
      rw [(rs k (by omega)).2.1, (ro0 k (by omega)).2.1]; exact ⟨rfl, 0, by omega, rfl⟩
    · intro k hk
      rw [(rs k (by omega)).2.2, (ro0 k (by omega)).2.2.1]; exact ⟨rfl, 0, by omega, rfl⟩
    · intro k hk
      rw [zs, (ro0 k (by omega)).2.2.2]; exact bt_0 (by omega)
    · intro k hk _; rw [zs]; exact bt_0 hk
    · intro i hi; omega
    · intro v hv; omega
    · intro k hk
      rw [z0, bt_0 (by omega)]
      constructor
      · intro z; exact absurd z (by decide)
      · rintro ⟨i, hi, _⟩; omega
  obtain ⟨sA, eA, rA, fA⟩ := start μ0 hC0
  obtain ⟨s12, t12, ep, r12, g1, g2, sq⟩ := seqEx hV hC0 hM rA fA fr0 12 (by omega)
  refine ⟨t12, ?_, g2, ?_⟩
  · rw [e0]
    refine For1 (fun n i s => L_X9_lives_58 n (nI i) s) 12 FUEL (fun i s => pI t0 i = some s) (fun o => o = some t12) ?_ ?_ 0 _ FUEL rfl (by omega) rfl (by decide)
    · intro n s _ h
      simp (disch := omega) only [L_X9_lives_58_s, n_lel, if_pos]
      rw [ep] at h; exact h.symm
    · intro n i s _ hi h ih
      obtain ⟨s', t', e', -⟩ := seqEx hV hC0 hM rA fA fr0 (i + 1) (by omega)
      have e2 : F_X9_passes (nI i) s = some t' := by rw [pI, h, bindS] at e'; exact e'
      simp (disch := omega) only [L_X9_lives_58_s, n_lel, if_neg, e2, bindS, n_ar]
      exact ih _ e'
  · intro μ hC
    obtain ⟨s, es, rs, fs⟩ := start μ hC
    refine ⟨?_, ?_⟩
    · intro w hw
      unfold F_X7_run
      rw [es, bindS]
      refine Ev_mono (runC hV hC hM rs fs fr0 (W := w + 1) (by omega)) ?_
      rintro x ⟨t, et, ry, rsf, fx⟩
      refine ⟨fx, ?_⟩
      obtain ⟨tv, ev, sn, pv⟩ := sq w hw
      rw [et] at ev
      cases ev
      have rsf := rsf (by omega)
      obtain ⟨r1, r2, r3, r4, r5, r6, r7, r8⟩ := ry
      refine ⟨?_, ?_, ?_⟩
      · intro k hk
        obtain ⟨n1, n2, n3, n4, n5⟩ := sn k (by omega)
        rw [n1, n2, n3, n4, n5]
        refine ⟨(r1 k hk).1, (r2 k hk).1, (r3 k hk).1, ?_, rsf.1 k hk⟩
        have := r4 k hk
        rcases bt01 (x.1 28 5) (t := k) (by omega) with c | c
        · rw [c] at this; rw [c, ← this]; rfl
        · rw [c] at this; rw [c, ← this]; rfl
      · rw [rsf.2]
        refine congrArg nI (cn_cg ?_)
        intro k hk
        exact (sn k (by omega)).2.2.2.2.symm
      · intro i hi
        rw [(r6 i (by omega)).1, pv i hi]
    · unfold F_X7_run
      rw [es, bindS]
      refine Ev_mono (runC hV hC hM rs fs fr0 (W := 12) (by omega)) ?_
      rintro x ⟨t, et, ry, -, fx⟩
      rw [ep] at et
      cases et
      exact ⟨fx, ry⟩
