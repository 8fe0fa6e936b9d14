def RSf (P : Pl) (μ ν : Mm) : Prop := (∀ k, k < P.1 0 → μ.1 32 k = ν.1 15 k) ∧ μ.1 28 6 = nI (cn (ν.1 15) (P.1 0))
def TF (P : Pl) (w : Nat) (x : Int32) (t t' : Mm) : Prop :=
  (t'.1 12 = t.1 12 ∧ t'.1 22 = t.1 22 ∧ t'.1 15 = t.1 15 ∧ t'.1 0 26 = t.1 0 26 ||| x) ∧
  ((t.1 22 (3 * w) = -1 ∧ t'.1 13 = t.1 13 ∧ t'.1 14 = t.1 14) ∨ (∃ k, k < P.1 0 ∧ t.1 22 (3 * w) = nI k ∧ t'.1 13 = upd (t.1 13) k (t.1 13 k + 1) ∧ t'.1 14 = upd (t.1 14) k (if P.2 0 k = 2 ∧ t.1 13 k + 1 = 3 then 1 else 0))) ∧
  ((t.1 22 (3 * w + 1) = -1 ∧ t'.1 11 = t.1 11) ∨ (∃ k, k < P.1 0 ∧ t.1 22 (3 * w + 1) = nI k ∧ t'.1 11 = if P.2 0 k = 1 then upd (t.1 11) k (if t.1 11 k - 1 ≤ 0 then 0 else t.1 11 k - 1) else t.1 11))
theorem pla_fin {P : Pl} {w : Nat} {a b μ ν s t t' : Mm} {x : Int32} (hV : PV P) (hw : w < 12) (h : RY P w μ ν) (hs : RS P w μ ν) (c : IPc P w a b μ ν 3 x s t) (f : IPf P w μ ν 3 s t) (g : IPg P w μ ν 3 s t) (T : TF P w x t t') : RY P (w + 1) s t' ∧ RSf P s t' := by
  obtain ⟨⟨t12, t22, t15, t26⟩, T1, T2⟩ := T
  obtain ⟨i1, i2, ⟨e11, e13, e14, e15, e0, e32, e286⟩, i4, i5, i6, i7, i8⟩ := c
  obtain ⟨r1, r2, r3, r4, r5, r6, r7, r8⟩ := h
  have q1 := hV.1
  refine ⟨⟨?_, ?_, ?_, ?_, ?_, ?_, ?_, ?_⟩, ?_, ?_⟩
  · intro k hk
    have hr := r1 k hk
    rcases g with g | g | ⟨-, j, hj, ej, es⟩
    · omega
    · rcases T2 with T2 | ⟨j, hj, ej, -⟩
      · rw [g.2.2, T2.2, e11]; exact hr
      · rw [g.2.1, n_en1 (by omega)] at ej; exact ej.elim
    · rcases T2 with T2 | ⟨j', hj', ej', et⟩
      · rw [T2.1, n_en1 (by omega)] at ej; exact ej.elim
      · rw [ej, n_eq (by omega) (by omega)] at ej'
        subst ej'
        rw [es, et, e11]
        by_cases z : P.2 0 j = 1
        · rw [if_pos z, if_pos z, u_if, u_if]
          by_cases y : k = j
          · rw [if_pos y, if_pos y]; subst y; rw [hr.1]; exact ⟨rfl, Rg_dec (d := 1) (by omega) (by omega) hr.2⟩
          · rw [if_neg y, if_neg y]; exact hr
        · rw [if_neg z, if_neg z]; exact hr
  · intro k hk
    have := i4 k hk
    rw [t12]
    exact ⟨this.1, Rg_mono this.2 (by have : sp 3 = 6 := by decide
                                      omega)⟩
  · intro k hk
    have hr := r3 k hk
    rcases f with f | f | ⟨-, j, hj, ej, -, es, -⟩
    · omega
    · rcases T1 with T1 | ⟨j, hj, ej, -⟩
      · rw [f.2.2.1, T1.2.1, e13]; exact ⟨hr.1, Rg_mono hr.2 (by omega)⟩
      · rw [f.2.1, n_en1 (by omega)] at ej; exact ej.elim
    · rcases T1 with T1 | ⟨j', hj', ej', et, -⟩
      · rw [T1.1, n_en1 (by omega)] at ej; exact ej.elim
      · rw [ej, n_eq (by omega) (by omega)] at ej'
        subst ej'
        rw [es, et, e13, u_if, u_if]
        by_cases y : k = j
        · rw [if_pos y, if_pos y]; subst y; rw [hr.1]; exact ⟨rfl, Rg_add hr.2 ⟨1, Nat.le_refl _, rfl⟩⟩
        · rw [if_neg y, if_neg y]; exact ⟨hr.1, Rg_mono hr.2 (by omega)⟩
  · intro k hk
    have hr := r4 k hk
    rcases f with f | f | ⟨-, j, hj, ej, ne, -, es⟩
    · omega
    · rcases T1 with T1 | ⟨j, hj, ej, -⟩
      · rw [f.2.2.2, T1.2.2, e14]; exact hr
      · rw [f.2.1, n_en1 (by omega)] at ej; exact ej.elim
    · rcases T1 with T1 | ⟨j', hj', ej', -, et⟩
      · rw [T1.1, n_en1 (by omega)] at ej; exact ej.elim
      · rw [ej, n_eq (by omega) (by omega)] at ej'
        subst ej'
        rw [es, et, e13, e14, u_if, (r3 j hj).1]
        by_cases z : P.2 0 j = 2 ∧ ν.1 13 j + 1 = 3
        · rw [if_pos z, if_pos z]
          by_cases y : k = j
          · rw [if_pos y]; subst y; exact bt_seq (by omega)
          · rw [if_neg y, bt_sne (by omega) (by omega) y]; exact hr
        · rw [if_neg z, if_neg z]
          by_cases y : k = j
          · rw [if_pos y]; subst y
            rw [hr]
            exact ((hs.1 k hk).2.resolve_left ne).2
          · rw [if_neg y]; exact hr
  · intro k hk hk2
    have hr := r5 k hk hk2
    rcases f with f | f | ⟨-, j, hj, ej, ne, -, es⟩
    · omega
    · rw [f.2.2.2]; exact hr
    · rw [es]
      by_cases z : P.2 0 j = 2 ∧ μ.1 31 j + 1 = 3
      · rw [if_pos z, bt_sne (by omega) hk (by omega)]; exact hr
      · rw [if_neg z]; exact hr
  · intro i hi
    rw [t22]; exact i5 i (by omega)
  · intro v hv p q hpq hq
    rw [t22]
    by_cases y : v = w
    · subst y; exact i8 p q hpq hq
    · rw [i6 _ (by omega), i6 _ (by omega)]; exact r7 v (by omega) p q hpq hq
  · intro k hk
    rw [t26, t22, e0, bt_or1 (by omega), r8 k hk, i7 k hk]
    constructor
    · rintro (⟨i, hi, e⟩ | ⟨q, hq, e⟩)
      · exact ⟨i, by omega, by rw [i6 i hi]; exact e⟩
      · exact ⟨3 * w + q, by omega, e⟩
    · rintro ⟨i, hi, e⟩
      by_cases y : i < 3 * w
      · exact Or.inl ⟨i, y, by rw [← i6 i y]; exact e⟩
      · exact Or.inr ⟨i - 3 * w, by omega, by rw [show 3 * w + (i - 3 * w) = i from by omega]; exact e⟩
  · intro k hk
    rw [e32, t15, e15]; exact (hs.1 k hk).1
  · rw [e286, t15, e15]; exact hs.2
theorem pl127a {w : Nat} {τ : Mm} (hw : w < 12) (e : τ.1 22 (3 * w + 1) = -1) : F_X9_places_127 (nI w) τ = some τ := by
  simp (disch := omega) only [F_X9_places_127, n_ml, n_ar, gi_in, n_c, e, if_true]
theorem pl127b {w k : Nat} {τ : Mm} (hw : w < 12) (hk : k < 10) (e : τ.1 22 (3 * w + 1) = nI k) : F_X9_places_127 (nI w) τ = some (if τ.1 7 (3 * k) = 1 then wI τ 11 k (if τ.1 11 k - 1 ≤ 0 then 0 else τ.1 11 k - 1) else τ) := by
  have ne1 : ¬ nI k = -1 := by rw [n_ne1 (by omega)]; exact not_false
  simp (disch := omega) only [F_X9_places_127, n_ml, n_ar, gi_in, n_c, e, if_neg ne1, F_X9_greater, bindS]
  by_cases z : τ.1 7 (3 * k) = 1
  · rw [if_pos z, if_pos z]
  · rw [if_neg z, if_neg z]
theorem pl127 {P : Pl} {w : Nat} {x : Int32} {b t τ : Mm} (hV : PV P) (hw : w < 12) (pm : ∀ k, k < P.1 0 → τ.1 7 (3 * k) = P.2 0 k) (hf : FrP w b τ) (h22 : τ.1 22 = t.1 22) (h11 : τ.1 11 = t.1 11)
    (hv : t.1 22 (3 * w + 1) = -1 ∨ ∃ k, k < P.1 0 ∧ t.1 22 (3 * w + 1) = nI k)
    (A : (τ.1 12 = t.1 12 ∧ τ.1 22 = t.1 22 ∧ τ.1 15 = t.1 15 ∧ τ.1 0 26 = t.1 0 26 ||| x))
    (B : ((t.1 22 (3 * w) = -1 ∧ τ.1 13 = t.1 13 ∧ τ.1 14 = t.1 14) ∨ (∃ k, k < P.1 0 ∧ t.1 22 (3 * w) = nI k ∧ τ.1 13 = upd (t.1 13) k (t.1 13 k + 1) ∧ τ.1 14 = upd (t.1 14) k (if P.2 0 k = 2 ∧ t.1 13 k + 1 = 3 then 1 else 0)))) :
    Ev (F_X9_places_127 (nI w) τ) (fun t' => TF P w x t t' ∧ FrP w b t') := by
  have q1 := hV.1
  rcases hv with e | ⟨k, hk, e⟩
  · rw [pl127a hw (by rw [h22]; exact e)]
    exact Ev_some ⟨⟨A, B, Or.inl ⟨e, h11⟩⟩, hf⟩
  · rw [pl127b (k := k) hw (by omega) (by rw [h22]; exact e), pm k hk, h11]
    by_cases z : P.2 0 k = 1
    · rw [if_pos z]
      refine Ev_some ⟨⟨A, B, Or.inr ⟨k, hk, e, ?_⟩⟩, FrP_w hf (by omega) (by omega)⟩
      rw [if_pos z, wI_eq, h11]
    · rw [if_neg z]
      refine Ev_some ⟨⟨A, B, Or.inr ⟨k, hk, e, ?_⟩⟩, hf⟩
      rw [if_neg z, h11]
theorem pla2 {P : Pl} {w : Nat} {a b μ ν : Mm} (hV : PV P) (hC : PC P a) (hM : PM P b) (hw : w < 12) (h : RY P w μ ν) (hs : RS P w μ ν) (f1 : FrC a μ) (f2 : FrM b ν) :
    E2 (F_X7_placeAll (nI w) μ) (F_X9_places (nI w) ν) (fun s t => RY P (w + 1) s t ∧ RSf P s t ∧ FrC a s ∧ FrP w b t) := by
  have q1 := hV.1
  unfold F_X7_placeAll F_X9_places
  refine For2 (fun n i (s : Int32 × Mm) => L_X7_placeAll_5 n (nI w) s.1 (nI i) s.2) (fun n i (s : Int32 × Mm) => L_X9_places_4 n (nI w) s.1 (nI i) s.2) 3 FUEL FUEL (fun i s t => s.1 = t.1 ∧ IPc P w a b μ ν i t.1 s.2 t.2 ∧ IPf P w μ ν i s.2 t.2 ∧ IPg P w μ ν i s.2 t.2) (fun f g => E2 f g (fun s t => RY P (w + 1) s t ∧ RSf P s t ∧ FrC a s ∧ FrP w b t)) ?_ ?_ 0 (0, μ) (0, ν) FUEL FUEL ?_ (by omega) rfl rfl (by decide) (by decide)
  · intro n m s t _ _ hi
    obtain ⟨x, s⟩ := s
    obtain ⟨y, t⟩ := t
    obtain ⟨exy, c, f, g⟩ := hi
    simp only at exy c f g
    subst exy
    have pm := PM_frL (FrP_L c.2.1) hM
    have v0 := (c.2.2.2.2.1 (3 * w) (by omega)).2
    have v1 := (c.2.2.2.2.1 (3 * w + 1) (by omega)).2
    have pm7 : ∀ k, k < P.1 0 → t.1 7 (3 * k) = P.2 0 k := fun k hk => (pm.2.2.2.2.1 k hk).1
    have key : Ev (L_X9_places_4 (m + 1) (nI w) x (nI 3) t) (fun t' => TF P w x t t' ∧ FrP w b t') := by
      rcases v0 with e | ⟨k, hk, e⟩
      · simp (disch := omega) only [L_X9_places_4_s, n_lel, if_pos, n_ml, gi_in, n_c, wI_ne, e, if_true, Nat.le_refl]
        refine pl127 hV hw ?_ (FrP_0 c.2.1 (by omega)) rfl rfl v1 ⟨rfl, rfl, rfl, rfl⟩ (Or.inl ⟨e, rfl, rfl⟩)
        exact pm7
      · have ne1 : ¬ nI k = -1 := by rw [n_ne1 (by omega)]; exact not_false
        simp (disch := omega) only [L_X9_places_4_s, n_lel, if_pos, n_ml, gi_in, n_c, wI_ne, e, if_neg ne1, wI_eq, u_eq, F_X9_places_126, F_X9_places_125, Nat.le_refl, if_true, pm7 k hk]
        have gb0 : ∀ (K : Option Mm), gb 0 K = K := fun K => rfl
        have gb1 : ∀ (K : Option Mm), gb 1 K = K := fun K => by unfold gb; rw [if_pos (Or.inr rfl)]
        rw [gb0, gb1]
        by_cases z : P.2 0 k = 2 ∧ t.1 13 k + 1 = 3
        · rw [if_pos z.1, if_pos z.2]
          refine pl127 hV hw ?_ (FrP_w (FrP_w (FrP_0 c.2.1 (by omega)) (by omega) (by omega)) (by omega) (by omega)) rfl rfl v1 ⟨rfl, rfl, rfl, rfl⟩ (Or.inr ⟨k, hk, e, rfl, ?_⟩)
          · exact pm7
          · rw [if_pos z]; rfl
        · have tail : Ev (F_X9_places_127 (nI w) (wI (wI (wI t 0 26 (t.1 0 26 ||| x)) 13 k (t.1 13 k + 1)) 14 k 0)) (fun t' => TF P w x t t' ∧ FrP w b t') := by
            refine pl127 hV hw ?_ (FrP_w (FrP_w (FrP_0 c.2.1 (by omega)) (by omega) (by omega)) (by omega) (by omega)) rfl rfl v1 ⟨rfl, rfl, rfl, rfl⟩ (Or.inr ⟨k, hk, e, rfl, ?_⟩)
            · exact pm7
            · rw [if_neg z]; rfl
          by_cases z1 : P.2 0 k = 2
          · rw [if_pos z1, if_neg (fun z2 => z ⟨z1, z2⟩)]; exact tail
          · rw [if_neg z1]; exact tail
    obtain ⟨t', et, T, fr⟩ := key
    have fin := pla_fin hV hw h hs c f g T
    refine ⟨s, t', ?_, et, fin.1, fin.2, c.1, fr⟩
    simp (disch := omega) only [L_X7_placeAll_5_s, n_lel, if_pos]
  · intro n m p s t _ _ hp hi ih
    obtain ⟨x, s⟩ := s
    obtain ⟨y, t⟩ := t
    obtain ⟨exy, c, f, g⟩ := hi
    simp only at exy c f g
    subst exy
    have pm := PM_frL (FrP_L c.2.1) hM
    have pc := PC_fr c.1 hC
    obtain ⟨e11, e13, e14, e15, e0, e32, e286⟩ := c.2.2.1
    have sc : ∀ k, k < P.1 0 → s.1 32 k = t.1 15 k := by intro k hk; rw [e32, e15]; exact (hs.1 k hk).1
    simp (disch := omega) only [L_X7_placeAll_5_s, L_X9_places_4_s, n_lel, if_neg, pc.1]
    refine E2_bind (top2 (x := x) hV pm.1 sc) ?_
    intro q r hq
    obtain ⟨v, q⟩ := q
    obtain ⟨v', r⟩ := r
    obtain ⟨g1, g2, g3, tp⟩ := hq
    simp only at g1 g2 g3 tp
    subst g1 g2 g3
    simp (disch := omega) only [n_mr, n_ml, n_aa, gi_in, n_c, F_X7_placeAll_63, F_X9_places_54, n_ar]
    rcases tp with rfl | ⟨k, hk, rfl, h15, hb⟩
    · simp only [if_true]
      refine ih (x, _) (x, _) ⟨rfl, ipc_none q1 c, ?_, ?_⟩
      · rcases Nat.eq_zero_or_pos p with z | z
        · subst z
          rcases f with f | f | f
          · exact Or.inr (Or.inl ⟨by omega, (by show upd (r.1 22) (3 * w + 0) (-1) (3 * w) = -1; exact u_eq), f.2⟩)
          · omega
          · omega
        · exact ipf_keep f z rfl rfl (by show upd (r.1 22) (3 * w + p) (-1) (3 * w) = _; rw [u_ne (by omega)])
      · rcases Nat.lt_or_ge 1 p with z | z
        · exact ipg_keep g z rfl (by show upd (r.1 22) (3 * w + p) (-1) (3 * w + 1) = _; rw [u_ne (by omega)])
        · have g' : q.1 29 = μ.1 29 := by
            rcases g with g | g | g
            · exact g.2
            · omega
            · omega
          rcases Nat.eq_zero_or_pos p with y | y
          · subst y; exact Or.inl ⟨by omega, g'⟩
          · have : p = 1 := by omega
            subst this
            exact Or.inr (Or.inl ⟨by omega, (by show upd (r.1 22) (3 * w + 1) (-1) (3 * w + 1) = -1; exact u_eq), g'⟩)
    · have ne1 : ¬ nI k = -1 := by rw [n_ne1 (by omega)]; exact not_false
      simp (disch := omega) only [if_neg ne1, gi_in, n_c, wI_ne, n_sl, (pc.2.2.2.2.1 k hk).1]
      have p3 : p = 0 ∨ p = 1 ∨ p = 2 := by omega
      rcases p3 with rfl | rfl | rfl
      · rw [show (nI 0 : Int32) = 0 from rfl, pin0 (by omega), bindS]
        simp (disch := omega) only [wI_ne, wI_eq]
        rcases f with f | f | f
        · have st := fun s' g1 g2 g3 g4 g5 => ipc_some (s' := s') q1 (by omega) c hk hb g1 g2 g3 g4 g5
          rcases g with g | g | g
          · rw [f.2.1]
            by_cases z : P.2 0 k = 2 ∧ μ.1 31 k + 1 = 3
            · rw [if_pos z]
              refine ih (_, _) (_, _) ⟨rfl, st _ (FrC_w (FrC_w (FrC_w (FrC_w c.1 (by omega) (by omega)) (by omega) (by omega)) (by omega) (by omega)) (by omega) (by omega)) rfl rfl rfl rfl, Or.inr (Or.inr ⟨by omega, k, hk, ?_, by rw [← e15]; exact h15, ?_, ?_⟩), Or.inl ⟨by omega, g.2⟩⟩
              · show upd (r.1 22) (3 * w + 0) (nI k) (3 * w) = nI k; exact u_eq
              · show upd (q.1 31) k (μ.1 31 k + 1) = _; rw [f.2.1]
              · rw [if_pos z]; show (q.1 28 5 ||| 1 <<< (nI k &&& 31)) = _; rw [f.2.2]
            · rw [if_neg z]
              refine ih (_, _) (_, _) ⟨rfl, st _ (FrC_w (FrC_w (FrC_w c.1 (by omega) (by omega)) (by omega) (by omega)) (by omega) (by omega)) rfl rfl rfl rfl, Or.inr (Or.inr ⟨by omega, k, hk, ?_, by rw [← e15]; exact h15, ?_, ?_⟩), Or.inl ⟨by omega, g.2⟩⟩
              · show upd (r.1 22) (3 * w + 0) (nI k) (3 * w) = nI k; exact u_eq
              · show upd (q.1 31) k (μ.1 31 k + 1) = _; rw [f.2.1]
              · rw [if_neg z]; exact f.2.2
          · omega
          · omega
        · omega
        · omega
      · rw [show (nI 1 : Int32) = 1 from rfl, pin1 (by omega), bindS]
        simp (disch := omega) only [wI_ne, wI_eq]
        have st := fun s' g1 g2 g3 g4 g5 => ipc_some (s' := s') q1 (by omega) c hk hb g1 g2 g3 g4 g5
        rcases g with g | g | g
        · rw [g.2]
          by_cases z : P.2 0 k = 1
          · rw [if_pos z]
            refine ih (_, _) (_, _) ⟨rfl, st _ (FrC_w (FrC_w (FrC_w c.1 (by omega) (by omega)) (by omega) (by omega)) (by omega) (by omega)) rfl rfl rfl rfl, ipf_keep f (by omega) rfl rfl ?_, Or.inr (Or.inr ⟨by omega, k, hk, ?_, ?_⟩)⟩
            · show upd (r.1 22) (3 * w + 1) (nI k) (3 * w) = _; rw [u_ne (by omega)]
            · show upd (r.1 22) (3 * w + 1) (nI k) (3 * w + 1) = nI k; exact u_eq
            · rw [if_pos z]; show upd (q.1 29) k _ = _; rw [g.2]
          · rw [if_neg z]
            refine ih (_, _) (_, _) ⟨rfl, st _ (FrC_w (FrC_w c.1 (by omega) (by omega)) (by omega) (by omega)) rfl rfl rfl rfl, ipf_keep f (by omega) rfl rfl ?_, Or.inr (Or.inr ⟨by omega, k, hk, ?_, ?_⟩)⟩
            · show upd (r.1 22) (3 * w + 1) (nI k) (3 * w) = _; rw [u_ne (by omega)]
            · show upd (r.1 22) (3 * w + 1) (nI k) (3 * w + 1) = nI k; exact u_eq
            · rw [if_neg z]; exact g.2
        · omega
        · omega
      · rw [show (nI 2 : Int32) = 2 from rfl, pin2 (by omega), bindS]
        simp (disch := omega) only [wI_ne, wI_eq]
        have st := fun s' g1 g2 g3 g4 g5 => ipc_some (s' := s') q1 (by omega) c hk hb g1 g2 g3 g4 g5
        refine ih (_, _) (_, _) ⟨rfl, st _ (FrC_w (FrC_w c.1 (by omega) (by omega)) (by omega) (by omega)) rfl rfl rfl rfl, ipf_keep f (by omega) rfl rfl ?_, ipg_keep g (by omega) rfl ?_⟩
        · show upd (r.1 22) (3 * w + 2) (nI k) (3 * w) = _; rw [u_ne (by omega)]
        · show upd (r.1 22) (3 * w + 2) (nI k) (3 * w + 1) = _; rw [u_ne (by omega)]
  · refine ⟨rfl, ⟨f1, FrM_P w f2, ⟨rfl, rfl, rfl, rfl, rfl, rfl, rfl⟩, ?_, ?_, fun _ _ => rfl, ?_, ?_⟩, Or.inl ⟨rfl, rfl, rfl⟩, Or.inl ⟨by omega, rfl⟩⟩
    · intro k hk; exact ⟨(h.2.1 k hk).1, Rg_mono (h.2.1 k hk).2 (by omega)⟩
    · intro i hi; exact h.2.2.2.2.2.1 i (by omega)
    · intro k hk
      rw [bt_0 (by omega)]
      constructor
      · intro z; exact absurd z (by decide)
      · rintro ⟨q, hq, _⟩; omega
    · intro q q' _ hq; omega
