def mxn (f : Nat → Nat) : Nat → Nat
  | 0 => 0
  | n + 1 => if mxn f n < f n then f n else mxn f n
theorem mxn_ge {f : Nat → Nat} : ∀ {n i : Nat}, i < n → f i ≤ mxn f n
  | 0, i, h => by omega
  | n + 1, i, h => by
    rw [mxn]
    by_cases c : i = n
    · subst c; split <;> omega
    · have := mxn_ge (f := f) (n := n) (i := i) (by omega)
      split <;> omega
theorem mxn_le {f : Nat → Nat} {B : Nat} : ∀ {n : Nat}, (∀ i, i < n → f i ≤ B) → mxn f n ≤ B
  | 0, _ => by simp [mxn]
  | n + 1, h => by
    rw [mxn]
    have := mxn_le (f := f) (n := n) (fun i hi => h i (by omega))
    have := h n (by omega)
    split <;> omega
def al (x : Int32) (wy : Nat → Int32) (w a : Nat) : Nat → Nat
  | 0 => 0
  | n + 1 => al x wy w a n + (if bt x a = 1 ∧ bt x n = 1 ∧ wy (12 * a + w) = wy (12 * n + w) then 1 else 0)
theorem al_le (x : Int32) (wy : Nat → Int32) (w a : Nat) : ∀ n, al x wy w a n ≤ n
  | 0 => by simp [al]
  | n + 1 => by have := al_le x wy w a n; rw [al]; split <;> omega
theorem al_0 {x : Int32} {wy : Nat → Int32} {w a : Nat} (h : ¬ bt x a = 1) : ∀ n, al x wy w a n = 0
  | 0 => rfl
  | n + 1 => by rw [al, al_0 h n, if_neg (fun z => h z.1)]
theorem al_ct {x : Int32} {wy : Nat → Int32} {w a p : Nat} (h : bt x a = 1) (hp : wy (12 * a + w) = nI p) : ∀ n, al x wy w a n = ct x wy w p n
  | 0 => rfl
  | n + 1 => by
    rw [al, ct, al_ct h hp n, hp]
    by_cases c : bt x n = 1 ∧ wy (12 * n + w) = nI p
    · rw [if_pos c, if_pos ⟨h, c.1, c.2.symm⟩]
    · rw [if_neg c, if_neg (fun z => c ⟨z.2.1, z.2.2.symm⟩)]
theorem ct_ex {x : Int32} {wy : Nat → Int32} {w p : Nat} : ∀ {n : Nat}, 0 < ct x wy w p n → ∃ a, a < n ∧ bt x a = 1 ∧ wy (12 * a + w) = nI p
  | 0, h => by simp [ct] at h
  | n + 1, h => by
    rw [ct] at h
    by_cases c : bt x n = 1 ∧ wy (12 * n + w) = nI p
    · exact ⟨n, by omega, c⟩
    · rw [if_neg c] at h
      obtain ⟨a, h1, h2⟩ := ct_ex (n := n) h
      exact ⟨a, by omega, h2⟩
theorem mx_eq {x : Int32} {wy : Nat → Int32} {w : Nat} (h : ∀ v, v < 10 → ∃ p, p ≤ 3 ∧ wy (12 * v + w) = nI p) : mxn (fun p => ct x wy w p 10) 4 = mxn (fun a => al x wy w a 10) 10 := by
  apply Nat.le_antisymm
  · apply mxn_le
    intro p hp
    rcases Nat.eq_zero_or_pos (ct x wy w p 10) with z | z
    · omega
    · obtain ⟨a, h1, h2, h3⟩ := ct_ex z
      show ct x wy w p 10 ≤ _
      rw [← al_ct h2 h3 10]
      exact mxn_ge (f := fun a => al x wy w a 10) h1
  · apply mxn_le
    intro a ha
    show al x wy w a 10 ≤ _
    by_cases c : bt x a = 1
    · obtain ⟨p, hp, e⟩ := h a ha
      rw [al_ct c e 10]
      exact mxn_ge (f := fun p => ct x wy w p 10) (by omega)
    · rw [al_0 c 10]; omega
theorem great {s : Mm} {w : Nat} {f : Nat → Nat} (hw : w < 12) (hf : ∀ p, p < 4 → f p ≤ 10 ∧ s.1 36 (4 * w + p) = nI (f p)) : F_X8_greatestTally (nI w) s = some (nI (mxn f 4), s) := by
  unfold F_X8_greatestTally
  refine For1 (fun n i x => L_X8_greatestTally_4 n (nI w) x (nI i) s) 4 FUEL (fun i x => x = nI (mxn f i) ∧ mxn f i ≤ 10) (fun o => o = some (nI (mxn f 4), s)) ?_ ?_ 0 0 FUEL ⟨rfl, by simp [mxn]⟩ (by omega) rfl (by decide)
  · rintro n x _ ⟨rfl, h⟩
    simp (config := { implicitDefEqProofs := false }) (disch := omega) only [L_X8_greatestTally_4_s, n_ltl, if_pos]
  · rintro n i x _ hi ⟨rfl, h⟩ ih
    have := hf i hi
    simp (config := { implicitDefEqProofs := false }) (disch := omega) only [L_X8_greatestTally_4_s, n_ltl, if_neg, n_mr, n_aa, gi_in, n_c, F_J9_max_7cf53, bindS, n_ar, this.2, n_lt]
    apply ih
    rw [mxn]
    by_cases c : mxn f i < f i
    · rw [if_pos c, if_pos c]; exact ⟨rfl, this.1⟩
    · rw [if_neg c, if_neg c]; exact ⟨rfl, h⟩
theorem alike {t : Mm} {x : Int32} {w : Nat} (hw : w < 12) : F_X9_alike x (nI w) t = some (nI (mxn (fun a => al x (t.1 24) w a 10) 10), t) := by
  unfold F_X9_alike
  refine For1 (fun n i y => L_X9_alike_5 n x (nI w) y (nI i) t) 10 FUEL (fun i y => y = nI (mxn (fun a => al x (t.1 24) w a 10) i) ∧ mxn (fun a => al x (t.1 24) w a 10) i ≤ 10) (fun o => o = some (nI (mxn (fun a => al x (t.1 24) w a 10) 10), t)) ?_ ?_ 0 0 FUEL ⟨rfl, by simp [mxn]⟩ (by omega) rfl (by decide)
  · rintro n y _ ⟨rfl, h⟩
    simp (config := { implicitDefEqProofs := false }) (disch := omega) only [L_X9_alike_5_s, n_lel, if_pos]
  · rintro n i y _ hi ⟨rfl, h⟩ ih
    simp (config := { implicitDefEqProofs := false }) (disch := omega) only [L_X9_alike_5_s, n_lel, if_neg]
    refine For1 (fun n' b z => L_X9_alike_18 (L_X9_alike_5 n) n' x (nI w) (nI (mxn (fun a => al x (t.1 24) w a 10) i)) (nI i) z (nI b) t) 10 FUEL (fun b z => z = nI (al x (t.1 24) w i b)) (fun o => o = some (nI (mxn (fun a => al x (t.1 24) w a 10) 10), t)) ?_ ?_ 0 0 FUEL rfl (by omega) rfl (by decide)
    · rintro n' z _ rfl
      have a10 := al_le x (t.1 24) w i 10
      simp (config := { implicitDefEqProofs := false }) (disch := omega) only [L_X9_alike_18_s, n_lel, if_pos, F_X9_greater, bindS, n_ar, n_le]
      apply ih
      rw [mxn]
      by_cases c : mxn (fun a => al x (t.1 24) w a 10) i < al x (t.1 24) w i 10
      · rw [if_neg (by omega), if_pos c]; exact ⟨rfl, a10⟩
      · rw [if_neg c]
        by_cases d : al x (t.1 24) w i 10 ≤ mxn (fun a => al x (t.1 24) w a 10) i
        · rw [if_pos d]; exact ⟨rfl, h⟩
        · omega
    · rintro n' b z _ hb rfl ih2
      simp (config := { implicitDefEqProofs := false }) (disch := omega) only [L_X9_alike_18_s, n_lel, if_neg, F_X9_isIn, bt_def, bindS, F_X9_alike_76, F_X9_alike_77, n_ml, n_aa, gi_in, n_c, n_ar, Int32.add_zero]
      have st : ∀ z', z' = nI (al x (t.1 24) w i (b + 1)) → L_X9_alike_18 (L_X9_alike_5 n) n' x (nI w) (nI (mxn (fun a => al x (t.1 24) w a 10) i)) (nI i) z' (nI (b + 1)) t = some (nI (mxn (fun a => al x (t.1 24) w a 10) 10), t) := ih2
      rcases bt01 x (t := i) (by omega) with c | c
      · simp only [c, show ((0 : Int32) = 1) = False from by decide, if_false, if_true]
        apply st
        rw [al, if_neg (by rw [c]; intro z; exact absurd z.1 (by decide)), Nat.add_zero]
      · simp only [c, show ((1 : Int32) = 0) = False from by decide, if_false, if_true]
        rcases bt01 x (t := b) (by omega) with d | d
        · simp only [d, show ((0 : Int32) = 1) = False from by decide, if_false, if_true]
          apply st
          rw [al, if_neg (by rw [d]; intro z; exact absurd z.2.1 (by decide)), Nat.add_zero]
        · simp only [d, show ((1 : Int32) = 0) = False from by decide, if_false, if_true]
          by_cases e : t.1 24 (12 * i + w) = t.1 24 (12 * b + w)
          · rw [if_pos e]
            apply st
            rw [al, if_pos ⟨c, d, e⟩]
          · rw [if_neg e]
            apply st
            rw [al, if_neg (fun z => e z.2.2), Nat.add_zero]
theorem negle {a b : Nat} (ha : a < 1000) (hb : b < 1000) : (-(nI a) ≤ -(nI b)) = (b ≤ a) := by
  apply propext
  have e : ∀ n : Nat, n < 1000 → (-(nI n)).toInt = -(n : Int) := by
    intro n hn
    rw [Int32.toInt_neg, nI_toInt (by omega)]
    simp [Int.bmod]
    omega
  rw [Int32.le_iff_toInt_le, e a ha, e b hb]
  omega
theorem ask2 {P : Pl} {k : Nat} {μ ν : Mm} (hV : PV P) (hk : k < P.1 0) (pc : PC P μ) (pm : PM P ν) :
    E2 ((L_X8_tallyPlaces_6 FUEL (nI k) 0 μ).bind (fun q4 => (F_X0_clear q4).bind (fun q5 => L_X8_ask_31 FUEL 0 q5))) (F_X9_askOf (nI k) ν) (fun q r => q.1 = r.1 ∧ FrA μ q.2 ∧ FrB ν r.2 ∧ PM P r.2) := by
  unfold F_X9_askOf
  refine E2_bind (tally2 hV hk pc pm) ?_
  rintro s ⟨x, t⟩ ⟨h1, h2, h3, h4, h5⟩
  simp only at h1 h2 h4 h5
  obtain ⟨s0, e0, ch0, f0⟩ := clr s
  rw [e0, bindS]
  obtain ⟨g, hg⟩ : ∃ g : Nat → Nat, g = fun w => mxn (fun a => al x (t.1 24) w a 10) 10 := ⟨_, rfl⟩
  have gle : ∀ w, g w ≤ 10 := by
    intro w; rw [hg]; exact mxn_le (fun i _ => al_le x (t.1 24) w i 10)
  have gC : ∀ z w, F34 s z → w < 12 → F_X8_greatestTally (nI w) z = some (nI (g w), z) := by
    intro z w f hw
    have := great (s := z) (w := w) (f := fun p => ct x (t.1 24) w p 10) hw (fun p hp => ⟨ct_le _ _ _ _ _, by rw [f.1 36 (by omega)]; exact h1 w p hw hp⟩)
    rw [this, mx_eq (fun v hv => h2 v w hv hw), hg]
  have gM : ∀ w, w < 12 → F_X9_alike x (nI w) t = some (nI (g w), t) := by
    intro w hw; rw [alike hw, hg]
  have offn : ∀ z (b c : Nat), F34 s z → c < 12 → b < 12 → z.1 34 0 = nI b → z.1 34 1 = -(nI (g b)) → ∃ z', F_X0_offer (nI c) (-(nI (g c))) z = some z' ∧ F34 s z' ∧ (z'.1 34 0 = nI (if g b ≤ g c then b else c) ∧ z'.1 34 1 = -(nI (g (if g b ≤ g c then b else c)))) := by
    intro z b c f hc hb z1 z2
    have l1 := gle b
    have l2 := gle c
    unfold F_X0_offer F_X0_offer_16
    rw [z1, if_neg (by rw [n_ne1 (by omega)]; exact not_false), z2]
    by_cases d : g b ≤ g c
    · rw [if_pos (by rw [negle (by omega) (by omega)]; exact d), if_pos d]
      exact ⟨z, rfl, f, z1, z2⟩
    · rw [if_neg (by rw [negle (by omega) (by omega)]; exact d), if_neg d]
      refine ⟨_, rfl, ⟨fun j hj => by rw [wI_ne hj, wI_ne hj]; exact f.1 j hj, f.2⟩, ?_, ?_⟩
      · rw [wI_eq, u_ne (by omega), wI_eq, u_eq]
      · rw [wI_eq, u_eq]
  obtain ⟨s1, e1, f1, z1, z2⟩ : ∃ z, F_X0_offer (nI 0) (-(nI (g 0))) s0 = some z ∧ F34 s z ∧ z.1 34 0 = nI 0 ∧ z.1 34 1 = -(nI (g 0)) := by
    unfold F_X0_offer F_X0_offer_16
    rw [ch0.1, if_pos rfl]
    refine ⟨_, rfl, ⟨fun j hj => by rw [wI_ne hj, wI_ne hj]; exact f0.1 j hj, f0.2⟩, ?_, ?_⟩
    · rw [wI_eq, u_ne (by omega), wI_eq, u_eq]
    · rw [wI_eq, u_eq]
  have step : L_X8_ask_31 FUEL 0 s0 = L_X8_ask_31 999 (nI 1) s1 := by
    show L_X8_ask_31 (999 + 1) (nI 0) s0 = _
    rw [L_X8_ask_31_s]
    simp (config := { implicitDefEqProofs := false }) (disch := omega) only [n_lel, if_neg, gC s0 0 f0 (by omega), bindS, e1, n_ar]
  rw [step]
  refine For2 (fun n i s => L_X8_ask_31 n (nI i) s) (fun n i y => L_X9_askOf_11 n x y (nI i) t) 12 1000 1001
    (fun i z y => F34 s z ∧ ∃ b, b < 12 ∧ y = nI b ∧ z.1 34 0 = nI b ∧ z.1 34 1 = -(nI (g b)))
    (fun f g => E2 f g (fun q r => q.1 = r.1 ∧ FrA μ q.2 ∧ FrB ν r.2 ∧ PM P r.2)) ?_ ?_ 1 s1 0 999 FUEL ⟨f1, 0, by omega, rfl, z1, z2⟩ (by omega) rfl rfl (by omega) (by omega)
  · rintro n m z y _ _ ⟨fz, b, hb, rfl, z1, z2⟩
    simp (config := { implicitDefEqProofs := false }) (disch := omega) only [L_X8_ask_31_s, L_X9_askOf_11_s, n_lel, if_pos]
    exact E2_some ⟨z1, F34_A h3 fz, h4, h5⟩
  · rintro n m i z y _ _ hi ⟨fz, b, hb, rfl, z1, z2⟩ ih
    obtain ⟨z', e3, f3, z3, z4⟩ := offn z b i fz hi hb z1 z2
    have l1 := gle b
    have l2 := gle i
    simp (config := { implicitDefEqProofs := false }) (disch := omega) only [L_X8_ask_31_s, L_X9_askOf_11_s, n_lel, if_neg, gC z i fz hi, gM, bindS, e3, n_ar, F_X9_askOf_40, n_le]
    apply ih
    refine ⟨f3, (if g b ≤ g i then b else i), ?_, ?_, z3, z4⟩
    · by_cases d : g b ≤ g i
      · rw [if_pos d]; exact hb
      · rw [if_neg d]; exact hi
    · by_cases d : g b ≤ g i
      · rw [if_pos d, if_pos d]
      · rw [if_neg d, if_neg d]
