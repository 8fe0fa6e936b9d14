/-! a fraction in lowest terms -/
theorem l_eq0 {a : Nat} (ha : a < 9223372036854775808) : (lg_cmp (lN a) 0 = 0) = (a = 0) := by
  rw [lg_cmp_eq, show (0 : Int64) = lN 0 from rfl, pk_lEQ (by omega) (by omega)]
theorem l_z {a : Nat} (ha : a < 9223372036854775808) (h : 0 < a) : decide (lN a = (0 : Int64)) = false := by
  rw [decide_eq_false_iff_not, show (0 : Int64) = lN 0 from rfl, pk_lEQ (by omega) (by omega)]; omega
theorem gz_f {α : Type} (k : Option α) : gz false k = k := rfl
theorem l_and1 {a : Nat} : lN a &&& 1 = lN (a % 2) := by
  rw [← Int64.toBitVec_inj, Int64.toBitVec_and]
  show BitVec.ofNat 64 a &&& BitVec.ofNat 64 1 = BitVec.ofNat 64 (a % 2)
  rw [← BitVec.ofNat_and, Nat.and_one_is_mod]
theorem l_half {a : Nat} (ha : a < 9223372036854775808) : lN a >>> ((1 : Int32).toInt64 &&& 63) = lN (a / 2) := by
  rw [← Int64.toInt_inj, pk_lT (by omega)]
  rw [← Int64.toInt_toBitVec, Int64.toBitVec_shiftRight]
  have e : ((1 : Int32).toInt64 &&& 63).toBitVec.smod 64 = BitVec.ofNat 64 1 := by decide +kernel
  rw [e, BitVec.sshiftRight_eq', BitVec.toInt_sshiftRight, Int64.toInt_toBitVec, pk_lT (by omega)]
  show ((a : Int) >>> (1 : Nat)) = _
  rw [Int.shiftRight_eq_div_pow]
  omega
theorem gcd6 {S T : Nat} {what : Int32} {t : Mm} (hS : S < 4611686018427387904) (hT : T < 4611686018427387904) : ∀ k A B n, B ≤ A → A < 4611686018427387904 → A * B < 2 ^ k → k < n → 0 < Nat.gcd S T → Nat.gcd A B = Nat.gcd S T →
    L_X9_part_6 n (lN S) (lN T) what (lN A) (lN B) t = some ((if what = 0 then lN (S / Nat.gcd S T) else lN (T / Nat.gcd S T)), t) := by
  intro k
  induction k with
  | zero =>
    intro A B n hB hA hk hn hg e
    obtain ⟨m, rfl⟩ : ∃ m, n = m + 1 := ⟨n - 1, by omega⟩
    have hz : A * B = 0 := by omega
    have b0 : B = 0 := by
      rcases Nat.mul_eq_zero.mp hz with z | z
      · omega
      · exact z
    subst b0
    rw [Nat.gcd_zero_right] at e
    subst e
    rw [L_X9_part_6_s]
    simp (config := { implicitDefEqProofs := false }) (disch := omega) only [l_eq0, if_true, l_z, gz_f, pk_lDiv]
    by_cases c : what = 0
    · rw [if_pos c, if_pos c]
    · rw [if_neg c, if_neg c]
  | succ k ih =>
    intro A B n hB hA hk hn hg e
    obtain ⟨m, rfl⟩ : ∃ m, n = m + 1 := ⟨n - 1, by omega⟩
    by_cases b0 : B = 0
    · subst b0
      rw [Nat.gcd_zero_right] at e
      subst e
      rw [L_X9_part_6_s]
      simp (config := { implicitDefEqProofs := false }) (disch := omega) only [l_eq0, if_true, l_z, gz_f, pk_lDiv]
      by_cases c : what = 0
      · rw [if_pos c, if_pos c]
      · rw [if_neg c, if_neg c]
    · rw [L_X9_part_6_s]
      have lt := Nat.mod_lt A (show 0 < B by omega)
      simp (config := { implicitDefEqProofs := false }) (disch := omega) only [l_eq0, if_neg b0, l_z, gz_f, pk_lRem]
      apply ih B (A % B) m (by omega) (by omega) ?_ (by omega) hg ?_
      · have h1 : A % B + B ≤ A := by
          have := Nat.div_add_mod A B
          have h2 : 1 ≤ A / B := (Nat.one_le_div_iff (by omega)).mpr hB
          have h3 : B * 1 ≤ B * (A / B) := Nat.mul_le_mul_left B h2
          omega
        have h2 : 2 * (A % B) ≤ A := by omega
        have h4 : B * (2 * (A % B)) ≤ B * A := Nat.mul_le_mul_left B h2
        rw [Nat.mul_comm B A] at h4
        have h5 : B * (2 * (A % B)) = 2 * (B * (A % B)) := by rw [Nat.mul_left_comm]
        rw [Nat.pow_succ] at hk
        omega
      · rw [Nat.gcd_comm, ← Nat.gcd_rec, Nat.gcd_comm, e]
theorem odd_gcd {x n : Nat} (h : x % 2 = 1) : Nat.gcd x (2 ^ n) = 1 := by
  have : Nat.Coprime x 2 := by
    unfold Nat.Coprime
    rw [Nat.gcd_comm, Nat.gcd_rec, h]; rfl
  exact Nat.Coprime.pow_right n this
theorem sh64 {e : Nat} (h : e ≤ 8) : (1 : Int64) <<< ((4 * nI e).toInt64 &&& 63) = lN (2 ^ (4 * e)) := by
  have : ∀ e < 9, (1 : Int64) <<< ((4 * nI e).toInt64 &&& 63) = lN (2 ^ (4 * e)) := by decide +kernel
  exact this e (by omega)
theorem p32 {m : Nat} (h : m ≤ 32) : 2 ^ m ≤ 4294967296 := (Nat.pow_le_pow_right (n := 2) (by omega) h : 2 ^ m ≤ 2 ^ 32)
theorem fracC {S m : Nat} {what : Int32} (hS : S < 4611686018427387904) (hm : m ≤ 32) :
    ∃ j, j ≤ m ∧ (∃ x, S = 2 ^ j * x ∧ (j = m ∨ x % 2 = 1)) ∧ ∀ s, L_X8_partOfFraction_23 FUEL what (nI m) (lN S) (lN (2 ^ m)) 0 s = some ((if what = 0 then lN (S / 2 ^ j) else lN (2 ^ (m - j))), s) := by
  obtain ⟨s, -⟩ : ∃ s : Mm, True := ⟨(fun _ _ => 0, fun _ _ => 0), trivial⟩
  have key : ∀ d i x n, m - i = d → i ≤ m → S = 2 ^ i * x → d < n → ∃ j, j ≤ m ∧ (∃ x, S = 2 ^ j * x ∧ (j = m ∨ x % 2 = 1)) ∧ ∀ s, L_X8_partOfFraction_23 n what (nI m) (lN x) (lN (2 ^ (m - i))) (nI i) s = some ((if what = 0 then lN (S / 2 ^ j) else lN (2 ^ (m - j))), s) := by
    intro d
    induction d with
    | zero =>
      intro i x n h1 h2 h3 h4
      obtain ⟨n, rfl⟩ : ∃ k, n = k + 1 := ⟨n - 1, by omega⟩
      have : i = m := by omega
      subst this
      refine ⟨i, Nat.le_refl _, ⟨x, h3, Or.inl rfl⟩, ?_⟩
      intro s
      rw [L_X8_partOfFraction_23_s]
      simp (config := { implicitDefEqProofs := false }) (disch := omega) only [n_le, Nat.le_refl, if_true, F_X8_partOfFraction_57]
      rw [h3, Nat.mul_div_cancel_left _ (Nat.pos_of_ne_zero (by exact Nat.ne_of_gt (Nat.pow_pos (by omega))))]
    | succ d ih =>
      intro i x n h1 h2 h3 h4
      obtain ⟨n, rfl⟩ : ∃ k, n = k + 1 := ⟨n - 1, by omega⟩
      have pp : 0 < 2 ^ i := Nat.pow_pos (by omega)
      have xs : x ≤ S := by rw [h3]; exact Nat.le_mul_of_pos_left x pp
      by_cases c : x % 2 = 0
      · obtain ⟨j, hj, hx, hl⟩ := ih (i + 1) (x / 2) n (by omega) (by omega) (by rw [h3, Nat.pow_succ, Nat.mul_assoc]; congr 1; omega) (by omega)
        refine ⟨j, hj, hx, ?_⟩
        intro s
        have q := p32 (m := m - i) (by omega)
        have half : 2 ^ (m - i) / 2 = 2 ^ (m - (i + 1)) := by
          have : m - i = (m - (i + 1)) + 1 := by omega
          rw [this, Nat.pow_succ, Nat.mul_div_cancel _ (by omega)]
        rw [L_X8_partOfFraction_23_s]
        simp (config := { implicitDefEqProofs := false }) (disch := omega) only [n_le, if_neg, l_and1, l_eq0, if_pos, l_half, n_ar, half]
        exact hl s
      · refine ⟨i, h2, ⟨x, h3, Or.inr (by omega)⟩, ?_⟩
        intro s
        rw [L_X8_partOfFraction_23_s]
        simp (config := { implicitDefEqProofs := false }) (disch := omega) only [n_le, if_neg, l_and1, l_eq0, F_X8_partOfFraction_57]
        rw [h3, Nat.mul_div_cancel_left _ pp]
  exact key (m - 0) 0 S FUEL rfl (by omega) (by simp) (by rw [FUELe]; omega)
theorem frac {S e : Nat} {what : Int32} (hS : S < 4611686018427387904) (he : e ≤ 8) :
    ∃ v, (∀ s, s.1 7 1 = nI e → F_X8_partOfFraction (lN S) what s = some (v, s)) ∧ (∀ t, F_X9_part (lN S) (lN (2 ^ (4 * e))) what t = some (v, t)) := by
  obtain ⟨j, hj, ⟨x, hx, ho⟩, hl⟩ := fracC (what := what) (m := 4 * e) hS (by omega)
  refine ⟨(if what = 0 then lN (S / 2 ^ j) else lN (2 ^ (4 * e - j))), ?_, ?_⟩
  · intro s hs
    unfold F_X8_partOfFraction
    rw [hs, sh64 he, show (4 : Int32) * nI e = nI (4 * e) from n_ml 4 e]
    exact hl s
  · intro t
    have q := p32 (m := 4 * e) (by omega)
    have pj : 0 < 2 ^ j := Nat.pow_pos (by omega)
    have pm : 0 < 2 ^ (4 * e) := Nat.pow_pos (by omega)
    have g : Nat.gcd S (2 ^ (4 * e)) = 2 ^ j := by
      rw [hx, show 2 ^ (4 * e) = 2 ^ j * 2 ^ (4 * e - j) from by rw [← Nat.pow_add]; congr 1; omega, Nat.gcd_mul_left]
      rcases ho with z | z
      · rw [z, Nat.sub_self, Nat.pow_zero, Nat.gcd_one_right, Nat.mul_one]
      · rw [odd_gcd z, Nat.mul_one]
    unfold F_X9_part
    show L_X9_part_6 (999 + 1) _ _ _ _ _ t = _
    rw [L_X9_part_6_s]
    have lt := Nat.mod_lt S pm
    have nz : ¬ 2 ^ (4 * e) = 0 := by omega
    simp (config := { implicitDefEqProofs := false }) (disch := omega) only [l_eq0, if_neg nz, l_z, gz_f, pk_lRem]
    rw [gcd6 hS (by omega) 64 _ _ 999 (by omega) (by omega) ?_ (by omega) (by rw [g]; exact pj) (by rw [Nat.gcd_comm, ← Nat.gcd_rec, Nat.gcd_comm]), g, show 2 ^ (4 * e) / 2 ^ j = 2 ^ (4 * e - j) from Nat.pow_div hj (by omega)]
    have h1 : 2 ^ (4 * e) * (S % 2 ^ (4 * e)) ≤ 4294967296 * (S % 2 ^ (4 * e)) := Nat.mul_le_mul_right _ q
    omega
