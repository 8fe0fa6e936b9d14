/-! texts -/
def vl (lf : Int32) (q : Nat) (b : Int32) : Int32 :=
  if q = 0 then (if b = 115 then 0 else if b = 99 then 1 else if b = 119 then 2 else -9)
  else if q = 1 then (if 48 + lf ≤ b ∧ b ≤ 57 then b - 48 else -9)
  else if q = 2 then (if 48 ≤ b ∧ b ≤ 53 then b - 48 else -9)
  else (if b = 59 then 0 else -9)
def Lead (g : Nat → Prop) (n m : Nat) : Prop := m ≤ n ∧ (∀ j, j < m → g j) ∧ (m < n → ¬ g m)
theorem Lead_u {g : Nat → Prop} {n m m' : Nat} (h : Lead g n m) (h' : Lead g n m') : m = m' := by
  rcases Nat.lt_trichotomy m m' with c | c | c
  · exact absurd (h'.2.1 m c) (h.2.2 (by have := h'.1; omega))
  · exact c
  · exact absurd (h.2.1 m' c) (h'.2.2 (by have := h.1; omega))
theorem Lead_cg {g g' : Nat → Prop} {n m : Nat} (h : Lead g n m) (e : ∀ i, i < n → (g i ↔ g' i)) : Lead g' n m :=
  ⟨h.1, fun j hj => (e j (by have := h.1; omega)).mp (h.2.1 j hj), fun hm z => h.2.2 hm ((e m hm).mpr z)⟩
def fv (n m : Nat) (e : Bool) : Int32 := if m < n then nI m else if e then -1 else nI n
def Ft (g : Nat → Prop) (n : Nat) (e : Bool) (v : Int32) : Prop := ∃ m, Lead g n m ∧ v = fv n m e
theorem Ft_u {g : Nat → Prop} {n : Nat} {e : Bool} {v v' : Int32} (h : Ft g n e v) (h' : Ft g n e v') : v = v' := by
  obtain ⟨m, h1, rfl⟩ := h; obtain ⟨m', h2, rfl⟩ := h'; rw [Lead_u h1 h2]
theorem Ft_cg {g g' : Nat → Prop} {n : Nat} {e : Bool} {v : Int32} (h : Ft g n e v) (c : ∀ i, i < n → (g i ↔ g' i)) : Ft g' n e v := by
  obtain ⟨m, h1, h2⟩ := h; exact ⟨m, Lead_cg h1 c, h2⟩
theorem Ft_ok {g : Nat → Prop} {n : Nat} {e : Bool} {v : Int32} (hn : n < 1000) (h : Ft g n e v) (hv : v = -1) : (∀ i, i < n → g i) ∧ e = true := by
  obtain ⟨m, h1, h2⟩ := h
  unfold fv at h2
  have := h1.1
  by_cases c : m < n
  · rw [if_pos c, hv, n_en1 (by omega)] at h2; exact h2.elim
  · rw [if_neg c] at h2
    have : m = n := by omega
    subst this
    cases e
    · rw [if_neg (by decide), hv, n_en1 (by omega)] at h2; exact h2.elim
    · exact ⟨h1.2.1, rfl⟩
theorem s48 (x b : Int32) : (if b < x then (0 : Int32) else if (57 : Int32) < b then 0 else 1) = if x ≤ b ∧ b ≤ 57 then 1 else 0 := by
  by_cases c : b < x
  · rw [if_pos c, if_neg (fun z => absurd c (Int32.not_lt.mpr z.1))]
  · rw [if_neg c]
    by_cases d : 57 < b
    · rw [if_pos d, if_neg (fun z => absurd d (Int32.not_lt.mpr z.2))]
    · rw [if_neg d, if_pos ⟨Int32.not_lt.mp c, Int32.not_lt.mp d⟩]
theorem sfig (x y b : Int32) : (if b < x then (0 : Int32) else if y < b then 0 else 1) = if x ≤ b ∧ b ≤ y then 1 else 0 := by
  by_cases c : b < x
  · rw [if_pos c, if_neg (fun z => absurd c (Int32.not_lt.mpr z.1))]
  · rw [if_neg c]
    by_cases d : y < b
    · rw [if_pos d, if_neg (fun z => absurd d (Int32.not_lt.mpr z.2))]
    · rw [if_neg d, if_pos ⟨Int32.not_lt.mp c, Int32.not_lt.mp d⟩]
theorem figm (b x y : Int32) (ν : Mm) : F_X9_figureOf b x y ν = some ((if 48 + x ≤ b ∧ b ≤ 48 + y then b - 48 else -9), ν) := by
  unfold F_X9_figureOf
  rw [in_gen, bindS, Int32.toInt_toInt64, Int32.toInt_toInt64]
  simp only [← Int32.le_iff_toInt_le]
  by_cases c : 48 + x ≤ b ∧ b ≤ 48 + y
  · rw [if_pos c]; simp only [if_pos c, show ((1 : Int32) = 0) = False from by decide, if_false]
  · rw [if_neg c]; simp only [if_neg c, if_true]
theorem ge48 {b : Int32} {k : Nat} (hk : k < 200) (h : nI k ≤ b) (h2 : b ≤ 57) : ∃ a, k ≤ a ∧ a ≤ 57 ∧ b = nI a := by
  have hb : ¬ b < 0 := by
    rw [Int32.not_lt, Int32.le_iff_toInt_le]
    rw [Int32.le_iff_toInt_le, nI_toInt (by omega)] at h
    have : (0 : Int32).toInt = 0 := rfl
    omega
  obtain ⟨a, ha, rfl⟩ := nI_of hb
  rw [n_le (by omega) (by omega)] at h
  rw [n_ler (by omega) (by omega)] at h2
  exact ⟨a, h, h2, rfl⟩
theorem sub48 {a : Nat} (h : 48 ≤ a) (h2 : a ≤ 57) : nI a - 48 = nI (a - 48) := n_sr (n := 48) h
theorem vl1 {lf b : Int32} (hl : lf = 0 ∨ lf = 1) : (vl lf 1 b = -9) = ¬ (48 + lf ≤ b ∧ b ≤ 57) := by
  unfold vl
  rw [if_neg (by omega), if_pos rfl]
  by_cases c : 48 + lf ≤ b ∧ b ≤ 57
  · have : ∃ a, 48 ≤ a ∧ a ≤ 57 ∧ b = nI a := by
      rcases hl with rfl | rfl
      · exact ge48 (k := 48) (by omega) c.1 c.2
      · obtain ⟨a, h1, h2⟩ := ge48 (k := 49) (by omega) c.1 c.2
        exact ⟨a, by omega, h2⟩
    obtain ⟨a, h1, h2, rfl⟩ := this
    rw [if_pos c, sub48 h1 h2]
    have ne : ∀ a < 10, nI a ≠ -9 := by decide +kernel
    simp [c, ne (a - 48) (by omega)]
  · rw [if_neg c]; simp [c]
theorem vl2 {lf b : Int32} : (vl lf 2 b = -9) = ¬ (48 ≤ b ∧ b ≤ 53) := by
  unfold vl
  rw [if_neg (by omega), if_neg (by omega), if_pos rfl]
  by_cases c : 48 ≤ b ∧ b ≤ 53
  · obtain ⟨a, h1, h2, rfl⟩ := ge48 (k := 48) (by omega) c.1 (Int32.le_trans c.2 (by decide))
    rw [if_pos c, sub48 h1 h2]
    have ne : ∀ a < 10, nI a ≠ -9 := by decide +kernel
    simp [c, ne (a - 48) (by omega)]
  · rw [if_neg c]; simp [c]
theorem fig01 {c : Prop} [Decidable c] : ((if c then (1 : Int32) else 0) = 0 ∨ (if c then (1 : Int32) else 0) = 1) := by
  by_cases h : c
  · rw [if_pos h]; exact Or.inr rfl
  · rw [if_neg h]; exact Or.inl rfl
theorem gb01 {α : Type} {x : Int32} {k : Option α} (h : x = 0 ∨ x = 1) : gb x k = k := if_pos h
theorem q4 {i : Nat} (h : i < 1000) : nI i - nI i / 4 * 4 = nI (i % 4) := n_rem (d := 4) (by omega) (by decide) (by decide)
theorem fitsR {μ : Mm} {i : Nat} {b lf : Int32} (hi : i < 1000) (hl : lf = 0 ∨ lf = 1) :
    (μ.1 1 3 = lf → F_X3_fits_1 (nI i) b μ = some ((if vl lf (i % 4) b = -9 then 0 else 1), μ)) ∧ (μ.1 3 3 = lf → F_X3_fits_3 (nI i) b μ = some ((if vl lf (i % 4) b = -9 then 0 else 1), μ)) := by
  have e4 : i % 4 = 0 ∨ i % 4 = 1 ∨ i % 4 = 2 ∨ i % 4 = 3 := by omega
  have t9 : (48 : Int32) + 9 = 57 := by decide
  have t5 : (48 : Int32) + 5 = 53 := by decide
  have t0 : (48 : Int32) + 0 = 48 := by decide
  refine ⟨fun hm => ?_, fun hm => ?_⟩
  all_goals
    first | unfold F_X3_fits_1 | unfold F_X3_fits_3
    simp only [q4 hi, F_X5_isFigure, F_X3_sortOf, bindS, hm, t9, t5, t0, sfig, gb01 fig01]
    rcases e4 with e | e | e | e
    · rw [e]
      rw [if_pos (by decide)]
      unfold vl
      simp only [if_true]
      by_cases c1 : b = 99
      · subst c1; rfl
      · by_cases c2 : b = 115
        · subst c2; simp
        · by_cases c3 : b = 119
          · subst c3; simp
          · simp [c1, c2, c3]
    · rw [e]
      rw [if_neg (by decide), if_pos (by decide)]
      simp only [vl1 hl]
      by_cases c : 48 + lf ≤ b ∧ b ≤ 57
      · rw [if_pos c, if_neg (fun z => z c)]
      · rw [if_neg c, if_pos c]
    · rw [e]
      rw [if_neg (by decide), if_neg (by decide), if_pos (by decide)]
      simp only [vl2]
      by_cases c : 48 ≤ b ∧ b ≤ 53
      · rw [if_pos c, if_neg (fun z => z c)]
      · rw [if_neg c, if_pos c]
    · rw [e]
      rw [if_neg (by decide), if_neg (by decide), if_neg (by decide)]
      show some ((if b = 59 then (1 : Int32) else 0), μ) = some ((if (if b = 59 then (0 : Int32) else -9) = -9 then (0 : Int32) else 1), μ)
      by_cases c : b = 59
      · simp [c]
      · simp [c]
theorem byteR {ν : Mm} {i : Nat} {b lf : Int32} : F_X9_byteOf (nI (i % 4)) b lf ν = some (vl lf (i % 4) b, ν) := by
  have e4 : i % 4 = 0 ∨ i % 4 = 1 ∨ i % 4 = 2 ∨ i % 4 = 3 := by omega
  unfold F_X9_byteOf vl
  simp only [figm, bindS]
  rcases e4 with e | e | e | e
  · rw [e, if_pos (by decide)]; rfl
  · rw [e, if_neg (by decide), if_pos (by decide)]; rfl
  · rw [e, if_neg (by decide), if_neg (by decide), if_pos (by decide)]; rfl
  · rw [e, if_neg (by decide), if_neg (by decide), if_neg (by decide)]; rfl
