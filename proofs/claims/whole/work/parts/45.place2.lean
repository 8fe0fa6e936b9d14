def sp (p : Nat) : Nat := if p = 0 then 0 else if p = 1 then 3 else if p = 2 then 5 else 6
theorem sp_mono : ∀ p, sp p ≤ sp (p + 1)
  | 0 => by decide
  | 1 => by decide
  | 2 => by decide
  | n + 3 => by unfold sp; rw [if_neg (by omega), if_neg (by omega), if_neg (by omega), if_neg (by omega), if_neg (by omega), if_neg (by omega)]; exact Nat.le_refl _
theorem sp_add : ∀ {p}, p < 3 → sp p + (3 - p) = sp (p + 1)
  | 0, _ => by decide
  | 1, _ => by decide
  | 2, _ => by decide
  | n + 3, h => by omega
def IPc (P : Pl) (w : Nat) (a b μ ν : Mm) (p : Nat) (x : Int32) (s t : Mm) : Prop :=
  FrC a s ∧ FrP w b t ∧
  (t.1 11 = ν.1 11 ∧ t.1 13 = ν.1 13 ∧ t.1 14 = ν.1 14 ∧ t.1 15 = ν.1 15 ∧ t.1 0 = ν.1 0 ∧ s.1 32 = μ.1 32 ∧ s.1 28 6 = μ.1 28 6) ∧
  (∀ k, k < P.1 0 → s.1 30 k = t.1 12 k ∧ Rg (6 * w + sp p) (t.1 12 k)) ∧
  (∀ i, i < 3 * w + p → s.1 33 i = t.1 22 i ∧ (t.1 22 i = -1 ∨ ∃ k, k < P.1 0 ∧ t.1 22 i = nI k)) ∧ (∀ i, i < 3 * w → t.1 22 i = ν.1 22 i) ∧
  (∀ k, k < P.1 0 → (bt x k = 1 ↔ ∃ q, q < p ∧ t.1 22 (3 * w + q) = nI k)) ∧
  (∀ q q', q < q' → q' < p → t.1 22 (3 * w + q) = -1 ∨ t.1 22 (3 * w + q) ≠ t.1 22 (3 * w + q'))
theorem ipc_none {P : Pl} {w : Nat} {a b μ ν : Mm} {p : Nat} {x : Int32} {s t : Mm} (hn : P.1 0 ≤ 10) (h : IPc P w a b μ ν p x s t) : IPc P w a b μ ν (p + 1) x (wI s 33 (3 * w + p) (-1)) (wI t 22 (3 * w + p) (-1)) := by
  obtain ⟨h1, h2, h3, h4, h5, h6, h7, h8⟩ := h
  refine ⟨FrC_w h1 (by omega) (by omega), FrP_22 h2 (by omega), h3, ?_, ?_, ?_, ?_, ?_⟩
  · intro k hk
    exact ⟨(h4 k hk).1, Rg_mono (h4 k hk).2 (by have := sp_mono p; omega)⟩
  · intro i hi
    rw [wI_eq, wI_eq, u_if, u_if]
    by_cases e : i = 3 * w + p
    · rw [if_pos e, if_pos e]; exact ⟨rfl, Or.inl rfl⟩
    · rw [if_neg e, if_neg e]; exact h5 i (by omega)
  · intro i hi
    rw [wI_eq, u_ne (by omega)]; exact h6 i hi
  · intro k hk
    rw [h7 k hk]
    constructor
    · rintro ⟨q, hq, e⟩
      exact ⟨q, by omega, by rw [wI_eq, u_ne (by omega)]; exact e⟩
    · rintro ⟨q, hq, e⟩
      rw [wI_eq, u_if] at e
      by_cases c : 3 * w + q = 3 * w + p
      · rw [if_pos c] at e
        rw [n_en1 (by omega)] at e; exact e.elim
      · rw [if_neg c] at e
        exact ⟨q, by omega, e⟩
  · intro q q' hq hq'
    rw [wI_eq, u_if, u_if]
    by_cases c : 3 * w + q = 3 * w + p
    · omega
    · rw [if_neg c]
      by_cases d : 3 * w + q' = 3 * w + p
      · rw [if_pos d]
        by_cases e : t.1 22 (3 * w + q) = -1
        · exact Or.inl e
        · exact Or.inr e
      · rw [if_neg d]; exact h8 q q' hq (by omega)

theorem ipc_some {P : Pl} {w : Nat} {a b μ ν : Mm} {p : Nat} {x : Int32} {s t s' : Mm} {k : Nat} (hn : P.1 0 ≤ 10) (hp : p < 3) (h : IPc P w a b μ ν p x s t) (hk : k < P.1 0) (hb : bt x k = 0)
    (g1 : FrC a s') (g2 : s'.1 32 = s.1 32) (g3 : s'.1 28 6 = s.1 28 6) (g4 : s'.1 33 = upd (s.1 33) (3 * w + p) (nI k)) (g5 : s'.1 30 = upd (s.1 30) k (s.1 30 k + nI (3 - p))) :
    IPc P w a b μ ν (p + 1) (x ||| 1 <<< (nI k &&& 31)) s' (wI (wI t 22 (3 * w + p) (nI k)) 12 k (t.1 12 k + nI (3 - p))) := by
  obtain ⟨h1, h2, h3, h4, h5, h6, h7, h8⟩ := h
  obtain ⟨e1, e2, e3, e4, e5, e6, e7⟩ := h3
  refine ⟨g1, FrP_w (FrP_22 h2 (by omega)) (by omega) (by omega), ⟨e1, e2, e3, e4, e5, g2.trans e6, g3.trans e7⟩, ?_, ?_, ?_, ?_, ?_⟩
  · intro i hi
    have := h4 i hi
    rw [g5, wI_eq, u_if, u_if]
    by_cases e : i = k
    · subst e
      rw [if_pos rfl, if_pos rfl, this.1]
      refine ⟨rfl, ?_⟩
      have q := Rg_add this.2 (⟨3 - p, Nat.le_refl _, rfl⟩ : Rg (3 - p) (nI (3 - p)))
      have := sp_add hp
      exact Rg_mono q (by omega)
    · rw [if_neg e, if_neg e]
      have q := sp_mono p
      exact ⟨this.1, Rg_mono this.2 (by omega)⟩
  · intro i hi
    rw [g4, wI_ne (by omega), wI_eq, u_if, u_if]
    by_cases e : i = 3 * w + p
    · rw [if_pos e, if_pos e]; exact ⟨rfl, Or.inr ⟨k, hk, rfl⟩⟩
    · rw [if_neg e, if_neg e]; exact h5 i (by omega)
  · intro i hi
    rw [wI_ne (by omega), wI_eq, u_ne (by omega)]; exact h6 i hi
  · intro j hj
    rw [bt_or1 (by omega), bt_sh1 (by omega) (by omega), h7 j hj]
    constructor
    · rintro (⟨q, hq, e⟩ | e)
      · exact ⟨q, by omega, by rw [wI_ne (by omega), wI_eq, u_ne (by omega)]; exact e⟩
      · exact ⟨p, by omega, by rw [wI_ne (by omega), wI_eq, u_eq, e]⟩
    · rintro ⟨q, hq, e⟩
      rw [wI_ne (by omega), wI_eq, u_if] at e
      by_cases c : 3 * w + q = 3 * w + p
      · rw [if_pos c, n_eq (by omega) (by omega)] at e
        exact Or.inr e
      · rw [if_neg c] at e
        exact Or.inl ⟨q, by omega, e⟩
  · intro q q' hq hq'
    rw [wI_ne (by omega), wI_eq, u_if, u_if]
    by_cases c : 3 * w + q = 3 * w + p
    · omega
    · rw [if_neg c]
      by_cases d : 3 * w + q' = 3 * w + p
      · rw [if_pos d]
        right
        intro e
        have : bt x k = 1 := (h7 k hk).mpr ⟨q, by omega, e⟩
        rw [hb] at this
        exact absurd this (by decide)
      · rw [if_neg d]; exact h8 q q' hq (by omega)
def IPf (P : Pl) (w : Nat) (μ ν : Mm) (p : Nat) (s t : Mm) : Prop :=
  (p = 0 ∧ s.1 31 = μ.1 31 ∧ s.1 28 5 = μ.1 28 5) ∨ (0 < p ∧ t.1 22 (3 * w) = -1 ∧ s.1 31 = μ.1 31 ∧ s.1 28 5 = μ.1 28 5) ∨
  (0 < p ∧ ∃ k, k < P.1 0 ∧ t.1 22 (3 * w) = nI k ∧ ν.1 15 k ≠ -1 ∧ s.1 31 = upd (μ.1 31) k (μ.1 31 k + 1) ∧ s.1 28 5 = if P.2 0 k = 2 ∧ μ.1 31 k + 1 = 3 then μ.1 28 5 ||| 1 <<< (nI k &&& 31) else μ.1 28 5)
def IPg (P : Pl) (w : Nat) (μ ν : Mm) (p : Nat) (s t : Mm) : Prop :=
  (p ≤ 1 ∧ s.1 29 = μ.1 29) ∨ (1 < p ∧ t.1 22 (3 * w + 1) = -1 ∧ s.1 29 = μ.1 29) ∨
  (1 < p ∧ ∃ k, k < P.1 0 ∧ t.1 22 (3 * w + 1) = nI k ∧ s.1 29 = if P.2 0 k = 1 then upd (μ.1 29) k (if μ.1 29 k - 1 ≤ 0 then 0 else μ.1 29 k - 1) else μ.1 29)
theorem ipf_keep {P : Pl} {w : Nat} {μ ν : Mm} {p : Nat} {s t s' t' : Mm} (h : IPf P w μ ν p s t) (hp : 0 < p) (e1 : s'.1 31 = s.1 31) (e2 : s'.1 28 5 = s.1 28 5) (e3 : t'.1 22 (3 * w) = t.1 22 (3 * w)) : IPf P w μ ν (p + 1) s' t' := by
  unfold IPf at *
  rw [e1, e2, e3]
  rcases h with h | h | h
  · omega
  · exact Or.inr (Or.inl ⟨by omega, h.2⟩)
  · exact Or.inr (Or.inr ⟨by omega, h.2⟩)
theorem ipg_keep {P : Pl} {w : Nat} {μ ν : Mm} {p : Nat} {s t s' t' : Mm} (h : IPg P w μ ν p s t) (hp : 1 < p) (e1 : s'.1 29 = s.1 29) (e3 : t'.1 22 (3 * w + 1) = t.1 22 (3 * w + 1)) : IPg P w μ ν (p + 1) s' t' := by
  unfold IPg at *
  rw [e1, e3]
  rcases h with h | h | h
  · omega
  · exact Or.inr (Or.inl ⟨by omega, h.2⟩)
  · exact Or.inr (Or.inr ⟨by omega, h.2⟩)
