/-! the places of a week -/
def Tp (P : Pl) (x : Int32) (ν : Mm) (v : Int32) : Prop := v = -1 ∨ ∃ k, k < P.1 0 ∧ v = nI k ∧ ν.1 15 k ≠ -1 ∧ bt x k = 0
theorem top2 {P : Pl} {x : Int32} {μ ν : Mm} (hV : PV P) (hn : ν.1 0 7 = nI (P.1 0)) (hs : ∀ k, k < P.1 0 → μ.1 32 k = ν.1 15 k) :
    E2 (F_X7_topWithout x (nI (P.1 0)) μ) (F_X9_bestBut x ν) (fun q r => q.2 = μ ∧ r.2 = ν ∧ q.1 = r.1 ∧ Tp P x ν r.1) := by
  have q1 := hV.1
  unfold F_X7_topWithout F_X9_bestBut
  refine For2 (fun n i s => L_X7_topWithout_5 n x (nI (P.1 0)) s (nI i) μ) (fun n i s => L_X9_bestBut_4 n x s (nI i) ν) (P.1 0) FUEL FUEL (fun i s t => s = t ∧ Tp P x ν t) (fun f g => E2 f g (fun q r => q.2 = μ ∧ r.2 = ν ∧ q.1 = r.1 ∧ Tp P x ν r.1)) ?_ ?_ 0 (-1) (-1) FUEL FUEL ⟨rfl, Or.inl rfl⟩ (by omega) rfl rfl (by rw [FUELe]; omega) (by rw [FUELe]; omega)
  · intro n m s t _ _ h
    simp (disch := omega) only [L_X7_topWithout_5_s, L_X9_bestBut_4_s, hn, n_le, Nat.le_refl, if_true]
    exact E2_some ⟨rfl, rfl, h.1, h.2⟩
  · intro n m i s t _ _ hi h ih
    obtain ⟨rfl, h⟩ := h
    simp (disch := omega) only [L_X7_topWithout_5_s, L_X9_bestBut_4_s, hn, n_le, if_neg, gi_in, n_c, bt_def, F_X9_isIn, bindS, F_X7_topWithout_35, F_X7_topWithout_36, F_X7_topWithout_64, F_X7_topWithout_67, F_X9_bestBut_34, F_X9_bestBut_35, F_X9_bestBut_62, F_X9_bestBut_66, F_X9_bestBut_67, if_true, n_ar, hs i hi, show ((1 : Int32) = 0) = False from by decide, if_false]
    by_cases c1 : ν.1 15 i = -1
    · rw [if_pos c1, if_pos c1]
      exact ih _ _ ⟨rfl, h⟩
    · rw [if_neg c1, if_neg c1]
      rcases bt01 x (t := i) (by omega) with z | z
      · simp only [z, if_true, show ((0 : Int32) = 1) = False from by decide, if_false]
        by_cases c2 : s = -1
        · rw [if_pos c2, if_pos c2]
          exact ih _ _ ⟨rfl, Or.inr ⟨i, hi, rfl, c1, z⟩⟩
        · rw [if_neg c2, if_neg c2]
          obtain ⟨k, hk, rfl, h3, h4⟩ := h.resolve_left c2
          simp (disch := omega) only [gi_in, n_c, hs k hk]
          by_cases c3 : ν.1 15 i ≤ ν.1 15 k
          · rw [if_pos c3, if_pos c3]; exact ih _ _ ⟨rfl, h⟩
          · rw [if_neg c3, if_neg c3]; exact ih _ _ ⟨rfl, Or.inr ⟨i, hi, rfl, c1, z⟩⟩
      · simp only [z, if_true, show ((1 : Int32) = 0) = False from by decide, if_false]
        exact ih _ _ ⟨rfl, h⟩
theorem pin0 {s : Mm} {k : Nat} {x : Int32} (hk : k < 10) : F_X7_pin x (nI k) 0 s = some (if x = 2 ∧ s.1 31 k + 1 = 3 then wI (wI (wI s 30 k (s.1 30 k + 3)) 31 k (s.1 31 k + 1)) 28 5 (s.1 28 5 ||| 1 <<< (nI k &&& 31)) else wI (wI s 30 k (s.1 30 k + 3)) 31 k (s.1 31 k + 1)) := by
  simp (disch := omega) only [F_X7_pin, F_X7_pin_53, gi_in, n_c, if_true, wI_ne, wI_eq, u_eq, show ((0 : Int32) = 1) = False from by decide, if_false, show (3 - 0 : Int32) = 3 from by decide]
  by_cases c : x = 2
  · simp only [if_pos c]
    by_cases d : s.1 31 k + 1 = 3
    · rw [if_pos d, if_pos ⟨c, d⟩]
    · rw [if_neg d, if_neg (fun z => d z.2)]
  · rw [if_neg c, if_neg (fun z => c z.1)]
theorem pin1 {s : Mm} {k : Nat} {x : Int32} (hk : k < 10) : F_X7_pin x (nI k) 1 s = some (if x = 1 then wI (wI s 30 k (s.1 30 k + 2)) 29 k (if s.1 29 k - 1 ≤ 0 then 0 else s.1 29 k - 1) else wI s 30 k (s.1 30 k + 2)) := by
  simp (disch := omega) only [F_X7_pin, F_X7_pin_53, gi_in, n_c, if_true, wI_ne, wI_eq, u_eq, show ((1 : Int32) = 0) = False from by decide, if_false, show (3 - 1 : Int32) = 2 from by decide, F_J9_max_7cf53, bindS, max_eq]
  by_cases c : x = 1
  · simp only [if_pos c]
  · simp only [if_neg c]
theorem pin2 {s : Mm} {k : Nat} {x : Int32} (hk : k < 10) : F_X7_pin x (nI k) 2 s = some (wI s 30 k (s.1 30 k + 1)) := by
  simp (disch := omega) only [F_X7_pin, F_X7_pin_53, gi_in, n_c, if_true, show ((2 : Int32) = 0) = False from by decide, show ((2 : Int32) = 1) = False from by decide, if_false, show (3 - 2 : Int32) = 1 from by decide]
