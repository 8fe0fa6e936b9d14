def ceC (ad : Ad) (cs : Cs) (ρ : Nat → Int32) (σ : Nat → Int64) (k : Nat) : va_E := match k with
  | 0 => .inr (7, [.ref (ad 1), .ref (ad 3), .ref (ad 5), .ref (ad 7), .ref (ad 9), .ref (ad 11), .int (ρ 6), .ref (ad 20), .ref (ad 28), .ref (ad 34), .ref (ad 35), .ref (ad 36)])
  | 1 => .inr (3, [.ref (ad 2), .int (ρ 1), .int (ρ 2), .int (ρ 3)])
  | 2 => .inl (cs 0, 39, .inl ρ)
  | 3 => .inr (3, [.ref (ad 4), .int (ρ 1), .int (ρ 2), .int (ρ 3)])
  | 4 => .inl (cs 0, 15, .inl ρ)
  | 5 => .inr (5, [.ref (ad 6), .int (ρ 1), .int (ρ 2)])
  | 6 => .inl (cs 0, 12, .inl ρ)
  | 7 => .inr (1, [.ref (ad 8), .int (ρ 1)])
  | 8 => .inl (cs 0, 24, .inl ρ)
  | 9 => .inr (1, [.ref (ad 10), .int (ρ 1)])
  | 10 => .inl (cs 0, 24, .inl ρ)
  | 11 => .inl (cs 3, 4, .inr (.inr (.inr (.inr (fun j => some (ad (12 + 2 * j)))))))
  | 12 => .inr (4, [.ref (ad 13), .int (ρ 1), .int (ρ 2)])
  | 13 => .inl (cs 0, 60, .inl ρ)
  | 14 => .inr (4, [.ref (ad 15), .int (ρ 1), .int (ρ 2)])
  | 15 => .inl (cs 0, 60, .inl ρ)
  | 16 => .inr (4, [.ref (ad 17), .int (ρ 1), .int (ρ 2)])
  | 17 => .inl (cs 0, 60, .inl ρ)
  | 18 => .inr (4, [.ref (ad 19), .int (ρ 1), .int (ρ 2)])
  | 19 => .inl (cs 0, 60, .inl ρ)
  | 20 => .inr (2, [.ref (ad 7), .int (ρ 1), .ref (ad 21), .ref (ad 22), .ref (ad 23), .int (ρ 5), .ref (ad 24), .ref (ad 25), .ref (ad 26), .ref (ad 27), .int (ρ 10), .int (ρ 11), .int (ρ 12), .int (ρ 13)])
  | 21 => .inl (cs 0, 10, .inl ρ)
  | 22 => .inl (cs 0, 10, .inl ρ)
  | 23 => .inl (cs 0, 10, .inl ρ)
  | 24 => .inl (cs 0, 4, .inl ρ)
  | 25 => .inl (cs 0, 4, .inl ρ)
  | 26 => .inl (cs 0, 4, .inl ρ)
  | 27 => .inl (cs 0, 12, .inl ρ)
  | 28 => .inr (6, [.ref (ad 29), .ref (ad 30), .ref (ad 31), .ref (ad 32), .ref (ad 33), .int (ρ 5), .int (ρ 6), .int (ρ 7), .int (ρ 8)])
  | 29 => .inl (cs 0, 10, .inl ρ)
  | 30 => .inl (cs 0, 10, .inl ρ)
  | 31 => .inl (cs 0, 10, .inl ρ)
  | 32 => .inl (cs 0, 10, .inl ρ)
  | 33 => .inl (cs 0, 36, .inl ρ)
  | 34 => .inr (0, [.int (ρ 0), .int (ρ 1)])
  | 35 => .inl (cs 1, 10, .inr (.inl σ))
  | 36 => .inl (cs 0, 48, .inl ρ)
  | _ => .inl (cs 0, 0, .inl ρ)
def wC : Wd := (37, ceC)
def ceM (ad : Ad) (cs : Cs) (ρ : Nat → Int32) (σ : Nat → Int64) (k : Nat) : va_E := match k with
  | 0 => .inr (8, [.ref (ad 1), .ref (ad 2), .ref (ad 3), .ref (ad 4), .int (ρ 4), .ref (ad 5), .ref (ad 6), .int (ρ 7), .ref (ad 7), .int (ρ 9), .ref (ad 8), .int (ρ 11), .ref (ad 9), .int (ρ 13), .ref (ad 10), .int (ρ 15), .int (ρ 16), .int (ρ 17), .int (ρ 18), .ref (ad 11), .ref (ad 12), .ref (ad 13), .ref (ad 14), .ref (ad 15), .ref (ad 16), .int (ρ 25), .int (ρ 26), .ref (ad 17), .ref (ad 18), .ref (ad 19), .ref (ad 20), .ref (ad 21), .ref (ad 22), .int (ρ 33), .ref (ad 23), .ref (ad 24), .int (ρ 36)])
  | 1 => .inl (cs 0, 4, .inl ρ)
  | 2 => .inl (cs 0, 4, .inl ρ)
  | 3 => .inl (cs 0, 240, .inl ρ)
  | 4 => .inl (cs 0, 60, .inl ρ)
  | 5 => .inl (cs 0, 120, .inl ρ)
  | 6 => .inl (cs 0, 3, .inl ρ)
  | 7 => .inl (cs 0, 30, .inl ρ)
  | 8 => .inl (cs 0, 12, .inl ρ)
  | 9 => .inl (cs 0, 12, .inl ρ)
  | 10 => .inl (cs 0, 24, .inl ρ)
  | 11 => .inl (cs 0, 10, .inl ρ)
  | 12 => .inl (cs 0, 10, .inl ρ)
  | 13 => .inl (cs 0, 10, .inl ρ)
  | 14 => .inl (cs 2, 10, .inl ρ)
  | 15 => .inl (cs 0, 10, .inl ρ)
  | 16 => .inl (cs 2, 10, .inl ρ)
  | 17 => .inl (cs 0, 120, .inl ρ)
  | 18 => .inl (cs 0, 120, .inl ρ)
  | 19 => .inl (cs 0, 120, .inl ρ)
  | 20 => .inl (cs 0, 120, .inl ρ)
  | 21 => .inl (cs 0, 120, .inl ρ)
  | 22 => .inl (cs 0, 36, .inl ρ)
  | 23 => .inl (cs 0, 24, .inl ρ)
  | 24 => .inl (cs 0, 120, .inl ρ)
  | _ => .inl (cs 0, 0, .inl ρ)
def wM : Wd := (25, ceM)
theorem ceC_S (ad : Ad) (cs : Cs) (ρ : Nat → Int32) (σ : Nat → Int64) {s : Nat} (hs : s < 4) : ceC ad cs ρ σ (12 + 2 * s) = .inr (4, [.ref (ad (13 + 2 * s)), .int (ρ 1), .int (ρ 2)]) := by
  rcases (show s = 0 ∨ s = 1 ∨ s = 2 ∨ s = 3 by omega) with rfl | rfl | rfl | rfl <;> rfl
theorem ceC_I (ad : Ad) (cs : Cs) (ρ : Nat → Int32) (σ : Nat → Int64) {s : Nat} (hs : s < 4) : ceC ad cs ρ σ (13 + 2 * s) = .inl (cs 0, 60, .inl ρ) := by
  rcases (show s = 0 ∨ s = 1 ∨ s = 2 ∨ s = 3 by omega) with rfl | rfl | rfl | rfl <;> rfl
theorem vp_lt {i : Int32} {n : Nat} (h : vp_in i n) : i.toNatClampNeg < n := Nat.not_le.mp fun q => h (Or.inr q)
/-- guards of the lifted functions: an index, a divisor, a truth value, arraycopy's -/
def gi {α : Type} (i : Int32) (n : Nat) (k : Option α) : Option α := if i < 0 ∨ n ≤ i.toNatClampNeg then none else k
theorem gi_some {α : Type} {i : Int32} {n : Nat} {k : Option α} {x : α} (h : gi i n k = some x) : vp_in i n ∧ k = some x := by
  unfold gi at h
  by_cases hc : i < 0 ∨ n ≤ i.toNatClampNeg
  · rw [if_pos hc] at h; cases h
  · rw [if_neg hc] at h; exact ⟨hc, h⟩
def gz {α : Type} (c : Bool) (k : Option α) : Option α := if c then none else k
theorem gz_some {α : Type} {p : Prop} [Decidable p] {k : Option α} {x : α} (h : gz (decide p) k = some x) : ¬ p ∧ k = some x := by
  unfold gz at h
  by_cases hc : p
  · rw [if_pos (decide_eq_true hc)] at h; cases h
  · rw [if_neg (by simp [hc])] at h; exact ⟨hc, h⟩
def gb {α : Type} (x : Int32) (k : Option α) : Option α := if x = 0 ∨ x = 1 then k else none
theorem gb_some {α : Type} {i : Int32} {k : Option α} {x : α} (h : gb i k = some x) : (i = 0 ∨ i = 1) ∧ k = some x := by
  unfold gb at h
  by_cases hc : i = 0 ∨ i = 1
  · rw [if_pos hc] at h; exact ⟨hc, h⟩
  · rw [if_neg hc] at h; cases h
def gc {α : Type} (sp dp n : Int32) (n0 n1 : Nat) (k : Option α) : Option α := if sp < 0 ∨ dp < 0 ∨ n < 0 ∨ n0 < sp.toNatClampNeg + n.toNatClampNeg ∨ n1 < dp.toNatClampNeg + n.toNatClampNeg then none else k
theorem gc_some {α : Type} {sp dp n : Int32} {n0 n1 : Nat} {k : Option α} {x : α} (h : gc sp dp n n0 n1 k = some x) : (¬ sp < 0 ∧ ¬ dp < 0 ∧ ¬ n < 0 ∧ sp.toNatClampNeg + n.toNatClampNeg ≤ n0 ∧ dp.toNatClampNeg + n.toNatClampNeg ≤ n1) ∧ k = some x := by
  unfold gc at h
  by_cases hc : sp < 0 ∨ dp < 0 ∨ n < 0 ∨ n0 < sp.toNatClampNeg + n.toNatClampNeg ∨ n1 < dp.toNatClampNeg + n.toNatClampNeg
  · rw [if_pos hc] at h; cases h
  · rw [if_neg hc] at h
    simp only [not_or, Nat.not_lt] at hc
    exact ⟨hc, h⟩
theorem bnd_some {α β : Type} {o : Option α} {k : α → Option β} {x : β} (h : o.bind k = some x) : ∃ a, o = some a ∧ k a = some x := by
  cases o with
  | none => cases h
  | some a => exact ⟨a, rfl, h⟩
theorem itp {α : Type} {c : Prop} [Decidable c] {a b x : α} (hc : c) (h : (if c then a else b) = x) : a = x := by rw [if_pos hc] at h; exact h
theorem itn {α : Type} {c : Prop} [Decidable c] {a b x : α} (hc : ¬ c) (h : (if c then a else b) = x) : b = x := by rw [if_neg hc] at h; exact h
def FUEL : Nat := 1000
theorem mem_g {ws : List Cond} (ps : List Nat) (hp : ws = ps.filterMap (fun i => lw_tbl[i]?)) (hg : ws.all goodWord = true) : ∀ x ∈ ws, x ∈ lw_g := fun x hx => lg_of (mem_ps ps hp x hx) (List.all_eq_true.mp hg x hx)
theorem tswO {x : Int32} (n : Nat) (hn : n < 2 ^ 31) (h : ∀ k, k < n → ¬ x = nI k) : x.toInt < 0 ∨ (n : Int) - 1 < x.toInt := by
  by_cases h0 : x < 0
  · exact Or.inl (by simpa using Int32.lt_iff_toInt_lt.mp h0)
  · obtain ⟨j, hj, rfl⟩ := nI_of h0
    rw [nI_toInt hj]
    by_cases hjn : j < n
    · exact absurd rfl (h j hjn)
    · exact Or.inr (by omega)
section GWorld
variable {w : Wd} {own : String} {cc : ByteArray} {nL : Nat} {ret : Option FieldType} {lev : Nat} {r : Option Value} {μr : Mm} {pc : Nat} {ls : List (Nat × Value)} {st : List Value} {μ : Mm}
theorem G_val {v v' : Value} (h : v = v') (k : G w own cc nL ret lev r μr pc ls (v' :: st) μ) : G w own cc nL ret lev r μr pc ls (v :: st) μ := h ▸ k
theorem G_tswV (tgt : Nat) (v : Int32) {dflt lo hi off : Int} {offs : Array Int} {len : Nat} {x : Int32} (hx : x = v) (hd : decode cc pc = .ok (.tableswitch dflt lo hi offs, len)) (h1 : ¬ v.toInt < lo) (h2 : ¬ hi < v.toInt) (ho : offs[(v.toInt - lo).toNat]? = some off) (ht : (pc : Int) + off = (tgt : Int)) (k : G w own cc nL ret lev r μr tgt ls st μ) : G w own cc nL ret lev r μr pc ls (.int x :: st) μ := by
  subst hx
  exact G_tswIn tgt hd h1 h2 ho ht k
theorem G_lswV (tgt : Nat) (v : Int32) {dflt off : Int} {ps : Array (Int × Int)} {len : Nat} {x : Int32} (hx : x = v) (hd : decode cc pc = .ok (.lookupswitch dflt ps, len)) (hp : (ps.toList.zip (ps.toList.drop 1)).all (fun (a, next) => a.1 < next.1) = true) (ho : Op.lookupswitch.offset ps.toList dflt v.toInt = off) (ht : (pc : Int) + off = (tgt : Int)) (k : G w own cc nL ret lev r μr tgt ls st μ) : G w own cc nL ret lev r μr pc ls (.int x :: st) μ := by
  subst hx
  exact G_lsw tgt hd hp ho ht k
/-- the sheets: cell 12 + 2 s, its row of items 13 + 2 s -/
theorem G_aaldS {i : Int32} (hd : decode cc pc = .ok (.aaload, 1)) (hin : vp_in i 4) (k : G wC own cc nL ret lev r μr (pc + 1) ls (.ref (12 + 2 * i.toNatClampNeg) :: st) μ) : G wC own cc nL ret lev r μr pc ls (.int i :: .ref 11 :: st) μ :=
  G_aald 11 4 (fun j => 12 + 2 * j) hd hin (by decide) (fun _ _ => rfl) k
theorem G_ialdS {i : Int32} {s : Nat} (hs : s < 4) (hd : decode cc pc = .ok (.iaload, 1)) (hin : vp_in i 60) (k : G wC own cc nL ret lev r μr (pc + 1) ls (.int (μ.1 (13 + 2 * s) i.toNatClampNeg) :: st) μ) : G wC own cc nL ret lev r μr pc ls (.int i :: .ref (13 + 2 * s) :: st) μ :=
  G_iald (13 + 2 * s) 60 hd hin (by show _ < 37; omega) (fun _ _ => ceC_I _ _ _ _ hs) k
theorem G_iastS {i x : Int32} {s : Nat} (hs : s < 4) (hd : decode cc pc = .ok (.iastore, 1)) (hin : vp_in i 60) (k : G wC own cc nL ret lev r μr (pc + 1) ls st (wI μ (13 + 2 * s) i.toNatClampNeg x)) : G wC own cc nL ret lev r μr pc ls (.int x :: .int i :: .ref (13 + 2 * s) :: st) μ :=
  G_iast (13 + 2 * s) 60 hd hin (by show _ < 37; omega) (fun _ _ _ => ceC_I _ _ _ _ hs) k
theorem G_getS {idx : Nat} {s : Nat} (hs : s < 4) (j : Nat) (v : Value) (hd : decode cc pc = .ok (.getfield idx, 3)) (hf : FL own idx TX4 j) (hj : j < 3) (hv : ∀ ad : Ad, ([.ref (ad (13 + 2 * s)), .int (μ.1 (12 + 2 * s) 1), .int (μ.1 (12 + 2 * s) 2)] : List Value)[j]? = some (tr ad v)) (k : G wC own cc nL ret lev r μr (pc + 3) ls (v :: st) μ) : G wC own cc nL ret lev r μr pc ls (.ref (12 + 2 * s) :: st) μ :=
  G_get (12 + 2 * s) 4 j v hd hf (fun x hx => lg_of (inX4 x hx) (List.all_eq_true.mp (show wsX40.all goodWord = true by decide +kernel) x hx)) rfl hj (by show _ < 37; omega) (fun ad cs => ⟨_, ceC_S ad cs _ _ hs, hv ad⟩) k
theorem G_putS {idx : Nat} {s : Nat} (hs : s < 4) (j : Nat) {x : Int32} (hd : decode cc pc = .ok (.putfield idx, 3)) (hf : FL own idx TX4 j) (hj : j = 1 ∨ j = 2) (k : G wC own cc nL ret lev r μr (pc + 3) ls st (wI μ (12 + 2 * s) j x)) : G wC own cc nL ret lev r μr pc ls (.int x :: .ref (12 + 2 * s) :: st) μ := by
  have hin : ∀ y ∈ wsX40, y ∈ lw_g := fun y hy => lg_of (inX4 y hy) (List.all_eq_true.mp (show wsX40.all goodWord = true by decide +kernel) y hy)
  rcases hj with rfl | rfl
  · exact G_put (12 + 2 * s) 4 1 x .int hd hf hin tyX4_ok nmX4 rfl (by decide) rfl (by decide +kernel) rfl rfl (by show _ < 37; omega) (fun ad cs => ⟨_, ceC_S ad cs _ _ hs, Nat.le_of_ble_eq_true rfl, (ceC_S ad cs _ _ hs).trans rfl⟩) k
  · exact G_put (12 + 2 * s) 4 2 x .int hd hf hin tyX4_ok nmX4 rfl (by decide) rfl (by decide +kernel) rfl rfl (by show _ < 37; omega) (fun ad cs => ⟨_, ceC_S ad cs _ _ hs, Nat.le_of_ble_eq_true rfl, (ceC_S ad cs _ _ hs).trans rfl⟩) k
theorem G_cellS {s : Nat} (hs : s < 4) (μ : Mm) : ∀ (ad : Ad) (cs : Cs), ∃ fs, wC.2 ad cs (μ.1 (12 + 2 * s)) (μ.2 (12 + 2 * s)) (12 + 2 * s) = .inr (4, fs) := fun ad cs => ⟨_, ceC_S ad cs _ _ hs⟩
theorem S_lt {s : Nat} (hs : s < 4) : 12 + 2 * s < wC.1 := by show _ < 37; omega
theorem I_lt {s : Nat} (hs : s < 4) : 13 + 2 * s < wC.1 := by show _ < 37; omega

theorem alwC_2 {i : Int32} (hd : decode cc pc = .ok (.iaload, 1)) (hin : vp_in i 39) (k : G wC own cc nL ret lev r μr (pc + 1) ls (.int (μ.1 2 i.toNatClampNeg) :: st) μ) : G wC own cc nL ret lev r μr pc ls (.int i :: .ref 2 :: st) μ := G_iald 2 39 hd hin (by decide) (fun _ _ => rfl) k
theorem aswC_2 {i x : Int32} (hd : decode cc pc = .ok (.iastore, 1)) (hin : vp_in i 39) (k : G wC own cc nL ret lev r μr (pc + 1) ls st (wI μ 2 i.toNatClampNeg x)) : G wC own cc nL ret lev r μr pc ls (.int x :: .int i :: .ref 2 :: st) μ := G_iast 2 39 hd hin (by decide) (fun _ _ _ => rfl) k
theorem alwC_4 {i : Int32} (hd : decode cc pc = .ok (.iaload, 1)) (hin : vp_in i 15) (k : G wC own cc nL ret lev r μr (pc + 1) ls (.int (μ.1 4 i.toNatClampNeg) :: st) μ) : G wC own cc nL ret lev r μr pc ls (.int i :: .ref 4 :: st) μ := G_iald 4 15 hd hin (by decide) (fun _ _ => rfl) k
theorem aswC_4 {i x : Int32} (hd : decode cc pc = .ok (.iastore, 1)) (hin : vp_in i 15) (k : G wC own cc nL ret lev r μr (pc + 1) ls st (wI μ 4 i.toNatClampNeg x)) : G wC own cc nL ret lev r μr pc ls (.int x :: .int i :: .ref 4 :: st) μ := G_iast 4 15 hd hin (by decide) (fun _ _ _ => rfl) k
theorem alwC_6 {i : Int32} (hd : decode cc pc = .ok (.iaload, 1)) (hin : vp_in i 12) (k : G wC own cc nL ret lev r μr (pc + 1) ls (.int (μ.1 6 i.toNatClampNeg) :: st) μ) : G wC own cc nL ret lev r μr pc ls (.int i :: .ref 6 :: st) μ := G_iald 6 12 hd hin (by decide) (fun _ _ => rfl) k
theorem aswC_6 {i x : Int32} (hd : decode cc pc = .ok (.iastore, 1)) (hin : vp_in i 12) (k : G wC own cc nL ret lev r μr (pc + 1) ls st (wI μ 6 i.toNatClampNeg x)) : G wC own cc nL ret lev r μr pc ls (.int x :: .int i :: .ref 6 :: st) μ := G_iast 6 12 hd hin (by decide) (fun _ _ _ => rfl) k
theorem alwC_8 {i : Int32} (hd : decode cc pc = .ok (.iaload, 1)) (hin : vp_in i 24) (k : G wC own cc nL ret lev r μr (pc + 1) ls (.int (μ.1 8 i.toNatClampNeg) :: st) μ) : G wC own cc nL ret lev r μr pc ls (.int i :: .ref 8 :: st) μ := G_iald 8 24 hd hin (by decide) (fun _ _ => rfl) k
theorem aswC_8 {i x : Int32} (hd : decode cc pc = .ok (.iastore, 1)) (hin : vp_in i 24) (k : G wC own cc nL ret lev r μr (pc + 1) ls st (wI μ 8 i.toNatClampNeg x)) : G wC own cc nL ret lev r μr pc ls (.int x :: .int i :: .ref 8 :: st) μ := G_iast 8 24 hd hin (by decide) (fun _ _ _ => rfl) k
theorem alwC_10 {i : Int32} (hd : decode cc pc = .ok (.iaload, 1)) (hin : vp_in i 24) (k : G wC own cc nL ret lev r μr (pc + 1) ls (.int (μ.1 10 i.toNatClampNeg) :: st) μ) : G wC own cc nL ret lev r μr pc ls (.int i :: .ref 10 :: st) μ := G_iald 10 24 hd hin (by decide) (fun _ _ => rfl) k
theorem aswC_10 {i x : Int32} (hd : decode cc pc = .ok (.iastore, 1)) (hin : vp_in i 24) (k : G wC own cc nL ret lev r μr (pc + 1) ls st (wI μ 10 i.toNatClampNeg x)) : G wC own cc nL ret lev r μr pc ls (.int x :: .int i :: .ref 10 :: st) μ := G_iast 10 24 hd hin (by decide) (fun _ _ _ => rfl) k
theorem alwC_13 {i : Int32} (hd : decode cc pc = .ok (.iaload, 1)) (hin : vp_in i 60) (k : G wC own cc nL ret lev r μr (pc + 1) ls (.int (μ.1 13 i.toNatClampNeg) :: st) μ) : G wC own cc nL ret lev r μr pc ls (.int i :: .ref 13 :: st) μ := G_iald 13 60 hd hin (by decide) (fun _ _ => rfl) k
theorem aswC_13 {i x : Int32} (hd : decode cc pc = .ok (.iastore, 1)) (hin : vp_in i 60) (k : G wC own cc nL ret lev r μr (pc + 1) ls st (wI μ 13 i.toNatClampNeg x)) : G wC own cc nL ret lev r μr pc ls (.int x :: .int i :: .ref 13 :: st) μ := G_iast 13 60 hd hin (by decide) (fun _ _ _ => rfl) k
theorem alwC_15 {i : Int32} (hd : decode cc pc = .ok (.iaload, 1)) (hin : vp_in i 60) (k : G wC own cc nL ret lev r μr (pc + 1) ls (.int (μ.1 15 i.toNatClampNeg) :: st) μ) : G wC own cc nL ret lev r μr pc ls (.int i :: .ref 15 :: st) μ := G_iald 15 60 hd hin (by decide) (fun _ _ => rfl) k
theorem aswC_15 {i x : Int32} (hd : decode cc pc = .ok (.iastore, 1)) (hin : vp_in i 60) (k : G wC own cc nL ret lev r μr (pc + 1) ls st (wI μ 15 i.toNatClampNeg x)) : G wC own cc nL ret lev r μr pc ls (.int x :: .int i :: .ref 15 :: st) μ := G_iast 15 60 hd hin (by decide) (fun _ _ _ => rfl) k
theorem alwC_17 {i : Int32} (hd : decode cc pc = .ok (.iaload, 1)) (hin : vp_in i 60) (k : G wC own cc nL ret lev r μr (pc + 1) ls (.int (μ.1 17 i.toNatClampNeg) :: st) μ) : G wC own cc nL ret lev r μr pc ls (.int i :: .ref 17 :: st) μ := G_iald 17 60 hd hin (by decide) (fun _ _ => rfl) k
theorem aswC_17 {i x : Int32} (hd : decode cc pc = .ok (.iastore, 1)) (hin : vp_in i 60) (k : G wC own cc nL ret lev r μr (pc + 1) ls st (wI μ 17 i.toNatClampNeg x)) : G wC own cc nL ret lev r μr pc ls (.int x :: .int i :: .ref 17 :: st) μ := G_iast 17 60 hd hin (by decide) (fun _ _ _ => rfl) k
theorem alwC_19 {i : Int32} (hd : decode cc pc = .ok (.iaload, 1)) (hin : vp_in i 60) (k : G wC own cc nL ret lev r μr (pc + 1) ls (.int (μ.1 19 i.toNatClampNeg) :: st) μ) : G wC own cc nL ret lev r μr pc ls (.int i :: .ref 19 :: st) μ := G_iald 19 60 hd hin (by decide) (fun _ _ => rfl) k
theorem aswC_19 {i x : Int32} (hd : decode cc pc = .ok (.iastore, 1)) (hin : vp_in i 60) (k : G wC own cc nL ret lev r μr (pc + 1) ls st (wI μ 19 i.toNatClampNeg x)) : G wC own cc nL ret lev r μr pc ls (.int x :: .int i :: .ref 19 :: st) μ := G_iast 19 60 hd hin (by decide) (fun _ _ _ => rfl) k
theorem alwC_21 {i : Int32} (hd : decode cc pc = .ok (.iaload, 1)) (hin : vp_in i 10) (k : G wC own cc nL ret lev r μr (pc + 1) ls (.int (μ.1 21 i.toNatClampNeg) :: st) μ) : G wC own cc nL ret lev r μr pc ls (.int i :: .ref 21 :: st) μ := G_iald 21 10 hd hin (by decide) (fun _ _ => rfl) k
theorem aswC_21 {i x : Int32} (hd : decode cc pc = .ok (.iastore, 1)) (hin : vp_in i 10) (k : G wC own cc nL ret lev r μr (pc + 1) ls st (wI μ 21 i.toNatClampNeg x)) : G wC own cc nL ret lev r μr pc ls (.int x :: .int i :: .ref 21 :: st) μ := G_iast 21 10 hd hin (by decide) (fun _ _ _ => rfl) k
theorem alwC_22 {i : Int32} (hd : decode cc pc = .ok (.iaload, 1)) (hin : vp_in i 10) (k : G wC own cc nL ret lev r μr (pc + 1) ls (.int (μ.1 22 i.toNatClampNeg) :: st) μ) : G wC own cc nL ret lev r μr pc ls (.int i :: .ref 22 :: st) μ := G_iald 22 10 hd hin (by decide) (fun _ _ => rfl) k
theorem aswC_22 {i x : Int32} (hd : decode cc pc = .ok (.iastore, 1)) (hin : vp_in i 10) (k : G wC own cc nL ret lev r μr (pc + 1) ls st (wI μ 22 i.toNatClampNeg x)) : G wC own cc nL ret lev r μr pc ls (.int x :: .int i :: .ref 22 :: st) μ := G_iast 22 10 hd hin (by decide) (fun _ _ _ => rfl) k
theorem alwC_23 {i : Int32} (hd : decode cc pc = .ok (.iaload, 1)) (hin : vp_in i 10) (k : G wC own cc nL ret lev r μr (pc + 1) ls (.int (μ.1 23 i.toNatClampNeg) :: st) μ) : G wC own cc nL ret lev r μr pc ls (.int i :: .ref 23 :: st) μ := G_iald 23 10 hd hin (by decide) (fun _ _ => rfl) k
theorem aswC_23 {i x : Int32} (hd : decode cc pc = .ok (.iastore, 1)) (hin : vp_in i 10) (k : G wC own cc nL ret lev r μr (pc + 1) ls st (wI μ 23 i.toNatClampNeg x)) : G wC own cc nL ret lev r μr pc ls (.int x :: .int i :: .ref 23 :: st) μ := G_iast 23 10 hd hin (by decide) (fun _ _ _ => rfl) k
theorem alwC_24 {i : Int32} (hd : decode cc pc = .ok (.iaload, 1)) (hin : vp_in i 4) (k : G wC own cc nL ret lev r μr (pc + 1) ls (.int (μ.1 24 i.toNatClampNeg) :: st) μ) : G wC own cc nL ret lev r μr pc ls (.int i :: .ref 24 :: st) μ := G_iald 24 4 hd hin (by decide) (fun _ _ => rfl) k
theorem aswC_24 {i x : Int32} (hd : decode cc pc = .ok (.iastore, 1)) (hin : vp_in i 4) (k : G wC own cc nL ret lev r μr (pc + 1) ls st (wI μ 24 i.toNatClampNeg x)) : G wC own cc nL ret lev r μr pc ls (.int x :: .int i :: .ref 24 :: st) μ := G_iast 24 4 hd hin (by decide) (fun _ _ _ => rfl) k
theorem alwC_25 {i : Int32} (hd : decode cc pc = .ok (.iaload, 1)) (hin : vp_in i 4) (k : G wC own cc nL ret lev r μr (pc + 1) ls (.int (μ.1 25 i.toNatClampNeg) :: st) μ) : G wC own cc nL ret lev r μr pc ls (.int i :: .ref 25 :: st) μ := G_iald 25 4 hd hin (by decide) (fun _ _ => rfl) k
theorem aswC_25 {i x : Int32} (hd : decode cc pc = .ok (.iastore, 1)) (hin : vp_in i 4) (k : G wC own cc nL ret lev r μr (pc + 1) ls st (wI μ 25 i.toNatClampNeg x)) : G wC own cc nL ret lev r μr pc ls (.int x :: .int i :: .ref 25 :: st) μ := G_iast 25 4 hd hin (by decide) (fun _ _ _ => rfl) k
theorem alwC_26 {i : Int32} (hd : decode cc pc = .ok (.iaload, 1)) (hin : vp_in i 4) (k : G wC own cc nL ret lev r μr (pc + 1) ls (.int (μ.1 26 i.toNatClampNeg) :: st) μ) : G wC own cc nL ret lev r μr pc ls (.int i :: .ref 26 :: st) μ := G_iald 26 4 hd hin (by decide) (fun _ _ => rfl) k
theorem aswC_26 {i x : Int32} (hd : decode cc pc = .ok (.iastore, 1)) (hin : vp_in i 4) (k : G wC own cc nL ret lev r μr (pc + 1) ls st (wI μ 26 i.toNatClampNeg x)) : G wC own cc nL ret lev r μr pc ls (.int x :: .int i :: .ref 26 :: st) μ := G_iast 26 4 hd hin (by decide) (fun _ _ _ => rfl) k
theorem alwC_27 {i : Int32} (hd : decode cc pc = .ok (.iaload, 1)) (hin : vp_in i 12) (k : G wC own cc nL ret lev r μr (pc + 1) ls (.int (μ.1 27 i.toNatClampNeg) :: st) μ) : G wC own cc nL ret lev r μr pc ls (.int i :: .ref 27 :: st) μ := G_iald 27 12 hd hin (by decide) (fun _ _ => rfl) k
theorem aswC_27 {i x : Int32} (hd : decode cc pc = .ok (.iastore, 1)) (hin : vp_in i 12) (k : G wC own cc nL ret lev r μr (pc + 1) ls st (wI μ 27 i.toNatClampNeg x)) : G wC own cc nL ret lev r μr pc ls (.int x :: .int i :: .ref 27 :: st) μ := G_iast 27 12 hd hin (by decide) (fun _ _ _ => rfl) k
theorem alwC_29 {i : Int32} (hd : decode cc pc = .ok (.iaload, 1)) (hin : vp_in i 10) (k : G wC own cc nL ret lev r μr (pc + 1) ls (.int (μ.1 29 i.toNatClampNeg) :: st) μ) : G wC own cc nL ret lev r μr pc ls (.int i :: .ref 29 :: st) μ := G_iald 29 10 hd hin (by decide) (fun _ _ => rfl) k
theorem aswC_29 {i x : Int32} (hd : decode cc pc = .ok (.iastore, 1)) (hin : vp_in i 10) (k : G wC own cc nL ret lev r μr (pc + 1) ls st (wI μ 29 i.toNatClampNeg x)) : G wC own cc nL ret lev r μr pc ls (.int x :: .int i :: .ref 29 :: st) μ := G_iast 29 10 hd hin (by decide) (fun _ _ _ => rfl) k
theorem alwC_30 {i : Int32} (hd : decode cc pc = .ok (.iaload, 1)) (hin : vp_in i 10) (k : G wC own cc nL ret lev r μr (pc + 1) ls (.int (μ.1 30 i.toNatClampNeg) :: st) μ) : G wC own cc nL ret lev r μr pc ls (.int i :: .ref 30 :: st) μ := G_iald 30 10 hd hin (by decide) (fun _ _ => rfl) k
theorem aswC_30 {i x : Int32} (hd : decode cc pc = .ok (.iastore, 1)) (hin : vp_in i 10) (k : G wC own cc nL ret lev r μr (pc + 1) ls st (wI μ 30 i.toNatClampNeg x)) : G wC own cc nL ret lev r μr pc ls (.int x :: .int i :: .ref 30 :: st) μ := G_iast 30 10 hd hin (by decide) (fun _ _ _ => rfl) k
theorem alwC_31 {i : Int32} (hd : decode cc pc = .ok (.iaload, 1)) (hin : vp_in i 10) (k : G wC own cc nL ret lev r μr (pc + 1) ls (.int (μ.1 31 i.toNatClampNeg) :: st) μ) : G wC own cc nL ret lev r μr pc ls (.int i :: .ref 31 :: st) μ := G_iald 31 10 hd hin (by decide) (fun _ _ => rfl) k
theorem aswC_31 {i x : Int32} (hd : decode cc pc = .ok (.iastore, 1)) (hin : vp_in i 10) (k : G wC own cc nL ret lev r μr (pc + 1) ls st (wI μ 31 i.toNatClampNeg x)) : G wC own cc nL ret lev r μr pc ls (.int x :: .int i :: .ref 31 :: st) μ := G_iast 31 10 hd hin (by decide) (fun _ _ _ => rfl) k
theorem alwC_32 {i : Int32} (hd : decode cc pc = .ok (.iaload, 1)) (hin : vp_in i 10) (k : G wC own cc nL ret lev r μr (pc + 1) ls (.int (μ.1 32 i.toNatClampNeg) :: st) μ) : G wC own cc nL ret lev r μr pc ls (.int i :: .ref 32 :: st) μ := G_iald 32 10 hd hin (by decide) (fun _ _ => rfl) k
theorem aswC_32 {i x : Int32} (hd : decode cc pc = .ok (.iastore, 1)) (hin : vp_in i 10) (k : G wC own cc nL ret lev r μr (pc + 1) ls st (wI μ 32 i.toNatClampNeg x)) : G wC own cc nL ret lev r μr pc ls (.int x :: .int i :: .ref 32 :: st) μ := G_iast 32 10 hd hin (by decide) (fun _ _ _ => rfl) k
theorem alwC_33 {i : Int32} (hd : decode cc pc = .ok (.iaload, 1)) (hin : vp_in i 36) (k : G wC own cc nL ret lev r μr (pc + 1) ls (.int (μ.1 33 i.toNatClampNeg) :: st) μ) : G wC own cc nL ret lev r μr pc ls (.int i :: .ref 33 :: st) μ := G_iald 33 36 hd hin (by decide) (fun _ _ => rfl) k
theorem aswC_33 {i x : Int32} (hd : decode cc pc = .ok (.iastore, 1)) (hin : vp_in i 36) (k : G wC own cc nL ret lev r μr (pc + 1) ls st (wI μ 33 i.toNatClampNeg x)) : G wC own cc nL ret lev r μr pc ls (.int x :: .int i :: .ref 33 :: st) μ := G_iast 33 36 hd hin (by decide) (fun _ _ _ => rfl) k
theorem alwC_35 {i : Int32} (hd : decode cc pc = .ok (.laload, 1)) (hin : vp_in i 10) (k : G wC own cc nL ret lev r μr (pc + 1) ls (.long (μ.2 35 i.toNatClampNeg) :: st) μ) : G wC own cc nL ret lev r μr pc ls (.int i :: .ref 35 :: st) μ := G_lald 35 10 hd hin (by decide) (fun _ _ => rfl) k
theorem aswC_35 {i : Int32} {x : Int64} (hd : decode cc pc = .ok (.lastore, 1)) (hin : vp_in i 10) (k : G wC own cc nL ret lev r μr (pc + 1) ls st (wL μ 35 i.toNatClampNeg x)) : G wC own cc nL ret lev r μr pc ls (.long x :: .int i :: .ref 35 :: st) μ := G_last 35 10 hd hin (by decide) (fun _ _ _ => rfl) k
theorem alwC_36 {i : Int32} (hd : decode cc pc = .ok (.iaload, 1)) (hin : vp_in i 48) (k : G wC own cc nL ret lev r μr (pc + 1) ls (.int (μ.1 36 i.toNatClampNeg) :: st) μ) : G wC own cc nL ret lev r μr pc ls (.int i :: .ref 36 :: st) μ := G_iald 36 48 hd hin (by decide) (fun _ _ => rfl) k
theorem aswC_36 {i x : Int32} (hd : decode cc pc = .ok (.iastore, 1)) (hin : vp_in i 48) (k : G wC own cc nL ret lev r μr (pc + 1) ls st (wI μ 36 i.toNatClampNeg x)) : G wC own cc nL ret lev r μr pc ls (.int x :: .int i :: .ref 36 :: st) μ := G_iast 36 48 hd hin (by decide) (fun _ _ _ => rfl) k
theorem alwM_1 {i : Int32} (hd : decode cc pc = .ok (.iaload, 1)) (hin : vp_in i 4) (k : G wM own cc nL ret lev r μr (pc + 1) ls (.int (μ.1 1 i.toNatClampNeg) :: st) μ) : G wM own cc nL ret lev r μr pc ls (.int i :: .ref 1 :: st) μ := G_iald 1 4 hd hin (by decide) (fun _ _ => rfl) k
theorem aswM_1 {i x : Int32} (hd : decode cc pc = .ok (.iastore, 1)) (hin : vp_in i 4) (k : G wM own cc nL ret lev r μr (pc + 1) ls st (wI μ 1 i.toNatClampNeg x)) : G wM own cc nL ret lev r μr pc ls (.int x :: .int i :: .ref 1 :: st) μ := G_iast 1 4 hd hin (by decide) (fun _ _ _ => rfl) k
theorem alwM_2 {i : Int32} (hd : decode cc pc = .ok (.iaload, 1)) (hin : vp_in i 4) (k : G wM own cc nL ret lev r μr (pc + 1) ls (.int (μ.1 2 i.toNatClampNeg) :: st) μ) : G wM own cc nL ret lev r μr pc ls (.int i :: .ref 2 :: st) μ := G_iald 2 4 hd hin (by decide) (fun _ _ => rfl) k
theorem aswM_2 {i x : Int32} (hd : decode cc pc = .ok (.iastore, 1)) (hin : vp_in i 4) (k : G wM own cc nL ret lev r μr (pc + 1) ls st (wI μ 2 i.toNatClampNeg x)) : G wM own cc nL ret lev r μr pc ls (.int x :: .int i :: .ref 2 :: st) μ := G_iast 2 4 hd hin (by decide) (fun _ _ _ => rfl) k
theorem alwM_3 {i : Int32} (hd : decode cc pc = .ok (.iaload, 1)) (hin : vp_in i 240) (k : G wM own cc nL ret lev r μr (pc + 1) ls (.int (μ.1 3 i.toNatClampNeg) :: st) μ) : G wM own cc nL ret lev r μr pc ls (.int i :: .ref 3 :: st) μ := G_iald 3 240 hd hin (by decide) (fun _ _ => rfl) k
theorem aswM_3 {i x : Int32} (hd : decode cc pc = .ok (.iastore, 1)) (hin : vp_in i 240) (k : G wM own cc nL ret lev r μr (pc + 1) ls st (wI μ 3 i.toNatClampNeg x)) : G wM own cc nL ret lev r μr pc ls (.int x :: .int i :: .ref 3 :: st) μ := G_iast 3 240 hd hin (by decide) (fun _ _ _ => rfl) k
theorem alwM_4 {i : Int32} (hd : decode cc pc = .ok (.iaload, 1)) (hin : vp_in i 60) (k : G wM own cc nL ret lev r μr (pc + 1) ls (.int (μ.1 4 i.toNatClampNeg) :: st) μ) : G wM own cc nL ret lev r μr pc ls (.int i :: .ref 4 :: st) μ := G_iald 4 60 hd hin (by decide) (fun _ _ => rfl) k
theorem aswM_4 {i x : Int32} (hd : decode cc pc = .ok (.iastore, 1)) (hin : vp_in i 60) (k : G wM own cc nL ret lev r μr (pc + 1) ls st (wI μ 4 i.toNatClampNeg x)) : G wM own cc nL ret lev r μr pc ls (.int x :: .int i :: .ref 4 :: st) μ := G_iast 4 60 hd hin (by decide) (fun _ _ _ => rfl) k
theorem alwM_5 {i : Int32} (hd : decode cc pc = .ok (.iaload, 1)) (hin : vp_in i 120) (k : G wM own cc nL ret lev r μr (pc + 1) ls (.int (μ.1 5 i.toNatClampNeg) :: st) μ) : G wM own cc nL ret lev r μr pc ls (.int i :: .ref 5 :: st) μ := G_iald 5 120 hd hin (by decide) (fun _ _ => rfl) k
theorem aswM_5 {i x : Int32} (hd : decode cc pc = .ok (.iastore, 1)) (hin : vp_in i 120) (k : G wM own cc nL ret lev r μr (pc + 1) ls st (wI μ 5 i.toNatClampNeg x)) : G wM own cc nL ret lev r μr pc ls (.int x :: .int i :: .ref 5 :: st) μ := G_iast 5 120 hd hin (by decide) (fun _ _ _ => rfl) k
theorem alwM_6 {i : Int32} (hd : decode cc pc = .ok (.iaload, 1)) (hin : vp_in i 3) (k : G wM own cc nL ret lev r μr (pc + 1) ls (.int (μ.1 6 i.toNatClampNeg) :: st) μ) : G wM own cc nL ret lev r μr pc ls (.int i :: .ref 6 :: st) μ := G_iald 6 3 hd hin (by decide) (fun _ _ => rfl) k
theorem aswM_6 {i x : Int32} (hd : decode cc pc = .ok (.iastore, 1)) (hin : vp_in i 3) (k : G wM own cc nL ret lev r μr (pc + 1) ls st (wI μ 6 i.toNatClampNeg x)) : G wM own cc nL ret lev r μr pc ls (.int x :: .int i :: .ref 6 :: st) μ := G_iast 6 3 hd hin (by decide) (fun _ _ _ => rfl) k
theorem alwM_7 {i : Int32} (hd : decode cc pc = .ok (.iaload, 1)) (hin : vp_in i 30) (k : G wM own cc nL ret lev r μr (pc + 1) ls (.int (μ.1 7 i.toNatClampNeg) :: st) μ) : G wM own cc nL ret lev r μr pc ls (.int i :: .ref 7 :: st) μ := G_iald 7 30 hd hin (by decide) (fun _ _ => rfl) k
theorem aswM_7 {i x : Int32} (hd : decode cc pc = .ok (.iastore, 1)) (hin : vp_in i 30) (k : G wM own cc nL ret lev r μr (pc + 1) ls st (wI μ 7 i.toNatClampNeg x)) : G wM own cc nL ret lev r μr pc ls (.int x :: .int i :: .ref 7 :: st) μ := G_iast 7 30 hd hin (by decide) (fun _ _ _ => rfl) k
theorem alwM_8 {i : Int32} (hd : decode cc pc = .ok (.iaload, 1)) (hin : vp_in i 12) (k : G wM own cc nL ret lev r μr (pc + 1) ls (.int (μ.1 8 i.toNatClampNeg) :: st) μ) : G wM own cc nL ret lev r μr pc ls (.int i :: .ref 8 :: st) μ := G_iald 8 12 hd hin (by decide) (fun _ _ => rfl) k
theorem aswM_8 {i x : Int32} (hd : decode cc pc = .ok (.iastore, 1)) (hin : vp_in i 12) (k : G wM own cc nL ret lev r μr (pc + 1) ls st (wI μ 8 i.toNatClampNeg x)) : G wM own cc nL ret lev r μr pc ls (.int x :: .int i :: .ref 8 :: st) μ := G_iast 8 12 hd hin (by decide) (fun _ _ _ => rfl) k
theorem alwM_9 {i : Int32} (hd : decode cc pc = .ok (.iaload, 1)) (hin : vp_in i 12) (k : G wM own cc nL ret lev r μr (pc + 1) ls (.int (μ.1 9 i.toNatClampNeg) :: st) μ) : G wM own cc nL ret lev r μr pc ls (.int i :: .ref 9 :: st) μ := G_iald 9 12 hd hin (by decide) (fun _ _ => rfl) k
theorem aswM_9 {i x : Int32} (hd : decode cc pc = .ok (.iastore, 1)) (hin : vp_in i 12) (k : G wM own cc nL ret lev r μr (pc + 1) ls st (wI μ 9 i.toNatClampNeg x)) : G wM own cc nL ret lev r μr pc ls (.int x :: .int i :: .ref 9 :: st) μ := G_iast 9 12 hd hin (by decide) (fun _ _ _ => rfl) k
theorem alwM_10 {i : Int32} (hd : decode cc pc = .ok (.iaload, 1)) (hin : vp_in i 24) (k : G wM own cc nL ret lev r μr (pc + 1) ls (.int (μ.1 10 i.toNatClampNeg) :: st) μ) : G wM own cc nL ret lev r μr pc ls (.int i :: .ref 10 :: st) μ := G_iald 10 24 hd hin (by decide) (fun _ _ => rfl) k
theorem aswM_10 {i x : Int32} (hd : decode cc pc = .ok (.iastore, 1)) (hin : vp_in i 24) (k : G wM own cc nL ret lev r μr (pc + 1) ls st (wI μ 10 i.toNatClampNeg x)) : G wM own cc nL ret lev r μr pc ls (.int x :: .int i :: .ref 10 :: st) μ := G_iast 10 24 hd hin (by decide) (fun _ _ _ => rfl) k
theorem alwM_11 {i : Int32} (hd : decode cc pc = .ok (.iaload, 1)) (hin : vp_in i 10) (k : G wM own cc nL ret lev r μr (pc + 1) ls (.int (μ.1 11 i.toNatClampNeg) :: st) μ) : G wM own cc nL ret lev r μr pc ls (.int i :: .ref 11 :: st) μ := G_iald 11 10 hd hin (by decide) (fun _ _ => rfl) k
theorem aswM_11 {i x : Int32} (hd : decode cc pc = .ok (.iastore, 1)) (hin : vp_in i 10) (k : G wM own cc nL ret lev r μr (pc + 1) ls st (wI μ 11 i.toNatClampNeg x)) : G wM own cc nL ret lev r μr pc ls (.int x :: .int i :: .ref 11 :: st) μ := G_iast 11 10 hd hin (by decide) (fun _ _ _ => rfl) k
theorem alwM_12 {i : Int32} (hd : decode cc pc = .ok (.iaload, 1)) (hin : vp_in i 10) (k : G wM own cc nL ret lev r μr (pc + 1) ls (.int (μ.1 12 i.toNatClampNeg) :: st) μ) : G wM own cc nL ret lev r μr pc ls (.int i :: .ref 12 :: st) μ := G_iald 12 10 hd hin (by decide) (fun _ _ => rfl) k
theorem aswM_12 {i x : Int32} (hd : decode cc pc = .ok (.iastore, 1)) (hin : vp_in i 10) (k : G wM own cc nL ret lev r μr (pc + 1) ls st (wI μ 12 i.toNatClampNeg x)) : G wM own cc nL ret lev r μr pc ls (.int x :: .int i :: .ref 12 :: st) μ := G_iast 12 10 hd hin (by decide) (fun _ _ _ => rfl) k
theorem alwM_13 {i : Int32} (hd : decode cc pc = .ok (.iaload, 1)) (hin : vp_in i 10) (k : G wM own cc nL ret lev r μr (pc + 1) ls (.int (μ.1 13 i.toNatClampNeg) :: st) μ) : G wM own cc nL ret lev r μr pc ls (.int i :: .ref 13 :: st) μ := G_iald 13 10 hd hin (by decide) (fun _ _ => rfl) k
theorem aswM_13 {i x : Int32} (hd : decode cc pc = .ok (.iastore, 1)) (hin : vp_in i 10) (k : G wM own cc nL ret lev r μr (pc + 1) ls st (wI μ 13 i.toNatClampNeg x)) : G wM own cc nL ret lev r μr pc ls (.int x :: .int i :: .ref 13 :: st) μ := G_iast 13 10 hd hin (by decide) (fun _ _ _ => rfl) k
theorem alwM_14 {i : Int32} (hd : decode cc pc = .ok (.baload, 1)) (hin : vp_in i 10) (k : G wM own cc nL ret lev r μr (pc + 1) ls (.int (μ.1 14 i.toNatClampNeg) :: st) μ) : G wM own cc nL ret lev r μr pc ls (.int i :: .ref 14 :: st) μ := G_zald 14 10 hd hin (by decide) (fun _ _ => rfl) k
theorem aswM_14 {i x : Int32} (hd : decode cc pc = .ok (.bastore, 1)) (hin : vp_in i 10) (hx : x = 0 ∨ x = 1) (k : G wM own cc nL ret lev r μr (pc + 1) ls st (wI μ 14 i.toNatClampNeg x)) : G wM own cc nL ret lev r μr pc ls (.int x :: .int i :: .ref 14 :: st) μ := G_zast 14 10 hd hin hx (by decide) (fun _ _ _ => rfl) k
theorem alwM_15 {i : Int32} (hd : decode cc pc = .ok (.iaload, 1)) (hin : vp_in i 10) (k : G wM own cc nL ret lev r μr (pc + 1) ls (.int (μ.1 15 i.toNatClampNeg) :: st) μ) : G wM own cc nL ret lev r μr pc ls (.int i :: .ref 15 :: st) μ := G_iald 15 10 hd hin (by decide) (fun _ _ => rfl) k
theorem aswM_15 {i x : Int32} (hd : decode cc pc = .ok (.iastore, 1)) (hin : vp_in i 10) (k : G wM own cc nL ret lev r μr (pc + 1) ls st (wI μ 15 i.toNatClampNeg x)) : G wM own cc nL ret lev r μr pc ls (.int x :: .int i :: .ref 15 :: st) μ := G_iast 15 10 hd hin (by decide) (fun _ _ _ => rfl) k
theorem alwM_16 {i : Int32} (hd : decode cc pc = .ok (.baload, 1)) (hin : vp_in i 10) (k : G wM own cc nL ret lev r μr (pc + 1) ls (.int (μ.1 16 i.toNatClampNeg) :: st) μ) : G wM own cc nL ret lev r μr pc ls (.int i :: .ref 16 :: st) μ := G_zald 16 10 hd hin (by decide) (fun _ _ => rfl) k
theorem aswM_16 {i x : Int32} (hd : decode cc pc = .ok (.bastore, 1)) (hin : vp_in i 10) (hx : x = 0 ∨ x = 1) (k : G wM own cc nL ret lev r μr (pc + 1) ls st (wI μ 16 i.toNatClampNeg x)) : G wM own cc nL ret lev r μr pc ls (.int x :: .int i :: .ref 16 :: st) μ := G_zast 16 10 hd hin hx (by decide) (fun _ _ _ => rfl) k
theorem alwM_17 {i : Int32} (hd : decode cc pc = .ok (.iaload, 1)) (hin : vp_in i 120) (k : G wM own cc nL ret lev r μr (pc + 1) ls (.int (μ.1 17 i.toNatClampNeg) :: st) μ) : G wM own cc nL ret lev r μr pc ls (.int i :: .ref 17 :: st) μ := G_iald 17 120 hd hin (by decide) (fun _ _ => rfl) k
theorem aswM_17 {i x : Int32} (hd : decode cc pc = .ok (.iastore, 1)) (hin : vp_in i 120) (k : G wM own cc nL ret lev r μr (pc + 1) ls st (wI μ 17 i.toNatClampNeg x)) : G wM own cc nL ret lev r μr pc ls (.int x :: .int i :: .ref 17 :: st) μ := G_iast 17 120 hd hin (by decide) (fun _ _ _ => rfl) k
theorem alwM_18 {i : Int32} (hd : decode cc pc = .ok (.iaload, 1)) (hin : vp_in i 120) (k : G wM own cc nL ret lev r μr (pc + 1) ls (.int (μ.1 18 i.toNatClampNeg) :: st) μ) : G wM own cc nL ret lev r μr pc ls (.int i :: .ref 18 :: st) μ := G_iald 18 120 hd hin (by decide) (fun _ _ => rfl) k
theorem aswM_18 {i x : Int32} (hd : decode cc pc = .ok (.iastore, 1)) (hin : vp_in i 120) (k : G wM own cc nL ret lev r μr (pc + 1) ls st (wI μ 18 i.toNatClampNeg x)) : G wM own cc nL ret lev r μr pc ls (.int x :: .int i :: .ref 18 :: st) μ := G_iast 18 120 hd hin (by decide) (fun _ _ _ => rfl) k
theorem alwM_19 {i : Int32} (hd : decode cc pc = .ok (.iaload, 1)) (hin : vp_in i 120) (k : G wM own cc nL ret lev r μr (pc + 1) ls (.int (μ.1 19 i.toNatClampNeg) :: st) μ) : G wM own cc nL ret lev r μr pc ls (.int i :: .ref 19 :: st) μ := G_iald 19 120 hd hin (by decide) (fun _ _ => rfl) k
theorem aswM_19 {i x : Int32} (hd : decode cc pc = .ok (.iastore, 1)) (hin : vp_in i 120) (k : G wM own cc nL ret lev r μr (pc + 1) ls st (wI μ 19 i.toNatClampNeg x)) : G wM own cc nL ret lev r μr pc ls (.int x :: .int i :: .ref 19 :: st) μ := G_iast 19 120 hd hin (by decide) (fun _ _ _ => rfl) k
theorem alwM_20 {i : Int32} (hd : decode cc pc = .ok (.iaload, 1)) (hin : vp_in i 120) (k : G wM own cc nL ret lev r μr (pc + 1) ls (.int (μ.1 20 i.toNatClampNeg) :: st) μ) : G wM own cc nL ret lev r μr pc ls (.int i :: .ref 20 :: st) μ := G_iald 20 120 hd hin (by decide) (fun _ _ => rfl) k
theorem aswM_20 {i x : Int32} (hd : decode cc pc = .ok (.iastore, 1)) (hin : vp_in i 120) (k : G wM own cc nL ret lev r μr (pc + 1) ls st (wI μ 20 i.toNatClampNeg x)) : G wM own cc nL ret lev r μr pc ls (.int x :: .int i :: .ref 20 :: st) μ := G_iast 20 120 hd hin (by decide) (fun _ _ _ => rfl) k
theorem alwM_21 {i : Int32} (hd : decode cc pc = .ok (.iaload, 1)) (hin : vp_in i 120) (k : G wM own cc nL ret lev r μr (pc + 1) ls (.int (μ.1 21 i.toNatClampNeg) :: st) μ) : G wM own cc nL ret lev r μr pc ls (.int i :: .ref 21 :: st) μ := G_iald 21 120 hd hin (by decide) (fun _ _ => rfl) k
theorem aswM_21 {i x : Int32} (hd : decode cc pc = .ok (.iastore, 1)) (hin : vp_in i 120) (k : G wM own cc nL ret lev r μr (pc + 1) ls st (wI μ 21 i.toNatClampNeg x)) : G wM own cc nL ret lev r μr pc ls (.int x :: .int i :: .ref 21 :: st) μ := G_iast 21 120 hd hin (by decide) (fun _ _ _ => rfl) k
theorem alwM_22 {i : Int32} (hd : decode cc pc = .ok (.iaload, 1)) (hin : vp_in i 36) (k : G wM own cc nL ret lev r μr (pc + 1) ls (.int (μ.1 22 i.toNatClampNeg) :: st) μ) : G wM own cc nL ret lev r μr pc ls (.int i :: .ref 22 :: st) μ := G_iald 22 36 hd hin (by decide) (fun _ _ => rfl) k
theorem aswM_22 {i x : Int32} (hd : decode cc pc = .ok (.iastore, 1)) (hin : vp_in i 36) (k : G wM own cc nL ret lev r μr (pc + 1) ls st (wI μ 22 i.toNatClampNeg x)) : G wM own cc nL ret lev r μr pc ls (.int x :: .int i :: .ref 22 :: st) μ := G_iast 22 36 hd hin (by decide) (fun _ _ _ => rfl) k
theorem alwM_23 {i : Int32} (hd : decode cc pc = .ok (.iaload, 1)) (hin : vp_in i 24) (k : G wM own cc nL ret lev r μr (pc + 1) ls (.int (μ.1 23 i.toNatClampNeg) :: st) μ) : G wM own cc nL ret lev r μr pc ls (.int i :: .ref 23 :: st) μ := G_iald 23 24 hd hin (by decide) (fun _ _ => rfl) k
theorem aswM_23 {i x : Int32} (hd : decode cc pc = .ok (.iastore, 1)) (hin : vp_in i 24) (k : G wM own cc nL ret lev r μr (pc + 1) ls st (wI μ 23 i.toNatClampNeg x)) : G wM own cc nL ret lev r μr pc ls (.int x :: .int i :: .ref 23 :: st) μ := G_iast 23 24 hd hin (by decide) (fun _ _ _ => rfl) k
theorem alwM_24 {i : Int32} (hd : decode cc pc = .ok (.iaload, 1)) (hin : vp_in i 120) (k : G wM own cc nL ret lev r μr (pc + 1) ls (.int (μ.1 24 i.toNatClampNeg) :: st) μ) : G wM own cc nL ret lev r μr pc ls (.int i :: .ref 24 :: st) μ := G_iald 24 120 hd hin (by decide) (fun _ _ => rfl) k
theorem aswM_24 {i x : Int32} (hd : decode cc pc = .ok (.iastore, 1)) (hin : vp_in i 120) (k : G wM own cc nL ret lev r μr (pc + 1) ls st (wI μ 24 i.toNatClampNeg x)) : G wM own cc nL ret lev r μr pc ls (.int x :: .int i :: .ref 24 :: st) μ := G_iast 24 120 hd hin (by decide) (fun _ _ _ => rfl) k
end GWorld
