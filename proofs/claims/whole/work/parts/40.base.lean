/-! Two memories side by side: what the lifted functions come to. -/
def Ev {α : Type} (o : Option α) (Q : α → Prop) : Prop := ∃ r, o = some r ∧ Q r
def E2 {α β : Type} (f : Option α) (g : Option β) (Q : α → β → Prop) : Prop := ∃ q r, f = some q ∧ g = some r ∧ Q q r
theorem Ev_some {α : Type} {r : α} {Q : α → Prop} (h : Q r) : Ev (some r) Q := ⟨r, rfl, h⟩
theorem Ev_bind {α β : Type} {f : Option α} {k : α → Option β} {Q' : α → Prop} {Q : β → Prop} (h : Ev f Q') (hk : ∀ r, Q' r → Ev (k r) Q) : Ev (f.bind k) Q := by
  obtain ⟨r, rfl, hr⟩ := h; exact hk r hr
theorem Ev_mono {α : Type} {f : Option α} {Q' Q : α → Prop} (h : Ev f Q') (hk : ∀ r, Q' r → Q r) : Ev f Q := by
  obtain ⟨r, rfl, hr⟩ := h; exact ⟨r, rfl, hk r hr⟩
theorem E2_some {α β : Type} {q : α} {r : β} {Q : α → β → Prop} (h : Q q r) : E2 (some q) (some r) Q := ⟨q, r, rfl, rfl, h⟩
theorem E2_bind {α β γ δ : Type} {f : Option α} {g : Option β} {k : α → Option γ} {k' : β → Option δ} {Q' : α → β → Prop} {Q : γ → δ → Prop} (h : E2 f g Q') (hk : ∀ q r, Q' q r → E2 (k q) (k' r) Q) : E2 (f.bind k) (g.bind k') Q := by
  obtain ⟨q, r, rfl, rfl, hr⟩ := h; exact hk q r hr
theorem E2_mono {α β : Type} {f : Option α} {g : Option β} {Q' Q : α → β → Prop} (h : E2 f g Q') (hk : ∀ q r, Q' q r → Q q r) : E2 f g Q := by
  obtain ⟨q, r, h1, h2, hr⟩ := h; exact ⟨q, r, h1, h2, hk q r hr⟩
theorem E2_l {α γ δ : Type} {f : Option α} {g : Option δ} {k : α → Option γ} {Q' : α → Prop} {Q : γ → δ → Prop} (h : Ev f Q') (hk : ∀ q, Q' q → E2 (k q) g Q) : E2 (f.bind k) g Q := by
  obtain ⟨q, rfl, hr⟩ := h; exact hk q hr
theorem E2_r {β γ δ : Type} {f : Option γ} {g : Option β} {k : β → Option δ} {Q' : β → Prop} {Q : γ → δ → Prop} (h : Ev g Q') (hk : ∀ q, Q' q → E2 f (k q) Q) : E2 f (g.bind k) Q := by
  obtain ⟨q, rfl, hr⟩ := h; exact hk q hr
theorem E2_of {α β : Type} {f : Option α} {g : Option β} {P : α → Prop} {P' : β → Prop} {Q : α → β → Prop} (h : Ev f P) (h' : Ev g P') (hk : ∀ q r, P q → P' r → Q q r) : E2 f g Q := by
  obtain ⟨q, e, hq⟩ := h; obtain ⟨r, e', hr⟩ := h'; exact ⟨q, r, e, e', hk q r hq hr⟩
theorem E2_lm {α β γ : Type} {f : Option α} {g : Option β} {k : α → Option γ} {Q' : α → β → Prop} {Q : γ → β → Prop} (h : E2 f g Q') (hk : ∀ q r, Q' q r → ∃ s, k q = some s ∧ Q s r) : E2 (f.bind k) g Q := by
  obtain ⟨q, r, rfl, h2, hr⟩ := h; obtain ⟨s, e, hs⟩ := hk q r hr; exact ⟨s, r, e, h2, hs⟩
theorem Ev_bindSome {α : Type} {f : Option α} {Q : α → Prop} (h : Ev f Q) : Ev (f.bind (fun q => some q)) Q := by
  obtain ⟨r, rfl, hr⟩ := h; exact ⟨r, rfl, hr⟩
theorem bindSome {α : Type} (f : Option α) : f.bind (fun q => some q) = f := by cases f <;> rfl
theorem bindPair {α β : Type} (f : Option (α × β)) : f.bind (fun q => some (q.1, q.2)) = f := by cases f <;> rfl
theorem bindS {α β : Type} (a : α) (k : α → Option β) : (some a).bind k = k a := rfl
/-- one loop: the index counts up to N, and index and fuel make c together -/
theorem For1 {σ ρ : Type} (L : Nat → Nat → σ → Option ρ) (N c : Nat) (I : Nat → σ → Prop) (Z : Option ρ → Prop)
    (hx : ∀ n s, n + 1 + N = c → I N s → Z (L (n + 1) N s))
    (hs : ∀ n i s, n + 1 + i = c → i < N → I i s → (∀ s', I (i + 1) s' → Z (L n (i + 1) s')) → Z (L (n + 1) i s)) :
    ∀ i s n, I i s → i ≤ N → n + i = c → N < c → Z (L n i s) := by
  have key : ∀ d i s n, I i s → i ≤ N → N - i = d → n + i = c → N < c → Z (L n i s) := by
    intro d
    induction d with
    | zero =>
      intro i s n h h1 h2 h3 h4
      obtain ⟨m, rfl⟩ : ∃ m, n = m + 1 := ⟨n - 1, by omega⟩
      have : i = N := by omega
      subst this
      exact hx m s h3 h
    | succ d ih =>
      intro i s n h h1 h2 h3 h4
      obtain ⟨m, rfl⟩ : ∃ m, n = m + 1 := ⟨n - 1, by omega⟩
      exact hs m i s h3 (by omega) h (fun s' h' => ih (i + 1) s' m h' (by omega) (by omega) (by omega) h4)
  intro i s n h h1 h2 h3
  exact key (N - i) i s n h h1 rfl h2 h3
/-- two loops in step -/
theorem For2 {σ τ ρ ρ' : Type} (L : Nat → Nat → σ → Option ρ) (M : Nat → Nat → τ → Option ρ') (N c d : Nat) (I : Nat → σ → τ → Prop) (Z : Option ρ → Option ρ' → Prop)
    (hx : ∀ n m s t, n + 1 + N = c → m + 1 + N = d → I N s t → Z (L (n + 1) N s) (M (m + 1) N t))
    (hs : ∀ n m i s t, n + 1 + i = c → m + 1 + i = d → i < N → I i s t → (∀ s' t', I (i + 1) s' t' → Z (L n (i + 1) s') (M m (i + 1) t')) → Z (L (n + 1) i s) (M (m + 1) i t)) :
    ∀ i s t n m, I i s t → i ≤ N → n + i = c → m + i = d → N < c → N < d → Z (L n i s) (M m i t) := by
  have key : ∀ e i s t n m, I i s t → i ≤ N → N - i = e → n + i = c → m + i = d → N < c → N < d → Z (L n i s) (M m i t) := by
    intro e
    induction e with
    | zero =>
      intro i s t n m h h1 h2 h3 h4 h5 h6
      obtain ⟨a, rfl⟩ : ∃ a, n = a + 1 := ⟨n - 1, by omega⟩
      obtain ⟨b, rfl⟩ : ∃ b, m = b + 1 := ⟨m - 1, by omega⟩
      have : i = N := by omega
      subst this
      exact hx a b s t h3 h4 h
    | succ e ih =>
      intro i s t n m h h1 h2 h3 h4 h5 h6
      obtain ⟨a, rfl⟩ : ∃ a, n = a + 1 := ⟨n - 1, by omega⟩
      obtain ⟨b, rfl⟩ : ∃ b, m = b + 1 := ⟨m - 1, by omega⟩
      exact hs a b i s t h3 h4 (by omega) h (fun s' t' h' => ih (i + 1) s' t' a b h' (by omega) (by omega) (by omega) (by omega) h5 h6)
  intro i s t n m h h1 h2 h3 h4 h5
  exact key (N - i) i s t n m h h1 rfl h2 h3 h4 h5
theorem FUELe : FUEL = 1000 := rfl
/-- both come to a continuation -/
def EK {α β γ δ : Type} (f : Option γ) (K : α → Option γ) (g : Option δ) (K' : β → Option δ) (Q : α → β → Prop) : Prop := ∃ q r, f = K q ∧ g = K' r ∧ Q q r
/-! numbers -/
theorem lit_nI (n : Nat) : (no_index (OfNat.ofNat n) : Int32) = nI (OfNat.ofNat n) := rfl
theorem n_c {n : Nat} (h : n < 2147483648) : (nI n).toNatClampNeg = n := nI_clamp (by omega)
theorem n_ml (n x : Nat) : (no_index (OfNat.ofNat n) : Int32) * nI x = nI (OfNat.ofNat n * x) := pk_mul n x
theorem n_mr (n x : Nat) : nI x * (no_index (OfNat.ofNat n) : Int32) = nI (OfNat.ofNat n * x) := by rw [Nat.mul_comm]; exact pk_mul x n
theorem n_al (n x : Nat) : (no_index (OfNat.ofNat n) : Int32) + nI x = nI (OfNat.ofNat n + x) := nI_add n x
theorem n_ar (n x : Nat) : nI x + (no_index (OfNat.ofNat n) : Int32) = nI (x + OfNat.ofNat n) := nI_add x n
theorem n_aa (a b : Nat) : nI a + nI b = nI (a + b) := nI_add a b
theorem n_sr {n x : Nat} (h : OfNat.ofNat n ≤ x) : nI x - (no_index (OfNat.ofNat n) : Int32) = nI (x - OfNat.ofNat n) := pk_sub h
theorem n_sl {n x : Nat} (h : x ≤ OfNat.ofNat n) : (no_index (OfNat.ofNat n) : Int32) - nI x = nI (OfNat.ofNat n - x) := pk_sub h
theorem n_le {a b : Nat} (ha : a < 2147483648) (hb : b < 2147483648) : (nI a ≤ nI b) = (a ≤ b) := propext (nI_leI (by omega) (by omega))
theorem n_lt {a b : Nat} (ha : a < 2147483648) (hb : b < 2147483648) : (nI a < nI b) = (a < b) := propext (nI_ltI (by omega) (by omega))
theorem n_eq {a b : Nat} (ha : a < 2147483648) (hb : b < 2147483648) : (nI a = nI b) = (a = b) := propext (nI_eq (by omega) (by omega))
theorem n_lel {a b : Nat} (ha : OfNat.ofNat a < 2147483648) (hb : b < 2147483648) : ((no_index (OfNat.ofNat a) : Int32) ≤ nI b) = (OfNat.ofNat a ≤ b) := n_le ha hb
theorem n_ltl {a b : Nat} (ha : OfNat.ofNat a < 2147483648) (hb : b < 2147483648) : ((no_index (OfNat.ofNat a) : Int32) < nI b) = (OfNat.ofNat a < b) := n_lt ha hb
theorem n_ler {a b : Nat} (ha : a < 2147483648) (hb : OfNat.ofNat b < 2147483648) : (nI a ≤ (no_index (OfNat.ofNat b) : Int32)) = (a ≤ OfNat.ofNat b) := n_le ha hb
theorem n_ltr {a b : Nat} (ha : a < 2147483648) (hb : OfNat.ofNat b < 2147483648) : (nI a < (no_index (OfNat.ofNat b) : Int32)) = (a < OfNat.ofNat b) := n_lt ha hb
theorem n_eqr {a b : Nat} (ha : a < 2147483648) (hb : OfNat.ofNat b < 2147483648) : (nI a = (no_index (OfNat.ofNat b) : Int32)) = (a = OfNat.ofNat b) := n_eq ha hb
theorem n_eql {a b : Nat} (ha : OfNat.ofNat a < 2147483648) (hb : b < 2147483648) : ((no_index (OfNat.ofNat a) : Int32) = nI b) = (OfNat.ofNat a = b) := n_eq ha hb
theorem n_ne1 {a : Nat} (ha : a < 2147483648) : (nI a = -1) = False := by
  apply eq_false
  intro h
  have h2 := congrArg Int32.toInt h
  rw [nI_toInt (by omega)] at h2
  have h3 : (-1 : Int32).toInt = -1 := rfl
  omega
theorem n_en1 {a : Nat} (ha : a < 2147483648) : (-1 = nI a) = False := by
  rw [show ((-1 : Int32) = nI a) = (nI a = -1) from propext ⟨Eq.symm, Eq.symm⟩]; exact n_ne1 ha
theorem n_lt1 {a : Nat} (ha : a < 2147483648) : (nI a ≤ -1) = False := by
  apply eq_false
  intro h
  rw [Int32.le_iff_toInt_le, nI_toInt (by omega)] at h
  have h3 : (-1 : Int32).toInt = -1 := rfl
  omega
theorem n_div {a d : Nat} (ha : a < 2147483648) (h0 : 0 < OfNat.ofNat d) (hd : OfNat.ofNat d < 2147483648) : nI a / (no_index (OfNat.ofNat d) : Int32) = nI (a / OfNat.ofNat d) := pk_div (by omega) h0 (show (OfNat.ofNat d : Nat) < 2 ^ 31 from hd)
theorem n_rem {a d : Nat} (ha : a < 2147483648) (h0 : 0 < OfNat.ofNat d) (hd : OfNat.ofNat d < 2147483648) : nI a - nI a / (no_index (OfNat.ofNat d) : Int32) * (no_index (OfNat.ofNat d) : Int32) = nI (a % OfNat.ofNat d) := pk_rem (by omega) h0 (show (OfNat.ofNat d : Nat) < 2 ^ 31 from hd)
theorem n_lt0 {a : Nat} (ha : a < 2147483648) : (nI a < 0) = False := by
  rw [show (0 : Int32) = nI 0 from rfl, n_lt ha (by omega)]; simp
theorem n_ge0 {a : Nat} (ha : a < 2147483648) : (0 ≤ nI a) = True := by
  rw [show (0 : Int32) = nI 0 from rfl, n_le (by omega) ha]; simp
theorem gi_in {α : Type} {i n : Nat} {k : Option α} (h : i < n) (hn : n < 2147483648) : gi (nI i) n k = k := by
  unfold gi
  rw [if_neg]
  rintro (h1 | h1)
  · rw [n_lt0 (by omega)] at h1; exact h1
  · rw [n_c (by omega)] at h1; omega
theorem gi_inl {α : Type} {i n : Nat} {k : Option α} (h : OfNat.ofNat i < n) (hn : n < 2147483648) : gi (no_index (OfNat.ofNat i) : Int32) n k = k := gi_in h hn
theorem lc_l {i : Nat} (h : OfNat.ofNat i < 2147483648) : (no_index (OfNat.ofNat i) : Int32).toNatClampNeg = OfNat.ofNat i := n_c h
theorem nge {x y : Int32} : (¬ x < y) = (y ≤ x) := propext Int32.not_lt
theorem ngt {x y : Int32} : (¬ x ≤ y) = (y < x) := propext Int32.not_le
/-! memory -/
theorem wI_ne {μ : Mm} {k i : Nat} {v : Int32} {j : Nat} (h : j ≠ k) : (wI μ k i v).1 j = μ.1 j := if_neg h
theorem wI_eq {μ : Mm} {k i : Nat} {v : Int32} : (wI μ k i v).1 k = upd (μ.1 k) i v := if_pos rfl
theorem wI_2 {μ : Mm} {k i : Nat} {v : Int32} : (wI μ k i v).2 = μ.2 := rfl
theorem wL_1 {μ : Mm} {k i : Nat} {v : Int64} : (wL μ k i v).1 = μ.1 := rfl
theorem u_eq {f : Nat → Int32} {k : Nat} {x : Int32} : upd f k x k = x := if_pos rfl
theorem u_ne {f : Nat → Int32} {k j : Nat} {x : Int32} (h : j ≠ k) : upd f k x j = f j := if_neg h
theorem u_if {f : Nat → Int32} {k j : Nat} {x : Int32} : upd f k x j = if j = k then x else f j := rfl
/-! small numbers -/
def Rg (B : Nat) (x : Int32) : Prop := ∃ a, a ≤ B ∧ x = nI a
theorem Rg_mono {B C : Nat} {x : Int32} (h : Rg B x) (hc : B ≤ C) : Rg C x := by obtain ⟨a, h1, h2⟩ := h; exact ⟨a, by omega, h2⟩
theorem max_eq (x : Int32) : (if 0 < x then x else 0) = (if x ≤ 0 then 0 else x) := by
  by_cases h : x ≤ 0
  · rw [if_pos h, if_neg (Int32.not_lt.mpr h)]
  · rw [if_neg h, if_pos (Int32.not_le.mp h)]
theorem min_eq (x : Int32) : (if x < 9 then x else 9) = (if 9 ≤ x then 9 else x) := by
  by_cases h : 9 ≤ x
  · rw [if_pos h, if_neg (Int32.not_lt.mpr h)]
  · rw [if_neg h, if_pos (Int32.not_le.mp h)]
theorem Rg_min {x : Int32} (h : Rg 9 x) : Rg 9 (if 9 ≤ x + 2 then 9 else x + 2) := by
  obtain ⟨a, h1, rfl⟩ := h
  by_cases c : 9 ≤ nI a + 2
  · rw [if_pos c]; exact ⟨9, by omega, rfl⟩
  · rw [if_neg c]
    rw [n_ar, n_lel (by omega) (by omega)] at c
    exact ⟨a + 2, by omega, n_ar 2 a⟩
theorem Rg_dec {B d : Nat} {x : Int32} (hB : B < 1000000) (hd : d < 1000) (h : Rg B x) : Rg B (if x - nI d ≤ 0 then 0 else x - nI d) := by
  obtain ⟨a, h1, rfl⟩ := h
  by_cases c : nI a - nI d ≤ 0
  · rw [if_pos c]; exact ⟨0, by omega, rfl⟩
  · rw [if_neg c]
    by_cases hl : d ≤ a
    · exact ⟨a - d, by omega, pk_sub hl⟩
    · exfalso
      apply c
      rw [Int32.le_iff_toInt_le, pk_sub_toInt (by omega) (by omega)]
      have : (0 : Int32).toInt = 0 := rfl
      omega
/-! bits -/
def bt (x : Int32) (t : Nat) : Int32 := (x >>> (nI t &&& 31)) &&& 1
theorem nsh {t : Nat} (h : t < 32) : (nI t &&& 31).toBitVec.smod 32 = BitVec.ofNat 32 t := by
  have : ∀ t < 32, (nI t &&& 31).toBitVec.smod 32 = BitVec.ofNat 32 t := by decide +kernel
  exact this t h
theorem bt_lsb {x : Int32} {t : Nat} (h : t < 32) : bt x t = if x.toBitVec.getLsbD t then 1 else 0 := by
  unfold bt
  rw [← Int32.toBitVec_inj, Int32.toBitVec_and, Int32.toBitVec_shiftRight, nsh h]
  rw [BitVec.sshiftRight_eq', BitVec.toNat_ofNat, Nat.mod_eq_of_lt (by omega)]
  apply BitVec.eq_of_getLsbD_eq
  intro i hi
  rw [BitVec.getLsbD_and, BitVec.getLsbD_sshiftRight]
  have e1 : (Int32.toBitVec 1).getLsbD i = decide (i = 0) := by
    have : ∀ i < 32, (Int32.toBitVec 1).getLsbD i = decide (i = 0) := by decide +kernel
    exact this i hi
  rw [e1]
  by_cases c : i = 0
  · subst c
    cases hx : x.toBitVec.getLsbD t
    · simp [hx, show t < 32 from h]
    · simp [hx, show t < 32 from h]
  · cases hx : x.toBitVec.getLsbD t
    · simp [c]
    · simp [c]
theorem bt01 (x : Int32) {t : Nat} (h : t < 32) : bt x t = 0 ∨ bt x t = 1 := by
  rw [bt_lsb h]; cases x.toBitVec.getLsbD t <;> simp
theorem bt_n0 {x : Int32} {t : Nat} (h : t < 32) : (¬ bt x t = 0) = (bt x t = 1) := by
  apply propext
  rcases bt01 x h with c | c <;> rw [c] <;> decide
theorem bt_n1 {x : Int32} {t : Nat} (h : t < 32) : (¬ bt x t = 1) = (bt x t = 0) := by
  apply propext
  rcases bt01 x h with c | c <;> rw [c] <;> decide
theorem bt_or1 {x y : Int32} {t : Nat} (h : t < 32) : (bt (x ||| y) t = 1) = (bt x t = 1 ∨ bt y t = 1) := by
  apply propext
  rw [bt_lsb h, bt_lsb h, bt_lsb h, Int32.toBitVec_or, BitVec.getLsbD_or]
  cases x.toBitVec.getLsbD t <;> cases y.toBitVec.getLsbD t <;> decide
theorem bt_and1 {x y : Int32} {t : Nat} (h : t < 32) : (bt (x &&& y) t = 1) = (bt x t = 1 ∧ bt y t = 1) := by
  apply propext
  rw [bt_lsb h, bt_lsb h, bt_lsb h, Int32.toBitVec_and, BitVec.getLsbD_and]
  cases x.toBitVec.getLsbD t <;> cases y.toBitVec.getLsbD t <;> decide
theorem bt_not1 {x : Int32} {t : Nat} (h : t < 32) : (bt (x ^^^ (-1)) t = 1) = (¬ bt x t = 1) := by
  apply propext
  have e1 : (Int32.toBitVec (-1)).getLsbD t = true := by
    have : ∀ i < 32, (Int32.toBitVec (-1)).getLsbD i = true := by decide +kernel
    exact this t h
  rw [bt_lsb h, bt_lsb h, Int32.toBitVec_xor, BitVec.getLsbD_xor, e1]
  cases x.toBitVec.getLsbD t <;> decide
theorem bt_0 {t : Nat} (h : t < 32) : bt 0 t = 0 := by
  have : ∀ i < 32, bt 0 i = 0 := by decide +kernel
  exact this t h
theorem bt_sh {a t : Nat} (ha : a < 32) (h : t < 32) : bt (1 <<< (nI a &&& 31)) t = if a = t then 1 else 0 := by
  have : ∀ a < 32, ∀ t < 32, bt (1 <<< (nI a &&& 31)) t = if a = t then 1 else 0 := by decide +kernel
  exact this a ha t h
theorem bt_sh1 {a t : Nat} (ha : a < 32) (h : t < 32) : (bt (1 <<< (nI a &&& 31)) t = 1) = (a = t) := by
  rw [bt_sh ha h]
  by_cases c : a = t <;> simp [c]
theorem bt_low {a t : Nat} (ha : a < 12) (h : t < 32) : (bt ((1 <<< (nI a &&& 31)) - 1) t = 1) = (t < a) := by
  have : ∀ a < 12, ∀ t < 32, bt ((1 <<< (nI a &&& 31)) - 1) t = if t < a then 1 else 0 := by decide +kernel
  rw [this a ha t h]
  by_cases c : t < a <;> simp [c]
theorem bt_ext {x y : Int32} (h : ∀ t < 32, (bt x t = 1 ↔ bt y t = 1)) : x = y := by
  rw [← Int32.toBitVec_inj]
  apply BitVec.eq_of_getLsbD_eq
  intro i hi
  have := h i hi
  rw [bt_lsb hi, bt_lsb hi] at this
  cases hx : x.toBitVec.getLsbD i <;> cases hy : y.toBitVec.getLsbD i <;> simp_all
theorem bt_sne {x : Int32} {a t : Nat} (ha : a < 32) (h : t < 32) (hn : ¬ t = a) : bt (x ||| 1 <<< (nI a &&& 31)) t = bt x t := by
  rcases bt01 x h with c | c
  · rw [c, ← bt_n1 h, bt_or1 h, bt_sh1 ha h, c]
    rintro (z | z)
    · exact absurd z (by decide)
    · exact hn z.symm
  · rw [c, bt_or1 h]; exact Or.inl c
theorem bt_seq {x : Int32} {t : Nat} (h : t < 32) : bt (x ||| 1 <<< (nI t &&& 31)) t = 1 := by
  rw [bt_or1 h, bt_sh1 h h]; exact Or.inr rfl
