-- THE ABSTRACT TABLE AND ITS TWO PICTURES (in the class, in the reference)
/-- a table: how many things; by kind: 0 size, 1 laid, 2 locked, 3 left, 4 warm, 5 sight and 1 (0: none), 6 girth, 7 hunger, 8 habit, 9 often, 10 there -/
abbrev tT : Type := Nat × (Nat → Nat → Nat)
def tB (f : Nat → Nat) : Nat → Nat
  | 0 => 0
  | n + 1 => tB f n + f n * 2 ^ n
def nO : Option Nat → Int32
  | none => -6
  | some t => nI t
def nS : Nat → Int32
  | 0 => -6
  | v + 1 => nI v
/-- a table is as it must be -/
def tW (T : tT) : Prop := (1 ≤ T.1 ∧ T.1 ≤ 7) ∧ (∀ k i, T.2 k i ≤ (if k = 5 then 10 else 9)) ∧ (∀ i, T.2 2 i ≤ 1 ∧ T.2 8 i ≤ 3 ∧ T.2 10 i ≤ 1) ∧ (∀ g, g < 4 → T.2 10 g = 1 → 1 ≤ T.2 7 g ∧ 1 ≤ T.2 9 g) ∧ ∀ t, T.1 ≤ t → T.2 4 t = 0 ∧ T.2 5 t = 0 ∧ T.2 2 t = 0
/-- the class's table at object o, its arrays from a on -/
def tC (μ : sM) (o a : Nat) (T : tT) : Prop := μ.1 o 0 = nI T.1 ∧ μ.1 o 1 = nI (tB (T.2 2) 7) ∧ μ.1 o 2 = nI (tB (T.2 10) 4) ∧
  (∀ t, t < 7 → μ.1 a t = nI (T.2 0 t) ∧ μ.1 (a + 1) t = nI (T.2 1 t) ∧ μ.1 (a + 2) t = nI (T.2 3 t) ∧ μ.1 (a + 3) t = nI (T.2 4 t) ∧ μ.1 (a + 4) t = nS (T.2 5 t)) ∧
  ∀ g, g < 4 → μ.1 (a + 5) g = nI (T.2 6 g) ∧ μ.1 (a + 6) g = nI (T.2 7 g) ∧ μ.1 (a + 7) g = nI (T.2 8 g) ∧ μ.1 (a + 8) g = nI (T.2 9 g)
/-- what of a table is the same while guests come: in the reference -/
def tE (μ : sM) (T : tT) : Prop := μ.1 62 0 = nI T.1 ∧ μ.1 62 4 = nI (tB (T.2 10) 4) ∧ (∀ t, t < 7 → μ.1 63 t = nI (T.2 0 t) ∧ μ.1 63 (7 + t) = nI (T.2 1 t)) ∧
  ∀ g, g < 4 → μ.1 66 g = nI (T.2 6 g) ∧ μ.1 67 g = nI (T.2 7 g) ∧ μ.1 68 g = nI (T.2 8 g) ∧ μ.1 69 g = nI (T.2 9 g)
/-- a row of numbers at a place of a region -/
def tA (μ : sM) (r b m : Nat) (f : Nat → Nat) : Prop := ∀ i, i < m → μ.1 r (b + i) = nI (f i)
theorem s_u_ne {μ : sM} {r i q : Nat} {v : Int32} (h : q ≠ r) : (s_u μ r i v).1 q = μ.1 q := by simp [s_u, va_up, h]
theorem s_u_eq {μ : sM} {r i : Nat} {v : Int32} : (s_u μ r i v).1 r = upd (μ.1 r) i v := by simp [s_u, va_up]
theorem s_u_at {μ : sM} {r i : Nat} {v : Int32} : (s_u μ r i v).1 r i = v := by simp [s_u, va_up, upd]
theorem s_u_off {μ : sM} {r i j : Nat} {v : Int32} (h : j ≠ i) : (s_u μ r i v).1 r j = μ.1 r j := by simp [s_u, va_up, upd, h]
theorem s_u_2 {μ : sM} {r i : Nat} {v : Int32} : (s_u μ r i v).2 = μ.2 := rfl
theorem s_cp_ne {μ : sM} {r0 r1 q : Nat} {n : Int32} (h : q ≠ r1) : (s_cp μ r0 r1 n).1 q = μ.1 q := by simp [s_cp, va_up, h]
theorem s_cp_in {μ : sM} {r0 r1 j : Nat} {n : Int32} (h : j < n.toNatClampNeg) : (s_cp μ r0 r1 n).1 r1 j = μ.1 r0 j := by
  simp [s_cp, va_up]
  rw [pk_cpy_in (Nat.zero_le j) (by omega)]
  simp
theorem s_cp_out {μ : sM} {r0 r1 j : Nat} {n : Int32} (h : n.toNatClampNeg ≤ j) : (s_cp μ r0 r1 n).1 r1 j = μ.1 r1 j := by
  simp [s_cp, va_up]
  rw [pk_cpy_out (Or.inr (by omega))]
theorem nI_c {n : Nat} (h : n < 2147483648) : (nI n).toNatClampNeg = n := nI_clamp h
theorem nI_i {n : Nat} (h : n < 2147483648) : (nI n).toInt = (n : Int) := nI_toInt h
theorem nI_inj {a b : Nat} (ha : a < 2147483648) (hb : b < 2147483648) : nI a = nI b ↔ a = b := nI_eq ha hb
theorem nO_neg {o : Option Nat} (h : ∀ t, o = some t → t < 2147483648) : nO o < 0 ↔ o = none := by
  cases o with
  | none => simp [nO]
  | some t =>
    have := h t rfl
    simp only [nO, fa_lt, nI_i this]
    constructor
    · intro q
      have : (0 : Int32).toInt = 0 := by decide
      omega
    · intro q; cases q
theorem nO_m6 {o : Option Nat} (h : ∀ t, o = some t → t < 2147483648) : nO o = -6 ↔ o = none := by
  cases o with
  | none => simp [nO]
  | some t =>
    have := h t rfl
    constructor
    · intro q
      simp only [nO, fa_eq, nI_i this] at q
      have : (-6 : Int32).toInt = -6 := by decide
      omega
    · intro q; cases q
/-- an int is one of 0 .. n - 1, or it isn't -/
theorem s_in (a : Int32) (n : Nat) (hn : n < 2147483648) : (∃ t, t < n ∧ a = nI t) ∨ (a.toInt < 0 ∨ (n : Int) ≤ a.toInt) := by
  by_cases h : 0 ≤ a.toInt ∧ a.toInt < n
  · left
    refine ⟨a.toInt.toNat, by omega, ?_⟩
    rw [fa_eq, nI_i (by omega)]
    omega
  · right; omega
