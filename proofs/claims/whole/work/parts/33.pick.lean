-- WHAT A GUEST TAKES: the abstract choice, and the class's and the reference's methods that make it
def tNx (t : Nat) : Option Nat → Nat
  | none => t
  | some u => if u < t then t else t + 7
def tKey (T : tT) (L : Nat → Nat) (last : Option Nat) (g t : Nat) : Nat :=
  if T.2 8 g = 0 then (T.2 0 t - T.2 6 g) + (T.2 6 g - T.2 0 t)
  else if T.2 8 g = 1 then 9 - L t
  else if T.2 8 g = 2 then tNx t last
  else if T.2 7 g ≤ L t then 0 else 1
def tPk (ok : Nat → Bool) (key : Nat → Nat) : Nat → Option Nat
  | 0 => none
  | t + 1 => if ok t = true then (match tPk ok key t with | none => some t | some b => if key t < key b then some t else some b) else tPk ok key t
def tOk (lk L : Nat → Nat) (t : Nat) : Bool := decide (lk t ≠ 1) && decide (L t ≠ 0)
def tPick (T : tT) (lk L : Nat → Nat) (last : Option Nat) (g : Nat) : Option Nat := tPk (tOk lk L) (tKey T L last g) T.1
theorem tPk_lt {ok : Nat → Bool} {key : Nat → Nat} : ∀ {n b : Nat}, tPk ok key n = some b → b < n ∧ ok b = true
  | 0, b, h => by simp [tPk] at h
  | n + 1, b, h => by
    unfold tPk at h
    split at h
    next ho =>
      cases hp : tPk ok key n with
      | none =>
        rw [hp] at h
        have : n = b := by simpa using h
        subst this
        exact ⟨by omega, ho⟩
      | some c =>
        rw [hp] at h
        have h2 := tPk_lt hp
        simp only at h
        split at h
        · have : n = b := by simpa using h
          subst this
          exact ⟨by omega, ho⟩
        · have : c = b := by simpa using h
          subst this
          exact ⟨by omega, h2.2⟩
    next ho =>
      have h2 := tPk_lt h
      exact ⟨by omega, h2.2⟩
theorem tPick_lt {T : tT} {lk L : Nat → Nat} {last : Option Nat} {g b : Nat} (h : tPick T lk L last g = some b) : b < T.1 ∧ lk b ≠ 1 ∧ L b ≠ 0 := by
  obtain ⟨h1, h2⟩ := tPk_lt h
  simp [tOk] at h2
  exact ⟨h1, h2.1, h2.2⟩
theorem tB_lt {f : Nat → Nat} (hf : ∀ i, f i ≤ 1) : ∀ n, tB f n < 2 ^ n
  | 0 => by simp [tB]
  | n + 1 => by
    have h := tB_lt hf n
    have h2 := hf n
    have h3 : f n * 2 ^ n ≤ 1 * 2 ^ n := Nat.mul_le_mul_right _ h2
    simp only [tB, Nat.pow_succ]
    omega
theorem tB7 {f : Nat → Nat} (hf : ∀ i, f i ≤ 1) {t : Nat} (ht : t < 7) : tB f 7 / 2 ^ t % 2 = f t := by
  have h0 := hf 0; have h1 := hf 1; have h2 := hf 2; have h3 := hf 3; have h4 := hf 4; have h5 := hf 5; have h6 := hf 6
  simp only [tB]
  have : t = 0 ∨ t = 1 ∨ t = 2 ∨ t = 3 ∨ t = 4 ∨ t = 5 ∨ t = 6 := by omega
  rcases this with rfl | rfl | rfl | rfl | rfl | rfl | rfl <;> omega
theorem tB4 {f : Nat → Nat} (hf : ∀ i, f i ≤ 1) {t : Nat} (ht : t < 4) : tB f 4 / 2 ^ t % 2 = f t := by
  have h0 := hf 0; have h1 := hf 1; have h2 := hf 2; have h3 := hf 3
  simp only [tB]
  have : t = 0 ∨ t = 1 ∨ t = 2 ∨ t = 3 := by omega
  rcases this with rfl | rfl | rfl | rfl <;> omega
theorem s_sh7 : ∀ t, t < 7 → ((nI t &&& 31).toBitVec.smod 32).toNat = t := by decide +kernel
theorem s_bitN {N t : Nat} (hN : N < 2147483648) (ht : t < 7) : (nI N >>> (nI t &&& 31)) &&& 1 = nI (N / 2 ^ t % 2) := by
  rw [pk_shrN hN _ t (s_sh7 t ht), pk_andN (by have := Nat.div_le_self N (2 ^ t); omega) 1 (by decide)]
theorem s_bit7 {f : Nat → Nat} (hf : ∀ i, f i ≤ 1) {t : Nat} (ht : t < 7) : (nI (tB f 7) >>> (nI t &&& 31)) &&& 1 = nI (f t) := by
  have := tB_lt hf 7
  rw [s_bitN (by omega) ht, tB7 hf ht]
theorem s_bit4 {f : Nat → Nat} (hf : ∀ i, f i ≤ 1) {t : Nat} (ht : t < 4) : (nI (tB f 4) >>> (nI t &&& 31)) &&& 1 = nI (f t) := by
  have := tB_lt hf 4
  rw [s_bitN (by omega) (by omega), tB4 hf ht]
theorem nI_is1 {a : Nat} (h : a ≤ 1) : nI a = 1 ↔ a = 1 := nI_inj (b := 1) (by omega) (by omega)
theorem nI_is0 {a : Nat} (h : a < 2147483648) : nI a = 0 ↔ a = 0 := nI_inj (b := 0) h (by omega)
theorem nI_leN {a b : Nat} (ha : a < 2147483648) (hb : b < 2147483648) : nI a ≤ nI b ↔ a ≤ b := nI_leI ha hb
theorem nI_ltN {a b : Nat} (ha : a < 2147483648) (hb : b < 2147483648) : nI a < nI b ↔ a < b := nI_ltI ha hb
theorem vp_nI {t n : Nat} (h : t < n) (hn : n < 2147483648) : vp_in (nI t) n := vp_in_nI h hn
/-- the course, in the class -/
def kC (μ : sM) (lk L : Nat → Nat) (last : Option Nat) : Prop := μ.1 35 2 = nI (tB lk 7) ∧ (∀ t, t < 7 → μ.1 36 t = nI (L t)) ∧ μ.1 35 3 = nO last
def tRk (T : tT) (L : Nat → Nat) (last : Option Nat) (g t : Nat) : Int32 := if T.2 8 g = 1 then -(nI (L t)) else nI (tKey T L last g t)
theorem tKey_lt {T : tT} (hT : tW T) {L : Nat → Nat} {last : Option Nat} {g t : Nat} (ht : t < 7) (hL : L t ≤ 9) : tKey T L last g t < 100 := by
  have h1 := hT.2.1 0 t
  have h2 := hT.2.1 6 g
  simp at h1 h2
  unfold tKey
  split
  · omega
  · split
    · omega
    · split
      · cases last with
        | none => simp only [tNx]; omega
        | some u => simp only [tNx]; split <;> omega
      · split <;> omega
theorem tRk_le {T : tT} (hT : tW T) {L : Nat → Nat} {last : Option Nat} {g t b : Nat} (ht : t < 7) (hb : b < 7) (hL : ∀ i, L i ≤ 9) : tRk T L last g b ≤ tRk T L last g t ↔ ¬ tKey T L last g t < tKey T L last g b := by
  have k1 := tKey_lt hT (L := L) (last := last) (g := g) ht (hL t)
  have k2 := tKey_lt hT (L := L) (last := last) (g := g) hb (hL b)
  unfold tRk
  split
  next h =>
    have e1 : tKey T L last g t = 9 - L t := by simp [tKey, h]
    have e2 : tKey T L last g b = 9 - L b := by simp [tKey, h]
    have q1 := hL t
    have q2 := hL b
    rw [sb_nle (by omega) (by omega), e1, e2]
    omega
  next h =>
    rw [nI_leN (by omega) (by omega)]
    omega
theorem c_rank {d : Nat} {μ : sM} {T : tT} {lk L : Nat → Nat} {last : Option Nat} {g t : Nat} {f : Int32 → sM → Prop} (hT : tW T) (hC : tC μ 1 4 T) (hK : kC μ lk L last) (hL : ∀ i, L i ≤ 9) (hl : ∀ u, last = some u → u < 7) (hg : g < 4) (ht : t < 7) (h : f (tRk T L last g t) μ) : sCl sLL mX1_rank (d + 1) [sR 35, sI (nI g), sI (nI t)] μ (kI f) := by
  have hg2 := hC.2.2.2.2 g hg
  have ht2 := hC.2.2.2.1 t ht
  have h36 := hK.2.1 t ht
  have b0 := hT.2.1 0 t
  have b6 := hT.2.1 6 g
  have b7 := hT.2.1 7 g
  have b8 := hT.2.1 8 g
  have bL := hL t
  simp at b0 b6 b7 b8
  refine eX1_rank ⟨vp_nI hg (by omega), ?_⟩
  rw [nI_c (by omega), nI_c (by omega), ht2.1, hg2.1, hg2.2.1, hg2.2.2.1, h36, hK.2.2]
  refine ⟨fun q => ?_, fun q => ⟨fun q2 => ?_, fun q2 => ⟨fun q3 => ?_, fun q3 => ?_⟩⟩⟩
  · have q : T.2 8 g = 0 := (nI_is0 (by omega)).mp q
    refine ⟨vp_nI ht (by omega), ?_⟩
    have e : (if 0 ≤ nI (T.2 0 t) - nI (T.2 6 g) then nI (T.2 0 t) - nI (T.2 6 g) else 0 - (nI (T.2 0 t) - nI (T.2 6 g))) = tRk T L last g t := by
      have hs := pk_sub_toInt (a := T.2 0 t) (b := T.2 6 g) (by omega) (by omega)
      have z : (0 : Int32).toInt = 0 := by decide
      simp only [tRk, tKey, q]
      simp only [fa_le, z, hs]
      split
      next c =>
        rw [pk_sub (by omega)]
        congr 1
        simp
        omega
      next c =>
        have e2 : (0 : Int32) - (nI (T.2 0 t) - nI (T.2 6 g)) = nI (T.2 6 g) - nI (T.2 0 t) := by
          rw [fa_eq, fb_subI (by rw [z, hs]; omega) (by rw [z, hs]; omega), z, hs, pk_sub_toInt (by omega) (by omega)]
          omega
        rw [e2, pk_sub (by omega)]
        congr 1
        simp
        omega
    rw [e]
    exact h
  · have q2 : T.2 8 g = 1 := (nI_inj (b := 1) (by omega) (by omega)).mp q2
    refine ⟨vp_nI ht (by omega), ?_⟩
    have e : -(nI (L t)) = tRk T L last g t := by simp [tRk, q2]
    rw [e]
    exact h
  · have q3 : T.2 8 g = 2 := (nI_inj (b := 2) (by omega) (by omega)).mp q3
    have e : tRk T L last g t = nI (tNx t last) := by simp [tRk, tKey, q3]
    rw [e] at h
    cases last with
    | none =>
      refine ⟨fun c => ?_, fun c => h⟩
      simp only [nO, fa_le, nI_i (show t < 2147483648 by omega)] at c
      have z : (-6 : Int32).toInt = -6 := by decide
      omega
    | some u =>
      have hu := hl u rfl
      refine ⟨fun c => ?_, fun c => ?_⟩
      · have c : t ≤ u := (nI_leN (by omega) (by omega)).mp c
        simp only [tNx, if_neg (Nat.not_lt.mpr c)] at h
        have e3 : nI t + 7 = nI (t + 7) := nI_add t 7
        rw [e3]
        exact h
      · have c : ¬ t ≤ u := fun w => c ((nI_leN (by omega) (by omega)).mpr w)
        simp only [tNx, if_pos (Nat.not_le.mp c)] at h
        exact h
  · have n0 : T.2 8 g ≠ 0 := fun w => q (by rw [w]; rfl)
    have n1 : T.2 8 g ≠ 1 := fun w => q2 (by rw [w]; rfl)
    have n2 : T.2 8 g ≠ 2 := fun w => q3 (by rw [w]; rfl)
    refine ⟨vp_nI ht (by omega), fun c => ?_, fun c => ?_⟩
    · have c : L t < T.2 7 g := (nI_ltN (by omega) (by omega)).mp c
      have e : tRk T L last g t = 1 := by simp [tRk, tKey, n0, n1, n2, Nat.not_le.mpr c]; rfl
      rw [e] at h
      exact h
    · have c : ¬ L t < T.2 7 g := fun w => c ((nI_ltN (by omega) (by omega)).mpr w)
      have e : tRk T L last g t = 0 := by simp [tRk, tKey, n0, n1, n2, Nat.not_lt.mp c]; rfl
      rw [e] at h
      exact h

theorem c_choice {d : Nat} {μ : sM} {T : tT} {lk L : Nat → Nat} {last : Option Nat} {g : Nat} {f : Int32 → sM → Prop} (hT : tW T) (hC : tC μ 1 4 T) (hK : kC μ lk L last) (hk : ∀ i, lk i ≤ 1) (hL : ∀ i, L i ≤ 9) (hl : ∀ u, last = some u → u < 7) (hg : g < 4) (h : f (nO (tPick T lk L last g)) μ) : sCl sLL mX1_choice (d + 2) [sR 35, sI (nI g)] μ (kI f) := by
  have h7 := hT.1.2
  refine eX1_choice ?_
  have key : ∀ (m t : Nat) (x3 : Int32), t + m = T.1 → (∀ b, tPk (tOk lk L) (tKey T L last g) t = some b → x3 = tRk T L last g b) → sG sLL mX1_choice (d + 1 + 1) (kI f) 8 [some (sR 35), some (sI (nI g)), some (sI (nO (tPk (tOk lk L) (tKey T L last g) t))), some (sI x3), some (sI (nI t)), none] [] μ := by
    intro m
    induction m with
    | zero =>
      intro t x3 e hb
      have e : t = T.1 := by omega
      subst e
      refine sX1_choice_8 ⟨fun _ => h, fun q => ?_⟩
      rw [hC.1] at q
      exact absurd ((nI_leN (by omega) (by omega)).mpr (Nat.le_refl _)) q
    | succ m ih =>
      intro t x3 e hb
      have ht : t < 7 := by omega
      have hbl : ∀ b, tPk (tOk lk L) (tKey T L last g) t = some b → b < 7 := fun b q => by have := (tPk_lt q).1; omega
      have bk := hk t
      have bL := hL t
      refine sX1_choice_8 ⟨fun q => ?_, fun q => ?_⟩
      · rw [hC.1] at q
        have q := (nI_leN (by omega) (by omega)).mp q
        omega
      · rw [hK.1, s_bit7 hk ht, nI_c (by omega), hK.2.1 t ht]
        have e1 : nI t + 1 = nI (t + 1) := nI_1 t
        have skip : tOk lk L t = false → sG sLL mX1_choice (d + 1 + 1) (kI f) 8 [some (sR 35), some (sI (nI g)), some (sI (nO (tPk (tOk lk L) (tKey T L last g) t))), some (sI x3), some (sI (nI t + 1)), none] [] μ := fun ho => by
          rw [e1]
          have e2 : tPk (tOk lk L) (tKey T L last g) (t + 1) = tPk (tOk lk L) (tKey T L last g) t := by simp [tPk, ho]
          rw [← e2]
          exact ih (t + 1) x3 (by omega) (by rw [e2]; exact hb)
        refine ⟨fun q1 => ?_, fun q1 => ⟨vp_nI ht (by omega), fun q2 => ?_, fun q2 => ?_⟩⟩
        · exact skip (by simp [tOk, (nI_is1 bk).mp q1])
        · have ho : tOk lk L t = true := by
            have c1 : lk t ≠ 1 := fun w => q1 ((nI_is1 bk).mpr w)
            have c2 : L t ≠ 0 := fun w => q2 ((nI_is0 (by omega)).mpr w)
            simp [tOk, c1, c2]
          refine c_rank hT hC hK hL hl hg ht ?_
          have take : tPk (tOk lk L) (tKey T L last g) (t + 1) = some t → sG sLL mX1_choice (d + 1 + 1) (kI f) 8 [some (sR 35), some (sI (nI g)), some (sI (nI t)), some (sI (tRk T L last g t)), some (sI (nI t + 1)), none] [] μ := fun e2 => by
            rw [e1]
            have e3 := ih (t + 1) (tRk T L last g t) (by omega) (by rw [e2]; intro b hb; cases hb; rfl)
            rw [e2] at e3
            exact e3
          cases hp : tPk (tOk lk L) (tKey T L last g) t with
          | none =>
            refine ⟨fun _ => take (by simp [tPk, ho, hp]), fun q3 => absurd rfl q3⟩
          | some b =>
            have hb7 := hbl b hp
            have e4 := hb b hp
            subst e4
            refine ⟨fun q3 => ?_, fun q3 => ⟨fun q4 => ?_, fun q4 => ?_⟩⟩
            · rw [nO_m6 (by intro u hu; cases hu; omega)] at q3
              cases q3
            · rw [tRk_le hT ht hb7 hL] at q4
              rw [e1]
              have e2 : tPk (tOk lk L) (tKey T L last g) (t + 1) = some b := by simp [tPk, ho, hp, q4]
              have e3 := ih (t + 1) (tRk T L last g b) (by omega) (by rw [e2]; intro c hc; cases hc; rfl)
              rw [e2] at e3
              exact e3
            · rw [tRk_le hT ht hb7 hL, Classical.not_not] at q4
              exact take (by simp [tPk, ho, hp, q4])
        · exact skip (by simp [tOk, (nI_is0 (by omega)).mp q2])
  exact key T.1 0 0 (by omega) (by intro b hb; simp [tPk] at hb)
