-- AN EVENING: in pure words, and as the class goes through it
def oN : Nat → Option Nat
  | 0 => none
  | v + 1 => some v
theorem nO_oN (v : Nat) : nO (oN v) = nS v := by cases v <;> rfl
theorem nS_m6 {v : Nat} (h : v < 2147483648) : nS v = -6 ↔ v = 0 := by
  cases v with
  | zero => simp [nS]
  | succ v =>
    constructor
    · intro q
      have := (nO_m6 (o := some v) (by intro u hu; cases hu; omega)).mp q
      cases this
    · intro q; omega
theorem nS_ge {v : Nat} (h : v < 2147483648) : 0 ≤ nS v ↔ v ≠ 0 := by
  cases v with
  | zero => simp [nS]
  | succ v =>
    constructor
    · intro _; omega
    · intro _
      show (0 : Int32) ≤ nI v
      rw [fa_le, nI_i (by omega), s_z0]
      omega
/-- kinds: 0 left, 1 warm, 2 first user and 1, 3 last user and 1, 4 taken and 1 (by part), 5: 0 last thing and 1, 1 came, 2 eaten, 3 bad part and 1, 4 why and 1 -/
abbrev vE : Type := Nat → Nat → Nat
def vTake (T : tT) (g p t : Nat) (E : vE) : vE := fun k i =>
  if k = 0 then tLess (E 0) t (tBite T (E 0) g t) i
  else if k = 1 then (if i = t then 9 else E 1 i)
  else if k = 2 then (if i = t ∧ E 2 t = 0 then g + 1 else E 2 i)
  else if k = 3 then (if i = t then g + 1 else E 3 i)
  else if k = 4 then (if i = p then t + 1 else E 4 i)
  else if k = 5 then (if i = 0 then t + 1 else if i = 1 then E 5 1 + 1 else if i = 2 then E 5 2 + tBite T (E 0) g t else E 5 i)
  else E k i
def vBad (p r : Nat) (E : vE) : vE := fun k i => if k = 4 then (if i = p then 0 else E 4 i) else if k = 5 then (if i = 3 then p + 1 else if i = 4 then r + 1 else E 5 i) else E k i
def vCool (p : Nat) (E : vE) : vE := fun k i => if k = 1 then E 1 i - 1 else if k = 4 then (if i = p then 0 else E 4 i) else E k i
def vFill (T : tT) (t p : Nat) (E : vE) : vE := fun k i => if k = 0 then (if i = t then T.2 1 t else E 0 i) else if k = 4 then (if i = p then 0 else E 4 i) else E k i
def vCome (T : tT) (g p : Nat) (E : vE) : vE := if T.2 10 g = 1 then (match tPick T (T.2 2) (E 0) (oN (E 5 0)) g with
  | some t => vTake T g p t E
  | none => vBad p 2 E) else vBad p 1 E
def vStep (T : tT) (s p : Nat) (E : vE) : vE := if s = 46 then vCool p E else if 65 ≤ s ∧ s ≤ 68 then vCome T (s - 65) p E else vFill T (s - 48) p E
def vGo (T : tT) (sg : Nat → Nat) : Nat → Nat → vE → vE
  | 0, _, E => E
  | k + 1, p, E => if E 5 3 = 0 then vGo T sg k (p + 1) (vStep T (sg p) p E) else E
theorem vGo_bad {T : tT} {sg : Nat → Nat} {E : vE} (h : E 5 3 ≠ 0) : ∀ k p, vGo T sg k p E = E
  | 0, _ => rfl
  | k + 1, p => by rw [vGo, if_neg h]
def vE0 (T : tT) : vE := fun k i => if k = 0 then T.2 3 i else if k = 1 then T.2 4 i else 0
def vEnd (T : tT) (c : Nat) (sg : Nat → Nat) : vE := vGo T sg c 0 (vE0 T)
def vOk (n s : Nat) : Bool := decide (s = 46 ∨ (65 ≤ s ∧ s ≤ 68) ∨ (48 ≤ s ∧ s < 48 + n))
def vW (T : tT) (E : vE) : Prop := (∀ i, E 0 i ≤ 9) ∧ E 5 0 ≤ T.1 ∧ (∀ i, E 1 i ≤ 9) ∧ (∀ t, T.1 ≤ t → E 1 t = 0) ∧ (∀ i, E 2 i ≤ 4) ∧ E 5 3 ≤ 40
theorem oN_lt {T : tT} {v : Nat} (h : v ≤ T.1) : ∀ u, oN v = some u → u < T.1 := fun u hu => by
  cases v with
  | zero => cases hu
  | succ v => injection hu with e; omega
theorem vE0_w {T : tT} (hT : tW T) : vW T (vE0 T) := by
  refine ⟨fun i => ?_, Nat.zero_le _, fun i => ?_, fun t ht => ?_, fun i => Nat.zero_le _, Nat.zero_le _⟩
  · have := hT.2.1 3 i; simpa [vE0] using this
  · have := hT.2.1 4 i; simpa [vE0] using this
  · have := (hT.2.2.2.2 t ht).1; simpa [vE0] using this
theorem vBad_w {T : tT} {E : vE} {p r : Nat} (hp : p < 40) (h : vW T E) : vW T (vBad p r E) := by
  obtain ⟨h1, h2, h3, h4, h5, h6⟩ := h
  refine ⟨fun i => h1 i, h2, fun i => h3 i, fun t ht => h4 t ht, fun i => h5 i, ?_⟩
  show p + 1 ≤ 40
  omega
theorem vStep_w {T : tT} {s p : Nat} {E : vE} (hT : tW T) (hs : vOk T.1 s = true) (hp : p < 40) (h : vW T E) : vW T (vStep T s p E) := by
  simp only [vOk, decide_eq_true_eq] at hs
  unfold vStep
  split
  · obtain ⟨h1, h2, h3, h4, h5, h6⟩ := h
    refine ⟨fun i => h1 i, h2, fun i => ?_, fun t ht => ?_, fun i => h5 i, h6⟩
    · have := h3 i
      show E 1 i - 1 ≤ 9
      omega
    · have := h4 t ht
      show E 1 t - 1 = 0
      omega
  · split
    next hc =>
      unfold vCome
      split
      · cases hq : tPick T (T.2 2) (E 0) (oN (E 5 0)) (s - 65) with
        | none => exact vBad_w hp h
        | some t =>
          have ht := (tPick_lt hq).1
          obtain ⟨h1, h2, h3, h4, h5, h6⟩ := h
          refine ⟨tLess_le h1, ht, fun i => ?_, fun u hu => ?_, fun i => ?_, h6⟩
          · have := h3 i
            show (if i = t then 9 else E 1 i) ≤ 9
            split <;> omega
          · have := h4 u hu
            show (if u = t then 9 else E 1 u) = 0
            rw [if_neg (by omega)]
            exact this
          · have := h5 i
            show (if i = t ∧ E 2 t = 0 then s - 65 + 1 else E 2 i) ≤ 4
            split <;> omega
      · exact vBad_w hp h
    next hc =>
      obtain ⟨h1, h2, h3, h4, h5, h6⟩ := h
      refine ⟨fun i => ?_, h2, fun i => h3 i, fun t ht => h4 t ht, fun i => h5 i, h6⟩
      have a := h1 i
      have b := hT.2.1 1 (s - 48)
      simp at b
      show (if i = s - 48 then T.2 1 (s - 48) else E 0 i) ≤ 9
      split <;> omega
theorem vGo_w {T : tT} {sg : Nat → Nat} (hT : tW T) : ∀ k p E, p + k ≤ 40 → (∀ i, p ≤ i → i < p + k → vOk T.1 (sg i) = true) → vW T E → vW T (vGo T sg k p E)
  | 0, _, E, _, _, h => h
  | k + 1, p, E, hk, hs, h => by
    rw [vGo]
    split
    · exact vGo_w hT k (p + 1) _ (by omega) (fun i a b => hs i (by omega) (by omega)) (vStep_w hT (hs p (by omega) (by omega)) (by omega) h)
    · exact h
-- the pad's first fault
def vFf (n : Nat) (sg : Nat → Nat) : Nat → Nat → Option Nat
  | 0, _ => none
  | k + 1, p => if vOk n (sg p) = true then vFf n sg k (p + 1) else some p
theorem vFf_none {n : Nat} {sg : Nat → Nat} : ∀ k p, vFf n sg k p = none → ∀ i, p ≤ i → i < p + k → vOk n (sg i) = true
  | 0, p, _, i, a, b => by omega
  | k + 1, p, h, i, a, b => by
    rw [vFf] at h
    split at h
    next c =>
      by_cases e : i = p
      · rw [e]; exact c
      · exact vFf_none k (p + 1) h i (by omega) (by omega)
    next => cases h
theorem vFf_lt {n : Nat} {sg : Nat → Nat} : ∀ k p u, vFf n sg k p = some u → u < p + k
  | 0, p, u, h => by cases h
  | k + 1, p, u, h => by
    rw [vFf] at h
    split at h
    · have := vFf_lt k (p + 1) u h; omega
    · injection h with e; omega
theorem c_isGuest {d : Nat} {μ : sM} {s : Nat} {f : Int32 → sM → Prop} (hs : s < 1000) (h1 : 65 ≤ s ∧ s ≤ 68 → f 1 μ) (h0 : ¬ (65 ≤ s ∧ s ≤ 68) → f 0 μ) : sCl sLL mX4_isGuest d [sI (nI s)] μ (kI f) := by
  have i0 := nI_ltN (a := s) (b := 65) (by omega) (by omega)
  have i1 := nI_leN (a := 69) (b := s) (by omega) (by omega)
  refine eX4_isGuest ⟨fun q => h0 ?_, fun q => ⟨fun q2 => h0 ?_, fun q2 => h1 ?_⟩⟩
  · have := i0.mp q; omega
  · have := i1.mp q2; omega
  · have a : ¬ s < 65 := fun w => q (i0.mpr w)
    have b : ¬ 69 ≤ s := fun w => q2 (i1.mpr w)
    omega
theorem c_canStand {d : Nat} {μ : sM} {s n : Nat} {f : Int32 → sM → Prop} (hs : s < 1000) (hn : n ≤ 7) (h1 : vOk n s = true → f 1 μ) (h0 : vOk n s = false → f 0 μ) : sCl sLL mX4_canStand (d + 1) [sI (nI s), sI (nI n)] μ (kI f) := by
  simp only [vOk, decide_eq_true_eq, decide_eq_false_iff_not] at h1 h0
  have i0 := nI_inj (a := s) (b := 46) (by omega) (by omega)
  have i1 := nI_ltN (a := s) (b := 48) (by omega) (by omega)
  have e : 48 + nI n = nI (48 + n) := nI_add 48 n
  have i2 := nI_leN (a := 48 + n) (b := s) (by omega) (by omega)
  refine eX4_canStand ?_
  rw [e]
  refine ⟨fun q => h1 (Or.inl (i0.mp q)), fun q => c_isGuest hs (fun c => ⟨fun _ => h1 (Or.inr (Or.inl c)), fun w => absurd w (by decide)⟩) (fun c => ⟨fun w => absurd rfl w, fun _ => ⟨fun q2 => h0 ?_, fun q2 => ⟨fun q3 => h0 ?_, fun q3 => h1 ?_⟩⟩⟩)⟩
  · have a : ¬ s = 46 := fun w => q (i0.mpr w)
    have := i1.mp q2
    omega
  · have a : ¬ s = 46 := fun w => q (i0.mpr w)
    have := i2.mp q3
    omega
  · have a : ¬ s < 48 := fun w => q2 (i1.mpr w)
    have b : ¬ 48 + n ≤ s := fun w => q3 (i2.mpr w)
    omega
theorem c_firstFault {d : Nat} {μ : sM} {c n : Nat} {sg : Nat → Nat} {f : Int32 → sM → Prop} (hc : c ≤ 40) (hn : n ≤ 7) (h33 : μ.1 33 0 = nI c) (h34 : ∀ i, i < c → μ.1 34 i = nI (sg i)) (hs : ∀ i, i < c → sg i < 1000) (h : f (nO (vFf n sg c 0)) μ) : sCl sLL mX4_firstFault (d + 2) [sR 33, sI (nI n)] μ (kI f) := by
  refine eX4_firstFault ?_
  refine s_down (P := fun p => f (nO (vFf n sg (c - p) p)) μ → sG sLL mX4_firstFault (d + 1 + 1) (kI f) 2 [some (sR 33), some (sI (nI n)), some (sI (nI p))] [] μ) c ?_ ?_ 0 (by omega) h
  · intro h
    rw [Nat.sub_self] at h
    refine sX4_firstFault_2 ⟨fun _ => h, fun q => ?_⟩
    rw [h33] at q
    exact absurd ((nI_leN (by omega) (by omega)).mpr (Nat.le_refl _)) q
  · intro p hp ih h
    rw [show c - p = (c - (p + 1)) + 1 by omega, vFf] at h
    refine sX4_firstFault_2 ⟨fun q => ?_, fun q => ⟨vp_nI (by omega) (by omega), ?_⟩⟩
    · rw [h33] at q
      have q := (nI_leN (by omega) (by omega)).mp q
      omega
    · rw [nI_c (by omega), h34 p hp, nI_1]
      refine c_canStand (hs p hp) hn (fun ok => ⟨fun _ => ?_, fun w => absurd w (by decide)⟩) (fun no => ⟨fun w => absurd rfl w, fun _ => ?_⟩)
      · rw [if_pos ok] at h
        exact ih h
      · rw [no] at h
        exact h
-- the reference's
theorem c_faultM {d : Nat} {μ : sM} {c n : Nat} {sg : Nat → Nat} {f : Int32 → sM → Prop} (hc : c ≤ 40) (hn1 : 1 ≤ n) (hn : n ≤ 7) (h0 : μ.1 62 0 = nI n) (h33 : μ.1 62 10 = nI c) (h34 : ∀ i, i < c → μ.1 70 i = nI (sg i)) (hs : ∀ i, i < c → sg i < 1000) (h : f (nO (vFf n sg c 0)) μ) : sCl sLL mX9_fault (d + 2) [sR 62] μ (kI f) := by
  refine eX9_fault ?_
  refine s_down (P := fun p => f (nO (vFf n sg (c - p) p)) μ → sG sLL mX9_fault (d + 1 + 1) (kI f) 2 [some (sR 62), some (sI (nI p)), none] [] μ) c ?_ ?_ 0 (by omega) h
  · intro h
    rw [Nat.sub_self] at h
    refine sX9_fault_2 ⟨fun _ => h, fun q => ?_⟩
    rw [h33] at q
    exact absurd ((nI_leN (by omega) (by omega)).mpr (Nat.le_refl _)) q
  · intro p hp ih h
    have hsp := hs p hp
    have i0 := nI_inj (a := sg p) (b := 46) (by omega) (by omega)
    rw [show c - p = (c - (p + 1)) + 1 by omega, vFf] at h
    refine sX9_fault_2 ⟨fun q => ?_, fun q => ⟨vp_nI (by omega) (by omega), ?_⟩⟩
    · rw [h33] at q
      have q := (nI_leN (by omega) (by omega)).mp q
      omega
    · rw [nI_c (by omega), h34 p hp, nI_1]
      have es : (nI (sg p) - 48).toInt = (sg p : Int) - 48 := pk_sub_toInt (a := sg p) (b := 48) (by omega) (by omega)
      refine c_inN 65 68 (by decide) (by decide) (fun ok => ⟨fun _ => ?_, fun w => absurd w (by decide)⟩) (fun no => ⟨fun w => absurd rfl w, fun _ => ⟨fun q => ?_, fun q => c_isThing h0 hn1 hn (fun t ht e => ⟨fun _ => ?_, fun w => absurd w (by decide)⟩) (fun out => ⟨fun w => absurd rfl w, fun _ => ?_⟩)⟩⟩)
      · simp only [oIn, decide_eq_true_eq] at ok
        rw [nI_i (by omega)] at ok
        rw [if_pos (by simp only [vOk, decide_eq_true_eq]; omega)] at h
        exact ih h
      · have := i0.mp q
        rw [if_pos (by simp only [vOk, decide_eq_true_eq]; omega)] at h
        exact ih h
      · have e2 := (fa_eq _ _).mp e
        rw [es, nI_i (by omega)] at e2
        rw [if_pos (by simp only [vOk, decide_eq_true_eq]; omega)] at h
        exact ih h
      · simp only [oIn, decide_eq_false_iff_not] at no
        rw [nI_i (by omega)] at no
        rw [es] at out
        have a : ¬ sg p = 46 := fun w => q (i0.mpr w)
        rw [if_neg (by simp only [vOk, decide_eq_true_eq]; omega)] at h
        exact h
theorem q_fault {d : Nat} {μ : sM} {Z : tZ} {K : Int32 → Int32 → sM → Prop} (hW : zW Z) (hC : zC μ Z) (hM : zM μ Z) (hK : qK K) : sCl sLL mX8_fault (d + 20) [sR 0] μ (kI fun r μ1 => sCl sLL mX9_fault (d + 20) [sR 62] μ1 (kI fun r2 μ2 => K r r2 μ2)) := by
  have h7 := hW.1.1
  have hs : ∀ i, i < Z.2.1.1 → Z.2.1.2 i < 1000 := fun i hi => by have := hW.2.2.1 i hi; omega
  refine eX8_fault ?_
  rw [hC.1.1]
  exact c_firstFault hW.2.1 h7.2 hC.2.1 hC.2.2.1 hs (c_faultM hW.2.1 h7.1 h7.2 hM.1.1.1 hM.2.1 hM.2.2.1 hs (hK _ μ Z hW hC hM))
