-- THE SAME CHOICE IN THE REFERENCE
def kM (μ : sM) (lk L : Nat → Nat) (last : Option Nat) : Prop := (∀ t, t < 7 → μ.1 63 (14 + t) = nI (lk t) ∧ μ.1 63 (21 + t) = nI (L t)) ∧ μ.1 62 11 = nO last
theorem c_at {d : Nat} {μ : sM} {f : Int32 → sM → Prop} (k t : Nat) (h : f (nI (7 * k + t)) μ) : sCl sLL mX9_at d [sI (nI k), sI (nI t)] μ (kI f) := by
  refine eX9_at ?_
  have e : (7 : Int32) * nI k + nI t = nI (7 * k + t) := by rw [show (7 : Int32) = nI 7 from rfl, pk_mul, nI_add]
  rw [e]
  exact h
theorem c_isPassed {d : Nat} {μ : sM} {lk L : Nat → Nat} {last : Option Nat} {t : Nat} {f : Int32 → sM → Prop} (hK : kM μ lk L last) (hk : ∀ i, lk i ≤ 1) (hL : ∀ i, L i ≤ 9) (ht : t < 7) (h1 : tOk lk L t = true → f 0 μ) (h0 : tOk lk L t = false → f 1 μ) : sCl sLL mX9_isPassed (d + 1) [sR 62, sI (nI t)] μ (kI f) := by
  have bk := hk t
  have bL := hL t
  refine eX9_isPassed (c_at 2 t ⟨vp_nI (by omega) (by omega), ?_⟩)
  rw [nI_c (by omega), show 7 * 2 + t = 14 + t by omega, (hK.1 t ht).1]
  refine ⟨fun q => h0 (by simp [tOk, (nI_is1 bk).mp q]), fun q => c_at 3 t ⟨vp_nI (by omega) (by omega), ?_⟩⟩
  have c1 : lk t ≠ 1 := fun w => q ((nI_is1 bk).mpr w)
  rw [nI_c (by omega), show 7 * 3 + t = 21 + t by omega, (hK.1 t ht).2]
  refine ⟨fun q2 => h1 ?_, fun q2 => h0 ?_⟩
  · have c2 : L t ≠ 0 := fun w => q2 ((nI_is0 (by omega)).mpr w)
    simp [tOk, c1, c2]
  · simp [tOk, (nI_is0 (by omega)).mp q2]
def tDs (n t : Nat) : Option Nat → Nat
  | none => t
  | some u => if u < t then t - u - 1 else t + n - u - 1
def tLk (T : tT) (L : Nat → Nat) (last : Option Nat) (g t : Nat) : Int32 :=
  if T.2 8 g = 0 then -(nI (tKey T L last g t)) else if T.2 8 g = 1 then nI (L t) else if T.2 8 g = 2 then -(nI (tDs T.1 t last)) else nI (if T.2 7 g ≤ L t then 1 else 0)
theorem tLk_le {T : tT} (hT : tW T) {L : Nat → Nat} {last : Option Nat} {g t b : Nat} (ht : t < T.1) (hb : b < T.1) (hL : ∀ i, L i ≤ 9) (hl : ∀ u, last = some u → u < T.1) : tLk T L last g t ≤ tLk T L last g b ↔ ¬ tKey T L last g t < tKey T L last g b := by
  have h7 := hT.1.2
  have k1 := tKey_lt hT (L := L) (last := last) (g := g) (t := t) (by omega) (hL t)
  have k2 := tKey_lt hT (L := L) (last := last) (g := g) (t := b) (by omega) (hL b)
  have q1 := hL t
  have q2 := hL b
  by_cases c0 : T.2 8 g = 0
  · simp only [tLk, c0, if_true]
    rw [sb_nle (by omega) (by omega)]
    omega
  · by_cases c1 : T.2 8 g = 1
    · simp [tLk, tKey, c1]
      rw [nI_leN (by omega) (by omega)]
      omega
    · by_cases c2 : T.2 8 g = 2
      · simp [tLk, tKey, c2]
        cases last with
        | none =>
          simp only [tDs, tNx]
          rw [sb_nle (by omega) (by omega)]
        | some u =>
          have := hl u rfl
          simp only [tDs, tNx]
          rw [sb_nle (by split <;> omega) (by split <;> omega)]
          split <;> split <;> omega
      · simp [tLk, tKey, c0, c1, c2]
        rw [nI_leN (by split <;> omega) (by split <;> omega)]
        split <;> split <;> omega
theorem c_likes {d : Nat} {μ : sM} {T : tT} {lk L : Nat → Nat} {last : Option Nat} {g t : Nat} {f : Int32 → sM → Prop} (hT : tW T) (hE : tE μ T) (hK : kM μ lk L last) (hL : ∀ i, L i ≤ 9) (hl : ∀ u, last = some u → u < T.1) (hg : g < 4) (ht : t < T.1) (h : f (tLk T L last g t) μ) : sCl sLL mX9_likes (d + 1) [sR 62, sI (nI g), sI (nI t)] μ (kI f) := by
  have h7 := hT.1.2
  have hg2 := hE.2.2.2 g hg
  have ht2 := hE.2.2.1 t (by omega)
  have b0 := hT.2.1 0 t
  have b6 := hT.2.1 6 g
  have b7 := hT.2.1 7 g
  have b8 := hT.2.1 8 g
  have bL := hL t
  simp at b0 b6 b7 b8
  have z : (0 : Int32).toInt = 0 := by decide
  refine eX9_likes (c_at 0 t ⟨vp_nI (by omega) (by omega), vp_nI hg (by omega), ?_⟩)
  rw [nI_c (by omega), nI_c (by omega), show 7 * 0 + t = t by omega, hg2.2.2.1, hg2.1, ht2.1, hK.2, hE.1]
  refine ⟨fun q => ?_, fun q => ⟨fun q2 => ?_, fun q2 => ⟨fun q3 => ?_, fun q3 => ?_⟩⟩⟩
  · have q : T.2 8 g = 0 := (nI_is0 (by omega)).mp q
    have hs := pk_sub_toInt (a := T.2 0 t) (b := T.2 6 g) (by omega) (by omega)
    have e : tLk T L last g t = -(nI ((T.2 0 t - T.2 6 g) + (T.2 6 g - T.2 0 t))) := by simp [tLk, tKey, q]
    rw [e] at h
    refine ⟨fun c => ?_, fun c => ?_⟩
    · rw [fa_le, z, hs] at c
      rw [pk_sub (by omega)]
      rw [show T.2 6 g - T.2 0 t = 0 by omega, Nat.add_zero] at h
      exact h
    · rw [fa_le, z, hs] at c
      have e2 : nI (T.2 0 t) - nI (T.2 6 g) = -(nI ((T.2 0 t - T.2 6 g) + (T.2 6 g - T.2 0 t))) := by
        rw [fa_eq, hs, sb_negT (by omega)]
        omega
      rw [e2]
      exact h
  · have q2 : T.2 8 g = 1 := (nI_inj (b := 1) (by omega) (by omega)).mp q2
    refine c_at 3 t ⟨vp_nI (by omega) (by omega), ?_⟩
    rw [nI_c (by omega), show 7 * 3 + t = 21 + t by omega, (hK.1 t (by omega)).2]
    simp [tLk, q2] at h
    exact h
  · have q3 : T.2 8 g = 2 := (nI_inj (b := 2) (by omega) (by omega)).mp q3
    have e : tLk T L last g t = -(nI (tDs T.1 t last)) := by simp [tLk, q3]
    rw [e] at h
    have n0 : ¬ nI T.1 = 0 := nI_ne0 (by omega) (by omega)
    have h2n : (2 : Int32) * nI T.1 = nI (2 * T.1) := pk_mul 2 T.1
    cases last with
    | none =>
      refine ⟨fun c => ?_, fun c => ⟨n0, ?_⟩⟩
      · simp only [nO, fa_le, z] at c
        have : (-6 : Int32).toInt = -6 := by decide
        omega
      · have e1 : nI t - 0 + 2 * nI T.1 = nI (t + 2 * T.1) := by
          rw [h2n, show nI t - 0 = nI t by rw [show (0 : Int32) = nI 0 from rfl, pk_sub (Nat.zero_le t), Nat.sub_zero], nI_add]
        have e2 : s_rem (nI (t + 2 * T.1)) (nI T.1) = nI t := by
          unfold s_rem
          rw [pk_rem (by omega) (by omega) (by omega), Nat.add_mul_mod_self_right, Nat.mod_eq_of_lt ht]
        rw [e1, e2]
        exact h
    | some u =>
      have hu := hl u rfl
      refine ⟨fun c => ⟨n0, ?_⟩, fun c => ?_⟩
      · have e1 : nI t - (nO (some u) + 1) + 2 * nI T.1 = nI (t + 2 * T.1 - (u + 1)) := by
          show nI t - (nI u + 1) + 2 * nI T.1 = _
          rw [h2n, nI_1, fa_eq, fb_addI (by rw [pk_sub_toInt (by omega) (by omega), nI_i (by omega)]; omega) (by rw [pk_sub_toInt (by omega) (by omega), nI_i (by omega)]; omega), pk_sub_toInt (by omega) (by omega), nI_i (by omega), nI_i (by omega)]
          omega
        have e2 : s_rem (nI (t + 2 * T.1 - (u + 1))) (nI T.1) = nI (tDs T.1 t (some u)) := by
          unfold s_rem
          rw [pk_rem (by omega) (by omega) (by omega)]
          congr 1
          simp only [tDs]
          split
          next c2 =>
            rw [show t + 2 * T.1 - (u + 1) = (t - u - 1) + 2 * T.1 by omega, Nat.add_mul_mod_self_right, Nat.mod_eq_of_lt (by omega)]
          next c2 =>
            rw [show t + 2 * T.1 - (u + 1) = (t + T.1 - u - 1) + 1 * T.1 by omega, Nat.add_mul_mod_self_right, Nat.mod_eq_of_lt (by omega)]
        rw [e1, e2]
        exact h
      · exfalso
        apply c
        exact nI_pos' (by omega)
  · have n0 : T.2 8 g ≠ 0 := fun w => q (by rw [w]; rfl)
    have n1 : T.2 8 g ≠ 1 := fun w => q2 (by rw [w]; rfl)
    have n2 : T.2 8 g ≠ 2 := fun w => q3 (by rw [w]; rfl)
    refine c_at 3 t ⟨vp_nI (by omega) (by omega), ?_⟩
    rw [nI_c (by omega), show 7 * 3 + t = 21 + t by omega, (hK.1 t (by omega)).2, hg2.2.1]
    refine ⟨fun c => ?_, fun c => ?_⟩
    · have c : L t < T.2 7 g := (nI_ltN (by omega) (by omega)).mp c
      have e : tLk T L last g t = 0 := by simp [tLk, n0, n1, n2, Nat.not_le.mpr c]; rfl
      rw [e] at h
      exact h
    · have c : ¬ L t < T.2 7 g := fun w => c ((nI_ltN (by omega) (by omega)).mpr w)
      have e : tLk T L last g t = 1 := by simp [tLk, n0, n1, n2, Nat.not_lt.mp c]; rfl
      rw [e] at h
      exact h
theorem c_taken {d : Nat} {μ : sM} {T : tT} {lk L : Nat → Nat} {last : Option Nat} {g : Nat} {f : Int32 → sM → Prop} (hT : tW T) (hE : tE μ T) (hK : kM μ lk L last) (hk : ∀ i, lk i ≤ 1) (hL : ∀ i, L i ≤ 9) (hl : ∀ u, last = some u → u < T.1) (hg : g < 4) (h : f (nO (tPick T lk L last g)) μ) : sCl sLL mX9_taken (d + 2) [sR 62, sI (nI g)] μ (kI f) := by
  have h7 := hT.1.2
  refine eX9_taken ?_
  have key : ∀ (m t : Nat), t + m = T.1 → sG sLL mX9_taken (d + 1 + 1) (kI f) 5 [some (sR 62), some (sI (nI g)), some (sI (nO (tPk (tOk lk L) (tKey T L last g) t))), some (sI (nI t)), none] [] μ := by
    intro m
    induction m with
    | zero =>
      intro t e
      have e : t = T.1 := by omega
      subst e
      refine sX9_taken_5 ⟨fun _ => h, fun q => ?_⟩
      rw [hE.1] at q
      exact absurd ((nI_leN (by omega) (by omega)).mpr (Nat.le_refl _)) q
    | succ m ih =>
      intro t e
      have ht : t < 7 := by omega
      have e1 : nI t + 1 = nI (t + 1) := nI_1 t
      refine sX9_taken_5 ⟨fun q => ?_, fun q => ?_⟩
      · rw [hE.1] at q
        have q := (nI_leN (by omega) (by omega)).mp q
        omega
      · refine c_isPassed hK hk hL ht (fun ho => ⟨fun w => absurd rfl w, fun _ => ?_⟩) (fun ho => ⟨fun _ => ?_, fun w => absurd w (by decide)⟩)
        · have take : tPk (tOk lk L) (tKey T L last g) (t + 1) = some t → sG sLL mX9_taken (d + 1 + 1) (kI f) 5 [some (sR 62), some (sI (nI g)), some (sI (nI t)), some (sI (nI t + 1)), none] [] μ := fun e2 => by
            rw [e1]
            have e3 := ih (t + 1) (by omega)
            rw [e2] at e3
            exact e3
          cases hp : tPk (tOk lk L) (tKey T L last g) t with
          | none =>
            refine ⟨fun _ => take (by simp [tPk, ho, hp]), fun q3 => absurd ?_ q3⟩
            simp only [nO]
            decide
          | some b =>
            have hb := (tPk_lt hp).1
            refine ⟨fun q3 => ?_, fun _ => ?_⟩
            · rw [nO_neg (by intro u hu; cases hu; omega)] at q3
              cases q3
            · refine c_likes hT hE hK hL hl hg (by omega) ?_
              refine c_likes (t := b) hT hE hK hL hl hg (by omega) ?_
              refine ⟨fun q4 => ?_, fun q4 => ?_⟩
              · rw [tLk_le hT (by omega) (by omega) hL hl] at q4
                rw [e1]
                have e2 : tPk (tOk lk L) (tKey T L last g) (t + 1) = some b := by simp [tPk, ho, hp, q4]
                have e3 := ih (t + 1) (by omega)
                rw [e2] at e3
                exact e3
              · rw [tLk_le hT (by omega) (by omega) hL hl, Classical.not_not] at q4
                exact take (by simp [tPk, ho, hp, q4])
        · rw [e1]
          have e2 : tPk (tOk lk L) (tKey T L last g) (t + 1) = tPk (tOk lk L) (tKey T L last g) t := by simp [tPk, ho]
          rw [← e2]
          exact ih (t + 1) (by omega)
  exact key T.1 0 (by omega)
