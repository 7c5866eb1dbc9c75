-- belief: in pure words, and in the class
abbrev bS : Type := (Nat → Nat) × Option Nat
def bStep (T : tT) (σ : bS) (g : Nat) : bS := match tPick T (T.2 2) σ.1 σ.2 g with
  | some t => (tLess σ.1 t (tBite T σ.1 g t), some t)
  | none => σ
def bOf (T : tT) (g : Nat) : Nat := if T.2 10 g = 1 then T.2 9 g else 0
def bSum (h : Nat → Nat) : Nat → Nat → Nat
  | 0, _ => 0
  | k + 1, g => h g + bSum h k (g + 1)
def bW (T : tT) (S : Nat → Nat) : Nat → bS → Nat
  | 0, σ => if tSeen T.1 σ.1 S = true then 1 else 0
  | m + 1, σ => bSum (fun g => bOf T g * bW T S m (bStep T σ g)) 4 0
def bw (T : tT) (σ : bS) : Prop := (∀ i, σ.1 i ≤ 9) ∧ ∀ u, σ.2 = some u → u < T.1
theorem bStep_w {T : tT} {σ : bS} {g : Nat} (h : bw T σ) : bw T (bStep T σ g) := by
  unfold bStep
  cases hp : tPick T (T.2 2) σ.1 σ.2 g with
  | none => exact h
  | some t => exact ⟨tLess_le h.1, fun u hu => by injection hu with e; subst e; exact (tPick_lt hp).1⟩
theorem bSum_0 {h : Nat → Nat} (hh : ∀ g, h g = 0) : ∀ k g, bSum h k g = 0
  | 0, _ => rfl
  | k + 1, g => by rw [bSum, hh, bSum_0 hh k]
theorem bW_bad {T : tT} {S : Nat → Nat} : ∀ m σ, (∃ t, t < T.1 ∧ σ.1 t + 1 < S t) → bW T S m σ = 0
  | 0, σ, ⟨t, ht, h⟩ => by
    unfold bW
    rw [if_neg]
    simp only [tSeen, decide_eq_true_eq]
    intro w
    have := w t ht
    omega
  | m + 1, σ, ⟨t, ht, h⟩ => by
    unfold bW
    refine bSum_0 (fun g => ?_) 4 0
    rw [bW_bad m (bStep T σ g) ⟨t, ht, ?_⟩, Nat.mul_zero]
    unfold bStep
    cases tPick T (T.2 2) σ.1 σ.2 g with
    | none => exact h
    | some u =>
      show tLess σ.1 u (tBite T σ.1 g u) t + 1 < S t
      rw [tLess_at]
      split
      next c => subst c; omega
      next => exact h
/-- with the first guest told -/
def bT (T : tT) (S : Nat → Nat) (m : Nat) (σ : bS) (a : Int32) : Nat := bSum (fun g => if a = -1 ∨ a = nI g then bOf T g * bW T S m (bStep T σ g) else 0) 4 0
theorem c_ways {T : tT} (hT : tW T) : ∀ (m d : Nat) (σ : bS) (a : Int32) (μ : sM) (f : Int64 → sM → Prop), m ≤ 6 → bw T σ → tC μ 1 4 T → kC μ (T.2 2) σ.1 σ.2 → (∀ μ', sFr [35, 36] μ μ' → kC μ' (T.2 2) σ.1 σ.2 → f (lN (if m = 0 then bW T (T.2 5) 0 σ else bT T (T.2 5) (m - 1) σ a)) μ') → sCl sLL mX0_ways (d + m + 4) [sR 57, sI (nI m), sI a] μ (kL f) := by
  intro m
  have h7 := hT.1.2
  induction m with
  | zero =>
    intro d σ a μ f hm hw hC hK hf
    rw [if_pos rfl] at hf
    have hf := hf μ sFr.rf hK
    refine eX0_ways (c_stillb hT hC hK hw.1 (tC_8 hC) (tW_S hT) (fun hb => ⟨fun w => absurd rfl w, fun _ => ?_⟩) (fun h0 => ⟨fun _ => ⟨fun q => absurd q (by decide), fun _ => ⟨fun w => absurd rfl w, fun _ => ?_⟩⟩, fun w => absurd w (by decide)⟩) (fun _ hn c c0 c1 => ⟨fun _ => ⟨fun q => absurd q (by decide), fun _ => ⟨fun _ => ?_, fun w => ?_⟩⟩, fun w => ?_⟩))
    · rw [bW_bad 0 σ hb] at hf
      exact hf
    · unfold bW at hf
      rw [if_pos (by simp only [tSeen, decide_eq_true_eq]; exact h0)] at hf
      exact hf
    · unfold bW at hf
      rw [if_neg (by simp only [tSeen, decide_eq_true_eq]; exact hn)] at hf
      exact hf
    · have := (nI_is0 (by omega)).mp w
      omega
    · exact absurd w (nI_ne6 (by omega))
  | succ m ihm =>
    intro d σ a μ f hm hw hC hK hf
    rw [if_neg (by omega), Nat.add_sub_cancel] at hf
    have bad : (∃ t, t < T.1 ∧ σ.1 t + 1 < T.2 5 t) → bT T (T.2 5) m σ a = 0 := by
      rintro ⟨t, ht, h⟩
      unfold bT
      refine bSum_0 (fun g => ?_) 4 0
      split
      · rw [bW_bad m (bStep T σ g) ⟨t, ht, ?_⟩, Nat.mul_zero]
        unfold bStep
        cases tPick T (T.2 2) σ.1 σ.2 g with
        | none => exact h
        | some u =>
          show tLess σ.1 u (tBite T σ.1 g u) t + 1 < T.2 5 t
          rw [tLess_at]
          split
          next c => subst c; omega
          next => exact h
      · rfl
    have go : ∀ r1 : Int32, sG sLL mX0_ways (d + (m + 1) + 3 + 1) (kL f) 43 [some (sR 57), some (sI (nI (m + 1))), some (sI a), some (sI r1), some (sL 0), none, some (sI 0), none, none, none] [] μ := by
      intro r1
      refine s_down (P := fun g => ∀ μ1 n, sFr [35, 36] μ μ1 → kC μ1 (T.2 2) σ.1 σ.2 → n + bSum (fun g => if a = -1 ∨ a = nI g then bOf T g * bW T (T.2 5) m (bStep T σ g) else 0) (4 - g) g = bT T (T.2 5) m σ a → sG sLL mX0_ways (d + (m + 1) + 3 + 1) (kL f) 43 [some (sR 57), some (sI (nI (m + 1))), some (sI a), some (sI r1), some (sL (lN n)), none, some (sI (nI g)), none, none, none] [] μ1) 4 ?_ ?_ 0 (by omega) μ 0 sFr.rf hK (by rw [Nat.zero_add]; rfl)
      · intro μ1 n hf1 hk1 e
        have e : n = bT T (T.2 5) m σ a := e
        subst e
        exact sX0_ways_43 ⟨fun _ => hf μ1 hf1 hk1, fun q => absurd (by decide) q⟩
      · intro g hg ih μ1 n hf1 hk1 e
        rw [show 4 - g = (4 - (g + 1)) + 1 by omega, bSum] at e
        have hC1 := tC_S hC hf1 (by decide)
        have skip : (if a = -1 ∨ a = nI g then bOf T g * bW T (T.2 5) m (bStep T σ g) else 0) = 0 → sG sLL mX0_ways (d + (m + 1) + 3 + 1) (kL f) 43 [some (sR 57), some (sI (nI (m + 1))), some (sI a), some (sI r1), some (sL (lN n)), none, some (sI (nI (g + 1))), none, none, none] [] μ1 := by
          intro z
          rw [z, Nat.zero_add] at e
          exact ih μ1 n hf1 hk1 e
        have take : T.2 10 g = 1 → (a = -1 ∨ a = nI g) → sCl sLL mX1_visit (d + (m + 1) + 3) [sR 35, sI (nI g)] μ1 (kI fun r2 μ2 => (vp_in (nI g) 4 ∧ sCl sLL mX0_ways (d + (m + 1) + 3) [sR 57, sI (nI (m + 1) - 1), sI (-1)] μ2 (kL fun r3 μ3 => ((r2 ≤ 0 → sG sLL mX0_ways (d + (m + 1) + 3 + 1) (kL f) 43 [some (sR 57), some (sI (nI (m + 1))), some (sI a), some (sI r1), some (sL (lN n + ((μ2.1 12 (nI g).toNatClampNeg).toInt64 * r3))), none, some (sI (nI g + 1)), none, none, none] [] μ3) ∧ (¬ r2 ≤ 0 → sCl sLL mX1_takeBack (d + (m + 1) + 3) [sR 35, sI (μ2.1 35 3), sI r2, sI (μ1.1 35 3)] μ3 (kV fun μ4 => sG sLL mX0_ways (d + (m + 1) + 3 + 1) (kL f) 43 [some (sR 57), some (sI (nI (m + 1))), some (sI a), some (sI r1), some (sL (lN n + ((μ2.1 12 (nI g).toNatClampNeg).toInt64 * r3))), none, some (sI (nI g + 1)), none, none, none] [] μ4)))))) := by
          intro th ha
          rw [if_pos ha] at e
          have hof : bOf T g = T.2 9 g := if_pos th
          rw [hof] at e
          have b9 := hT.2.1 9 g
          simp at b9
          have e1 : nI (m + 1) - 1 = nI m := pk_sub (a := m + 1) (b := 1) (by omega)
          have wv : ∀ σ2, (if m = 0 then bW T (T.2 5) 0 σ2 else bT T (T.2 5) (m - 1) σ2 (-1)) = bW T (T.2 5) m σ2 := by
            intro σ2
            cases m with
            | zero => rfl
            | succ k =>
              rw [if_neg (by omega), Nat.add_sub_cancel]
              show bT T (T.2 5) k σ2 (-1) = bSum (fun g => bOf T g * bW T (T.2 5) k (bStep T σ2 g)) 4 0
              unfold bT
              simp
          have num : ∀ μ2, sFr [35, 36] μ1 μ2 → ∀ v, lN n + ((μ2.1 12 (nI g).toNatClampNeg).toInt64 * lN v) = lN (n + T.2 9 g * v) := by
            intro μ2 hf2 v
            rw [nI_c (by omega), hf2.2 12 (by decide)]
            have e12 : μ1.1 12 g = nI (T.2 9 g) := (hC1.2.2.2.2 g hg).2.2.2
            rw [e12, nI_l (by omega), lN_mul, lN_add]
          refine c_visit hT hC1 hk1 (tW_lk hT) hw.1 (fun u hu => by have := hw.2 u hu; omega) hg (fun t μ2 _ hp hf2 hk2 => ⟨vp_nI hg (by omega), ?_⟩) (fun hno => ⟨vp_nI hg (by omega), ?_⟩)
          · have ht := tPick_lt hp
            have bp := tBite_pos hT hg th ht.2.2
            have bl := tBite_le (T := T) (L := σ.1) (g := g) (t := t)
            have b9 := hw.1 t
            have eS : bStep T σ g = (tLess σ.1 t (tBite T σ.1 g t), some t) := by
              unfold bStep
              rw [hp]
            have hw2 := bStep_w (g := g) hw
            rw [eS] at e hw2
            rw [e1, hk1.2.2, hk2.2.2]
            refine sG.more (d := d + m + 4) (ihm d _ (-1) μ2 _ (by omega) hw2 (tC_S hC1 hf2 (by decide)) hk2 (fun μ3 hf3 hk3 => ?_)) (by omega)
            refine ⟨fun q => ?_, fun _ => ?_⟩
            · have q := (nI_leN (b := 0) (by omega) (by omega)).mp q
              omega
            · refine c_takeBack (t := t) (b := tBite T σ.1 g t) (last' := σ.2) hk3 (by omega) (fun μ4 hf4 hk4 => ?_)
              have eb : va_up (tLess σ.1 t (tBite T σ.1 g t)) t (tLess σ.1 t (tBite T σ.1 g t) t + tBite T σ.1 g t) = σ.1 := tLess_back bl
              have hk4 : kC μ4 (T.2 2) (va_up (tLess σ.1 t (tBite T σ.1 g t)) t (tLess σ.1 t (tBite T σ.1 g t) t + tBite T σ.1 g t)) σ.2 := hk4
              rw [eb] at hk4
              rw [num μ2 hf2, nI_1]
              refine ih μ4 _ (((hf1.tr hf2).tr hf3).tr hf4) hk4 ?_
              rw [wv]
              omega
          · have eS : bStep T σ g = σ := by
              unfold bStep
              rcases hno with hno | hno
              · omega
              · rw [hno]
            rw [eS] at e
            rw [e1]
            refine sG.more (d := d + m + 4) (ihm d σ (-1) μ1 _ (by omega) hw hC1 hk1 (fun μ3 hf3 hk3 => ⟨fun _ => ?_, fun q => absurd (by decide) q⟩)) (by omega)
            rw [num μ1 sFr.rf, nI_1]
            refine ih μ3 _ (hf1.tr hf3) hk3 ?_
            rw [wv]
            omega
        refine sX0_ways_43 ⟨fun q => ?_, fun _ => ?_⟩
        · have q := (nI_leN (a := 4) (by omega) (by omega)).mp q
          omega
        · refine c_hasGuest hT hC1 (fun g' hg' eg th => ⟨fun w => absurd w (by decide), fun _ => ?_⟩) (fun hno => ⟨fun _ => ?_, fun w => absurd rfl w⟩)
          · have eg := (nI_inj (by omega) (by omega)).mp eg
            subst eg
            refine ⟨fun q => take th (Or.inl q), fun q => ⟨fun q2 => take th (Or.inr q2), fun q2 => ?_⟩⟩
            rw [nI_1]
            refine skip (if_neg ?_)
            rintro (w | w)
            · exact q w
            · exact q2 w
          · rw [nI_1]
            refine skip ?_
            have : bOf T g = 0 := if_neg (by have := hno g hg rfl; omega)
            rw [this]
            simp
    refine eX0_ways (c_stillb hT hC hK hw.1 (tC_8 hC) (tW_S hT) (fun hb => ⟨fun w => absurd rfl w, fun _ => ?_⟩) (fun h0 => ⟨fun _ => ⟨fun _ => go _, fun q => ?_⟩, fun w => absurd w (by decide)⟩) (fun _ hn c c0 c1 => ⟨fun _ => ⟨fun _ => go _, fun q => ?_⟩, fun w => absurd w (nI_ne6 (by omega))⟩))
    · have hf := hf μ sFr.rf hK
      rw [bad hb] at hf
      exact hf
    · refine absurd ?_ q
      rw [fa_lt, s_z0, nI_i (by omega)]
      omega
    · refine absurd ?_ q
      rw [fa_lt, s_z0, nI_i (by omega)]
      omega
