-- HOW MUCH MUST STILL BE EATEN; the reference: use, keep, put back, is it seen so
theorem c_stilla {d : Nat} {μ : sM} {T : tT} {lk L S : Nat → Nat} {last : Option Nat} {f : Int32 → sM → Prop} (hT : tW T) (hC : tC μ 1 4 T) (hK : kC μ lk L last) (hL : ∀ i, L i ≤ 9) (hS : ∀ t, t < 7 → μ.1 44 t = nS (S t)) (hS9 : ∀ i, S i ≤ 10)
    (hb : (∃ t, t < T.1 ∧ L t + 1 < S t) → f (-6) μ) (h0 : (∀ t, t < T.1 → S t = 0 ∨ L t + 1 = S t) → f 0 μ) (h1 : (∀ t, t < T.1 → S t ≤ L t + 1) → (¬ ∀ t, t < T.1 → S t = 0 ∨ L t + 1 = S t) → ∀ m, 0 < m → m < 1000 → f (nI m) μ) : sCl sLL mX1_stillToEat d [sR 35, sR 44] μ (kI f) := by
  have h7 := hT.1.2
  refine eX1_stillToEata ?_
  have key : ∀ (m t c : Nat), t + m = T.1 → c ≤ 9 * t → (∀ i, i < t → S i ≤ L i + 1) → (c = 0 ↔ ∀ i, i < t → S i = 0 ∨ L i + 1 = S i) → sG sLL mX1_stillToEat d (kI f) 4 [some (sR 35), some (sR 44), some (sI (nI c)), some (sI (nI t))] [] μ := by
    intro m
    induction m with
    | zero =>
      intro t c e hc hle hz
      have e : t = T.1 := by omega
      subst e
      refine sX1_stillToEata_4 ⟨fun _ => ?_, fun q => ?_⟩
      · by_cases z : c = 0
        · have h0 := h0 (hz.mp z)
          rw [z]
          exact h0
        · exact h1 hle (fun w => z (hz.mpr w)) c (by omega) (by omega)
      · rw [hC.1] at q
        exact absurd ((nI_leN (by omega) (by omega)).mpr (Nat.le_refl _)) q
    | succ m ih =>
      intro t c e hc hle hz
      have bL := hL t
      have bS := hS9 t
      refine sX1_stillToEata_4 ⟨fun q => ?_, fun q => ⟨vp_nI (by omega) (by omega), ?_⟩⟩
      · rw [hC.1] at q
        have q := (nI_leN (by omega) (by omega)).mp q
        omega
      · rw [nI_c (by omega), hS t (by omega), hK.2.1 t (by omega), nI_1]
        cases hv : S t with
        | zero =>
          refine ⟨fun w => absurd rfl w, fun _ => ?_⟩
          refine ih (t + 1) c (by omega) (by omega) (fun i hi => ?_) ?_
          · by_cases e2 : i = t
            · subst e2; omega
            · exact hle i (by omega)
          · rw [hz]
            constructor
            · intro w i hi
              by_cases e2 : i = t
              · subst e2; exact Or.inl hv
              · exact w i (by omega)
            · intro w i hi
              exact w i (by omega)
        | succ v =>
          simp only [nS]
          have hv9 : v ≤ 9 := by omega
          refine ⟨fun _ => ⟨fun q1 => ?_, fun q1 => ?_⟩, fun w => ?_⟩
          · have q1 := (nI_leN (by omega) (by omega)).mp q1
            rw [pk_sub q1, nI_add]
            refine ih (t + 1) (c + (L t - v)) (by omega) (by omega) (fun i hi => ?_) ?_
            · by_cases e2 : i = t
              · subst e2; omega
              · exact hle i (by omega)
            · constructor
              · intro w i hi
                by_cases e2 : i = t
                · subst e2; right; omega
                · exact hz.mp (by omega) i (by omega)
              · intro w
                have w1 := hz.mpr (fun i hi => w i (by omega))
                have w2 := w t (by omega)
                omega
          · have q1 : ¬ v ≤ L t := fun w => q1 ((nI_leN (by omega) (by omega)).mpr w)
            exact hb ⟨t, by omega, by omega⟩
          · exfalso
            have w2 := (nO_m6 (o := some v) (by intro u hu; cases hu; omega)).mp w
            cases w2
  exact key T.1 0 0 (by omega) (by omega) (fun i hi => by omega) ⟨fun _ i hi => by omega, fun _ => rfl⟩
theorem c_stillb {d : Nat} {μ : sM} {T : tT} {lk L S : Nat → Nat} {last : Option Nat} {f : Int32 → sM → Prop} (hT : tW T) (hC : tC μ 1 4 T) (hK : kC μ lk L last) (hL : ∀ i, L i ≤ 9) (hS : ∀ t, t < 7 → μ.1 8 t = nS (S t)) (hS9 : ∀ i, S i ≤ 10)
    (hb : (∃ t, t < T.1 ∧ L t + 1 < S t) → f (-6) μ) (h0 : (∀ t, t < T.1 → S t = 0 ∨ L t + 1 = S t) → f 0 μ) (h1 : (∀ t, t < T.1 → S t ≤ L t + 1) → (¬ ∀ t, t < T.1 → S t = 0 ∨ L t + 1 = S t) → ∀ m, 0 < m → m < 1000 → f (nI m) μ) : sCl sLL mX1_stillToEat d [sR 35, sR 8] μ (kI f) := by
  have h7 := hT.1.2
  refine eX1_stillToEatb ?_
  have key : ∀ (m t c : Nat), t + m = T.1 → c ≤ 9 * t → (∀ i, i < t → S i ≤ L i + 1) → (c = 0 ↔ ∀ i, i < t → S i = 0 ∨ L i + 1 = S i) → sG sLL mX1_stillToEat d (kI f) 4 [some (sR 35), some (sR 8), some (sI (nI c)), some (sI (nI t))] [] μ := by
    intro m
    induction m with
    | zero =>
      intro t c e hc hle hz
      have e : t = T.1 := by omega
      subst e
      refine sX1_stillToEatb_4 ⟨fun _ => ?_, fun q => ?_⟩
      · by_cases z : c = 0
        · have h0 := h0 (hz.mp z)
          rw [z]
          exact h0
        · exact h1 hle (fun w => z (hz.mpr w)) c (by omega) (by omega)
      · rw [hC.1] at q
        exact absurd ((nI_leN (by omega) (by omega)).mpr (Nat.le_refl _)) q
    | succ m ih =>
      intro t c e hc hle hz
      have bL := hL t
      have bS := hS9 t
      refine sX1_stillToEatb_4 ⟨fun q => ?_, fun q => ⟨vp_nI (by omega) (by omega), ?_⟩⟩
      · rw [hC.1] at q
        have q := (nI_leN (by omega) (by omega)).mp q
        omega
      · rw [nI_c (by omega), hS t (by omega), hK.2.1 t (by omega), nI_1]
        cases hv : S t with
        | zero =>
          refine ⟨fun w => absurd rfl w, fun _ => ?_⟩
          refine ih (t + 1) c (by omega) (by omega) (fun i hi => ?_) ?_
          · by_cases e2 : i = t
            · subst e2; omega
            · exact hle i (by omega)
          · rw [hz]
            constructor
            · intro w i hi
              by_cases e2 : i = t
              · subst e2; exact Or.inl hv
              · exact w i (by omega)
            · intro w i hi
              exact w i (by omega)
        | succ v =>
          simp only [nS]
          have hv9 : v ≤ 9 := by omega
          refine ⟨fun _ => ⟨fun q1 => ?_, fun q1 => ?_⟩, fun w => ?_⟩
          · have q1 := (nI_leN (by omega) (by omega)).mp q1
            rw [pk_sub q1, nI_add]
            refine ih (t + 1) (c + (L t - v)) (by omega) (by omega) (fun i hi => ?_) ?_
            · by_cases e2 : i = t
              · subst e2; omega
              · exact hle i (by omega)
            · constructor
              · intro w i hi
                by_cases e2 : i = t
                · subst e2; right; omega
                · exact hz.mp (by omega) i (by omega)
              · intro w
                have w1 := hz.mpr (fun i hi => w i (by omega))
                have w2 := w t (by omega)
                omega
          · have q1 : ¬ v ≤ L t := fun w => q1 ((nI_leN (by omega) (by omega)).mpr w)
            exact hb ⟨t, by omega, by omega⟩
          · exfalso
            have w2 := (nO_m6 (o := some v) (by intro u hu; cases hu; omega)).mp w
            cases w2
  exact key T.1 0 0 (by omega) (by omega) (fun i hi => by omega) ⟨fun _ i hi => by omega, fun _ => rfl⟩

theorem c_keepNow {d : Nat} {μ : sM} {f : sM → Prop} (h : ∀ μ', sFr [71, 72] μ μ' → (∀ i, i < 7 → μ'.1 71 i = μ.1 63 (21 + i) ∧ μ'.1 72 i = μ.1 64 i) → f μ') : sCl sLL mX9_keepNow (d + 1) [sR 62] μ (kV f) := by
  refine eX9_keepNow ?_
  refine s_down (P := fun t => ∀ μ', sFr [71, 72] μ μ' → (∀ i, i < t → μ'.1 71 i = μ.1 63 (21 + i) ∧ μ'.1 72 i = μ.1 64 i) → sG sLL mX9_keepNow (d + 1) (kV f) 2 [some (sR 62), some (sI (nI t))] [] μ') 7 ?_ ?_ 0 (by omega) μ sFr.rf (fun i hi => by omega)
  · intro μ' hf hi
    exact sX9_keepNow_2 ⟨fun _ => h μ' hf hi, fun q => absurd (by decide) q⟩
  · intro t ht ih μ' hf hi
    refine sX9_keepNow_2 ⟨fun q => ?_, fun q => c_at 3 t ⟨vp_nI (by omega) (by omega), vp_nI (by omega) (by omega), ?_⟩⟩
    · have q := (nI_leN (a := 7) (by omega) (by omega)).mp q
      omega
    · rw [nI_c (by omega), nI_c (by omega), show 7 * 3 + t = 21 + t by omega, nI_1]
      refine ih _ ((hf.tr (sFr.u (by decide))).tr (sFr.u (by decide))) (fun i hit => ?_)
      have e63 : μ'.1 63 = μ.1 63 := hf.2 63 (by decide)
      have e64 : μ'.1 64 = μ.1 64 := hf.2 64 (by decide)
      by_cases c : i = t
      · subst c
        rw [s_u_ne (by omega), s_u_at, s_u_at, e63, e64]
        exact ⟨rfl, rfl⟩
      · rw [s_u_ne (by omega), s_u_off c, s_u_off c, s_u_ne (by omega)]
        exact hi i (by omega)
theorem c_putBack {d : Nat} {μ : sM} {f : sM → Prop} (h : ∀ μ', sFr [63, 64] μ μ' → (∀ j, j < 21 → μ'.1 63 j = μ.1 63 j) → (∀ i, i < 7 → μ'.1 63 (21 + i) = μ.1 71 i ∧ μ'.1 64 i = μ.1 72 i) → f μ') : sCl sLL mX9_putBack (d + 1) [sR 62] μ (kV f) := by
  refine eX9_putBack ?_
  refine s_down (P := fun t => ∀ μ', sFr [63, 64] μ μ' → (∀ j, j < 21 → μ'.1 63 j = μ.1 63 j) → (∀ i, i < t → μ'.1 63 (21 + i) = μ.1 71 i ∧ μ'.1 64 i = μ.1 72 i) → sG sLL mX9_putBack (d + 1) (kV f) 2 [some (sR 62), some (sI (nI t))] [] μ') 7 ?_ ?_ 0 (by omega) μ sFr.rf (fun _ _ => rfl) (fun i hi => by omega)
  · intro μ' hf hj hi
    exact sX9_putBack_2 ⟨fun _ => h μ' hf hj hi, fun q => absurd (by decide) q⟩
  · intro t ht ih μ' hf hj hi
    refine sX9_putBack_2 ⟨fun q => ?_, fun q => c_at 3 t ⟨vp_nI (by omega) (by omega), vp_nI (by omega) (by omega), ?_⟩⟩
    · have q := (nI_leN (a := 7) (by omega) (by omega)).mp q
      omega
    · rw [nI_c (by omega), nI_c (by omega), show 7 * 3 + t = 21 + t by omega, nI_1]
      have e71 : μ'.1 71 = μ.1 71 := hf.2 71 (by decide)
      have e72 : μ'.1 72 = μ.1 72 := hf.2 72 (by decide)
      refine ih _ ((hf.tr (sFr.u (by decide))).tr (sFr.u (by decide))) (fun j hj2 => ?_) (fun i hit => ?_)
      · rw [s_u_ne (by omega), s_u_off (by omega)]
        exact hj j hj2
      · by_cases c : i = t
        · subst c
          rw [s_u_ne (by omega), s_u_at, s_u_at, e71, e72]
          exact ⟨rfl, rfl⟩
        · rw [s_u_ne (by omega), s_u_off (by omega), s_u_off c, s_u_ne (by omega)]
          exact hi i (by omega)
/-- what use changes in the reference -/
def mFr (μ μ' : sM) : Prop := sFr [62, 63, 64] μ μ' ∧ (∀ k, k ≠ 11 → k ≠ 12 → μ'.1 62 k = μ.1 62 k) ∧ ∀ j, j < 21 → μ'.1 63 j = μ.1 63 j
theorem mFr.rf {μ : sM} : mFr μ μ := ⟨sFr.rf, fun _ _ _ => rfl, fun _ _ => rfl⟩
theorem mFr.tr {μ μ' μ'' : sM} (h : mFr μ μ') (h2 : mFr μ' μ'') : mFr μ μ'' := ⟨h.1.tr h2.1, fun k a b => (h2.2.1 k a b).trans (h.2.1 k a b), fun j hj => (h2.2.2 j hj).trans (h.2.2 j hj)⟩
theorem tE_m {μ μ' : sM} {T : tT} (h : mFr μ μ') (hE : tE μ T) : tE μ' T := tE_fr (h.2.1 0 (by omega) (by omega)) (h.2.1 4 (by omega) (by omega)) (fun j hj => h.2.2 j (by omega)) (fun j hj => h.1.2 (66 + j) (by simp; omega)) hE
theorem c_useM {d : Nat} {μ : sM} {T : tT} {lk L : Nat → Nat} {last : Option Nat} {g t : Nat} {f : sM → Prop} (hT : tW T) (hE : tE μ T) (hK : kM μ lk L last) (hL : ∀ i, L i ≤ 9) (hg : g < 4) (ht : t < 7)
    (h : ∀ μ', mFr μ μ' → kM μ' lk (tLess L t (tBite T L g t)) (some t) → μ'.1 62 12 = μ.1 62 12 + nI (tBite T L g t) → (∀ i, μ'.1 64 i = if i = t then 9 else μ.1 64 i) → f μ') : sCl sLL mX9_use (d + 1) [sR 62, sI (nI g), sI (nI t)] μ (kV f) := by
  have b7 := hT.2.1 7 g
  have bL := hL t
  simp at b7
  have hg2 := (hE.2.2.2 g hg).2.1
  have hb := tBite_le (T := T) (L := L) (g := g) (t := t)
  have fin : ∀ b, b = tBite T L g t → f (s_u (s_u (s_u (s_u μ 63 (21 + t) (nI (L t) - nI b)) 62 12 ((μ.1 62 12) + nI b)) 64 t 9) 62 11 (nI t)) := by
    intro b eb
    subst eb
    rw [pk_sub hb]
    refine h _ ⟨?_, fun k h1 h2 => ?_, fun j hj => ?_⟩ ⟨fun i hi => ?_, ?_⟩ ?_ (fun i => ?_)
    · exact (((sFr.u (by decide)).tr (sFr.u (by decide))).tr (sFr.u (by decide))).tr (sFr.u (by decide))
    · rw [s_u_off h1, s_u_ne (by omega), s_u_off h2, s_u_ne (by omega)]
    · rw [s_u_ne (by omega), s_u_ne (by omega), s_u_ne (by omega), s_u_off (by omega)]
    · rw [s_u_ne (by omega), s_u_ne (by omega), s_u_ne (by omega), s_u_off (by omega)]
      refine ⟨(hK.1 i hi).1, ?_⟩
      by_cases c : i = t
      · subst c
        rw [s_u_at]
        simp [tLess, va_up]
      · rw [s_u_off (by omega), (hK.1 i hi).2]
        simp [tLess, va_up, c]
    · rw [s_u_at]
      rfl
    · rw [s_u_off (by omega), s_u_ne (by omega), s_u_at]
    · rw [s_u_ne (by omega)]
      by_cases c : i = t
      · subst c
        rw [s_u_at, if_pos rfl]
      · rw [s_u_off c, if_neg c, s_u_ne (by omega), s_u_ne (by omega)]
  refine eX9_use ⟨vp_nI hg (by omega), c_at 3 t ⟨vp_nI (by omega) (by omega), ?_⟩⟩
  rw [nI_c (by omega), nI_c (by omega), show 7 * 3 + t = 21 + t by omega, (hK.1 t ht).2, hg2]
  refine ⟨fun q => c_at 3 t ⟨vp_nI (by omega) (by omega), c_at 3 t ⟨vp_nI (by omega) (by omega), vp_nI ht (by omega), ?_⟩⟩, fun q => c_at 3 t ⟨vp_nI (by omega) (by omega), vp_nI ht (by omega), ?_⟩⟩
  · have q := (nI_leN (by omega) (by omega)).mp q
    rw [nI_c (by omega), nI_c (by omega), show 7 * 3 + t = 21 + t by omega, (hK.1 t ht).2]
    refine fin (L t) ?_
    unfold tBite
    split
    · rfl
    · omega
  · have q : ¬ L t ≤ T.2 7 g := fun w => q ((nI_leN (by omega) (by omega)).mpr w)
    rw [nI_c (by omega), nI_c (by omega), show 7 * 3 + t = 21 + t by omega, (hK.1 t ht).2]
    refine fin (T.2 7 g) ?_
    unfold tBite
    split
    · omega
    · rfl
/-- all sights are so -/
def tSeen (n : Nat) (L S : Nat → Nat) : Bool := decide (∀ t, t < n → S t = 0 ∨ L t + 1 = S t)
theorem c_isSeenSo {d : Nat} {μ : sM} {n : Nat} {L S : Nat → Nat} {f : Int32 → sM → Prop} (h7 : n ≤ 7) (hn : μ.1 62 0 = nI n) (hK : ∀ t, t < 7 → μ.1 63 (21 + t) = nI (L t)) (hL : ∀ i, L i ≤ 9) (hS : ∀ t, t < 7 → μ.1 65 t = nS (S t)) (hS9 : ∀ i, S i ≤ 10) (h1 : tSeen n L S = true → f 1 μ) (h0 : tSeen n L S = false → f 0 μ) : sCl sLL mX9_isSeenSo (d + 1) [sR 62] μ (kI f) := by
  refine eX9_isSeenSo ?_
  have key : ∀ (m t : Nat) (x : Int32), t + m = n → ((x = 1 ∧ tSeen t L S = true) ∨ (x = 0 ∧ tSeen t L S = false)) → sG sLL mX9_isSeenSo (d + 1) (kI f) 4 [some (sR 62), some (sI x), some (sI (nI t))] [] μ := by
    intro m
    induction m with
    | zero =>
      intro t x e hx
      have e : t = n := by omega
      subst e
      refine sX9_isSeenSo_4 ⟨fun _ => ?_, fun q => ?_⟩
      · rcases hx with ⟨rfl, hx⟩ | ⟨rfl, hx⟩
        · exact ⟨Or.inr rfl, h1 hx⟩
        · exact ⟨Or.inl rfl, h0 hx⟩
      · rw [hn] at q
        exact absurd ((nI_leN (by omega) (by omega)).mpr (Nat.le_refl _)) q
    | succ m ih =>
      intro t x e hx
      have bL := hL t
      have bS := hS9 t
      have yes : tSeen t L S = true → (S t = 0 ∨ L t + 1 = S t) → tSeen (t + 1) L S = true := fun a b => by
        simp only [tSeen, decide_eq_true_eq] at a ⊢
        intro i hi
        by_cases c : i = t
        · subst c; exact b
        · exact a i (by omega)
      have no : ¬ (tSeen t L S = true ∧ (S t = 0 ∨ L t + 1 = S t)) → tSeen (t + 1) L S = false := fun a => by
        simp only [tSeen, decide_eq_true_eq, decide_eq_false_iff_not] at a ⊢
        intro w
        exact a ⟨fun i hi => w i (by omega), w t (by omega)⟩
      refine sX9_isSeenSo_4 ⟨fun q => ?_, fun q => ⟨fun q1 => ?_, fun q1 => ⟨vp_nI (by omega) (by omega), ?_⟩⟩⟩
      · rw [hn] at q
        have q := (nI_leN (by omega) (by omega)).mp q
        omega
      · rw [nI_1]
        rcases hx with ⟨rfl, hx⟩ | ⟨rfl, hx⟩
        · exact absurd q1 (by decide)
        · exact ih (t + 1) 0 (by omega) (Or.inr ⟨rfl, no (fun w => by rw [hx] at w; cases w.1)⟩)
      · rcases hx with ⟨rfl, hx⟩ | ⟨rfl, hx⟩
        · rw [nI_c (by omega), hS t (by omega), nI_1]
          cases hv : S t with
          | zero =>
            refine ⟨fun _ => ih (t + 1) 1 (by omega) (Or.inl ⟨rfl, yes hx (Or.inl hv)⟩), fun w => absurd ?_ w⟩
            simp only [nS]
            decide
          | succ v =>
            simp only [nS]
            refine ⟨fun w => ?_, fun _ => c_at 3 t ⟨vp_nI (by omega) (by omega), ?_⟩⟩
            · exact absurd w (nI_pos (by omega))
            · rw [nI_c (by omega), show 7 * 3 + t = 21 + t by omega, hK t (by omega)]
              rw [nI_inj (by omega) (by omega)]
              refine ⟨fun w => ih (t + 1) 0 (by omega) (Or.inr ⟨rfl, no (fun w2 => ?_)⟩), fun w => ih (t + 1) 1 (by omega) (Or.inl ⟨rfl, yes hx (Or.inr ?_)⟩)⟩
              · have := w2.2
                omega
              · omega
        · exact absurd rfl q1
  refine key n 0 1 (by omega) (Or.inl ⟨rfl, ?_⟩)
  simp [tSeen]
theorem c_isLeftSo {d : Nat} {μ : sM} {n : Nat} {L S : Nat → Nat} {f : Int32 → sM → Prop} (h7 : n ≤ 7) (hn : μ.1 62 0 = nI n) (hK : ∀ t, t < 7 → μ.1 63 (21 + t) = nI (L t)) (hL : ∀ i, L i ≤ 9) (hS : ∀ t, t < 7 → μ.1 76 t = nI (S t)) (hS9 : ∀ i, S i ≤ 9) (h1 : (∀ t, t < n → L t = S t) → f 1 μ) (h0 : (¬ ∀ t, t < n → L t = S t) → f 0 μ) : sCl sLL mX9_isLeftSo (d + 1) [sR 62] μ (kI f) := by
  refine eX9_isLeftSo ?_
  have key : ∀ (m t : Nat) (x : Int32), t + m = n → ((x = 1 ∧ ∀ i, i < t → L i = S i) ∨ (x = 0 ∧ ¬ ∀ i, i < t → L i = S i)) → sG sLL mX9_isLeftSo (d + 1) (kI f) 4 [some (sR 62), some (sI x), some (sI (nI t))] [] μ := by
    intro m
    induction m with
    | zero =>
      intro t x e hx
      have e : t = n := by omega
      subst e
      refine sX9_isLeftSo_4 ⟨fun _ => ?_, fun q => ?_⟩
      · rcases hx with ⟨rfl, hx⟩ | ⟨rfl, hx⟩
        · exact ⟨Or.inr rfl, h1 hx⟩
        · exact ⟨Or.inl rfl, h0 hx⟩
      · rw [hn] at q
        exact absurd ((nI_leN (by omega) (by omega)).mpr (Nat.le_refl _)) q
    | succ m ih =>
      intro t x e hx
      have bL := hL t
      have bS := hS9 t
      refine sX9_isLeftSo_4 ⟨fun q => ?_, fun q => ⟨fun q1 => ?_, fun q1 => ?_⟩⟩
      · rw [hn] at q
        have q := (nI_leN (by omega) (by omega)).mp q
        omega
      · rw [nI_1]
        rcases hx with ⟨rfl, hx⟩ | ⟨rfl, hx⟩
        · exact absurd q1 (by decide)
        · exact ih (t + 1) 0 (by omega) (Or.inr ⟨rfl, fun w => hx (fun i hi => w i (by omega))⟩)
      · rcases hx with ⟨rfl, hx⟩ | ⟨rfl, hx⟩
        · refine c_at 3 t ⟨vp_nI (by omega) (by omega), vp_nI (by omega) (by omega), ?_⟩
          rw [nI_c (by omega), nI_c (by omega), show 7 * 3 + t = 21 + t by omega, hK t (by omega), hS t (by omega), nI_1]
          rw [nI_inj (by omega) (by omega)]
          refine ⟨fun w => ih (t + 1) 0 (by omega) (Or.inr ⟨rfl, fun w2 => w (w2 t (by omega))⟩), fun w => ih (t + 1) 1 (by omega) (Or.inl ⟨rfl, fun i hi => ?_⟩)⟩
          by_cases c : i = t
          · subst c; exact w
          · exact hx i (by omega)
        · exact absurd rfl q1
  exact key n 0 1 (by omega) (Or.inl ⟨rfl, fun i hi => by omega⟩)
