-- CALL AGAINST CALL: seen, forget, told
def tSb (T : tT) (t : Nat) : Nat := if T.2 5 t = 0 then 0 else 1
theorem tSb_le {T : tT} (t : Nat) : tSb T t ≤ 1 := by unfold tSb; split <;> omega
theorem tB_or {f : Nat → Nat} (hf : ∀ i, f i ≤ 1) (t : Nat) : nI (tB f t) ||| nI (2 ^ t) = nI (tB f t + 1 * 2 ^ t) := by
  have h := tB_lt hf t
  rw [fa_or, Nat.or_comm, Nat.one_mul, Nat.add_comm]
  have := Nat.two_pow_add_eq_or_of_lt h 1
  rw [Nat.mul_one] at this
  rw [this]
theorem tB_zero {f : Nat → Nat} (n : Nat) (h : ∀ t, n ≤ t → f t = 0) : ∀ j, tB f (n + j) = tB f n
  | 0 => rfl
  | j + 1 => by
    show tB f (n + j) + f (n + j) * 2 ^ (n + j) = _
    rw [h _ (by omega), Nat.zero_mul, Nat.add_zero]
    exact tB_zero n h j
theorem c_sightBits {d : Nat} {μ : sM} {T : tT} {f : Int32 → sM → Prop} (hT : tW T) (hC : tC μ 1 4 T) (h : f (nI (tB (tSb T) 7)) μ) : sCl sLL mX6_sightBits d [sR 1] μ (kI f) := by
  refine eX6_sightBits ?_
  refine s_down (P := fun t => sG sLL mX6_sightBits d (kI f) 4 [some (sR 1), some (sI (nI (tB (tSb T) t))), some (sI (nI t))] [] μ) 7 ?_ ?_ 0 (by omega)
  · exact sX6_sightBits_4 ⟨fun _ => h, fun q => absurd (by decide) q⟩
  · intro t ht ih
    have bS := tW_S hT t
    refine sX6_sightBits_4 ⟨fun q => ?_, fun _ => ⟨vp_nI ht (by omega), ?_⟩⟩
    · have q := (nI_leN (a := 7) (by omega) (by omega)).mp q
      omega
    · rw [nI_c (by omega), tC_8 hC t ht, nI_1, s_shl1 t ht]
      have e : tB (tSb T) (t + 1) = tB (tSb T) t + tSb T t * 2 ^ t := rfl
      rw [e] at ih
      cases hv : T.2 5 t with
      | zero =>
        have e1 : tSb T t = 0 := by simp [tSb, hv]
        rw [e1, Nat.zero_mul, Nat.add_zero] at ih
        exact ⟨fun _ => ih, fun q => absurd rfl q⟩
      | succ v =>
        have e1 : tSb T t = 1 := by simp [tSb, hv]
        rw [e1, ← tB_or tSb_le] at ih
        refine ⟨fun q => ?_, fun _ => ih⟩
        have := (nO_m6 (o := some v) (by intro u hu; cases hu; omega)).mp q
        cases this
theorem c_sights {d : Nat} {μ : sM} {T : tT} {f : Int32 → sM → Prop} (hT : tW T) (hM : tM μ T) (h : f (nI (tB (tSb T) 7)) μ) : sCl sLL mX9_sights d [sR 62] μ (kI f) := by
  have h7 := hT.1.2
  have e7 : tB (tSb T) 7 = tB (tSb T) T.1 := by
    have := tB_zero (f := tSb T) T.1 (fun t ht => by simp [tSb, (hT.2.2.2.2 t ht).2.1]) (7 - T.1)
    rw [show T.1 + (7 - T.1) = 7 by omega] at this
    exact this
  rw [e7] at h
  refine eX9_sights ?_
  refine s_down (P := fun t => sG sLL mX9_sights d (kI f) 4 [some (sR 62), some (sI (nI (tB (tSb T) t))), some (sI (nI t))] [] μ) T.1 ?_ ?_ 0 (by omega)
  · refine sX9_sights_4 ⟨fun _ => h, fun q => ?_⟩
    rw [hM.1.1] at q
    exact absurd ((nI_leN (by omega) (by omega)).mpr (Nat.le_refl _)) q
  · intro t ht ih
    have bS := tW_S hT t
    refine sX9_sights_4 ⟨fun q => ?_, fun _ => ⟨vp_nI (by omega) (by omega), ?_⟩⟩
    · rw [hM.1.1] at q
      have q := (nI_leN (by omega) (by omega)).mp q
      omega
    · rw [nI_c (by omega), (hM.2 t (by omega)).2.2.2, nI_1, s_shl1 t (by omega)]
      have e : tB (tSb T) (t + 1) = tB (tSb T) t + tSb T t * 2 ^ t := rfl
      rw [e] at ih
      cases hv : T.2 5 t with
      | zero =>
        have e1 : tSb T t = 0 := by simp [tSb, hv]
        rw [e1, Nat.zero_mul, Nat.add_zero] at ih
        refine ⟨fun _ => ?_, fun q => absurd ?_ q⟩
        · rw [show (0 : Int32) = nI 0 from rfl, fa_or, Nat.or_zero]
          exact ih
        · simp only [nS]; decide
      | succ v =>
        have e1 : tSb T t = 1 := by simp [tSb, hv]
        rw [e1, ← tB_or tSb_le] at ih
        exact ⟨fun q => absurd q (nI_pos (by omega)), fun _ => ih⟩
theorem q_seen {d : Nat} {μ : sM} {Z : tZ} {a b : Int32} {K : Int32 → Int32 → sM → Prop} (hW : zW Z) (hC : zC μ Z) (hM : zM μ Z) (hK : qK K) : sCl sLL mX8_seen (d + 20) [sR 0, sI a, sI b] μ (kI fun r μ1 => sCl sLL mX9_seen (d + 20) [sR 62, sI a, sI b] μ1 (kI fun r2 μ2 => K r r2 μ2)) := by
  have hT := hW.1
  have h7 := hT.1.2
  have z9 : (9 : Int32).toInt = 9 := by decide
  refine eX8_seen (c_hasThing hC.1.1 h7 (fun t ht e => ⟨fun _ => ?_, fun w => absurd w (by decide)⟩) (fun q => ⟨fun w => absurd rfl w, fun _ => ?_⟩))
  · subst e
    have ref : ∀ {μ1 : sM} {K2 : Int32 → sM → Prop}, zM μ1 Z → (oIn b 0 9 = false → K2 (-2) μ1) → (oIn b 0 9 = true → sCl sLL mX9_sights (d + 19) [sR 62] (s_u μ1 65 t b) (kI fun r3 μ3 => sCl sLL mX9_ones (d + 19) [sI r3] μ3 (kI fun r4 μ4 => K2 r4 μ4))) → sCl sLL mX9_seen (d + 20) [sR 62, sI (nI t), sI b] μ1 (kI K2) := by
      intro μ1 K2 hM1 k0 k1
      refine eX9_seen (c_isThing hM1.1.1.1 hT.1.1 h7 (fun t' ht' e => ⟨fun _ => c_inN 0 9 (by decide) (by decide) (fun c => ⟨fun _ => ⟨vp_nI (by omega) (by omega), ?_⟩, fun w => absurd w (by decide)⟩) (fun c => ⟨fun w => absurd rfl w, fun _ => k0 c⟩), fun w => absurd w (by decide)⟩) (fun q => ?_))
      · rw [nI_c (by omega)]
        exact k1 c
      · rw [nI_i (by omega)] at q
        omega
    by_cases cb : oIn b 0 9 = true
    · obtain ⟨v, hv, rfl, -⟩ := oIn_nat (hi := 9) (by omega) cb
      refine ⟨fun q => absurd q (nI_pos (by omega)), fun _ => ⟨fun _ => ⟨vp_nI (by omega) (by omega), ?_⟩, fun q => absurd ((nI_leN (b := 9) (by omega) (by omega)).mpr hv) q⟩⟩
      rw [nI_c (by omega)]
      have hT2 : tW (tU Z.1 5 t (v + 1)) := tU_w hT (Or.inr ⟨rfl, by omega⟩) (by omega) (by omega) (by omega) (by omega) (fun _ => ht)
      have hC2 := tC_up5 (t := t) (v := v) hC.1
      have hlt := tB_lt (tSb_le (T := tU Z.1 5 t (v + 1))) 7
      refine c_sightBits hT2 hC2 (c_bitCount (by omega) ?_)
      have hM1 := zM_A (zA_u (μ := μ) (r := 8) (i := t) (v := nI v) (by omega)) hM
      refine ref hM1 (fun w => by rw [cb] at w; cases w) (fun _ => ?_)
      refine c_sights hT2 (tM_up5 hM1.1) (c_ones (by omega) ?_)
      exact hK _ _ (tU Z.1 5 t (v + 1), Z.2) ⟨hT2, hW.2⟩ (zC_B (zB_u (by omega)) (zC_T (S := [8]) (sFr.u (by decide)) (by decide) hC2 hC)) (zM_T (S := [65]) (sFr.u (by decide)) (by decide) (by rw [s_u_ne (by omega)]) (tM_up5 hM1.1) hM1)
    · have cb : oIn b 0 9 = false := by simpa using cb
      have out := ref (K2 := fun r2 μ2 => K (-2) r2 μ2) hM (fun _ => hK _ μ Z hW hC hM) (fun w => by rw [cb] at w; cases w)
      simp only [oIn, decide_eq_false_iff_not] at cb
      refine ⟨fun _ => out, fun q => ⟨fun q2 => ?_, fun _ => out⟩⟩
      rw [fa_lt, s_z0] at q
      rw [fa_le, z9] at q2
      omega
  · refine eX9_seen (c_isThing hM.1.1.1 hT.1.1 h7 (fun t ht e => ?_) (fun _ => ⟨fun w => absurd rfl w, fun _ => hK _ μ Z hW hC hM⟩))
    subst e
    rw [nI_i (by omega)] at q
    omega
def nForget (T : tT) : tT := (T.1, va_up T.2 5 (fun _ => 0))
theorem nForget_w {T : tT} (hT : tW T) : tW (nForget T) := by
  obtain ⟨w1, w2, w3, w4, w5⟩ := hT
  refine ⟨w1, fun k i => ?_, fun i => ?_, fun g hg q => ?_, fun t ht => ?_⟩
  · have := w2 k i
    show va_up T.2 5 (fun _ => 0) k i ≤ _
    unfold va_up
    by_cases c : k = 5
    · simp [c]
    · simpa [c] using this
  · simpa [nForget, va_up] using w3 i
  · simpa [nForget, va_up] using w4 g hg (by simpa [nForget, va_up] using q)
  · have := w5 t ht
    simp [nForget, va_up, this]
theorem q_forget {d : Nat} {μ : sM} {Z : tZ} {K : Int32 → Int32 → sM → Prop} (hW : zW Z) (hC : zC μ Z) (hM : zM μ Z) (hK : qK K) : sCl sLL mX8_forget (d + 20) [sR 0] μ (kI fun r μ1 => sCl sLL mX9_forget (d + 20) [sR 62] μ1 (kI fun r2 μ2 => K r r2 μ2)) := by
  have hT := hW.1
  have hlt := tB_lt (tSb_le (T := Z.1)) 7
  refine eX8_forget (c_sightBits hT hC.1 (c_bitCount (by omega) (c_fill (n := 7) rfl rfl (by omega) (fun μ1 hf1 h8 _ => ?_))))
  have hM1 := zM_A (zA_S hf1 (by decide)) hM
  have hC1 : tC μ1 1 4 (nForget Z.1) := by
    obtain ⟨h1, h2, h3, h4, h5⟩ := hC.1
    refine ⟨by rw [hf1.2 1 (by decide)]; exact h1, by rw [hf1.2 1 (by decide)]; exact h2, by rw [hf1.2 1 (by decide)]; exact h3, fun t ht => ?_, fun g hg => ?_⟩
    · have := h4 t ht
      refine ⟨by rw [hf1.2 4 (by decide)]; exact this.1, by rw [hf1.2 (4 + 1) (by decide)]; exact this.2.1, by rw [hf1.2 (4 + 2) (by decide)]; exact this.2.2.1, by rw [hf1.2 (4 + 3) (by decide)]; exact this.2.2.2.1, ?_⟩
      rw [h8 t ht]
      rfl
    · rw [hf1.2 (4 + 5) (by decide), hf1.2 (4 + 6) (by decide), hf1.2 (4 + 7) (by decide), hf1.2 (4 + 8) (by decide)]
      exact h5 g hg
  have hZ1 := zC_T hf1 (by decide) hC1 hC
  refine eX9_forget (c_sights hT hM1.1 (c_ones (by omega) ?_))
  refine s_down (P := fun t => ∀ μ2, sFr [65] μ1 μ2 → (∀ i, i < t → μ2.1 65 i = -6) → sG sLL mX9_forget (d + 19 + 1) (kI fun r2 μ2 => K (nI (tPop (tB (tSb Z.1) 7))) r2 μ2) 10 [some (sR 62), some (sI (nI (tPop (tB (tSb Z.1) 7)))), some (sI (nI t))] [] μ2) 7 ?_ ?_ 0 (by omega) μ1 sFr.rf (fun i hi => by omega)
  · intro μ2 hf2 h65
    refine sX9_forget_10 ⟨fun _ => hK _ μ2 (nForget Z.1, Z.2) ⟨nForget_w hT, hW.2⟩ (zC_B (zB_S hf2 (by decide)) hZ1) (zM_T hf2 (by decide) (by rw [hf2.2 62 (by decide)]) ⟨?_, fun t ht => ?_⟩ hM1), fun q => absurd (by decide) q⟩
    · obtain ⟨e1, e2, e3, e4⟩ := hM1.1.1
      refine ⟨by rw [hf2.2 62 (by decide)]; exact e1, by rw [hf2.2 62 (by decide)]; exact e2, fun t ht => by rw [hf2.2 63 (by decide)]; exact e3 t ht, fun g hg => ?_⟩
      rw [hf2.2 66 (by decide), hf2.2 67 (by decide), hf2.2 68 (by decide), hf2.2 69 (by decide)]
      exact e4 g hg
    · have := hM1.1.2 t ht
      rw [hf2.2 63 (by decide), hf2.2 64 (by decide), h65 t ht]
      exact ⟨this.1, this.2.1, this.2.2.1, rfl⟩
  · intro t ht ih μ2 hf2 h65
    refine sX9_forget_10 ⟨fun q => ?_, fun _ => ⟨vp_nI ht (by omega), ?_⟩⟩
    · have q := (nI_leN (a := 7) (by omega) (by omega)).mp q
      omega
    · rw [nI_c (by omega), nI_1]
      refine ih _ (hf2.tr (sFr.u (by decide))) (fun i hi => ?_)
      by_cases c : i = t
      · subst c; exact s_u_at
      · rw [s_u_off c]; exact h65 i (by omega)
-- told
theorem c_ofGuest {d : Nat} {μ : sM} {T : tT} {g w : Nat} {f : Int32 → sM → Prop} (hC : tC μ 1 4 T) (hg : g < 4) (hw : w ≤ 3) (h : f (nI (T.2 (6 + w) g)) μ) : sCl sLL mX6_ofGuest d [sR 1, sI (nI g), sI (nI w)] μ (kI f) := by
  have h5 := hC.2.2.2.2 g hg
  simp at h5
  have hv : vp_in (nI g) 4 := vp_nI hg (by omega)
  refine eX6_ofGuest ?_
  rw [nI_c (by omega), h5.1, h5.2.1, h5.2.2.1, h5.2.2.2]
  have : w = 0 ∨ w = 1 ∨ w = 2 ∨ w = 3 := by omega
  rcases this with rfl | rfl | rfl | rfl
  · exact ⟨fun _ => ⟨hv, h⟩, fun q => absurd rfl q⟩
  · exact ⟨fun q => absurd q (by decide), fun _ => ⟨fun _ => ⟨hv, h⟩, fun q => absurd rfl q⟩⟩
  · exact ⟨fun q => absurd q (by decide), fun _ => ⟨fun q => absurd q (by decide), fun _ => ⟨fun _ => ⟨hv, h⟩, fun q => absurd rfl q⟩⟩⟩
  · exact ⟨fun q => absurd q (by decide), fun _ => ⟨fun q => absurd q (by decide), fun _ => ⟨fun q => absurd q (by decide), fun _ => ⟨hv, h⟩⟩⟩⟩
/-- what is told of a thing, of a guest -/
def oTT (T : tT) (t k : Nat) : Int32 := if t < T.1 ∧ k ≤ 5 then (if k = 5 then nS (T.2 5 t) else nI (T.2 k t)) else -2
def oTG (T : tT) (g k : Nat) : Int32 := if g < 4 ∧ T.2 10 g = 1 ∧ k ≤ 3 then nI (T.2 (6 + k) g) else -2
theorem c_toldOfThing {d : Nat} {μ : sM} {T : tT} {t k : Nat} {f : Int32 → sM → Prop} (hT : tW T) (hC : tC μ 1 4 T) (ht : t < 1000000000) (hk : k < 10) (h : f (oTT T t k) μ) : sCl sLL mX8_toldOfThing (d + 1) [sR 0, sI (nI t), sI (nI k)] μ (kI f) := by
  have h7 := hT.1.2
  refine eX8_toldOfThing (c_hasThing hC.1 h7 (fun t' ht' e => ⟨fun w => absurd w (by decide), fun _ => ?_⟩) (fun q => ⟨fun _ => ?_, fun w => absurd rfl w⟩))
  · have e := (nI_inj (by omega) (by omega)).mp e
    subst e
    rw [show (5 : Int32) = nI 5 from rfl, nI_ltN (by omega) (by omega)]
    refine ⟨fun q => ?_, fun q => c_ofThing hT hC (by omega) (by omega) ?_⟩
    · unfold oTT at h
      rw [if_neg (by omega)] at h
      exact h
    · unfold oTT at h
      rw [if_pos ⟨ht', by omega⟩] at h
      exact h
  · rw [nI_i (by omega)] at q
    unfold oTT at h
    rw [if_neg (by omega)] at h
    exact h
theorem c_toldOfGuest {d : Nat} {μ : sM} {T : tT} {g k : Nat} {f : Int32 → sM → Prop} (hT : tW T) (hC : tC μ 1 4 T) (hg : g < 1000000000) (hk : k < 100) (h : f (oTG T g k) μ) : sCl sLL mX8_toldOfGuest (d + 1) [sR 0, sI (nI g), sI (nI k)] μ (kI f) := by
  refine eX8_toldOfGuest (c_hasGuest hT hC (fun g' hg' e hth => ⟨fun w => absurd w (by decide), fun _ => ?_⟩) (fun hno => ⟨fun _ => ?_, fun w => absurd rfl w⟩))
  · have e := (nI_inj (by omega) (by omega)).mp e
    subst e
    rw [show (3 : Int32) = nI 3 from rfl, nI_ltN (by omega) (by omega)]
    refine ⟨fun q => ?_, fun q => c_ofGuest hC hg' (by omega) ?_⟩
    · unfold oTG at h
      rw [if_neg (by omega)] at h
      exact h
    · unfold oTG at h
      rw [if_pos ⟨hg', hth, by omega⟩] at h
      exact h
  · unfold oTG at h
    rw [if_neg] at h
    · exact h
    · rintro ⟨a1, a2, a3⟩
      have := hno g a1 rfl
      omega
theorem c_toldOfThingM {d : Nat} {μ : sM} {T : tT} {t k : Nat} {f : Int32 → sM → Prop} (hT : tW T) (hM : tM μ T) (ht : t < 1000000000) (hk : k < 10) (h : f (oTT T t k) μ) : sCl sLL mX9_toldOfThing (d + 2) [sR 62, sI (nI t), sI (nI k)] μ (kI f) := by
  have h7 := hT.1.2
  refine eX9_toldOfThing (c_isThing hM.1.1 hT.1.1 h7 (fun t' ht' e => ⟨fun w => absurd w (by decide), fun _ => ?_⟩) (fun q => ⟨fun _ => ?_, fun w => absurd rfl w⟩))
  · have e := (nI_inj (by omega) (by omega)).mp e
    subst e
    have m1 := hM.1.2.2.1 t (by omega)
    have m2 := hM.2 t (by omega)
    unfold oTT at h
    rw [show (5 : Int32) = nI 5 from rfl, show (4 : Int32) = nI 4 from rfl, nI_leN (a := k) (b := 5) (by omega) (by omega), nI_leN (a := 4) (b := k) (by omega) (by omega), nI_inj (a := k) (b := 4) (by omega) (by omega)]
    refine ⟨fun q => ⟨fun q2 => ⟨fun q3 => ⟨vp_nI (by omega) (by omega), ?_⟩, fun q3 => ⟨vp_nI (by omega) (by omega), ?_⟩⟩, fun q2 => c_at k t ⟨vp_nI (by omega) (by omega), ?_⟩⟩, fun q => ?_⟩
    · rw [if_pos ⟨ht', by omega⟩, if_pos (by omega)] at h
      rw [nI_c (by omega), m2.2.2.2]
      exact h
    · rw [if_pos ⟨ht', by omega⟩, if_neg (by omega), q3] at h
      rw [nI_c (by omega), m2.2.2.1]
      exact h
    · rw [if_pos ⟨ht', by omega⟩, if_neg (by omega)] at h
      rw [nI_c (by omega)]
      have : k = 0 ∨ k = 1 ∨ k = 2 ∨ k = 3 := by omega
      rcases this with rfl | rfl | rfl | rfl
      · rw [show 7 * 0 + t = t by omega, m1.1]; exact h
      · rw [show 7 * 1 + t = 7 + t by omega, m1.2]; exact h
      · rw [show 7 * 2 + t = 14 + t by omega, m2.1]; exact h
      · rw [show 7 * 3 + t = 21 + t by omega, m2.2.1]; exact h
    · rw [if_neg (by omega)] at h
      exact h
  · rw [nI_i (by omega)] at q
    unfold oTT at h
    rw [if_neg (by omega)] at h
    exact h
theorem c_toldOfGuestM {d : Nat} {μ : sM} {T : tT} {g k : Nat} {f : Int32 → sM → Prop} (hT : tW T) (hM : tM μ T) (hg : g < 1000000000) (hk : k < 100) (h : f (oTG T g k) μ) : sCl sLL mX9_toldOfGuest (d + 2) [sR 62, sI (nI g), sI (nI k)] μ (kI f) := by
  refine eX9_toldOfGuest (c_isThere hT hM.1 (fun g' hg' e hth => ⟨fun _ => ?_, fun w => absurd w (by decide)⟩) (fun hno => ⟨fun w => absurd rfl w, fun _ => ?_⟩))
  · have e := (nI_inj (by omega) (by omega)).mp e
    subst e
    have m := hM.1.2.2.2 g hg'
    have hv : vp_in (nI g) 4 := vp_nI hg' (by omega)
    unfold oTG at h
    rw [nI_c (by omega), m.1, m.2.1, m.2.2.1, m.2.2.2]
    have i0 := nI_inj (a := k) (b := 0) (by omega) (by omega)
    have i1 := nI_inj (a := k) (b := 1) (by omega) (by omega)
    have i2 := nI_inj (a := k) (b := 2) (by omega) (by omega)
    have i3 := nI_inj (a := k) (b := 3) (by omega) (by omega)
    refine ⟨fun q0 => ⟨fun q1 => ⟨fun q2 => ⟨fun q3 => ?_, fun q3 => ⟨hv, ?_⟩⟩, fun q2 => ⟨hv, ?_⟩⟩, fun q1 => ⟨hv, ?_⟩⟩, fun q0 => ⟨hv, ?_⟩⟩
    · have j0 : ¬ k = 0 := fun q => q0 (i0.mpr q)
      have j1 : ¬ k = 1 := fun q => q1 (i1.mpr q)
      have j2 : ¬ k = 2 := fun q => q2 (i2.mpr q)
      have j3 : ¬ k = 3 := fun q => q3 (i3.mpr q)
      rw [if_neg (by omega)] at h; exact h
    · have q3 := i3.mp q3; subst q3; rw [if_pos ⟨hg', hth, by omega⟩] at h; exact h
    · have q2 := i2.mp q2; subst q2; rw [if_pos ⟨hg', hth, by omega⟩] at h; exact h
    · have q1 := i1.mp q1; subst q1; rw [if_pos ⟨hg', hth, by omega⟩] at h; exact h
    · have q0 := i0.mp q0; subst q0; rw [if_pos ⟨hg', hth, by omega⟩] at h; exact h
  · unfold oTG at h
    rw [if_neg] at h
    · exact h
    · rintro ⟨a1, a2, a3⟩
      have := hno g a1 rfl
      omega
theorem q_told {d : Nat} {μ : sM} {Z : tZ} {a : Int32} {K : Int32 → Int32 → sM → Prop} (hW : zW Z) (hC : zC μ Z) (hM : zM μ Z) (hK : qK K) : sCl sLL mX8_told (d + 20) [sR 0, sI a] μ (kI fun r μ1 => sCl sLL mX9_told (d + 20) [sR 62, sI a] μ1 (kI fun r2 μ2 => K r r2 μ2)) := by
  have hT := hW.1
  have hk : ∀ r, K r r μ := fun r => hK r μ Z hW hC hM
  have ref : ∀ {K2 : Int32 → sM → Prop}, (oIn a 100 499 = true → sCl sLL mX9_toldOfGuest (d + 19) [sR 62, sI ((a / 100) - 1), sI (s_rem a 100)] μ (kI fun r2 μ2 => K2 r2 μ2)) → (oIn a 10 79 = true → sCl sLL mX9_toldOfThing (d + 19) [sR 62, sI ((a / 10) - 1), sI (s_rem a 10)] μ (kI fun r3 μ3 => K2 r3 μ3)) → (a = 0 → K2 (nI Z.2.1.1) μ) → (a = 1 → K2 (nI Z.1.1) μ) → (a = 2 → K2 (nI (tB (Z.1.2 10) 4)) μ) → (a = 3 → K2 (nI (tB (tSb Z.1) 7)) μ) → (oIn a 100 499 = false → oIn a 10 79 = false → ¬ a = 0 → ¬ a = 1 → ¬ a = 2 → ¬ a = 3 → K2 (-2) μ) → sCl sLL mX9_told (d + 20) [sR 62, sI a] μ (kI K2) := by
    intro K2 k1 k2 k3 k4 k5 k6 k7
    refine eX9_told (c_inN 100 499 (by decide) (by decide) (fun c => ⟨fun w => absurd w (by decide), fun _ => k1 c⟩) (fun c => ⟨fun _ => c_inN 10 79 (by decide) (by decide) (fun c2 => ⟨fun w => absurd w (by decide), fun _ => k2 c2⟩) (fun c2 => ⟨fun _ => ?_, fun w => absurd rfl w⟩), fun w => absurd rfl w⟩))
    rw [hM.2.1, hM.1.1.1, hM.1.1.2.1]
    exact ⟨fun q0 => ⟨fun q1 => ⟨fun q2 => ⟨fun q3 => k7 c c2 q0 q1 q2 q3, fun q3 => c_sights hT hM.1 (k6 q3)⟩, k5⟩, k4⟩, k3⟩
  refine eX8_told ?_
  rw [hC.2.1, hC.1.1, hC.1.2.2.1]
  have n10 : ∀ {x : Int32}, x.toInt < 10 → oIn x 10 79 = false := fun h => by simp only [oIn, decide_eq_false_iff_not]; omega
  have n100 : ∀ {x : Int32}, x.toInt < 100 → oIn x 100 499 = false := fun h => by simp only [oIn, decide_eq_false_iff_not]; omega
  have z10 : (10 : Int32).toInt = 10 := by decide
  have z100 : (100 : Int32).toInt = 100 := by decide
  have lit : ∀ (x : Int32) (v : Int32), a = x → x.toInt < 10 → (x = 0 → v = nI Z.2.1.1) → (x = 1 → v = nI Z.1.1) → (x = 2 → v = nI (tB (Z.1.2 10) 4)) → (x = 3 → v = nI (tB (tSb Z.1) 7)) → (x = 0 ∨ x = 1 ∨ x = 2 ∨ x = 3) → sCl sLL mX9_told (d + 20) [sR 62, sI a] μ (kI fun r2 μ2 => K v r2 μ2) := by
    intro x v e hx e0 e1 e2 e3 h4
    subst e
    refine ref (fun w => by rw [n100 (by omega)] at w; cases w) (fun w => by rw [n10 hx] at w; cases w) (fun q => by rw [← e0 q]; exact hk v) (fun q => by rw [← e1 q]; exact hk v) (fun q => by rw [← e2 q]; exact hk v) (fun q => by rw [← e3 q]; exact hk v) (fun _ _ q0 q1 q2 q3 => ?_)
    rcases h4 with h | h | h | h
    · exact absurd h q0
    · exact absurd h q1
    · exact absurd h q2
    · exact absurd h q3
  refine ⟨fun q0 => lit 0 _ q0 (by decide) (fun _ => rfl) (fun q => absurd q (by decide)) (fun q => absurd q (by decide)) (fun q => absurd q (by decide)) (Or.inl rfl), fun q0 => ⟨fun q1 => lit 1 _ q1 (by decide) (fun q => absurd q (by decide)) (fun _ => rfl) (fun q => absurd q (by decide)) (fun q => absurd q (by decide)) (Or.inr (Or.inl rfl)), fun q1 => ⟨fun q2 => lit 2 _ q2 (by decide) (fun q => absurd q (by decide)) (fun q => absurd q (by decide)) (fun _ => rfl) (fun q => absurd q (by decide)) (Or.inr (Or.inr (Or.inl rfl))), fun q2 => ⟨fun q3 => c_sightBits hT hC.1 (lit 3 _ q3 (by decide) (fun q => absurd q (by decide)) (fun q => absurd q (by decide)) (fun q => absurd q (by decide)) (fun _ => rfl) (Or.inr (Or.inr (Or.inr rfl)))), fun q3 => ?_⟩⟩⟩⟩
  rw [fa_lt, fa_lt, z10, z100]
  have out : oIn a 100 499 = false → oIn a 10 79 = false → sCl sLL mX9_told (d + 20) [sR 62, sI a] μ (kI fun r2 μ2 => K (-2) r2 μ2) := fun c1 c2 => ref (fun w => by rw [c1] at w; cases w) (fun w => by rw [c2] at w; cases w) (fun q => absurd q q0) (fun q => absurd q q1) (fun q => absurd q q2) (fun q => absurd q q3) (fun _ _ _ _ _ _ => hk _)
  refine ⟨fun c100 => ⟨fun c10 => out (n100 (by omega)) (n10 c10), fun c10 => ?_⟩, fun c100 => ?_⟩
  · obtain ⟨m, hm, e⟩ : ∃ m, m < 100 ∧ a = nI m := ⟨a.toInt.toNat, by omega, by rw [fa_eq, nI_i (by omega)]; omega⟩
    subst e
    rw [nI_i (by omega)] at c100 c10
    have e1 : nI m / 10 = nI (m / 10) := pk_div (a := m) (d := 10) (by omega) (by omega) (by omega)
    have e2 : s_rem (nI m) 10 = nI (m % 10) := pk_rem (a := m) (d := 10) (by omega) (by omega) (by omega)
    have e3 : nI (m / 10) - 1 = nI (m / 10 - 1) := pk_sub (b := 1) (by omega)
    rw [e1, e2, e3]
    refine c_toldOfThing hT hC.1 (by omega) (by omega) ?_
    by_cases c79 : m ≤ 79
    · refine ref (fun w => by rw [n100 (by rw [nI_i (by omega)]; omega)] at w; cases w) (fun _ => ?_) (fun q => absurd q q0) (fun q => absurd q q1) (fun q => absurd q q2) (fun q => absurd q q3) (fun _ w => ?_)
      · rw [e1, e2, e3]
        exact c_toldOfThingM hT hM.1 (by omega) (by omega) (hk _)
      · simp only [oIn, decide_eq_false_iff_not] at w
        rw [nI_i (by omega)] at w
        omega
    · have e4 : oTT Z.1 (m / 10 - 1) (m % 10) = -2 := by
        unfold oTT
        rw [if_neg]
        have := hT.1.2
        omega
      rw [e4]
      exact out (n100 (by rw [nI_i (by omega)]; omega)) (by simp only [oIn, decide_eq_false_iff_not]; rw [nI_i (by omega)]; omega)
  · obtain ⟨m, hm, e⟩ : ∃ m, m < 2147483648 ∧ a = nI m := ⟨a.toInt.toNat, by have := fb_rng a; omega, by have := fb_rng a; rw [fa_eq, nI_i (by omega)]; omega⟩
    subst e
    rw [nI_i (by omega)] at c100
    have e1 : nI m / 100 = nI (m / 100) := pk_div (a := m) (d := 100) (by omega) (by omega) (by omega)
    have e2 : s_rem (nI m) 100 = nI (m % 100) := pk_rem (a := m) (d := 100) (by omega) (by omega) (by omega)
    have e3 : nI (m / 100) - 1 = nI (m / 100 - 1) := pk_sub (b := 1) (by omega)
    rw [e1, e2, e3]
    refine c_toldOfGuest hT hC.1 (by omega) (by omega) ?_
    have no10 : oIn (nI m) 10 79 = false := by simp only [oIn, decide_eq_false_iff_not]; rw [nI_i (by omega)]; omega
    by_cases c499 : m ≤ 499
    · refine ref (fun _ => ?_) (fun w => by rw [no10] at w; cases w) (fun q => absurd q q0) (fun q => absurd q q1) (fun q => absurd q q2) (fun q => absurd q q3) (fun w => ?_)
      · rw [e1, e2, e3]
        exact c_toldOfGuestM hT hM.1 (by omega) (by omega) (hk _)
      · simp only [oIn, decide_eq_false_iff_not] at w
        rw [nI_i (by omega)] at w
        omega
    · have e4 : oTG Z.1 (m / 100 - 1) (m % 100) = -2 := by
        unfold oTG
        rw [if_neg (by omega)]
      rw [e4]
      exact out (by simp only [oIn, decide_eq_false_iff_not]; rw [nI_i (by omega)]; omega) no10
