-- lay in the reference
theorem c_areApart {d : Nat} {μ : sM} {T : tT} {L : Nat → Nat} {f : Int32 → sM → Prop} (hT : tW T) (hE : tE μ T) (hlk : ∀ t, t < 7 → μ.1 63 (14 + t) = nI (T.2 2 t)) (h71 : ∀ t, t < 7 → μ.1 71 t = nI (L t)) (hL : ∀ i, L i ≤ 9) (h1 : aAp T L → ∀ μ', fF μ μ' → (∀ i, i < 7 → μ'.1 63 (21 + i) = μ.1 71 i ∧ μ'.1 64 i = μ.1 72 i) → f 1 μ') (h0 : ¬ aAp T L → ∀ μ', fF μ μ' → (∀ i, i < 7 → μ'.1 63 (21 + i) = μ.1 71 i ∧ μ'.1 64 i = μ.1 72 i) → f 0 μ') : sCl sLL mX9_areApart (d + 4) [sR 62] μ (kI f) := by
  have h7 := hT.1.2
  refine eX9_areApart (c_findAlone hT hE hlk h71 hL (fun μ3 F3 hb3 a3 => ?_))
  have E3 := tE_f F3 hE
  have h1 := fun w => h1 w μ3 F3 hb3
  have h0 := fun w => h0 w μ3 F3 hb3
  have al_iff : ∀ i j, i < 4 → j < 4 → T.2 10 i = 1 → T.2 10 j = 1 → (μ3.1 82 i = μ3.1 82 j ↔ aAl T L i j = true) := by
    intro i j hi hj ti tj
    rw [a3 i hi, a3 j hj, nI_inj (tNum7 (aLf_le hL) h7) (tNum7 (aLf_le hL) h7), aDo_iff hT hL hi hj ti tj]
    simp only [aAl, decide_eq_true_eq]
    exact ⟨fun e => ⟨ti, tj, e⟩, fun e => e.2.2⟩
  have al_no : ∀ i j, (T.2 10 i = 0 ∨ T.2 10 j = 0) → aAl T L i j = false := by
    intro i j h
    simp only [aAl, decide_eq_false_iff_not]
    omega
  refine s_down (P := fun i => ∀ b : Int32, ((b = 1 ∧ (aAp T L ↔ aAll (aAl T L) (4 - i) i = [])) ∨ (b = 0 ∧ ¬ aAp T L)) → sG sLL mX9_areApart (d + 3 + 1) (kI f) 8 [some (sR 62), some (sI b), some (sI (nI i)), none] [] μ3) 4 ?_ ?_ 0 (by omega) 1 (Or.inl ⟨rfl, Iff.rfl⟩)
  · intro b hb
    refine sX9_areApart_8 ⟨fun _ => ?_, fun q => absurd (by decide) q⟩
    rcases hb with ⟨rfl, hb⟩ | ⟨rfl, hb⟩
    · exact ⟨Or.inr rfl, h1 (hb.mpr rfl)⟩
    · exact ⟨Or.inl rfl, h0 hb⟩
  · intro i hi ih b hb
    rw [show 4 - i = (4 - (i + 1)) + 1 by omega, aAll] at hb
    refine sX9_areApart_8 ⟨fun q => ?_, fun _ => ?_⟩
    · have q := (nI_leN (a := 4) (by omega) (by omega)).mp q
      omega
    · rw [nI_1]
      refine s_down (P := fun j => ∀ b : Int32, ((b = 1 ∧ (aAp T L ↔ aRow (aAl T L) i (4 - j) j ++ aAll (aAl T L) (4 - (i + 1)) (i + 1) = [])) ∨ (b = 0 ∧ ¬ aAp T L)) → sG sLL mX9_areApart (d + 3 + 1) (kI f) 17 [some (sR 62), some (sI b), some (sI (nI i)), some (sI (nI j))] [] μ3) 4 ?_ ?_ (i + 1) (by omega) b hb
      · intro b hb
        rw [Nat.sub_self] at hb
        refine sX9_areApart_17 ⟨fun _ => ?_, fun q => absurd (by decide) q⟩
        rw [nI_1]
        exact ih b hb
      · intro j hj ih2 b hb
        rw [show 4 - j = (4 - (j + 1)) + 1 by omega, aRow] at hb
        refine sX9_areApart_17 ⟨fun q => ?_, fun _ => ?_⟩
        · have q := (nI_leN (a := 4) (by omega) (by omega)).mp q
          omega
        · rw [nI_1]
          rcases hb with ⟨rfl, hb⟩ | ⟨rfl, hb⟩
          · refine ⟨fun w => absurd w (by decide), fun _ => ?_⟩
            have skip : aAl T L i j = false → sG sLL mX9_areApart (d + 3 + 1) (kI f) 17 [some (sR 62), some (sI 1), some (sI (nI i)), some (sI (nI (j + 1)))] [] μ3 := by
              intro al
              rw [al] at hb
              simp only [Bool.false_eq_true, if_false, List.nil_append] at hb
              exact ih2 1 (Or.inl ⟨rfl, hb⟩)
            refine c_isThere hT E3 (fun g hg e th => ⟨fun w => absurd w (by decide), fun _ => c_isThere hT E3 (fun g2 hg2 e2 th2 => ⟨fun w => absurd w (by decide), fun _ => ⟨vp_nI hi (by omega), vp_nI hj (by omega), ?_⟩⟩) (fun hno => ⟨fun _ => skip (al_no i j (Or.inr (hno j hj rfl))), fun w => absurd rfl w⟩)⟩) (fun hno => ⟨fun _ => skip (al_no i j (Or.inl (hno i hi rfl))), fun w => absurd rfl w⟩)
            have e := (nI_inj (by omega) (by omega)).mp e
            have e2 := (nI_inj (by omega) (by omega)).mp e2
            subst e e2
            rw [nI_c (by omega), nI_c (by omega), al_iff i j hi hj th th2]
            refine ⟨fun al => ih2 0 (Or.inr ⟨rfl, ?_⟩), fun q => skip (by simpa using q)⟩
            rw [if_pos al] at hb
            rw [hb]
            simp
          · exact ⟨fun _ => ih2 0 (Or.inr ⟨rfl, hb⟩), fun w => absurd rfl w⟩
theorem aEx_v {T : tT} {i j : Nat} : aEx T i j ↔ ∃ v, v < 100 ∧ aAp T (aUp (T.2 3) j i (v / 10) (v % 10)) := by
  have sym : ∀ p q, i ≠ j → aUp (T.2 3) j i p q = aUp (T.2 3) i j q p := by
    intro p q hne
    funext t
    rw [aUp_at, aUp_at]
    by_cases c : t = i
    · rw [if_pos c, if_neg (by omega), if_pos c]
    · rw [if_neg c, if_neg c]
  constructor
  · rintro ⟨v, hv, w, hw, h⟩
    by_cases c : i = j
    · subst c
      exact ⟨10 * v + w, by omega, by rw [show (10 * v + w) / 10 = v by omega, show (10 * v + w) % 10 = w by omega]; exact h⟩
    · exact ⟨10 * w + v, by omega, by rw [show (10 * w + v) / 10 = w by omega, show (10 * w + v) % 10 = v by omega, sym _ _ c]; exact h⟩
  · rintro ⟨v, hv, h⟩
    by_cases c : i = j
    · subst c
      exact ⟨v / 10, by omega, v % 10, by omega, h⟩
    · rw [sym _ _ c] at h
      exact ⟨v % 10, by omega, v / 10, by omega, h⟩
def hG (μ μ' : sM) : Prop := sFr [62, 63, 64, 71, 82] μ μ' ∧ (∀ k, k ≠ 11 → k ≠ 12 → μ'.1 62 k = μ.1 62 k) ∧ ∀ j, j < 21 → μ'.1 63 j = μ.1 63 j
theorem hG.rf {μ : sM} : hG μ μ := ⟨sFr.rf, fun _ _ _ => rfl, fun _ _ => rfl⟩
theorem hG.tr {μ μ' μ'' : sM} (h : hG μ μ') (h2 : hG μ' μ'') : hG μ μ'' := ⟨h.1.tr h2.1, fun k a b => (h2.2.1 k a b).trans (h.2.1 k a b), fun j hj => (h2.2.2 j hj).trans (h.2.2 j hj)⟩
theorem hG.f {μ μ' : sM} (h : fF μ μ') : hG μ μ' := ⟨h.1.mono (by decide), h.2.1, h.2.2⟩
theorem hG.u {μ : sM} {i : Nat} {v : Int32} : hG μ (s_u μ 71 i v) := ⟨sFr.u (by decide), fun k _ _ => by rw [s_u_ne (by omega)], fun j _ => by rw [s_u_ne (by omega)]⟩
theorem tE_h {μ μ' : sM} {T : tT} (h : hG μ μ') (hE : tE μ T) : tE μ' T := tE_fr (h.2.1 0 (by omega) (by omega)) (h.2.1 4 (by omega) (by omega)) (fun j hj => h.2.2 j (by omega)) (fun j hj => h.1.2 (66 + j) (by simp; omega)) hE
def hS (μ μ' : sM) : Prop := hG μ μ' ∧ ∀ t, t < 7 → μ'.1 71 t = μ.1 71 t ∧ μ'.1 63 (21 + t) = μ.1 71 t ∧ μ'.1 64 t = μ.1 72 t
theorem c_canBeLaid {d : Nat} {μ μ0 : sM} {T : tT} {i j : Nat} {f : Int32 → sM → Prop} (hT : tW T) (hE : tE μ T) (hlk : ∀ t, t < 7 → μ.1 63 (14 + t) = nI (T.2 2 t)) (h71 : ∀ t, t < 7 → μ.1 71 t = nI (T.2 3 t)) (hS0 : hS μ μ0) (hi : i < 7) (hj : j < 7) (h1 : aEx T i j → ∀ μ', hS μ μ' → f 1 μ') (h0 : ¬ aEx T i j → ∀ μ', hS μ μ' → f 0 μ') : sCl sLL mX9_canBeLaid (d + 5) [sR 62, sI (nI i), sI (nI j)] μ0 (kI f) := by
  have hL9 : ∀ i, T.2 3 i ≤ 9 := fun i => by have := hT.2.1 3 i; simpa using this
  have vi : vp_in (nI i) 7 := vp_nI hi (by omega)
  have vj : vp_in (nI j) 7 := vp_nI hj (by omega)
  rw [aEx_v] at h1 h0
  refine eX9_canBeLaid ⟨vi, vj, ?_⟩
  rw [nI_c (by omega), nI_c (by omega), (hS0.2 i hi).1, (hS0.2 j hj).1, h71 i hi, h71 j hj]
  have fin : ∀ μ1 (b : Int32), hG μ μ1 → (∀ t, t < 7 → t ≠ i → t ≠ j → μ1.1 71 t = nI (T.2 3 t)) → ((b = 1 ∧ ∃ v, v < 100 ∧ aAp T (aUp (T.2 3) j i (v / 10) (v % 10))) ∨ (b = 0 ∧ ¬ ∃ v, v < 100 ∧ aAp T (aUp (T.2 3) j i (v / 10) (v % 10)))) → (vp_in (nI i) 7 ∧ (vp_in (nI j) 7 ∧ sCl sLL mX9_putBack (d + 4) [sR 62] (s_u (s_u μ1 71 ((nI i).toNatClampNeg) (nI (T.2 3 i))) 71 ((nI j).toNatClampNeg) (nI (T.2 3 j))) (kV fun μ1 => ((b = 0 ∨ b = 1) ∧ (kI f) (some (sI b)) μ1)))) := by
    intro μ1 b hf1 ho hb
    refine ⟨vi, vj, ?_⟩
    rw [nI_c (by omega), nI_c (by omega)]
    have G2 : hG μ (s_u (s_u μ1 71 i (nI (T.2 3 i))) 71 j (nI (T.2 3 j))) := (hf1.tr hG.u).tr hG.u
    have e71 : ∀ t, t < 7 → (s_u (s_u μ1 71 i (nI (T.2 3 i))) 71 j (nI (T.2 3 j))).1 71 t = μ.1 71 t := by
      intro t ht
      rw [h71 t ht]
      by_cases cj : t = j
      · rw [cj, s_u_at]
      · rw [s_u_off cj]
        by_cases ci : t = i
        · rw [ci, s_u_at]
        · rw [s_u_off ci]; exact ho t ht ci cj
    refine c_putBack (fun μ4 hf4 h63 hb4 => ?_)
    have S4 : hS μ μ4 := by
      refine ⟨G2.tr ⟨hf4.mono (by decide), fun k _ _ => by rw [hf4.2 62 (by decide)], h63⟩, fun t ht => ⟨?_, ?_, ?_⟩⟩
      · rw [hf4.2 71 (by decide)]; exact e71 t ht
      · rw [(hb4 t ht).1]; exact e71 t ht
      · rw [(hb4 t ht).2]; rw [G2.1.2 72 (by decide)]
    rcases hb with ⟨rfl, hb⟩ | ⟨rfl, hb⟩
    · exact ⟨Or.inr rfl, h1 hb μ4 S4⟩
    · exact ⟨Or.inl rfl, h0 hb μ4 S4⟩
  refine s_down (P := fun v => ∀ μ1, hG μ μ1 → (∀ t, t < 7 → t ≠ i → t ≠ j → μ1.1 71 t = nI (T.2 3 t)) → (∀ v', v' < v → ¬ aAp T (aUp (T.2 3) j i (v' / 10) (v' % 10))) → sG sLL mX9_canBeLaid (d + 4 + 1) (kI f) 21 [some (sR 62), some (sI (nI i)), some (sI (nI j)), some (sI (nI (T.2 3 i))), some (sI (nI (T.2 3 j))), some (sI 0), some (sI (nI v))] [] μ1) 100 ?_ ?_ 0 (by omega) μ0 hS0.1 (fun t ht _ _ => by rw [(hS0.2 t ht).1]; exact h71 t ht) (fun v' hv' => by omega)
  · intro μ1 hf1 ho hno
    refine sX9_canBeLaid_21 ⟨fun _ => fin μ1 0 hf1 ho (Or.inr ⟨rfl, ?_⟩), fun q => absurd (by decide) q⟩
    rintro ⟨v, hv, hx⟩
    exact hno v hv hx
  · intro v hv ih μ1 hf1 ho hno
    refine sX9_canBeLaid_21 ⟨fun q => ?_, fun _ => ⟨fun w => absurd rfl w, fun _ => ⟨vj, vi, ?_⟩⟩⟩
    · have q := (nI_leN (a := 100) (by omega) (by omega)).mp q
      omega
    · have e1 : nI v / 10 = nI (v / 10) := pk_div (a := v) (d := 10) (by omega) (by omega) (by omega)
      have e2 : s_rem (nI v) 10 = nI (v % 10) := pk_rem (a := v) (d := 10) (by omega) (by omega) (by omega)
      rw [nI_c (by omega), nI_c (by omega), e1, e2]
      have G2 : hG μ (s_u (s_u μ1 71 j (nI (v / 10))) 71 i (nI (v % 10))) := (hf1.tr hG.u).tr hG.u
      have k71 : ∀ t, t < 7 → (s_u (s_u μ1 71 j (nI (v / 10))) 71 i (nI (v % 10))).1 71 t = nI (aUp (T.2 3) j i (v / 10) (v % 10) t) := by
        intro t ht
        rw [aUp_at]
        by_cases ci : t = i
        · rw [ci, s_u_at, if_pos rfl]
        · rw [s_u_off ci, if_neg ci]
          by_cases cj : t = j
          · rw [cj, s_u_at, if_pos rfl]
          · rw [s_u_off cj, if_neg cj]; exact ho t ht ci cj
      have next : ∀ μ3, fF (s_u (s_u μ1 71 j (nI (v / 10))) 71 i (nI (v % 10))) μ3 → hG μ μ3 ∧ (∀ t, t < 7 → t ≠ i → t ≠ j → μ3.1 71 t = nI (T.2 3 t)) := by
        intro μ3 F3
        refine ⟨G2.tr (hG.f F3), fun t ht ci cj => ?_⟩
        rw [F3.1.2 71 (by decide), k71 t ht, aUp_at, if_neg ci, if_neg cj]
      refine c_areApart hT (tE_h G2 hE) (fun t ht => by rw [G2.2.2 _ (by omega)]; exact hlk t ht) k71 (aUp_le hL9 (by omega) (by omega)) (fun ap μ3 F3 _ => ?_) (fun ap μ3 F3 _ => ?_)
      · obtain ⟨g3, o3⟩ := next μ3 F3
        have x1 := fin μ3 1 g3 o3 (Or.inl ⟨rfl, v, hv, ap⟩)
        exact sX9_canBeLaid_21 ⟨fun _ => x1, fun _ => ⟨fun _ => x1, fun w => absurd w (by decide)⟩⟩
      · obtain ⟨g3, o3⟩ := next μ3 F3
        rw [nI_1]
        refine ih μ3 g3 o3 (fun v' hv' => ?_)
        by_cases c : v' = v
        · rw [c]; exact ap
        · exact hno v' (by omega)
