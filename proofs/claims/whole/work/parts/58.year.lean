-- CALL AGAINST CALL: year
/-- within an evening: number, eaten, how often the first thing, left, last -/
abbrev yS : Type := Nat × Nat × Nat × (Nat → Nat) × Option Nat
def yX (x : Nat) : Nat := (75 * x + 74) % 65537
def yStep (T : tT) (s : yS) : yS := if T.2 10 (yX s.1 % 4) = 1 then (match tPick T (T.2 2) s.2.2.2.1 s.2.2.2.2 (yX s.1 % 4) with
  | some t => (yX s.1, s.2.1 + tBite T s.2.2.2.1 (yX s.1 % 4) t, s.2.2.1 + (if t = 0 then 1 else 0), tLess s.2.2.2.1 t (tBite T s.2.2.2.1 (yX s.1 % 4) t), some t)
  | none => (yX s.1, s.2)) else (yX s.1, s.2)
def yDraws (T : tT) : Nat → yS → yS
  | 0, s => s
  | k + 1, s => yDraws T k (yStep T s)
abbrev yQ : Type := Nat × Nat × Nat × Nat
def yDay (T : tT) (q : yQ) : yQ :=
  ((yDraws T 3 (q.1, q.2.1, q.2.2.1, T.2 3, none)).1, (yDraws T 3 (q.1, q.2.1, q.2.2.1, T.2 3, none)).2.1, (yDraws T 3 (q.1, q.2.1, q.2.2.1, T.2 3, none)).2.2.1, q.2.2.2 + (if (yDraws T 3 (q.1, q.2.1, q.2.2.1, T.2 3, none)).2.1 = q.2.1 then 1 else 0))
def yDays (T : tT) : Nat → yQ → yQ
  | 0, q => q
  | k + 1, q => yDays T k (yDay T q)
def yW (T : tT) (b : Nat) (s : yS) : Prop := s.1 < 65537 ∧ s.2.1 ≤ b ∧ (∀ i, s.2.2.2.1 i ≤ 9) ∧ ∀ u, s.2.2.2.2 = some u → u < T.1
theorem yStep_w {T : tT} {b : Nat} {s : yS} (h : yW T b s) : yW T (b + 9) (yStep T s) := by
  obtain ⟨h1, h2, h3, h4⟩ := h
  have hx : yX s.1 < 65537 := Nat.mod_lt _ (by omega)
  unfold yStep
  split
  · cases hq : tPick T (T.2 2) s.2.2.2.1 s.2.2.2.2 (yX s.1 % 4) with
    | none => exact ⟨hx, Nat.le_trans h2 (by omega), h3, h4⟩
    | some t =>
      have hb := tBite_le (T := T) (L := s.2.2.2.1) (g := yX s.1 % 4) (t := t)
      have := h3 t
      refine ⟨hx, ?_, tLess_le h3, fun u hu => ?_⟩
      · show s.2.1 + tBite T s.2.2.2.1 (yX s.1 % 4) t ≤ b + 9
        omega
      · injection hu with e
        subst e
        exact (tPick_lt hq).1
  · exact ⟨hx, Nat.le_trans h2 (by omega), h3, h4⟩
theorem yDraws_w {T : tT} : ∀ k b s, yW T b s → yW T (b + 9 * k) (yDraws T k s)
  | 0, b, s, h => h
  | k + 1, b, s, h => by
    have := yDraws_w k (b + 9) _ (yStep_w h)
    rw [show b + 9 + 9 * k = b + 9 * (k + 1) by omega] at this
    exact this
theorem yX_I {x : Nat} (hx : x < 65537) : s_rem ((75 * nI x) + 74) 65537 = nI (yX x) := by
  have e1 : 75 * nI x = nI (75 * x) := pk_mul 75 x
  have e2 : nI (75 * x) + 74 = nI (75 * x + 74) := nI_add (75 * x) 74
  rw [e1, e2]
  exact pk_rem (a := 75 * x + 74) (d := 65537) (by omega) (by omega) (by omega)
theorem yX_L {x : Nat} (hx : x < 65537) : (s_lrem ((75 * (nI x).toInt64) + 74) 65537).toInt32 = nI (yX x) := by
  rw [nI_l (by omega)]
  have e1 : 75 * lN x = lN (75 * x) := lN_mul 75 x
  have e2 : lN (75 * x) + 74 = lN (75 * x + 74) := lN_add (75 * x) 74
  have e3 : s_lrem (lN (75 * x + 74)) 65537 = lN (yX x) := pk_lRem (a := 75 * x + 74) (b := 65537) (by omega) (by omega) (by omega)
  rw [e1, e2, e3, lN_i]
theorem yX_4 (x : Nat) : s_rem (nI (yX x)) 4 = nI (yX x % 4) := by
  have hx : yX x < 65537 := Nat.mod_lt _ (by omega)
  exact pk_rem (a := yX x) (d := 4) (by omega) (by omega) (by omega)
def yAns (w : Nat) (q : yQ) : Int32 := if w = 0 then nI q.2.1 else if w = 1 then nI q.2.2.1 else nI q.2.2.2
theorem c_year {d : Nat} {μ : sM} {T : tT} {x m w : Nat} {f : Int32 → sM → Prop} (hT : tW T) (hC : tC μ 1 4 T) (hx : x ≤ 9999) (hm : m ≤ 60) (hw : w ≤ 2) (h : ∀ μ', sFr [35, 36] μ μ' → f (yAns w (yDays T m (x, 0, 0, 0))) μ') : sG sLL mX8_year (d + 4) (kI f) 52 [some (sR 0), some (sI (nI x)), some (sI (nI m)), some (sI (nI w)), some (sI (nI x)), some (sI 0), some (sI 0), some (sI 0), some (sI 0), none, none, none] [] μ := by
  have i0 := nI_inj (a := w) (b := 0) (by omega) (by omega)
  have i1 := nI_inj (a := w) (b := 1) (by omega) (by omega)
  have h7 := hT.1.2
  have hL9 : ∀ i, T.2 3 i ≤ 9 := fun i => by have := hT.2.1 3 i; simpa using this
  refine s_down (P := fun e => ∀ μ1 (q : yQ), sFr [35, 36] μ μ1 → q.1 < 65537 → q.2.1 ≤ 27 * e → (∀ μ', sFr [35, 36] μ μ' → f (yAns w (yDays T (m - e) q)) μ') → sG sLL mX8_year (d + 3 + 1) (kI f) 52 [some (sR 0), some (sI (nI x)), some (sI (nI m)), some (sI (nI w)), some (sI (nI q.1)), some (sI (nI q.2.1)), some (sI (nI q.2.2.1)), some (sI (nI q.2.2.2)), some (sI (nI e)), none, none, none] [] μ1) m ?_ ?_ 0 (by omega) μ (x, 0, 0, 0) sFr.rf (show x < 65537 by omega) (Nat.zero_le _) h
  · intro μ1 q hf1 hq1 hq2 h
    rw [Nat.sub_self] at h
    have h := h μ1 hf1
    unfold yAns at h
    refine sX8_year_52 ⟨fun _ => ⟨fun q0 => ⟨fun q1 => ?_, fun q1 => ?_⟩, fun q0 => ?_⟩, fun q => absurd ((nI_leN (by omega) (by omega)).mpr (Nat.le_refl _)) q⟩
    · rw [if_neg (fun e => q0 (i0.mpr e)), if_neg (fun e => q1 (i1.mpr e))] at h
      exact h
    · rw [if_neg (fun e => q0 (i0.mpr e)), if_pos (i1.mp q1)] at h
      exact h
    · rw [if_pos (i0.mp q0)] at h
      exact h
  · intro e he ih μ1 q hf1 hq1 hq2 h
    rw [show m - e = (m - (e + 1)) + 1 by omega] at h
    refine sX8_year_52 ⟨fun q => ?_, fun _ => c_begin (tC_S hC hf1 (by decide)) (fun μ2 hf2 hk2 => ?_)⟩
    · have q := (nI_leN (by omega) (by omega)).mp q
      omega
    · refine s_down (P := fun j => ∀ μ3 (s : yS), sFr [35, 36] μ μ3 → kC μ3 (T.2 2) s.2.2.2.1 s.2.2.2.2 → yW T (27 * e + 9 * j) s → yDraws T (3 - j) s = yDraws T 3 (q.1, q.2.1, q.2.2.1, T.2 3, none) → sG sLL mX8_year (d + 3 + 1) (kI f) 72 [some (sR 0), some (sI (nI x)), some (sI (nI m)), some (sI (nI w)), some (sI (nI s.1)), some (sI (nI s.2.1)), some (sI (nI s.2.2.1)), some (sI (nI q.2.2.2)), some (sI (nI e)), some (sI (nI q.2.1)), some (sI (nI j)), none] [] μ3) 3 ?_ ?_ 0 (by omega) μ2 (q.1, q.2.1, q.2.2.1, T.2 3, none) (hf1.tr hf2) hk2 ⟨hq1, by omega, hL9, fun u hu => by cases hu⟩ rfl
      · intro μ3 s hf3 hk3 hw3 hs
        rw [Nat.sub_self] at hs
        have hs : s = yDraws T 3 (q.1, q.2.1, q.2.2.1, T.2 3, none) := hs
        have ie := nI_inj (a := s.2.1) (b := q.2.1) (by have := hw3.2.1; omega) (by omega)
        have fin : ∀ v, v = (yDay T q).2.2.2 → sG sLL mX8_year (d + 3 + 1) (kI f) 52 [some (sR 0), some (sI (nI x)), some (sI (nI m)), some (sI (nI w)), some (sI (nI s.1)), some (sI (nI s.2.1)), some (sI (nI s.2.2.1)), some (sI (nI v)), some (sI (nI (e + 1))), none, none, none] [] μ3 := by
          intro v hv
          have := ih μ3 (yDay T q) hf3 (by have := hw3.1; rw [hs] at this; exact this) (by have := hw3.2.1; rw [hs] at this; show (yDraws T 3 (q.1, q.2.1, q.2.2.1, T.2 3, none)).2.1 ≤ _; omega) h
          rw [hv, hs]
          exact this
        refine sX8_year_72 ⟨fun _ => ⟨fun qe => ?_, fun qe => ?_⟩, fun q => absurd (by decide) q⟩
        · rw [nI_1]
          refine fin _ ?_
          show _ = q.2.2.2 + (if (yDraws T 3 (q.1, q.2.1, q.2.2.1, T.2 3, none)).2.1 = q.2.1 then 1 else 0)
          rw [← hs, if_neg (fun w => qe (ie.mpr w))]
          rfl
        · rw [nI_1, nI_1]
          refine fin _ ?_
          show _ = q.2.2.2 + (if (yDraws T 3 (q.1, q.2.1, q.2.2.1, T.2 3, none)).2.1 = q.2.1 then 1 else 0)
          rw [← hs, if_pos (ie.mp qe)]
      · intro j hj ih2 μ3 s hf3 hk3 hw3 hs
        rw [show 3 - j = (3 - (j + 1)) + 1 by omega, yDraws] at hs
        have hw4 := yStep_w hw3
        rw [show 27 * e + 9 * j + 9 = 27 * e + 9 * (j + 1) by omega] at hw4
        have hg : yX s.1 % 4 < 4 := Nat.mod_lt _ (by omega)
        refine sX8_year_72 ⟨fun q => ?_, fun _ => ?_⟩
        · have q := (nI_leN (a := 3) (by omega) (by omega)).mp q
          omega
        · rw [yX_I hw3.1, yX_4, nI_1]
          refine c_visit hT (tC_S hC hf3 (by decide)) hk3 (tW_lk hT) hw3.2.2.1 (fun u hu => by have := hw3.2.2.2 u hu; omega) hg (fun t μ4 hth hp hf4 hk4 => ?_) (fun hno => ?_)
          · have eS : yStep T s = (yX s.1, s.2.1 + tBite T s.2.2.2.1 (yX s.1 % 4) t, s.2.2.1 + (if t = 0 then 1 else 0), tLess s.2.2.2.1 t (tBite T s.2.2.2.1 (yX s.1 % 4) t), some t) := by
              unfold yStep
              rw [if_pos hth, hp]
            have ht := tPick_lt hp
            have bp := tBite_pos hT hg hth ht.2.2
            have hb := tBite_le (T := T) (L := s.2.2.2.1) (g := yX s.1 % 4) (t := t)
            have hl := hw3.2.2.1 t
            rw [eS] at hs hw4
            refine ⟨fun q => ?_, fun _ => ?_⟩
            · have q := (nI_leN (b := 0) (by omega) (by omega)).mp q
              omega
            · have i3 := nI_inj (a := t) (b := 0) (by omega) (by omega)
              rw [hk4.2.2, nI_add, show nO (some t) = nI t from rfl]
              refine ⟨fun q => ?_, fun q => ?_⟩
              · have q : ¬ t = 0 := fun w => q (i3.mpr w)
                rw [if_neg q] at hs hw4
                exact ih2 μ4 (yX s.1, s.2.1 + tBite T s.2.2.2.1 (yX s.1 % 4) t, s.2.2.1 + 0, tLess s.2.2.2.1 t (tBite T s.2.2.2.1 (yX s.1 % 4) t), some t) (hf3.tr hf4) hk4 hw4 hs
              · have q := i3.mp q
                rw [if_pos q] at hs hw4
                rw [nI_1]
                exact ih2 μ4 (yX s.1, s.2.1 + tBite T s.2.2.2.1 (yX s.1 % 4) t, s.2.2.1 + 1, tLess s.2.2.2.1 t (tBite T s.2.2.2.1 (yX s.1 % 4) t), some t) (hf3.tr hf4) hk4 hw4 hs
          · have eS : yStep T s = (yX s.1, s.2) := by
              unfold yStep
              rcases hno with hno | hno
              · rw [if_neg (by omega)]
              · split
                · rw [hno]
                · rfl
            rw [eS] at hs hw4
            refine ⟨fun _ => ?_, fun q => absurd (by decide) q⟩
            rw [show (0 : Int32) = nI 0 from rfl, nI_add]
            exact ih2 μ3 (yX s.1, s.2) hf3 hk3 hw4 hs
theorem goF.u {μ μ1 : sM} {k : Nat} {v : Int32} (h : goF μ μ1) (hk : k ≠ 0 ∧ k ≠ 4 ∧ k ≠ 10) : goF μ (s_u μ1 62 k v) := h.tr0 (sFr.u (by decide)) (fun j hj => s_u_off (by omega)) (fun j _ => by rw [s_u_ne (by omega)])
theorem goF.m {μ μ1 μ2 : sM} (h : goF μ μ1) (hm : mFr μ1 μ2) : goF μ μ2 := h.tr0 (hm.1.mono (by decide)) (fun j hj => hm.2.1 j (by omega) (by omega)) hm.2.2
/-- the table is put back -/
theorem c_backG {d : Nat} {μ μ1 : sM} {T : tT} {f : sM → Prop} (hM : tM μ T) (hF : goF μ μ1) (h : ∀ μ', goF μ μ' → mQ μ μ' → sFr [63, 64] μ1 μ' → (∀ t, t < 7 → μ'.1 63 (14 + t) = nI (T.2 2 t) ∧ μ'.1 63 (21 + t) = nI (T.2 3 t)) → f μ') : sCl sLL mX9_putBack (d + 1) [sR 62] μ1 (kV f) := by
  refine c_putBack (fun μ4 hf4 h63 hb => ?_)
  have F : goF μ μ4 := hF.tr0 (hf4.mono (by decide)) (fun j _ => by rw [hf4.2 62 (by decide)]) h63
  have hb2 : ∀ i, i < 7 → μ4.1 63 (21 + i) = μ.1 63 (21 + i) ∧ μ4.1 64 i = μ.1 64 i := fun i hi => by
    rw [(hb i hi).1, (hb i hi).2]
    exact hF.2.2.2 i hi
  refine h μ4 F ⟨mG.of F.1 (by decide) F.2.1 F.2.2.1, hb2⟩ hf4 (fun t ht => ⟨?_, ?_⟩)
  · rw [F.2.2.1 _ (by omega)]
    exact (hM.2 t ht).1
  · rw [(hb2 t ht).1]
    exact (hM.2 t ht).2.1
theorem goF_keep {μ μ1 : sM} (hf1 : sFr [71, 72] μ μ1) (hb1 : ∀ i, i < 7 → μ1.1 71 i = μ.1 63 (21 + i) ∧ μ1.1 72 i = μ.1 64 i) : goF μ μ1 := ⟨hf1.mono (by decide), fun k hk2 => by rw [hf1.2 62 (by decide)], fun j hj => by rw [hf1.2 63 (by decide)], hb1⟩
theorem c_yearM {d : Nat} {μ : sM} {T : tT} {x m w : Nat} {f : Int32 → sM → Prop} (hT : tW T) (hM : tM μ T) (hx : x ≤ 9999) (hm : m ≤ 60) (hw : w ≤ 2) (h : ∀ μ', mQ μ μ' → f (yAns w (yDays T m (x, 0, 0, 0))) μ') : sCl sLL mX9_keepNow (d + 3) [sR 62] μ (kV fun μ4 => sG sLL mX9_year (d + 4) (kI f) 60 [some (sR 62), some (sI (nI x)), some (sI (nI m)), some (sI (nI w)), some (sI (nI x)), some (sI 0), some (sI 0), some (sI 0), none, none, none, none] [] (s_u μ4 62 12 0)) := by
  have i0 := nI_inj (a := w) (b := 0) (by omega) (by omega)
  have i1 := nI_inj (a := w) (b := 1) (by omega) (by omega)
  have h7 := hT.1.2
  have hL9 : ∀ i, T.2 3 i ≤ 9 := fun i => by have := hT.2.1 3 i; simpa using this
  refine c_keepNow (fun μ0 hf0 hb0 => ?_)
  refine s_down (P := fun e => ∀ μ1 (q : yQ), goF μ μ1 → μ1.1 62 12 = nI q.2.1 → q.1 < 65537 → q.2.1 ≤ 27 * e → (∀ μ', mQ μ μ' → f (yAns w (yDays T (m - e) q)) μ') → sG sLL mX9_year (d + 3 + 1) (kI f) 60 [some (sR 62), some (sI (nI x)), some (sI (nI m)), some (sI (nI w)), some (sI (nI q.1)), some (sI (nI q.2.2.1)), some (sI (nI q.2.2.2)), some (sI (nI e)), none, none, none, none] [] μ1) m ?_ ?_ 0 (by omega) _ (x, 0, 0, 0) ((goF_keep hf0 hb0).u (by omega)) s_u_at (show x < 65537 by omega) (Nat.zero_le _) h
  · intro μ1 q hF1 e12 hq1 hq2 h
    rw [Nat.sub_self] at h
    refine sX9_year_60 ⟨fun _ => c_backG hM hF1 (fun μ2 hF2 hQ2 hf2 _ => ?_), fun q => absurd ((nI_leN (by omega) (by omega)).mpr (Nat.le_refl _)) q⟩
    have h := h μ2 hQ2
    unfold yAns at h
    rw [hf2.2 62 (by decide), e12]
    refine ⟨fun q0 => ⟨fun q1 => ?_, fun q1 => ?_⟩, fun q0 => ?_⟩
    · rw [if_neg (fun e => q0 (i0.mpr e)), if_neg (fun e => q1 (i1.mpr e))] at h
      exact h
    · rw [if_neg (fun e => q0 (i0.mpr e)), if_pos (i1.mp q1)] at h
      exact h
    · rw [if_pos (i0.mp q0)] at h
      exact h
  · intro e he ih μ1 q hF1 e12 hq1 hq2 h
    rw [show m - e = (m - (e + 1)) + 1 by omega] at h
    refine sX9_year_60 ⟨fun q => ?_, fun _ => c_backG hM hF1 (fun μ2 hF2 hQ2 hf2 hk2 => ?_)⟩
    · have q := (nI_leN (by omega) (by omega)).mp q
      omega
    · rw [hf2.2 62 (by decide), e12]
      have K2 : kM (s_u μ2 62 11 (-6)) (T.2 2) (T.2 3) none := ⟨fun t ht => by rw [s_u_ne (by omega)]; exact hk2 t ht, s_u_at⟩
      refine s_down (P := fun j => ∀ μ3 (s : yS), goF μ μ3 → μ3.1 62 12 = nI s.2.1 → kM μ3 (T.2 2) s.2.2.2.1 s.2.2.2.2 → yW T (27 * e + 9 * j) s → yDraws T (3 - j) s = yDraws T 3 (q.1, q.2.1, q.2.2.1, T.2 3, none) → sG sLL mX9_year (d + 3 + 1) (kI f) 85 [some (sR 62), some (sI (nI x)), some (sI (nI m)), some (sI (nI w)), some (sI (nI s.1)), some (sI (nI s.2.2.1)), some (sI (nI q.2.2.2)), some (sI (nI e)), some (sI (nI q.2.1)), some (sI (nI j)), none, none] [] μ3) 3 ?_ ?_ 0 (by omega) _ (q.1, q.2.1, q.2.2.1, T.2 3, none) (hF2.u (by omega)) (by rw [s_u_off (by omega), hf2.2 62 (by decide)]; exact e12) K2 ⟨hq1, by omega, hL9, fun u hu => by cases hu⟩ rfl
      · intro μ3 s hF3 e3 hk3 hw3 hs
        rw [Nat.sub_self] at hs
        have hs : s = yDraws T 3 (q.1, q.2.1, q.2.2.1, T.2 3, none) := hs
        have ie := nI_inj (a := s.2.1) (b := q.2.1) (by have := hw3.2.1; omega) (by omega)
        have fin : ∀ v, v = (yDay T q).2.2.2 → sG sLL mX9_year (d + 3 + 1) (kI f) 60 [some (sR 62), some (sI (nI x)), some (sI (nI m)), some (sI (nI w)), some (sI (nI s.1)), some (sI (nI s.2.2.1)), some (sI (nI v)), some (sI (nI (e + 1))), none, none, none, none] [] μ3 := by
          intro v hv
          have := ih μ3 (yDay T q) hF3 (by rw [e3, hs]; rfl) (by have := hw3.1; rw [hs] at this; exact this) (by have := hw3.2.1; rw [hs] at this; show (yDraws T 3 (q.1, q.2.1, q.2.2.1, T.2 3, none)).2.1 ≤ _; omega) h
          rw [hv, hs]
          exact this
        refine sX9_year_85 ⟨fun _ => ?_, fun q => absurd (by decide) q⟩
        rw [e3]
        refine ⟨fun qe => ?_, fun qe => ?_⟩
        · rw [show (0 : Int32) = nI 0 from rfl, nI_add, nI_1]
          refine fin _ ?_
          show _ = q.2.2.2 + (if (yDraws T 3 (q.1, q.2.1, q.2.2.1, T.2 3, none)).2.1 = q.2.1 then 1 else 0)
          rw [← hs, if_neg (fun w => qe (ie.mpr w))]
        · rw [nI_1, nI_1]
          refine fin _ ?_
          show _ = q.2.2.2 + (if (yDraws T 3 (q.1, q.2.1, q.2.2.1, T.2 3, none)).2.1 = q.2.1 then 1 else 0)
          rw [← hs, if_pos (ie.mp qe)]
      · intro j hj ih2 μ3 s hF3 e3 hk3 hw3 hs
        rw [show 3 - j = (3 - (j + 1)) + 1 by omega, yDraws] at hs
        have hw4 := yStep_w hw3
        rw [show 27 * e + 9 * j + 9 = 27 * e + 9 * (j + 1) by omega] at hw4
        have hg : yX s.1 % 4 < 4 := Nat.mod_lt _ (by omega)
        have hE3 := goF_E hF3 hM.1
        have none_ : yStep T s = (yX s.1, s.2) → sG sLL mX9_year (d + 3 + 1) (kI f) 85 [some (sR 62), some (sI (nI x)), some (sI (nI m)), some (sI (nI w)), some (sI (nI (yX s.1))), some (sI (nI s.2.2.1 + 0)), some (sI (nI q.2.2.2)), some (sI (nI e)), some (sI (nI q.2.1)), some (sI (nI (j + 1))), none, none] [] μ3 := by
          intro eS
          rw [eS] at hs hw4
          rw [show (0 : Int32) = nI 0 from rfl, nI_add]
          exact ih2 μ3 (yX s.1, s.2) hF3 e3 hk3 hw4 hs
        refine sX9_year_85 ⟨fun q => ?_, fun _ => ?_⟩
        · have q := (nI_leN (a := 3) (by omega) (by omega)).mp q
          omega
        · rw [yX_L hw3.1, yX_4, nI_1]
          refine c_isThere hT hE3 (fun g' hg' eg hth => ⟨fun w => absurd w (by decide), fun _ => ?_⟩) (fun hno => ⟨fun _ => none_ ?_, fun w => absurd rfl w⟩)
          · have eg := (nI_inj (by omega) (by omega)).mp eg
            rw [← eg] at hth
            refine c_taken hT hE3 hk3 (tW_lk hT) hw3.2.2.1 hw3.2.2.2 hg ?_
            cases hp : tPick T (T.2 2) s.2.2.2.1 s.2.2.2.2 (yX s.1 % 4) with
            | none =>
              have eS : yStep T s = (yX s.1, s.2) := by
                unfold yStep
                rw [if_pos hth, hp]
              exact ⟨fun _ => ⟨fun _ => none_ eS, fun q => absurd q (by decide)⟩, fun q => absurd (by decide) q⟩
            | some t =>
              have eS : yStep T s = (yX s.1, s.2.1 + tBite T s.2.2.2.1 (yX s.1 % 4) t, s.2.2.1 + (if t = 0 then 1 else 0), tLess s.2.2.2.1 t (tBite T s.2.2.2.1 (yX s.1 % 4) t), some t) := by
                unfold yStep
                rw [if_pos hth, hp]
              have ht := tPick_lt hp
              rw [eS] at hs hw4
              have i3 := nI_inj (a := t) (b := 0) (by omega) (by omega)
              refine ⟨fun q => ?_, fun _ => ?_⟩
              · rw [nO_neg (by intro u hu; cases hu; omega)] at q
                cases q
              · show sCl sLL mX9_use (d + 3) [sR 62, sI (nI (yX s.1 % 4)), sI (nI t)] _ _
                refine c_useM hT hE3 hk3 hw3.2.2.1 hg (by omega) (fun μ5 m5 k5 e12 e64 => ?_)
                rw [e3, nI_add] at e12
                rw [show nO (some t) = nI t from rfl]
                refine ⟨fun q => ?_, fun q => ?_⟩
                · have q : ¬ t = 0 := fun w => q (i3.mpr w)
                  rw [if_neg q] at hs hw4
                  rw [show (0 : Int32) = nI 0 from rfl, nI_add]
                  exact ih2 μ5 (yX s.1, s.2.1 + tBite T s.2.2.2.1 (yX s.1 % 4) t, s.2.2.1 + 0, tLess s.2.2.2.1 t (tBite T s.2.2.2.1 (yX s.1 % 4) t), some t) (hF3.m m5) e12 k5 hw4 hs
                · have q := i3.mp q
                  rw [if_pos q] at hs hw4
                  rw [nI_1]
                  exact ih2 μ5 (yX s.1, s.2.1 + tBite T s.2.2.2.1 (yX s.1 % 4) t, s.2.2.1 + 1, tLess s.2.2.2.1 t (tBite T s.2.2.2.1 (yX s.1 % 4) t), some t) (hF3.m m5) e12 k5 hw4 hs
          · unfold yStep
            rw [if_neg (by have := hno _ hg rfl; omega)]
theorem q_year {d : Nat} {μ : sM} {Z : tZ} {a b c : Int32} {K : Int32 → Int32 → sM → Prop} (hW : zW Z) (hC : zC μ Z) (hM : zM μ Z) (hK : qK K) : sCl sLL mX8_year (d + 20) [sR 0, sI a, sI b, sI c] μ (kI fun r μ1 => sCl sLL mX9_year (d + 20) [sR 62, sI a, sI b, sI c] μ1 (kI fun r2 μ2 => K r r2 μ2)) := by
  have z9 : (9999 : Int32).toInt = 9999 := by decide
  have z1 : (1 : Int32).toInt = 1 := by decide
  have z60 : (60 : Int32).toInt = 60 := by decide
  have z2 : (2 : Int32).toInt = 2 := by decide
  have ref : ∀ {μ1 : sM} {K2 : Int32 → sM → Prop}, (¬ (oIn a 0 9999 = true ∧ oIn b 1 60 = true ∧ oIn c 0 2 = true) → K2 (-2) μ1) → (oIn a 0 9999 = true → oIn b 1 60 = true → oIn c 0 2 = true → sCl sLL mX9_keepNow (d + 19) [sR 62] μ1 (kV fun μ4 => sG sLL mX9_year (d + 20) (kI K2) 60 [some (sR 62), some (sI a), some (sI b), some (sI c), some (sI a), some (sI 0), some (sI 0), some (sI 0), none, none, none, none] [] (s_u μ4 62 12 0))) → sCl sLL mX9_year (d + 20) [sR 62, sI a, sI b, sI c] μ1 (kI K2) := by
    intro μ1 K2 k0 k1
    refine eX9_year (c_inN 0 9999 (by decide) (by decide) (fun c1 => ⟨fun w => absurd w (by decide), fun _ => c_inN 1 60 (by decide) (by decide) (fun c2 => ⟨fun w => absurd w (by decide), fun _ => c_inN 0 2 (by decide) (by decide) (fun c3 => ⟨fun _ => k1 c1 c2 c3, fun w => absurd w (by decide)⟩) (fun c3 => ⟨fun w => absurd rfl w, fun _ => k0 (by rw [c3]; simp)⟩)⟩) (fun c2 => ⟨fun _ => k0 (by rw [c2]; simp), fun w => absurd rfl w⟩)⟩) (fun c1 => ⟨fun _ => k0 (by rw [c1]; simp), fun w => absurd rfl w⟩))
  have out : ¬ (oIn a 0 9999 = true ∧ oIn b 1 60 = true ∧ oIn c 0 2 = true) → sCl sLL mX9_year (d + 20) [sR 62, sI a, sI b, sI c] μ (kI fun r2 μ2 => K (-2) r2 μ2) := fun hn => ref (fun _ => hK _ μ Z hW hC hM) (fun c1 c2 c3 => absurd ⟨c1, c2, c3⟩ hn)
  simp only [oIn, decide_eq_true_eq] at out
  refine eX8_year ?_
  rw [fa_lt a 0, fa_lt 9999 a, fa_lt b 1, fa_le b 60, fa_lt c 0, fa_le c 2, s_z0, z9, z1, z60, z2]
  refine ⟨fun q => out (by omega), fun q1 => ⟨fun q => out (by omega), fun q2 => ⟨fun q => out (by omega), fun q3 => ⟨fun q4 => ⟨fun q => out (by omega), fun q5 => ⟨fun q6 => ?_, fun q => out (by omega)⟩⟩, fun q => out (by omega)⟩⟩⟩⟩
  obtain ⟨x, hx, e⟩ : ∃ x, x ≤ 9999 ∧ a = nI x := ⟨a.toInt.toNat, by omega, by rw [fa_eq, nI_i (by omega)]; omega⟩
  obtain ⟨m, hm, e2⟩ : ∃ x, x ≤ 60 ∧ b = nI x := ⟨b.toInt.toNat, by omega, by rw [fa_eq, nI_i (by omega)]; omega⟩
  obtain ⟨w, hw, e3⟩ : ∃ x, x ≤ 2 ∧ c = nI x := ⟨c.toInt.toNat, by omega, by rw [fa_eq, nI_i (by omega)]; omega⟩
  have c1 : oIn a 0 9999 = true := by simp only [oIn, decide_eq_true_eq]; omega
  have c2 : oIn b 1 60 = true := by simp only [oIn, decide_eq_true_eq]; omega
  have c3 : oIn c 0 2 = true := by simp only [oIn, decide_eq_true_eq]; omega
  subst e e2 e3
  refine c_year (d := d + 16) hW.1 hC.1 hx hm hw (fun μ1 hf1 => ?_)
  have hC1 := zC_S hf1 (by decide) hC
  have hM1 := zM_A (zA_S hf1 (by decide)) hM
  refine ref (fun hn => absurd ⟨c1, c2, c3⟩ hn) (fun _ _ _ => c_yearM (d := d + 16) hW.1 hM1.1 hx hm hw (fun μ2 Q2 => hK _ μ2 Z hW (zC_B (zB_Q Q2) hC1) (zM_Q Q2 hM1)))
