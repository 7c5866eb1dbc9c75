-- lay: in pure words, and in the class
def aUp (L : Nat → Nat) (i j v w : Nat) : Nat → Nat := va_up (va_up L i v) j w
theorem aUp_at {L : Nat → Nat} {i j v w t : Nat} : aUp L i j v w t = if t = j then w else if t = i then v else L t := rfl
theorem aUp_le {L : Nat → Nat} {i j v w : Nat} (hL : ∀ i, L i ≤ 9) (hv : v ≤ 9) (hw : w ≤ 9) : ∀ t, aUp L i j v w t ≤ 9 := fun t => by
  have := hL t
  rw [aUp_at]
  split
  · exact hw
  · split <;> omega
/-- no two are alike -/
def aAp (T : tT) (L : Nat → Nat) : Prop := aAll (aAl T L) 4 0 = []
def aEx (T : tT) (i j : Nat) : Prop := ∃ v, v < 10 ∧ ∃ w, w < 10 ∧ aAp T (aUp (T.2 3) i j v w)
def aH (T : tT) (i j : Nat) : Bool := decide (T.2 2 i ≠ 1) && (decide (T.2 2 j ≠ 1) && (List.range 10).any (fun v => (List.range 10).any (fun w => (aAll (aAl T (aUp (T.2 3) i j v w)) 4 0).isEmpty)))
theorem aH_t {T : tT} {i j : Nat} : aH T i j = true ↔ (T.2 2 i ≠ 1 ∧ T.2 2 j ≠ 1 ∧ aEx T i j) := by
  simp only [aH, Bool.and_eq_true, decide_eq_true_eq, List.any_eq_true, List.mem_range, List.isEmpty_iff, aEx, aAp]
theorem aH_f {T : tT} {i j : Nat} : aH T i j = false ↔ ¬ (T.2 2 i ≠ 1 ∧ T.2 2 j ≠ 1 ∧ aEx T i j) := by
  rw [← aH_t]
  simp
theorem c_helps {d : Nat} {μ : sM} {T : tT} {i j : Nat} {f : Int32 → sM → Prop} (hT : tW T) (hC : tC μ 1 4 T) (hK : kC μ (T.2 2) (T.2 3) none) (hi : i < 7) (hj : j < 7) (h1 : aH T i j = true → ∀ μ', sFr [36, 61] μ μ' → kC μ' (T.2 2) (T.2 3) none → f 1 μ') (h0 : aH T i j = false → ∀ μ', sFr [36, 61] μ μ' → kC μ' (T.2 2) (T.2 3) none → f 0 μ') : sCl sLL mX7_helps (d + 4) [sR 60, sI (nI i), sI (nI j)] μ (kI f) := by
  have hL9 : ∀ i, T.2 3 i ≤ 9 := fun i => by have := hT.2.1 3 i; simpa using this
  have li := (tW_lk hT) i
  have lj := (tW_lk hT) j
  simp only [aH_t, aH_f] at h1 h0
  refine eX7_helps ?_
  rw [hC.2.1, s_bit7 (tW_lk hT) hi, s_bit7 (tW_lk hT) hj, nI_is1 li, nI_is1 lj]
  refine ⟨fun q => h0 (fun w => w.1 q) μ sFr.rf hK, fun qi => ⟨fun qj => ?_, fun q => h0 (fun w => w.2.1 q) μ sFr.rf hK⟩⟩
  -- the end: what was left is put back
  have vi : vp_in (nI i) 7 := vp_nI hi (by omega)
  have vj : vp_in (nI j) 7 := vp_nI hj (by omega)
  have fin : ∀ μ1 (b : Int32), sFr [36, 61] μ μ1 → (∀ t, t < 7 → t ≠ i → t ≠ j → μ1.1 36 t = nI (T.2 3 t)) → (b = 1 ∧ aEx T i j) ∨ (b = 0 ∧ ¬ aEx T i j) → (vp_in (nI i) 7 ∧ (vp_in (nI j) 7 ∧ ((b = 0 ∨ b = 1) ∧ (kI f) (some (sI b)) (s_u (s_u μ1 36 ((nI i).toNatClampNeg) (μ1.1 6 ((nI i).toNatClampNeg))) 36 ((nI j).toNatClampNeg) (μ1.1 6 ((nI j).toNatClampNeg)))))) := by
    intro μ1 b hf1 h36 hb
    rw [nI_c (by omega), nI_c (by omega)]
    have e6 : ∀ t, t < 7 → μ1.1 6 t = nI (T.2 3 t) := fun t ht => by rw [hf1.2 6 (by decide)]; exact (hC.2.2.2.1 t ht).2.2.1
    have F : sFr [36, 61] μ (s_u (s_u μ1 36 i (μ1.1 6 i)) 36 j (μ1.1 6 j)) := (hf1.tr (sFr.u (by decide))).tr (sFr.u (by decide))
    have KK : kC (s_u (s_u μ1 36 i (μ1.1 6 i)) 36 j (μ1.1 6 j)) (T.2 2) (T.2 3) none := by
      refine ⟨by rw [F.2 35 (by decide)]; exact hK.1, fun t ht => ?_, by rw [F.2 35 (by decide)]; exact hK.2.2⟩
      by_cases cj : t = j
      · rw [cj, s_u_at]; exact e6 j hj
      · rw [s_u_off cj]
        by_cases ci : t = i
        · rw [ci, s_u_at]; exact e6 i hi
        · rw [s_u_off ci]; exact h36 t ht ci cj
    refine ⟨vi, vj, ?_, ?_⟩
    · rcases hb with ⟨rfl, -⟩ | ⟨rfl, -⟩ <;> simp
    · rcases hb with ⟨rfl, hb⟩ | ⟨rfl, hb⟩
      · exact h1 ⟨qi, qj, hb⟩ _ F KK
      · exact h0 (fun w => hb w.2.2) _ F KK
  -- found
  have won : ∀ v μ1, v < 11 → sFr [36, 61] μ μ1 → (∀ t, t < 7 → t ≠ i → t ≠ j → μ1.1 36 t = nI (T.2 3 t)) → aEx T i j → sG sLL mX7_helps (d + 3 + 1) (kI f) 37 [some (sR 60), some (sI (nI i)), some (sI (nI j)), some (sI 1), some (sI (nI v)), none] [] μ1 := by
    intro v μ1 _ hf1 h36 hx
    exact sX7_helps_37 ⟨fun _ => fin μ1 1 hf1 h36 (Or.inl ⟨rfl, hx⟩), fun _ => ⟨fun _ => fin μ1 1 hf1 h36 (Or.inl ⟨rfl, hx⟩), fun w => absurd w (by decide)⟩⟩
  refine s_down (P := fun v => ∀ μ1, sFr [36, 61] μ μ1 → (∀ t, t < 7 → t ≠ i → t ≠ j → μ1.1 36 t = nI (T.2 3 t)) → (∀ v', v' < v → ∀ w, w < 10 → ¬ aAp T (aUp (T.2 3) i j v' w)) → sG sLL mX7_helps (d + 3 + 1) (kI f) 37 [some (sR 60), some (sI (nI i)), some (sI (nI j)), some (sI 0), some (sI (nI v)), none] [] μ1) 10 ?_ ?_ 0 (by omega) μ sFr.rf (fun t ht _ _ => hK.2.1 t ht) (fun v' hv' => by omega)
  · intro μ1 hf1 h36 hno
    refine sX7_helps_37 ⟨fun _ => fin μ1 0 hf1 h36 (Or.inr ⟨rfl, ?_⟩), fun q => absurd (by decide) q⟩
    rintro ⟨v, hv, w, hw, hx⟩
    exact hno v hv w hw hx
  · intro v hv ih μ1 hf1 h36 hno
    refine sX7_helps_37 ⟨fun q => ?_, fun _ => ⟨fun w => absurd rfl w, fun _ => ?_⟩⟩
    · have q := (nI_ltN (a := 9) (by omega) (by omega)).mp q
      omega
    refine s_down (P := fun w => ∀ μ1, sFr [36, 61] μ μ1 → (∀ t, t < 7 → t ≠ i → t ≠ j → μ1.1 36 t = nI (T.2 3 t)) → (∀ w', w' < w → ¬ aAp T (aUp (T.2 3) i j v w')) → sG sLL mX7_helps (d + 3 + 1) (kI f) 51 [some (sR 60), some (sI (nI i)), some (sI (nI j)), some (sI 0), some (sI (nI v)), some (sI (nI w))] [] μ1) 10 ?_ ?_ 0 (by omega) μ1 hf1 h36 (fun w' hw' => by omega)
    · intro μ2 hf2 h362 hno2
      refine sX7_helps_51 ⟨fun _ => ?_, fun q => absurd (by decide) q⟩
      rw [nI_1]
      refine ih μ2 hf2 h362 (fun v' hv' w hw => ?_)
      by_cases c : v' = v
      · rw [c]; exact hno2 w hw
      · exact hno v' (by omega) w hw
    · intro w hw ih2 μ2 hf2 h362 hno2
      refine sX7_helps_51 ⟨fun q => ?_, fun _ => ⟨fun w => absurd rfl w, fun _ => ⟨vi, vj, ?_⟩⟩⟩
      · have q := (nI_ltN (a := 9) (by omega) (by omega)).mp q
        omega
      · rw [nI_c (by omega), nI_c (by omega)]
        have F3 : sFr [36, 61] μ (s_u (s_u μ2 36 i (nI v)) 36 j (nI w)) := (hf2.tr (sFr.u (by decide))).tr (sFr.u (by decide))
        have K3 : kC (s_u (s_u μ2 36 i (nI v)) 36 j (nI w)) (T.2 2) (aUp (T.2 3) i j v w) none := by
          refine ⟨by rw [F3.2 35 (by decide)]; exact hK.1, fun t ht => ?_, by rw [F3.2 35 (by decide)]; exact hK.2.2⟩
          rw [aUp_at]
          by_cases cj : t = j
          · rw [cj, s_u_at, if_pos rfl]
          · rw [s_u_off cj, if_neg cj]
            by_cases ci : t = i
            · rw [ci, s_u_at, if_pos rfl]
            · rw [s_u_off ci, if_neg ci]; exact h362 t ht ci cj
        have hl := aAll_len (al := aAl T (aUp (T.2 3) i j v w)) 4 0
        refine c_howMany hT (tC_S hC F3 (by decide)) K3 (aUp_le hL9 (by omega) (by omega)) (fun μ4 hf4 _ => ?_)
        have F4 : sFr [36, 61] μ μ4 := F3.tr (hf4.mono (by decide))
        have h364 : ∀ t, t < 7 → t ≠ i → t ≠ j → μ4.1 36 t = nI (T.2 3 t) := fun t ht ci cj => by
          rw [hf4.2 36 (by decide), s_u_off cj, s_u_off ci]; exact h362 t ht ci cj
        rw [nI_is0 (by omega), nI_1]
        refine ⟨fun q => ih2 μ4 F4 h364 (fun w' hw' => ?_), fun q => ?_⟩
        · by_cases c : w' = w
          · rw [c]
            intro e
            unfold aAp at e
            rw [e] at q
            exact q rfl
          · exact hno2 w' (by omega)
        · have ex : aEx T i j := ⟨v, hv, w, hw, List.length_eq_zero_iff.mp q⟩
          refine sX7_helps_51 ⟨fun _ => ?_, fun _ => ⟨fun _ => ?_, fun w => absurd w (by decide)⟩⟩
          · rw [nI_1]; exact won (v + 1) μ4 (by omega) F4 h364 ex
          · rw [nI_1]; exact won (v + 1) μ4 (by omega) F4 h364 ex
def aPr (n : Nat) : List (Nat × Nat) := (List.range' 0 n).map (fun t => (t, t))
def aPs (k g : Nat) : List (Nat × Nat) := (List.range' g k).flatMap (fun g => (List.range' 0 g).map (fun l => (l, g)))
def aCd (p : Nat × Nat) : Nat := if p.1 = p.2 then 2 ^ p.1 else 2 ^ p.1 + 2 ^ p.2
/-- the fewest things laid anew -/
def aLay (T : tT) : Option Nat := (((aPr T.1) ++ aPs (T.1 - 1) 1).find? (fun p => aH T p.1 p.2)).map aCd
theorem c_fewest {d : Nat} {μ : sM} {T : tT} {f : Int32 → sM → Prop} (hT : tW T) (hC : tC μ 1 4 T) (hK : kC μ (T.2 2) (T.2 3) none) (h : ∀ μ', sFr [36, 61] μ μ' → f (nO (if aAll (aAl T (T.2 3)) 4 0 = [] then some 0 else aLay T)) μ') : sCl sLL mX7_fewestLaidAnew (d + 5) [sR 60] μ (kI f) := by
  have h7 := hT.1.2
  have hL9 : ∀ i, T.2 3 i ≤ 9 := fun i => by have := hT.2.1 3 i; simpa using this
  have hl := aAll_len (al := aAl T (T.2 3)) 4 0
  refine eX7_fewestLaidAnew (c_howMany hT hC hK hL9 (fun μ1 hf1 _ => ?_))
  have F1 : sFr [36, 61] μ μ1 := hf1.mono (by decide)
  have K1 := kC_fr (hf1.2 35 (by decide)) (hf1.2 36 (by decide)) hK
  rw [nI_is0 (by omega)]
  refine ⟨fun q => ?_, fun q => ?_⟩
  · have hne : ¬ aAll (aAl T (T.2 3)) 4 0 = [] := fun e => q (by rw [e]; rfl)
    simp only [if_neg hne] at h
    -- pairs
    have pairs : ∀ μ2, sFr [36, 61] μ μ2 → kC μ2 (T.2 2) (T.2 3) none → (∀ μ', sFr [36, 61] μ μ' → f (nO (((aPs (T.1 - 1) 1).find? (fun p => aH T p.1 p.2)).map aCd)) μ') → sG sLL mX7_fewestLaidAnew (d + 4 + 1) (kI f) 43 [some (sR 60), some (sI 1), none] [] μ2 := by
      intro μ2 hf2 hk2 h
      refine s_down (P := fun g => 1 ≤ g → ∀ μ2, sFr [36, 61] μ μ2 → kC μ2 (T.2 2) (T.2 3) none → (∀ μ', sFr [36, 61] μ μ' → f (nO (((aPs (T.1 - g) g).find? (fun p => aH T p.1 p.2)).map aCd)) μ') → sG sLL mX7_fewestLaidAnew (d + 4 + 1) (kI f) 43 [some (sR 60), some (sI (nI g)), none] [] μ2) T.1 ?_ ?_ 1 hT.1.1 (Nat.le_refl _) μ2 hf2 hk2 h
      · intro _ μ2 hf2 hk2 h
        rw [Nat.sub_self] at h
        refine sX7_fewestLaidAnew_43 ⟨fun _ => h μ2 hf2, fun q => ?_⟩
        rw [hf2.2 1 (by decide), hC.1] at q
        exact absurd ((nI_leN (by omega) (by omega)).mpr (Nat.le_refl _)) q
      · intro g hg ih g1 μ2 hf2 hk2 h
        rw [show T.1 - g = (T.1 - (g + 1)) + 1 by omega] at h
        refine sX7_fewestLaidAnew_43 ⟨fun q => ?_, fun _ => ?_⟩
        · rw [hf2.2 1 (by decide), hC.1] at q
          have q := (nI_leN (by omega) (by omega)).mp q
          omega
        · refine s_down (P := fun l => ∀ μ2, sFr [36, 61] μ μ2 → kC μ2 (T.2 2) (T.2 3) none → (∀ μ', sFr [36, 61] μ μ' → f (nO ((((List.range' l (g - l)).map (fun l => (l, g)) ++ aPs (T.1 - (g + 1)) (g + 1)).find? (fun p => aH T p.1 p.2)).map aCd)) μ') → sG sLL mX7_fewestLaidAnew (d + 4 + 1) (kI f) 56 [some (sR 60), some (sI (nI g)), some (sI (nI l))] [] μ2) g ?_ ?_ 0 (by omega) μ2 hf2 hk2 h
          · intro μ2 hf2 hk2 h
            rw [Nat.sub_self] at h
            refine sX7_fewestLaidAnew_56 ⟨fun _ => ?_, fun q => absurd ((nI_leN (by omega) (by omega)).mpr (Nat.le_refl _)) q⟩
            rw [nI_1]
            exact ih (by omega) μ2 hf2 hk2 h
          · intro l hlg ih2 μ2 hf2 hk2 h
            rw [show g - l = (g - (l + 1)) + 1 by omega, List.range'_succ] at h
            simp only [List.map_cons, List.cons_append, List.find?_cons] at h
            refine sX7_fewestLaidAnew_56 ⟨fun q => ?_, fun _ => c_helps hT (tC_S hC hf2 (by decide)) hk2 (by omega) (by omega) (fun hh μ3 hf3 hk3 => ⟨fun w => absurd w (by decide), fun _ => ?_⟩) (fun hh μ3 hf3 hk3 => ⟨fun _ => ?_, fun w => absurd rfl w⟩)⟩
            · have q := (nI_leN (by omega) (by omega)).mp q
              omega
            · rw [hh] at h
              have h := h μ3 (hf2.tr hf3)
              rw [s_shl1 l (by omega), s_shl1 g (by omega)]
              have e : nI (2 ^ l) ||| nI (2 ^ g) = nI (2 ^ l + 2 ^ g) := by
                have h2 : (2 : Nat) ^ l < 2 ^ g := Nat.pow_lt_pow_right (by decide) hlg
                rw [fa_or, Nat.or_comm, Nat.add_comm]
                have := Nat.two_pow_add_eq_or_of_lt h2 1
                rw [Nat.mul_one] at this
                rw [this]
              rw [e]
              have e2 : aCd (l, g) = 2 ^ l + 2 ^ g := if_neg (by show ¬ l = g; omega)
              simp only [Option.map_some, e2] at h
              exact h
            · rw [hh] at h
              rw [nI_1]
              exact ih2 μ3 (hf2.tr hf3) hk3 h
    refine s_down (P := fun t => ∀ μ2, sFr [36, 61] μ μ2 → kC μ2 (T.2 2) (T.2 3) none → (∀ μ', sFr [36, 61] μ μ' → f (nO ((((List.range' t (T.1 - t)).map (fun t => (t, t)) ++ aPs (T.1 - 1) 1).find? (fun p => aH T p.1 p.2)).map aCd)) μ') → sG sLL mX7_fewestLaidAnew (d + 4 + 1) (kI f) 11 [some (sR 60), some (sI (nI t)), none] [] μ2) T.1 ?_ ?_ 0 (by omega) μ1 F1 K1 h
    · intro μ2 hf2 hk2 h
      rw [Nat.sub_self] at h
      refine sX7_fewestLaidAnew_11 ⟨fun _ => pairs μ2 hf2 hk2 h, fun q => ?_⟩
      rw [hf2.2 1 (by decide), hC.1] at q
      exact absurd ((nI_leN (by omega) (by omega)).mpr (Nat.le_refl _)) q
    · intro t ht ih μ2 hf2 hk2 h
      rw [show T.1 - t = (T.1 - (t + 1)) + 1 by omega, List.range'_succ] at h
      simp only [List.map_cons, List.cons_append, List.find?_cons] at h
      refine sX7_fewestLaidAnew_11 ⟨fun q => ?_, fun _ => c_helps hT (tC_S hC hf2 (by decide)) hk2 (by omega) (by omega) (fun hh μ3 hf3 hk3 => ⟨fun w => absurd w (by decide), fun _ => ?_⟩) (fun hh μ3 hf3 hk3 => ⟨fun _ => ?_, fun w => absurd rfl w⟩)⟩
      · rw [hf2.2 1 (by decide), hC.1] at q
        have q := (nI_leN (by omega) (by omega)).mp q
        omega
      · rw [hh] at h
        have h := h μ3 (hf2.tr hf3)
        rw [s_shl1 t (by omega)]
        have e2 : aCd (t, t) = 2 ^ t := if_pos rfl
        simp only [Option.map_some, e2] at h
        exact h
      · rw [hh] at h
        rw [nI_1]
        exact ih μ3 (hf2.tr hf3) hk3 h
  · have he : aAll (aAl T (T.2 3)) 4 0 = [] := List.length_eq_zero_iff.mp q
    simp only [if_pos he] at h
    exact h μ1 F1
