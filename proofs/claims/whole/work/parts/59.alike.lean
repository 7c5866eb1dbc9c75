-- CALL AGAINST CALL: alike
def aP (T : tT) (L : Nat → Nat) (g : Nat) : Option Nat := if T.2 10 g = 1 then tPick T (T.2 2) L none g else none
def aDo (T : tT) (L : Nat → Nat) (g : Nat) : Option Nat := (aP T L g).map (fun t => 10 * t + tBite T L g t)
def aLf (T : tT) (L : Nat → Nat) (g : Nat) : Nat → Nat := match aP T L g with
  | some t => tLess L t (tBite T L g t)
  | none => L
def aAl (T : tT) (L : Nat → Nat) (i j : Nat) : Bool := decide (T.2 10 i = 1 ∧ T.2 10 j = 1 ∧ aDo T L i = aDo T L j)
def aRow (al : Nat → Nat → Bool) (i : Nat) : Nat → Nat → List Nat
  | 0, _ => []
  | k + 1, j => (if al i j = true then [10 * i + j] else []) ++ aRow al i k (j + 1)
def aAll (al : Nat → Nat → Bool) : Nat → Nat → List Nat
  | 0, _ => []
  | k + 1, i => aRow al i (4 - (i + 1)) (i + 1) ++ aAll al k (i + 1)
theorem aRow_len {al : Nat → Nat → Bool} {i : Nat} : ∀ k j, (aRow al i k j).length ≤ k
  | 0, _ => Nat.le_refl _
  | k + 1, j => by
    have := aRow_len (al := al) (i := i) k (j + 1)
    rw [aRow, List.length_append]
    split <;> simp <;> omega
theorem aAll_len {al : Nat → Nat → Bool} : ∀ k i, (aAll al k i).length ≤ 4 * k
  | 0, _ => Nat.le_refl _
  | k + 1, i => by
    have a := aRow_len (al := al) (i := i) (4 - (i + 1)) (i + 1)
    have b := aAll_len (al := al) k (i + 1)
    rw [aAll, List.length_append]
    omega
theorem tNum_inj {A B : Nat → Nat} (hA : ∀ i, A i ≤ 9) (hB : ∀ i, B i ≤ 9) : ∀ n, tNum A n = tNum B n → ∀ i, i < n → A i = B i
  | 0, _, i, hi => by omega
  | n + 1, h, i, hi => by
    have a := hA n
    have b := hB n
    have h : 10 * tNum A n + A n = 10 * tNum B n + B n := h
    by_cases c : i = n
    · subst c; omega
    · exact tNum_inj hA hB n (by omega) i (by omega)
theorem tNum_cong {A B : Nat → Nat} : ∀ n, (∀ i, i < n → A i = B i) → tNum A n = tNum B n
  | 0, _ => rfl
  | n + 1, h => by
    show 10 * tNum A n + A n = 10 * tNum B n + B n
    rw [tNum_cong n (fun i hi => h i (by omega)), h n (by omega)]
theorem aLf_le {T : tT} {L : Nat → Nat} {g : Nat} (hL : ∀ i, L i ≤ 9) : ∀ i, aLf T L g i ≤ 9 := by
  unfold aLf
  cases aP T L g with
  | none => exact hL
  | some t => exact tLess_le hL
theorem tLess_at {L : Nat → Nat} {t b i : Nat} : tLess L t b i = if i = t then L t - b else L i := rfl
/-- two guests that are there leave the same just if they take as much from the same -/
theorem aDo_iff {T : tT} {L : Nat → Nat} (hT : tW T) (hL : ∀ i, L i ≤ 9) {i j : Nat} (hi : i < 4) (hj : j < 4) (ti : T.2 10 i = 1) (tj : T.2 10 j = 1) : tNum (aLf T L i) T.1 = tNum (aLf T L j) T.1 ↔ aDo T L i = aDo T L j := by
  have key : ∀ g, g < 4 → T.2 10 g = 1 → ∀ t, aP T L g = some t → t < T.1 ∧ 0 < tBite T L g t ∧ tBite T L g t ≤ L t := by
    intro g hg tg t ht
    unfold aP at ht
    rw [if_pos tg] at ht
    have a := tPick_lt ht
    exact ⟨a.1, tBite_pos hT hg tg a.2.2, tBite_le⟩
  constructor
  · intro h
    have h := tNum_inj (aLf_le hL) (aLf_le hL) T.1 h
    unfold aDo
    unfold aLf at h
    cases pi : aP T L i with
    | none =>
      cases pj : aP T L j with
      | none => rfl
      | some t =>
        rw [pi, pj] at h
        have k := key j hj tj t pj
        have := h t k.1
        simp only [tLess_at, if_true] at this
        omega
    | some s =>
      have ks := key i hi ti s pi
      cases pj : aP T L j with
      | none =>
        rw [pi, pj] at h
        have := h s ks.1
        simp only [tLess_at, if_true] at this
        omega
      | some t =>
        rw [pi, pj] at h
        have kt := key j hj tj t pj
        by_cases c : s = t
        · subst c
          have := h s ks.1
          simp only [tLess_at, if_true] at this
          show some (10 * s + tBite T L i s) = some (10 * s + tBite T L j s)
          congr 1
          omega
        · have := h s ks.1
          simp only [tLess_at, if_true, if_neg c] at this
          omega
  · intro h
    unfold aDo at h
    cases pi : aP T L i with
    | none =>
      cases pj : aP T L j with
      | none => unfold aLf; rw [pi, pj]
      | some t =>
        rw [pi, pj] at h
        cases h
    | some s =>
      have ks := key i hi ti s pi
      cases pj : aP T L j with
      | none =>
        rw [pi, pj] at h
        cases h
      | some t =>
        have kt := key j hj tj t pj
        rw [pi, pj] at h
        have h : some (10 * s + tBite T L i s) = some (10 * t + tBite T L j t) := h
        injection h with h
        have a := hL s
        have b := hL t
        have : s = t := by omega
        subst this
        have : tBite T L i s = tBite T L j s := by omega
        unfold aLf
        rw [pi, pj]
        show tNum (tLess L s (tBite T L i s)) T.1 = tNum (tLess L s (tBite T L j s)) T.1
        rw [this]
theorem aDo_lt {T : tT} {L : Nat → Nat} (hT : tW T) (hL : ∀ i, L i ≤ 9) {g : Nat} : ∀ c, aDo T L g = some c → c < 100 := by
  intro c hc
  unfold aDo at hc
  cases pg : aP T L g with
  | none => rw [pg] at hc; cases hc
  | some t =>
    rw [pg] at hc
    have hc : some (10 * t + tBite T L g t) = some c := hc
    injection hc with hc
    have : t < T.1 := by
      unfold aP at pg
      split at pg
      · exact (tPick_lt pg).1
      · cases pg
    have := hT.1.2
    have := hL t
    have := tBite_le (T := T) (L := L) (g := g) (t := t)
    omega
theorem nO_inj {a b : Option Nat} (ha : ∀ t, a = some t → t < 1000) (hb : ∀ t, b = some t → t < 1000) : nO a = nO b ↔ a = b := by
  cases a with
  | none =>
    cases b with
    | none => simp
    | some t =>
      have := hb t rfl
      constructor
      · intro h
        have := (nO_m6 (o := some t) (by intro u hu; cases hu; omega)).mp h.symm
        cases this
      · intro h; cases h
  | some s =>
    have hs := ha s rfl
    cases b with
    | none =>
      constructor
      · intro h
        have := (nO_m6 (o := some s) (by intro u hu; cases hu; omega)).mp h
        cases this
      · intro h; cases h
    | some t =>
      have ht := hb t rfl
      show nI s = nI t ↔ _
      rw [nI_inj (by omega) (by omega)]
      simp
-- the class
theorem c_areAlike {d : Nat} {μ : sM} {T : tT} {L : Nat → Nat} {i j : Nat} {f : Int32 → sM → Prop} (hT : tW T) (hC : tC μ 1 4 T) (hL : ∀ i, L i ≤ 9) (h61 : ∀ g, g < 4 → μ.1 61 g = nO (aDo T L g)) (hi : i < 4) (hj : j < 4) (h1 : aAl T L i j = true → f 1 μ) (h0 : aAl T L i j = false → f 0 μ) : sCl sLL mX7_areAlike (d + 1) [sR 60, sI (nI i), sI (nI j)] μ (kI f) := by
  simp only [aAl, decide_eq_true_eq, decide_eq_false_iff_not] at h1 h0
  refine eX7_areAlike (c_hasGuest hT hC (fun g hg e th => ⟨fun w => absurd w (by decide), fun _ => c_hasGuest hT hC (fun g2 hg2 e2 th2 => ⟨fun w => absurd w (by decide), fun _ => ⟨vp_nI hi (by omega), vp_nI hj (by omega), ?_⟩⟩) (fun hno => ⟨fun _ => h0 (fun w => by have := hno j hj rfl; omega), fun w => absurd rfl w⟩)⟩) (fun hno => ⟨fun _ => h0 (fun w => by have := hno i hi rfl; omega), fun w => absurd rfl w⟩))
  have e := (nI_inj (by omega) (by omega)).mp e
  have e2 := (nI_inj (by omega) (by omega)).mp e2
  subst e e2
  rw [nI_c (by omega), nI_c (by omega), h61 i hi, h61 j hj, nO_inj (fun t ht => by have := aDo_lt hT hL t ht; omega) (fun t ht => by have := aDo_lt hT hL t ht; omega)]
  exact ⟨fun q => h0 (fun w => q w.2.2), fun q => h1 ⟨th, th2, q⟩⟩
theorem c_howMany {d : Nat} {μ : sM} {T : tT} {L : Nat → Nat} {f : Int32 → sM → Prop} (hT : tW T) (hC : tC μ 1 4 T) (hK : kC μ (T.2 2) L none) (hL : ∀ i, L i ≤ 9) (h : ∀ μ', sFr [61] μ μ' → (∀ g, g < 4 → μ'.1 61 g = nO (aDo T L g)) → f (nI (aAll (aAl T L) 4 0).length) μ') : sCl sLL mX7_howMany (d + 3) [sR 60] μ (kI f) := by
  have h7 := hT.1.2
  refine eX7_howMany ?_
  refine s_down (P := fun g => ∀ μ1, sFr [61] μ μ1 → (∀ i, i < g → μ1.1 61 i = nO (aDo T L i)) → sG sLL mX7_howMany (d + 2 + 1) (kI f) 2 [some (sR 60), some (sI (nI g)), none, none] [] μ1) 4 ?_ ?_ 0 (by omega) μ sFr.rf (fun i hi => by omega)
  · intro μ1 hf1 a1
    have h := h μ1 hf1 a1
    have hC1 := tC_S hC hf1 (by decide)
    refine sX7_howMany_2 ⟨fun _ => ?_, fun q => absurd (by decide) q⟩
    refine s_down (P := fun i => ∀ n, n + (aAll (aAl T L) (4 - i) i).length = (aAll (aAl T L) 4 0).length → sG sLL mX7_howMany (d + 2 + 1) (kI f) 73 [some (sR 60), some (sI (nI n)), some (sI (nI i)), none] [] μ1) 4 ?_ ?_ 0 (by omega) 0 (by rw [Nat.zero_add])
    · intro n hn
      have hn : n = (aAll (aAl T L) 4 0).length := hn
      refine sX7_howMany_73 ⟨fun _ => ?_, fun q => absurd (by decide) q⟩
      rw [hn]
      exact h
    · intro i hi ih n hn
      rw [show 4 - i = (4 - (i + 1)) + 1 by omega, aAll, List.length_append] at hn
      refine sX7_howMany_73 ⟨fun q => ?_, fun _ => ?_⟩
      · have q := (nI_leN (a := 4) (by omega) (by omega)).mp q
        omega
      · rw [nI_1]
        refine s_down (P := fun j => ∀ n, n + ((aRow (aAl T L) i (4 - j) j).length + (aAll (aAl T L) (4 - (i + 1)) (i + 1)).length) = (aAll (aAl T L) 4 0).length → sG sLL mX7_howMany (d + 2 + 1) (kI f) 82 [some (sR 60), some (sI (nI n)), some (sI (nI i)), some (sI (nI j))] [] μ1) 4 ?_ ?_ (i + 1) (by omega) n hn
        · intro n hn
          rw [Nat.sub_self] at hn
          have hn : n + (0 + (aAll (aAl T L) (4 - (i + 1)) (i + 1)).length) = (aAll (aAl T L) 4 0).length := hn
          refine sX7_howMany_82 ⟨fun _ => ?_, fun q => absurd (by decide) q⟩
          rw [nI_1]
          exact ih n (by omega)
        · intro j hj ih2 n hn
          rw [show 4 - j = (4 - (j + 1)) + 1 by omega, aRow, List.length_append] at hn
          refine sX7_howMany_82 ⟨fun q => ?_, fun _ => c_areAlike hT hC1 hL a1 hi hj (fun al => ⟨fun w => absurd w (by decide), fun _ => ?_⟩) (fun al => ⟨fun _ => ?_, fun w => absurd rfl w⟩)⟩
          · have q := (nI_leN (a := 4) (by omega) (by omega)).mp q
            omega
          · rw [if_pos al] at hn
            simp only [List.length_cons, List.length_nil] at hn
            rw [nI_1, nI_1]
            exact ih2 (n + 1) (by omega)
          · rw [al] at hn
            simp only [Bool.false_eq_true, if_false, List.length_nil] at hn
            rw [nI_1]
            exact ih2 n (by omega)
  · intro g hg ih μ1 hf1 a1
    have hC1 := tC_S hC hf1 (by decide)
    have hK1 := kC_fr (hf1.2 35 (by decide)) (hf1.2 36 (by decide)) hK
    have next : ∀ v : Int32, v = nO (aDo T L g) → sG sLL mX7_howMany (d + 2 + 1) (kI f) 2 [some (sR 60), some (sI (nI (g + 1))), none, none] [] (s_u μ1 61 g v) := by
      intro v hv
      refine ih _ (hf1.tr (sFr.u (by decide))) (fun i hi => ?_)
      by_cases c : i = g
      · rw [c, s_u_at]; exact hv
      · rw [s_u_off c]; exact a1 i (by omega)
    refine sX7_howMany_2 ⟨fun q => ?_, fun _ => ?_⟩
    · have q := (nI_leN (a := 4) (by omega) (by omega)).mp q
      omega
    · rw [nI_c (by omega), nI_1]
      refine c_hasGuest hT hC1 (fun g' hg' e th => ⟨fun w => absurd w (by decide), fun _ => ?_⟩) (fun hno => ⟨fun _ => ⟨vp_nI hg (by omega), next _ ?_⟩, fun w => absurd rfl w⟩)
      · have e := (nI_inj (by omega) (by omega)).mp e
        subst e
        refine c_choice hT hC1 hK1 (tW_lk hT) hL (fun u hu => by cases hu) hg ?_
        cases hp : tPick T (T.2 2) L none g with
        | none =>
          refine ⟨fun w => absurd rfl w, fun _ => ⟨vp_nI hg (by omega), next _ ?_⟩⟩
          unfold aDo aP
          rw [if_pos th, hp]
          rfl
        | some t =>
          have ht := (tPick_lt hp).1
          refine ⟨fun _ => ?_, fun w => ?_⟩
          · show sCl sLL mX1_bite (d + 2) [sR 35, sI (nI g), sI (nI t)] _ _
            refine c_bite hT hC1 hK1 hL hg (by omega) ⟨vp_nI hg (by omega), next _ ?_⟩
            unfold aDo aP
            rw [if_pos th, hp]
            have e1 : 10 * nI t = nI (10 * t) := pk_mul 10 t
            show 10 * nI t + nI (tBite T L g t) = nI (10 * t + tBite T L g t)
            rw [e1, nI_add]
          · rw [nO_m6 (by intro u hu; cases hu; omega)] at w
            cases w
      · unfold aDo aP
        rw [if_neg (by have := hno g hg rfl; omega)]
        rfl
def aAns (l : List Nat) (n : Nat) : Int32 := nO (l[n]?)
theorem c_atPlace {d : Nat} {μ : sM} {T : tT} {L : Nat → Nat} {n : Nat} {f : Int32 → sM → Prop} (hT : tW T) (hC : tC μ 1 4 T) (hK : kC μ (T.2 2) L none) (hL : ∀ i, L i ≤ 9) (hn : n < 2147483648) (h : ∀ μ', sFr [61] μ μ' → f (aAns (aAll (aAl T L) 4 0) n) μ') : sCl sLL mX7_atPlace (d + 4) [sR 60, sI (nI n)] μ (kI f) := by
  have hl := aAll_len (al := aAl T L) 4 0
  refine eX7_atPlace ⟨fun q => absurd q (nI_pos hn), fun _ => c_howMany hT hC hK hL (fun μ1 hf1 a1 => ?_)⟩
  have h := h μ1 hf1
  have hC1 := tC_S hC hf1 (by decide)
  refine ⟨fun q => ?_, fun q => ?_⟩
  · have q := (nI_ltN (by omega) (by omega)).mp q
    refine s_down (P := fun i => ∀ m, (aAll (aAl T L) (4 - i) i)[m]? = (aAll (aAl T L) 4 0)[n]? → m < 100 → sG sLL mX7_atPlace (d + 3 + 1) (kI f) 19 [some (sR 60), some (sI (nI n)), some (sI (nI m)), some (sI (nI i)), none] [] μ1) 4 ?_ ?_ 0 (by omega) n rfl (by omega)
    · intro m hm _
      refine sX7_atPlace_19 ⟨fun _ => ?_, fun q => absurd (by decide) q⟩
      have e : (aAll (aAl T L) 4 0)[n]? = none := by rw [← hm]; rfl
      unfold aAns at h
      rw [e] at h
      exact h
    · intro i hi ih m hm hm1
      rw [show 4 - i = (4 - (i + 1)) + 1 by omega, aAll] at hm
      refine sX7_atPlace_19 ⟨fun q => ?_, fun _ => ?_⟩
      · have q := (nI_leN (a := 4) (by omega) (by omega)).mp q
        omega
      · rw [nI_1]
        refine s_down (P := fun j => ∀ m, (aRow (aAl T L) i (4 - j) j ++ aAll (aAl T L) (4 - (i + 1)) (i + 1))[m]? = (aAll (aAl T L) 4 0)[n]? → m < 100 → sG sLL mX7_atPlace (d + 3 + 1) (kI f) 29 [some (sR 60), some (sI (nI n)), some (sI (nI m)), some (sI (nI i)), some (sI (nI j))] [] μ1) 4 ?_ ?_ (i + 1) (by omega) m hm hm1
        · intro m hm hm1
          rw [Nat.sub_self] at hm
          have hm : (aAll (aAl T L) (4 - (i + 1)) (i + 1))[m]? = (aAll (aAl T L) 4 0)[n]? := hm
          refine sX7_atPlace_29 ⟨fun _ => ?_, fun q => absurd (by decide) q⟩
          rw [nI_1]
          exact ih m hm hm1
        · intro j hj ih2 m hm hm1
          rw [show 4 - j = (4 - (j + 1)) + 1 by omega, aRow] at hm
          refine sX7_atPlace_29 ⟨fun q => ?_, fun _ => c_areAlike hT hC1 hL a1 hi hj (fun al => ⟨fun _ => ?_, fun w => absurd w (by decide)⟩) (fun al => ⟨fun w => absurd rfl w, fun _ => ?_⟩)⟩
          · have q := (nI_leN (a := 4) (by omega) (by omega)).mp q
            omega
          · rw [if_pos al] at hm
            have i0 := nI_inj (a := m) (b := 0) (by omega) (by omega)
            refine ⟨fun q => ?_, fun q => ?_⟩
            · have q : ¬ m = 0 := fun w => q (i0.mpr w)
              have e : nI m + (-1) = nI (m - 1) := by
                have : nI m + (-1) = nI m - 1 := by rw [Int32.sub_eq_add_neg]
                rw [this]
                exact pk_sub (b := 1) (by omega)
              rw [e, nI_1]
              refine ih2 (m - 1) ?_ (by omega)
              rw [← hm]
              obtain ⟨k, rfl⟩ : ∃ k, m = k + 1 := ⟨m - 1, by omega⟩
              simp
            · have q := i0.mp q
              subst q
              have e : (aAll (aAl T L) 4 0)[n]? = some (10 * i + j) := by rw [← hm]; rfl
              unfold aAns at h
              rw [e] at h
              have e1 : 10 * nI i = nI (10 * i) := pk_mul 10 i
              rw [e1, nI_add]
              exact h
          · rw [al] at hm
            have hm : (aRow (aAl T L) i (4 - (j + 1)) (j + 1) ++ aAll (aAl T L) (4 - (i + 1)) (i + 1))[m]? = (aAll (aAl T L) 4 0)[n]? := hm
            rw [nI_1]
            exact ih2 m hm hm1
  · have q : ¬ n < (aAll (aAl T L) 4 0).length := fun w => q ((nI_ltN (by omega) (by omega)).mpr w)
    unfold aAns at h
    rw [List.getElem?_eq_none (by omega)] at h
    exact h
