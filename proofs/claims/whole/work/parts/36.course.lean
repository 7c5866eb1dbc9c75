-- THE COURSE in the class; what is used, kept, put back, told in the reference
def tBite (T : tT) (L : Nat → Nat) (g t : Nat) : Nat := if L t < T.2 7 g then L t else T.2 7 g
theorem tBite_le {T : tT} {L : Nat → Nat} {g t : Nat} : tBite T L g t ≤ L t := by
  unfold tBite
  split <;> omega
theorem tBite_pos {T : tT} (hT : tW T) {L : Nat → Nat} {g t : Nat} (hg : g < 4) (h1 : T.2 10 g = 1) (hL : L t ≠ 0) : 0 < tBite T L g t := by
  have := (hT.2.2.2.1 g hg h1).1
  unfold tBite
  split <;> omega
def tLess (L : Nat → Nat) (t b : Nat) : Nat → Nat := va_up L t (L t - b)
theorem tLess_le {L : Nat → Nat} {t b : Nat} (hL : ∀ i, L i ≤ 9) : ∀ i, tLess L t b i ≤ 9 := fun i => by
  have := hL i
  have := hL t
  unfold tLess va_up
  split <;> omega
theorem tLess_back {L : Nat → Nat} {t b : Nat} (h : b ≤ L t) : va_up (tLess L t b) t (tLess L t b t + b) = L := by
  funext i
  unfold tLess va_up
  by_cases e : i = t
  · subst e
    simp
    omega
  · simp [e]
theorem c_bite {d : Nat} {μ : sM} {T : tT} {lk L : Nat → Nat} {last : Option Nat} {g t : Nat} {f : Int32 → sM → Prop} (hT : tW T) (hC : tC μ 1 4 T) (hK : kC μ lk L last) (hL : ∀ i, L i ≤ 9) (hg : g < 4) (ht : t < 7) (h : f (nI (tBite T L g t)) μ) : sCl sLL mX1_bite (d + 1) [sR 35, sI (nI g), sI (nI t)] μ (kI f) := by
  have b7 := hT.2.1 7 g
  have bL := hL t
  simp at b7
  refine eX1_bite ⟨vp_nI hg (by omega), vp_nI ht (by omega), ?_⟩
  rw [nI_c (by omega), nI_c (by omega), hK.2.1 t ht, (hC.2.2.2.2 g hg).2.1]
  have e : (if nI (L t) < nI (T.2 7 g) then nI (L t) else nI (T.2 7 g)) = nI (tBite T L g t) := by
    simp only [nI_ltN (show L t < 2147483648 by omega) (show T.2 7 g < 2147483648 by omega)]
    unfold tBite
    split <;> rfl
  rw [e]
  exact h
theorem kC_less {μ μ' : sM} {lk L : Nat → Nat} {last last' : Option Nat} {t : Nat} {L' : Nat → Nat} (hK : kC μ lk L last) (v : Nat) (hL' : L' = va_up L t v) (e : μ' = s_u (s_u μ 36 t (nI v)) 35 3 (nO last')) : kC μ' lk L' last' := by
  subst e
  subst hL'
  refine ⟨?_, fun i hi => ?_, ?_⟩
  · rw [s_u_off (by omega), s_u_ne (by omega)]
    exact hK.1
  · rw [s_u_ne (by omega)]
    by_cases c : i = t
    · subst c
      rw [s_u_at]
      simp [va_up]
    · rw [s_u_off c, hK.2.1 i hi]
      simp [va_up, c]
  · rw [s_u_at]
theorem c_use {d : Nat} {μ : sM} {T : tT} {lk L : Nat → Nat} {last : Option Nat} {g t : Nat} {f : Int32 → sM → Prop} (hT : tW T) (hC : tC μ 1 4 T) (hK : kC μ lk L last) (hL : ∀ i, L i ≤ 9) (hg : g < 4) (ht : t < 7) (h : ∀ μ', sFr [35, 36] μ μ' → kC μ' lk (tLess L t (tBite T L g t)) (some t) → f (nI (tBite T L g t)) μ') : sCl sLL mX1_use (d + 2) [sR 35, sI (nI g), sI (nI t)] μ (kI f) := by
  have bL := hL t
  have hb := tBite_le (T := T) (L := L) (g := g) (t := t)
  refine eX1_use (c_bite hT hC hK hL hg ht ⟨vp_nI ht (by omega), ?_⟩)
  rw [nI_c (by omega), hK.2.1 t ht, pk_sub hb]
  refine h _ ?_ (kC_less hK _ rfl rfl)
  exact (sFr.u (by decide)).tr (sFr.u (by decide))
theorem c_takeBack {d : Nat} {μ : sM} {lk L : Nat → Nat} {last last' : Option Nat} {t b : Nat} {f : sM → Prop} (hK : kC μ lk L last) (ht : t < 7) (h : ∀ μ', sFr [35, 36] μ μ' → kC μ' lk (va_up L t (L t + b)) last' → f μ') : sCl sLL mX1_takeBack d [sR 35, sI (nI t), sI (nI b), sI (nO last')] μ (kV f) := by
  refine eX1_takeBack ⟨vp_nI ht (by omega), ?_⟩
  rw [nI_c (by omega), hK.2.1 t ht, nI_add]
  exact h _ ((sFr.u (by decide)).tr (sFr.u (by decide))) (kC_less hK _ rfl rfl)
theorem c_begin {d : Nat} {μ : sM} {T : tT} {f : sM → Prop} (hC : tC μ 1 4 T) (h : ∀ μ', sFr [35, 36] μ μ' → kC μ' (T.2 2) (T.2 3) none → f μ') : sCl sLL mX1_begin (d + 1) [sR 35] μ (kV f) := by
  refine eX1_begin (h _ ?_ ⟨?_, fun t ht => ?_, ?_⟩)
  · exact ((sFr.cp (by decide)).tr (sFr.u (by decide))).tr (sFr.u (by decide))
  · rw [s_u_off (by omega), s_u_at]
    exact hC.2.1
  · rw [s_u_ne (by omega), s_u_ne (by omega), s_cp_in (by rw [show (7 : Int32).toNatClampNeg = 7 from rfl]; exact ht)]
    exact (hC.2.2.2.1 t ht).2.2.1
  · rw [s_u_at]
    rfl
theorem c_visit {d : Nat} {μ : sM} {T : tT} {lk L : Nat → Nat} {last : Option Nat} {g : Nat} {f : Int32 → sM → Prop} (hT : tW T) (hC : tC μ 1 4 T) (hK : kC μ lk L last) (hk : ∀ i, lk i ≤ 1) (hL : ∀ i, L i ≤ 9) (hl : ∀ u, last = some u → u < 7) (hg : g < 4)
    (h1 : ∀ t μ', T.2 10 g = 1 → tPick T lk L last g = some t → sFr [35, 36] μ μ' → kC μ' lk (tLess L t (tBite T L g t)) (some t) → f (nI (tBite T L g t)) μ') (h0 : (T.2 10 g = 0 ∨ tPick T lk L last g = none) → f 0 μ) : sCl sLL mX1_visit (d + 3) [sR 35, sI (nI g)] μ (kI f) := by
  have h7 := hT.1.2
  refine eX1_visit (c_hasGuest hT hC (fun g' hg' e hth => ⟨fun _ => ?_, fun w => absurd w (by decide)⟩) (fun w => ⟨fun w2 => absurd rfl w2, fun _ => h0 (Or.inl (w g hg rfl))⟩))
  have e := (nI_inj (by omega) (by omega)).mp e
  subst e
  refine c_choice hT hC hK hk hL hl hg ?_
  cases hp : tPick T lk L last g with
  | none => exact ⟨fun w => absurd rfl w, fun _ => h0 (Or.inr hp)⟩
  | some t =>
    have ht := (tPick_lt hp).1
    refine ⟨fun _ => ?_, fun w => ?_⟩
    · refine c_use hT hC hK hL hg (by omega) (fun μ' hf hk2 => h1 t μ' hth hp hf hk2)
    · rw [nO_m6 (by intro u hu; cases hu; omega)] at w
      cases w
-- what is left, as one number
def tNum (L : Nat → Nat) : Nat → Nat
  | 0 => 0
  | t + 1 => 10 * tNum L t + L t
theorem tNum_lt {L : Nat → Nat} (hL : ∀ i, L i ≤ 9) : ∀ n, tNum L n < 10 ^ n
  | 0 => by simp [tNum]
  | n + 1 => by
    have h := tNum_lt hL n
    have h2 := hL n
    simp only [tNum, Nat.pow_succ]
    omega
theorem c_asNumber {d : Nat} {μ : sM} {T : tT} {lk L : Nat → Nat} {last : Option Nat} {f : Int32 → sM → Prop} (hT : tW T) (hC : tC μ 1 4 T) (hK : kC μ lk L last) (h : f (nI (tNum L T.1)) μ) : sCl sLL mX1_asNumber d [sR 35] μ (kI f) := by
  have h7 := hT.1.2
  refine eX1_asNumber ?_
  refine s_down (P := fun t => sG sLL mX1_asNumber d (kI f) 4 [some (sR 35), some (sI (nI (tNum L t))), some (sI (nI t))] [] μ) T.1 ?_ ?_ 0 (by omega)
  · refine sX1_asNumber_4 ⟨fun _ => h, fun q => ?_⟩
    rw [hC.1] at q
    exact absurd ((nI_leN (by omega) (by omega)).mpr (Nat.le_refl _)) q
  · intro t ht ih
    refine sX1_asNumber_4 ⟨fun q => ?_, fun q => ⟨vp_nI (by omega) (by omega), ?_⟩⟩
    · rw [hC.1] at q
      have q := (nI_leN (by omega) (by omega)).mp q
      omega
    · rw [nI_c (by omega), hK.2.1 t (by omega), show (10 : Int32) = nI 10 from rfl, pk_mul, nI_add, nI_1]
      exact ih
theorem c_tableNow {d : Nat} {μ : sM} {n : Nat} {lk L : Nat → Nat} {last : Option Nat} {f : Int32 → sM → Prop} (h7 : n ≤ 7) (hn : μ.1 62 0 = nI n) (hK : ∀ t, t < 7 → μ.1 63 (21 + t) = nI (L t)) (h : f (nI (tNum L n)) μ) : sCl sLL mX9_tableNow (d + 1) [sR 62] μ (kI f) := by
  refine eX9_tableNow ?_
  refine s_down (P := fun t => sG sLL mX9_tableNow (d + 1) (kI f) 4 [some (sR 62), some (sI (nI (tNum L t))), some (sI (nI t))] [] μ) n ?_ ?_ 0 (by omega)
  · refine sX9_tableNow_4 ⟨fun _ => h, fun q => ?_⟩
    rw [hn] at q
    exact absurd ((nI_leN (by omega) (by omega)).mpr (Nat.le_refl _)) q
  · intro t ht ih
    refine sX9_tableNow_4 ⟨fun q => ?_, fun q => ?_⟩
    · rw [hn] at q
      have q := (nI_leN (by omega) (by omega)).mp q
      omega
    · refine c_at 3 t ⟨vp_nI (by omega) (by omega), ?_⟩
      rw [nI_c (by omega), show 7 * 3 + t = 21 + t by omega, hK t (by omega), show (10 : Int32) = nI 10 from rfl, pk_mul, nI_add, nI_1]
      exact ih
