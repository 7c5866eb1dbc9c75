-- THE WHOLE STATE, its two pictures; the calls that change the table
abbrev tZ : Type := tT × (Nat × (Nat → Nat)) × (Nat → Option tT)
/-- the reference's image k -/
def tK (μ : sM) (k : Nat) (T : tT) : Prop := μ.1 84 (80 * k) = nI T.1 ∧ μ.1 84 (80 * k + 1) = nI (tB (T.2 10) 4) ∧
  (∀ t, t < 7 → μ.1 84 (80 * k + 2 + t) = nI (T.2 0 t) ∧ μ.1 84 (80 * k + 9 + t) = nI (T.2 1 t) ∧ μ.1 84 (80 * k + 16 + t) = nI (T.2 2 t) ∧ μ.1 84 (80 * k + 23 + t) = nI (T.2 3 t) ∧ μ.1 84 (80 * k + 30 + 2 * t) = nI (T.2 4 t) ∧ μ.1 84 (80 * k + 31 + 2 * t) = nS (T.2 5 t)) ∧
  ∀ g, g < 4 → μ.1 84 (80 * k + 44 + 4 * g) = nI (T.2 6 g) ∧ μ.1 84 (80 * k + 45 + 4 * g) = nI (T.2 7 g) ∧ μ.1 84 (80 * k + 46 + 4 * g) = nI (T.2 8 g) ∧ μ.1 84 (80 * k + 47 + 4 * g) = nI (T.2 9 g)
def zC (μ : sM) (Z : tZ) : Prop := tC μ 1 4 Z.1 ∧ μ.1 33 0 = nI Z.2.1.1 ∧ (∀ i, i < Z.2.1.1 → μ.1 34 i = nI (Z.2.1.2 i)) ∧ ∀ k, k < 2 → (Z.2.2 k = none → μ.1 32 k = 0) ∧ ∀ T, Z.2.2 k = some T → μ.1 32 k = 1 ∧ tC μ (2 + k) (13 + 9 * k) T
def zM (μ : sM) (Z : tZ) : Prop := tM μ Z.1 ∧ μ.1 62 10 = nI Z.2.1.1 ∧ (∀ i, i < Z.2.1.1 → μ.1 70 i = nI (Z.2.1.2 i)) ∧ ∀ k, k < 2 → (Z.2.2 k = none → μ.1 85 k = 0) ∧ ∀ T, Z.2.2 k = some T → μ.1 85 k = 1 ∧ tK μ k T
def zW (Z : tZ) : Prop := tW Z.1 ∧ Z.2.1.1 ≤ 40 ∧ (∀ i, i < Z.2.1.1 → 33 ≤ Z.2.1.2 i ∧ Z.2.1.2 i ≤ 126) ∧ ∀ k T, Z.2.2 k = some T → tW T
/-- the class's calls leave the reference alone, and the other way round -/
def zA (μ μ' : sM) : Prop := ∀ r, 62 ≤ r → μ'.1 r = μ.1 r
def zB (μ μ' : sM) : Prop := ∀ r, r < 62 → μ'.1 r = μ.1 r
theorem zC_B {μ μ' : sM} {Z : tZ} (h : zB μ μ') (hC : zC μ Z) : zC μ' Z := by
  obtain ⟨h1, h2, h3, h4⟩ := hC
  refine ⟨tC_fr (h 1 (by omega)) (fun j hj => h (4 + j) (by omega)) h1, by rw [h 33 (by omega)]; exact h2, fun i hi => by rw [h 34 (by omega)]; exact h3 i hi, fun k hk => ⟨fun q => by rw [h 32 (by omega)]; exact (h4 k hk).1 q, fun T q => ?_⟩⟩
  obtain ⟨a, b⟩ := (h4 k hk).2 T q
  exact ⟨by rw [h 32 (by omega)]; exact a, tC_fr (h (2 + k) (by omega)) (fun j hj => h (13 + 9 * k + j) (by omega)) b⟩
theorem tK_fr {μ μ' : sM} {k : Nat} {T : tT} (h : μ'.1 84 = μ.1 84) (hK : tK μ k T) : tK μ' k T := by
  unfold tK
  rw [h]
  exact hK
theorem tM_fr {μ μ' : sM} {T : tT} (h0 : μ'.1 62 0 = μ.1 62 0) (h4 : μ'.1 62 4 = μ.1 62 4) (h : ∀ j, j < 7 → μ'.1 (63 + j) = μ.1 (63 + j)) (hM : tM μ T) : tM μ' T := by
  refine ⟨tE_fr h0 h4 (fun j _ => by rw [h 0 (by omega)]) (fun j hj => by have := h (3 + j) (by omega); rw [show 63 + (3 + j) = 66 + j by omega] at this; exact this) hM.1, fun t ht => ?_⟩
  rw [h 0 (by omega), h 1 (by omega), h 2 (by omega)]
  exact hM.2 t ht
theorem zM_A {μ μ' : sM} {Z : tZ} (h : zA μ μ') (hM : zM μ Z) : zM μ' Z := by
  obtain ⟨h1, h2, h3, h4⟩ := hM
  refine ⟨tM_fr (by rw [h 62 (by omega)]) (by rw [h 62 (by omega)]) (fun j hj => h (63 + j) (by omega)) h1, by rw [h 62 (by omega)]; exact h2, fun i hi => by rw [h 70 (by omega)]; exact h3 i hi, fun k hk => ⟨fun q => by rw [h 85 (by omega)]; exact (h4 k hk).1 q, fun T q => ?_⟩⟩
  obtain ⟨a, b⟩ := (h4 k hk).2 T q
  exact ⟨by rw [h 85 (by omega)]; exact a, tK_fr (h 84 (by omega)) b⟩
/-- a question of the class changes what it works with alone -/
theorem zC_S {S : List Nat} {μ μ' : sM} {Z : tZ} (h : sFr S μ μ') (hs : ∀ x ∈ S, 35 ≤ x) (hC : zC μ Z) : zC μ' Z := by
  have e : ∀ r, r < 35 → μ'.1 r = μ.1 r := fun r hr => h.2 r (fun w => by have := hs r w; omega)
  obtain ⟨h1, h2, h3, h4⟩ := hC
  refine ⟨tC_fr (e 1 (by omega)) (fun j hj => e (4 + j) (by omega)) h1, by rw [e 33 (by omega)]; exact h2, fun i hi => by rw [e 34 (by omega)]; exact h3 i hi, fun k hk => ⟨fun q => by rw [e 32 (by omega)]; exact (h4 k hk).1 q, fun T q => ?_⟩⟩
  obtain ⟨a, b⟩ := (h4 k hk).2 T q
  exact ⟨by rw [e 32 (by omega)]; exact a, tC_fr (e (2 + k) (by omega)) (fun j hj => e (13 + 9 * k + j) (by omega)) b⟩
theorem zA_S {S : List Nat} {μ μ' : sM} (h : sFr S μ μ') (hs : ∀ x ∈ S, x < 62) : zA μ μ' := fun r hr => h.2 r (fun w => by have := hs r w; omega)
theorem zB_S {S : List Nat} {μ μ' : sM} (h : sFr S μ μ') (hs : ∀ x ∈ S, 62 ≤ x) : zB μ μ' := fun r hr => h.2 r (fun w => by have := hs r w; omega)
theorem zM_Q {μ μ' : sM} {Z : tZ} (h : mQ μ μ') (hM : zM μ Z) : zM μ' Z := by
  obtain ⟨h1, h2, h3, h4⟩ := hM
  refine ⟨tM_Q h h1, h.1.2.1.2.2.trans h2, fun i hi => by rw [h.1.1.2 70 (by decide)]; exact h3 i hi, fun k hk => ⟨fun q => by rw [h.1.1.2 85 (by decide)]; exact (h4 k hk).1 q, fun T q => ?_⟩⟩
  obtain ⟨a, b⟩ := (h4 k hk).2 T q
  exact ⟨by rw [h.1.1.2 85 (by decide)]; exact a, tK_fr (h.1.1.2 84 (by decide)) b⟩
theorem zB_Q {μ μ' : sM} (h : mQ μ μ') : zB μ μ' := zB_S h.1.1 (by decide)
theorem zA.rf {μ : sM} : zA μ μ := fun _ _ => rfl
theorem zB.rf {μ : sM} : zB μ μ := fun _ _ => rfl
/-- another table, all else the same: in the class -/
theorem zC_T {S : List Nat} {μ μ' : sM} {Z : tZ} {T : tT} (h : sFr S μ μ') (hs : ∀ x ∈ S, x = 1 ∨ (4 ≤ x ∧ x ≤ 12)) (hT : tC μ' 1 4 T) (hC : zC μ Z) : zC μ' (T, Z.2) := by
  have e : ∀ r, 2 ≤ r → (r < 4 ∨ 12 < r) → μ'.1 r = μ.1 r := fun r h1 h2 => h.2 r (fun w => by have := hs r w; omega)
  obtain ⟨h1, h2, h3, h4⟩ := hC
  refine ⟨hT, by rw [e 33 (by omega) (by omega)]; exact h2, fun i hi => by rw [e 34 (by omega) (by omega)]; exact h3 i hi, fun k hk => ⟨fun q => by rw [e 32 (by omega) (by omega)]; exact (h4 k hk).1 q, fun T q => ?_⟩⟩
  obtain ⟨a, b⟩ := (h4 k hk).2 T q
  exact ⟨by rw [e 32 (by omega) (by omega)]; exact a, tC_fr (e (2 + k) (by omega) (by omega)) (fun j hj => e (13 + 9 * k + j) (by omega) (by omega)) b⟩
/-- .. in the reference -/
theorem zM_T {S : List Nat} {μ μ' : sM} {Z : tZ} {T : tT} (h : sFr S μ μ') (hs : ∀ x ∈ S, 62 ≤ x ∧ x ≤ 69) (h10 : μ'.1 62 10 = μ.1 62 10) (hT : tM μ' T) (hM : zM μ Z) : zM μ' (T, Z.2) := by
  have e : ∀ r, 69 < r → μ'.1 r = μ.1 r := fun r h1 => h.2 r (fun w => by have := hs r w; omega)
  obtain ⟨h1, h2, h3, h4⟩ := hM
  refine ⟨hT, h10.trans h2, fun i hi => by rw [e 70 (by omega)]; exact h3 i hi, fun k hk => ⟨fun q => by rw [e 85 (by omega)]; exact (h4 k hk).1 q, fun T q => ?_⟩⟩
  obtain ⟨a, b⟩ := (h4 k hk).2 T q
  exact ⟨by rw [e 85 (by omega)]; exact a, tK_fr (e 84 (by omega)) b⟩
-- things(n)
def nFirst (n : Nat) (T : tT) : tT := (n, fun k i => if k = 0 then (if i < 7 then i else 0) else if k = 1 then 9 else if k = 2 then 0 else if k = 3 then 9 else if k = 4 then 0 else if k = 5 then 0 else T.2 k i)
theorem nFirst_w {n : Nat} {T : tT} (h1 : 1 ≤ n) (h7 : n ≤ 7) (hT : tW T) : tW (nFirst n T) := by
  obtain ⟨-, w2, w3, w4, -⟩ := hT
  refine ⟨⟨h1, h7⟩, fun k i => ?_, fun i => ?_, fun g hg q => ?_, fun t ht => ?_⟩
  · have := w2 k i
    show (if k = 0 then (if i < 7 then i else 0) else if k = 1 then 9 else if k = 2 then 0 else if k = 3 then 9 else if k = 4 then 0 else if k = 5 then 0 else T.2 k i) ≤ _
    by_cases c5 : k = 5
    · subst c5; simp
    · simp only [if_neg c5] at this ⊢
      split
      · split <;> omega
      · split
        · omega
        · split
          · omega
          · split
            · omega
            · split
              · omega
              · exact this
  · have := w3 i
    exact ⟨by simp [nFirst], by simpa [nFirst] using this.2.1, by simpa [nFirst] using this.2.2⟩
  · simpa [nFirst] using w4 g hg (by simpa [nFirst] using q)
  · simp [nFirst]
theorem c_asAtFirst {d : Nat} {μ : sM} {T : tT} {n : Nat} {f : sM → Prop} (hC : tC μ 1 4 T) (h : ∀ μ', sFr [1, 4, 5, 6, 7, 8] μ μ' → tC μ' 1 4 (nFirst n T) → f μ') : sCl sLL mX6_asAtFirst (d + 1) [sR 1, sI (nI n)] μ (kV f) := by
  refine eX6_asAtFirst ?_
  refine s_down (P := fun t => ∀ μ1, sFr [1, 4] μ μ1 → μ1.1 1 0 = nI n → μ1.1 1 1 = 0 → μ1.1 1 2 = μ.1 1 2 → (∀ i, i < t → μ1.1 4 i = nI i) → sG sLL mX6_asAtFirst (d + 1) (kV f) 12 [some (sR 1), some (sI (nI n)), some (sI (nI t))] [] μ1) 7 ?_ ?_ 0 (by omega) _ ((sFr.u (by decide)).tr (sFr.u (by decide))) (by rw [s_u_off (by omega), s_u_at]) s_u_at (by rw [s_u_off (by omega), s_u_off (by omega)]) (fun i hi => by omega)
  · intro μ1 hf1 e0 e1 e2 h4
    refine sX6_asAtFirst_12 ⟨fun _ => ?_, fun q => absurd (by decide) q⟩
    refine c_fill (n := 7) rfl rfl (by omega) (fun μ2 hf2 q5 _ => c_fill (n := 7) rfl rfl (by omega) (fun μ3 hf3 q6 _ => c_fill (n := 7) rfl rfl (by omega) (fun μ4 hf4 q7 _ => c_fill (n := 7) rfl rfl (by omega) (fun μ5 hf5 q8 _ => ?_))))
    have F : sFr [5, 6, 7, 8] μ1 μ5 := ((((hf2.mono (by decide)).tr (hf3.mono (by decide))).tr (hf4.mono (by decide))).tr (hf5.mono (by decide)))
    refine h μ5 ((hf1.mono (by decide)).tr (F.mono (by decide))) ⟨?_, ?_, ?_, fun t ht => ⟨?_, ?_, ?_, ?_, ?_⟩, fun g hg => ?_⟩
    · rw [F.2 1 (by decide), e0]; rfl
    · rw [F.2 1 (by decide), e1]; rfl
    · rw [F.2 1 (by decide), e2, hC.2.2.1]; rfl
    · rw [F.2 4 (by decide), h4 t ht]
      simp [nFirst, ht]
    · rw [hf5.2 (4 + 1) (by decide), hf4.2 (4 + 1) (by decide), hf3.2 (4 + 1) (by decide), q5 t ht]
      rfl
    · rw [hf5.2 (4 + 2) (by decide), hf4.2 (4 + 2) (by decide), q6 t ht]
      rfl
    · rw [hf5.2 (4 + 3) (by decide), q7 t ht]
      rfl
    · rw [q8 t ht]
      rfl
    · rw [F.2 (4 + 5) (by decide), F.2 (4 + 6) (by decide), F.2 (4 + 7) (by decide), F.2 (4 + 8) (by decide), hf1.2 (4 + 5) (by decide), hf1.2 (4 + 6) (by decide), hf1.2 (4 + 7) (by decide), hf1.2 (4 + 8) (by decide)]
      exact hC.2.2.2.2 g hg
  · intro t ht ih μ1 hf1 e0 e1 e2 h4
    refine sX6_asAtFirst_12 ⟨fun q => ?_, fun _ => ⟨vp_nI ht (by omega), ?_⟩⟩
    · have q := (nI_leN (a := 7) (by omega) (by omega)).mp q
      omega
    · rw [nI_c (by omega), nI_1]
      refine ih _ (hf1.tr (sFr.u (by decide))) (by rw [s_u_ne (by omega)]; exact e0) (by rw [s_u_ne (by omega)]; exact e1) (by rw [s_u_ne (by omega)]; exact e2) (fun i hi => ?_)
      by_cases c : i = t
      · subst c; exact s_u_at
      · rw [s_u_off c]; exact h4 i (by omega)
theorem c_beginM {d : Nat} {μ : sM} {T : tT} {n : Nat} {f : sM → Prop} (hM : tM μ T) (h : ∀ μ', sFr [62, 63, 64, 65] μ μ' → (∀ k, k ≠ 0 → μ'.1 62 k = μ.1 62 k) → tM μ' (nFirst n T) → f μ') : sCl sLL mX9_begin (d + 1) [sR 62, sI (nI n)] μ (kV f) := by
  refine eX9_begin ?_
  refine s_down (P := fun t => ∀ μ1, sFr [62, 63, 64, 65] μ μ1 → μ1.1 62 0 = nI n → (∀ k, k ≠ 0 → μ1.1 62 k = μ.1 62 k) → (∀ i, i < t → μ1.1 63 i = nI i ∧ μ1.1 63 (7 + i) = 9 ∧ μ1.1 63 (14 + i) = 0 ∧ μ1.1 63 (21 + i) = 9 ∧ μ1.1 64 i = 0 ∧ μ1.1 65 i = -6) → sG sLL mX9_begin (d + 1) (kV f) 7 [some (sR 62), some (sI (nI n)), some (sI (nI t))] [] μ1) 7 ?_ ?_ 0 (by omega) _ (sFr.u (by decide)) s_u_at (fun k hk => s_u_off hk) (fun i hi => by omega)
  · intro μ1 hf1 e0 e1 hi
    refine sX9_begin_7 ⟨fun _ => h μ1 hf1 e1 ⟨⟨e0, ?_, fun t ht => ?_, fun g hg => ?_⟩, fun t ht => ?_⟩, fun q => absurd (by decide) q⟩
    · rw [e1 4 (by omega), hM.1.2.1]; rfl
    · obtain ⟨a1, a2, a3, a4, a5, a6⟩ := hi t ht
      rw [a1, a2]
      exact ⟨by simp [nFirst, ht], rfl⟩
    · rw [hf1.2 66 (by decide), hf1.2 67 (by decide), hf1.2 68 (by decide), hf1.2 69 (by decide)]
      exact hM.1.2.2.2 g hg
    · obtain ⟨a1, a2, a3, a4, a5, a6⟩ := hi t ht
      rw [a3, a4, a5, a6]
      exact ⟨rfl, rfl, rfl, rfl⟩
  · intro t ht ih μ1 hf1 e0 e1 hi
    refine sX9_begin_7 ⟨fun q => ?_, fun _ => ?_⟩
    · have q := (nI_leN (a := 7) (by omega) (by omega)).mp q
      omega
    · refine c_at 0 t ⟨vp_nI (by omega) (by omega), c_at 1 t ⟨vp_nI (by omega) (by omega), c_at 2 t ⟨vp_nI (by omega) (by omega), c_at 3 t ⟨vp_nI (by omega) (by omega), vp_nI ht (by omega), ?_⟩⟩⟩⟩
      rw [nI_c (by omega), nI_c (by omega), nI_c (by omega), nI_c (by omega), nI_c (by omega), nI_1, show 7 * 0 + t = t by omega, show 7 * 1 + t = 7 + t by omega, show 7 * 2 + t = 14 + t by omega, show 7 * 3 + t = 21 + t by omega]
      refine ih _ ((((((hf1.tr (sFr.u (by decide))).tr (sFr.u (by decide))).tr (sFr.u (by decide))).tr (sFr.u (by decide))).tr (sFr.u (by decide))).tr (sFr.u (by decide))) ?_ (fun k hk => ?_) (fun i hit => ?_)
      · rw [s_u_ne (by omega), s_u_ne (by omega), s_u_ne (by omega), s_u_ne (by omega), s_u_ne (by omega), s_u_ne (by omega)]
        exact e0
      · rw [s_u_ne (by omega), s_u_ne (by omega), s_u_ne (by omega), s_u_ne (by omega), s_u_ne (by omega), s_u_ne (by omega)]
        exact e1 k hk
      · have ei : i < t → _ := hi i
        by_cases c : i = t
        · subst c
          simp [s_u, va_up, upd]
        · obtain ⟨a1, a2, a3, a4, a5, a6⟩ := hi i (by omega)
          simp only [s_u, va_up, upd]
          simp [upd, show i ≠ 21 + t by omega, show i ≠ 14 + t by omega, show i ≠ 7 + t by omega, c, show 7 + i ≠ 21 + t by omega, show 7 + i ≠ 14 + t by omega, show 7 + i ≠ t by omega, show 14 + i ≠ 21 + t by omega, show 14 + i ≠ 7 + t by omega, show 14 + i ≠ t by omega, show 21 + i ≠ 14 + t by omega, show 21 + i ≠ 7 + t by omega, show 21 + i ≠ t by omega, a1, a2, a3, a4, a5, a6]
def oThings (Z : tZ) (a : Int32) : Int32 := if oIn a 1 7 = true then nI Z.1.1 else -2
def nThings (Z : tZ) (a : Int32) : tZ := if oIn a 1 7 = true then (nFirst a.toInt.toNat Z.1, Z.2) else Z
theorem oIn_lo {a : Int32} {lo hi : Nat} (h9 : hi < 1000) (h : oIn a lo hi = true) : ∃ m, lo ≤ m ∧ m ≤ hi ∧ a = nI m ∧ a.toInt.toNat = m := by
  simp only [oIn, decide_eq_true_eq] at h
  refine ⟨a.toInt.toNat, by omega, by omega, ?_, rfl⟩
  rw [fa_eq, nI_i (by omega)]
  omega
theorem p_things {d : Nat} {μ : sM} {Z : tZ} {a : Int32} {f : Int32 → sM → Prop} (hZ : zC μ Z) (h : ∀ μ', zC μ' (nThings Z a) → zA μ μ' → f (oThings Z a) μ') : sCl sLL mX8_things (d + 2) [sR 0, sI a] μ (kI f) := by
  have z1 : (1 : Int32).toInt = 1 := by decide
  have z7 : (7 : Int32).toInt = 7 := by decide
  unfold oThings nThings at h
  by_cases c : oIn a 1 7 = true
  · simp only [if_pos c] at h
    obtain ⟨n, h1, h7, rfl, en⟩ := oIn_lo (lo := 1) (hi := 7) (by omega) c
    rw [en] at h
    refine eX8_things ⟨fun q => ?_, fun _ => ⟨fun _ => c_asAtFirst hZ.1 (fun μ' hf hC => ?_), fun q => ?_⟩⟩
    · have q := (nI_ltN (b := 1) (by omega) (by omega)).mp q
      omega
    · have := h μ' (zC_T hf (by decide) hC hZ) (zA_S hf (by decide))
      rw [hZ.1.1]
      exact this
    · exact absurd ((nI_leN (b := 7) (by omega) (by omega)).mpr h7) q
  · simp only [if_neg c] at h
    have h := h μ hZ zA.rf
    simp only [oIn, decide_eq_true_eq] at c
    refine eX8_things ?_
    rw [fa_lt, fa_le, z1, z7]
    exact ⟨fun _ => h, fun q => ⟨fun q2 => by omega, fun _ => h⟩⟩
theorem r_things {d : Nat} {μ : sM} {Z : tZ} {a : Int32} {f : Int32 → sM → Prop} (hZ : zM μ Z) (h : ∀ μ', zM μ' (nThings Z a) → zB μ μ' → f (oThings Z a) μ') : sCl sLL mX9_things (d + 2) [sR 62, sI a] μ (kI f) := by
  unfold oThings nThings at h
  refine eX9_things (c_inN 1 7 (by decide) (by decide) (fun c => ⟨fun _ => ?_, fun w => absurd w (by decide)⟩) (fun c => ⟨fun w => absurd rfl w, fun _ => ?_⟩))
  · simp only [if_pos c] at h
    obtain ⟨n, h1, h7, rfl, en⟩ := oIn_lo (lo := 1) (hi := 7) (by omega) c
    rw [en] at h
    refine c_beginM hZ.1 (fun μ' hf hk hM => ?_)
    have := h μ' (zM_T hf (by decide) (hk 10 (by omega)) hM hZ) (zB_S hf (by decide))
    rw [hZ.1.1.1]
    exact this
  · have h := h μ
    simp only [c] at h
    exact h hZ zB.rf
theorem nThings_w {Z : tZ} {a : Int32} (hW : zW Z) : zW (nThings Z a) := by
  unfold nThings
  split
  next c =>
    obtain ⟨n, h1, h7, -, en⟩ := oIn_lo (lo := 1) (hi := 7) (by omega) c
    rw [en]
    exact ⟨nFirst_w h1 h7 hW.1, hW.2⟩
  next => exact hW
