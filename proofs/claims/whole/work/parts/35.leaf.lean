-- SMALL METHODS of both
def sFr (S : List Nat) (μ μ' : sM) : Prop := μ'.2 = μ.2 ∧ ∀ r, r ∉ S → μ'.1 r = μ.1 r
theorem sFr.rf {S : List Nat} {μ : sM} : sFr S μ μ := ⟨rfl, fun _ _ => rfl⟩
theorem sFr.tr {S : List Nat} {μ μ' μ'' : sM} (h : sFr S μ μ') (h2 : sFr S μ' μ'') : sFr S μ μ'' := ⟨h2.1.trans h.1, fun r hr => (h2.2 r hr).trans (h.2 r hr)⟩
theorem sFr.mono {S S2 : List Nat} {μ μ' : sM} (h : sFr S μ μ') (hs : ∀ x ∈ S, x ∈ S2) : sFr S2 μ μ' := ⟨h.1, fun r hr => h.2 r (fun w => hr (hs r w))⟩
theorem sFr.u {S : List Nat} {μ : sM} {r i : Nat} {v : Int32} (h : r ∈ S) : sFr S μ (s_u μ r i v) := ⟨rfl, fun q hq => s_u_ne (fun e => hq (e ▸ h))⟩
theorem sFr.cp {S : List Nat} {μ : sM} {r0 r1 : Nat} {n : Int32} (h : r1 ∈ S) : sFr S μ (s_cp μ r0 r1 n) := ⟨rfl, fun q hq => s_cp_ne (fun e => hq (e ▸ h))⟩
theorem sFr.at {S : List Nat} {μ μ' : sM} (h : sFr S μ μ') (r : Nat) (hr : r ∉ S) : μ'.1 r = μ.1 r := h.2 r hr
theorem s_down {P : Nat → Prop} (N : Nat) (hN : P N) (hs : ∀ t, t < N → P (t + 1) → P t) : ∀ t, t ≤ N → P t := by
  intro t ht
  have key : ∀ m t, t + m = N → P t := by
    intro m
    induction m with
    | zero => intro t e; have e : t = N := by omega
              subst e; exact hN
    | succ m ih => intro t e; exact hs t (by omega) (ih (t + 1) (by omega))
  exact key (N - t) t (by omega)
theorem tC_fr {μ μ' : sM} {o a : Nat} {T : tT} (ho : μ'.1 o = μ.1 o) (ha : ∀ j, j < 9 → μ'.1 (a + j) = μ.1 (a + j)) (h : tC μ o a T) : tC μ' o a T := by
  obtain ⟨h1, h2, h3, h4, h5⟩ := h
  have a0 := ha 0 (by omega); have a1 := ha 1 (by omega); have a2 := ha 2 (by omega); have a3 := ha 3 (by omega); have a4 := ha 4 (by omega)
  have a5 := ha 5 (by omega); have a6 := ha 6 (by omega); have a7 := ha 7 (by omega); have a8 := ha 8 (by omega)
  rw [Nat.add_zero] at a0
  unfold tC
  rw [ho, a0, a1, a2, a3, a4, a5, a6, a7, a8]
  exact ⟨h1, h2, h3, h4, h5⟩
theorem tC_fr1 {μ μ' : sM} {T : tT} (h : ∀ r, r < 13 → μ'.1 r = μ.1 r) (hC : tC μ 1 4 T) : tC μ' 1 4 T := tC_fr (h 1 (by omega)) (fun j hj => h (4 + j) (by omega)) hC
theorem s_lt13 {S : List Nat} {μ μ' : sM} (h : sFr S μ μ') (hs : ∀ x ∈ S, 13 ≤ x) : ∀ r, r < 13 → μ'.1 r = μ.1 r := fun r hr => h.2 r (fun w => by have := hs r w; omega)
theorem tC_S {S : List Nat} {μ μ' : sM} {T : tT} (hC : tC μ 1 4 T) (h : sFr S μ μ') (hs : ∀ x ∈ S, 13 ≤ x) : tC μ' 1 4 T := tC_fr1 (s_lt13 h hs) hC
theorem kC_fr {μ μ' : sM} {lk L : Nat → Nat} {last : Option Nat} (h35 : μ'.1 35 = μ.1 35) (h36 : μ'.1 36 = μ.1 36) (h : kC μ lk L last) : kC μ' lk L last := by
  unfold kC
  rw [h35, h36]
  exact h
theorem tE_fr {μ μ' : sM} {T : tT} (h0 : μ'.1 62 0 = μ.1 62 0) (h4 : μ'.1 62 4 = μ.1 62 4) (h63 : ∀ j, j < 14 → μ'.1 63 j = μ.1 63 j) (hg : ∀ j, j < 4 → μ'.1 (66 + j) = μ.1 (66 + j)) (h : tE μ T) : tE μ' T := by
  obtain ⟨e1, e2, e3, e4⟩ := h
  have a0 := hg 0 (by omega); have a1 := hg 1 (by omega); have a2 := hg 2 (by omega); have a3 := hg 3 (by omega)
  refine ⟨h0.trans e1, h4.trans e2, fun t ht => ⟨(h63 t (by omega)).trans (e3 t ht).1, (h63 (7 + t) (by omega)).trans (e3 t ht).2⟩, fun g hg => ?_⟩
  rw [show (66 : Nat) = 66 + 0 from rfl, a0, show (67 : Nat) = 66 + 1 from rfl, a1, show (68 : Nat) = 66 + 2 from rfl, a2, show (69 : Nat) = 66 + 3 from rfl, a3]
  exact e4 g hg
theorem s_z0 : (0 : Int32).toInt = 0 := by decide
theorem s_z4 : (4 : Int32).toInt = 4 := by decide
-- is there such a thing, such a guest
theorem c_hasThing {d : Nat} {μ : sM} {n : Nat} {a : Int32} {f : Int32 → sM → Prop} (hn : μ.1 1 0 = nI n) (h7 : n ≤ 7) (h1 : ∀ t, t < n → a = nI t → f 1 μ) (h0 : (a.toInt < 0 ∨ (n : Int) ≤ a.toInt) → f 0 μ) : sCl sLL mX6_hasThing d [sR 1, sI a] μ (kI f) := by
  refine eX6_hasThing ?_
  rw [hn]
  rw [fa_lt, fa_le, s_z0, nI_i (by omega)]
  refine ⟨fun q => h0 (Or.inl q), fun q => ⟨fun q2 => h0 (Or.inr q2), fun q2 => ?_⟩⟩
  rcases s_in a n (by omega) with ⟨t, ht, e⟩ | c
  · exact h1 t ht e
  · omega
theorem c_hasGuest {d : Nat} {μ : sM} {T : tT} {a : Int32} {f : Int32 → sM → Prop} (hT : tW T) (hC : tC μ 1 4 T) (h1 : ∀ g, g < 4 → a = nI g → T.2 10 g = 1 → f 1 μ) (h0 : (∀ g, g < 4 → a = nI g → T.2 10 g = 0) → f 0 μ) : sCl sLL mX6_hasGuest d [sR 1, sI a] μ (kI f) := by
  refine eX6_hasGuest ?_
  have hb : ∀ i, T.2 10 i ≤ 1 := fun i => (hT.2.2.1 i).2.2
  refine ⟨fun q => h0 (fun g hg e => ?_), fun q => ⟨fun q2 => h0 (fun g hg e => ?_), fun q2 => ?_⟩⟩
  · rw [e, fa_lt, s_z0, nI_i (by omega)] at q
    omega
  · rw [e, fa_le, s_z4, nI_i (by omega)] at q2
    omega
  · rcases s_in a 4 (by omega) with ⟨g, hg, e⟩ | c
    · subst e
      have hbg := hb g
      rw [hC.2.2.1, s_bit4 hb hg]
      refine ⟨fun q3 => h0 (fun g' hg' e' => ?_), fun q3 => h1 g hg rfl ((nI_is1 hbg).mp q3)⟩
      have e' := (nI_inj (by omega) (by omega)).mp e'
      subst e'
      have : ¬ T.2 10 g = 1 := fun w => q3 ((nI_is1 hbg).mpr w)
      omega
    · rw [fa_lt, s_z0] at q
      rw [fa_le, s_z4] at q2
      omega
theorem c_in {d : Nat} {μ : sM} {x : Int32} {b1 b2 : Int64} {f : Int32 → sM → Prop} (lo hi : Int) (e1 : b1.toInt = lo) (e2 : b2.toInt = hi) (h1 : lo ≤ x.toInt → x.toInt ≤ hi → f 1 μ) (h0 : (x.toInt < lo ∨ hi < x.toInt) → f 0 μ) : sCl sLL mX9_in d [sL x.toInt64, sL b1, sL b2] μ (kI f) := by
  refine eX9_in ?_
  rw [lg_cmp_lt, lg_cmp_gt, fa_lt64, fa_lt64, Int32.toInt_toInt64, e1, e2]
  refine ⟨fun q => h0 (Or.inl q), fun q => ⟨fun q2 => h0 (Or.inr q2), fun q2 => h1 (by omega) (by omega)⟩⟩
theorem c_isThing {d : Nat} {μ : sM} {n : Nat} {a : Int32} {f : Int32 → sM → Prop} (hn : μ.1 62 0 = nI n) (h71 : 1 ≤ n) (h7 : n ≤ 7) (h1 : ∀ t, t < n → a = nI t → f 1 μ) (h0 : (a.toInt < 0 ∨ (n : Int) ≤ a.toInt) → f 0 μ) : sCl sLL mX9_isThing (d + 1) [sR 62, sI a] μ (kI f) := by
  refine eX9_isThing ?_
  have e : ((μ.1 62 0) - 1).toInt64.toInt = (n : Int) - 1 := by
    rw [hn, Int32.toInt_toInt64, show (1 : Int32) = nI 1 from rfl, pk_sub_toInt (by omega) (by omega)]
    rfl
  refine c_in 0 ((n : Int) - 1) (by decide) e (fun q1 q2 => ⟨Or.inr rfl, ?_⟩) (fun q => ⟨Or.inl rfl, h0 (by omega)⟩)
  rcases s_in a n (by omega) with ⟨t, ht, e⟩ | c
  · exact h1 t ht e
  · omega
theorem c_isThere {d : Nat} {μ : sM} {T : tT} {a : Int32} {f : Int32 → sM → Prop} (hT : tW T) (hC : tE μ T) (h1 : ∀ g, g < 4 → a = nI g → T.2 10 g = 1 → f 1 μ) (h0 : (∀ g, g < 4 → a = nI g → T.2 10 g = 0) → f 0 μ) : sCl sLL mX9_isThere (d + 1) [sR 62, sI a] μ (kI f) := by
  have hb : ∀ i, T.2 10 i ≤ 1 := fun i => (hT.2.2.1 i).2.2
  refine eX9_isThere (c_in 0 3 (by decide) (by decide) (fun q1 q2 => ⟨fun w => absurd w (by decide), fun _ => ?_⟩) (fun q => ⟨fun _ => h0 (fun g hg e => ?_), fun w => absurd rfl w⟩))
  · rcases s_in a 4 (by omega) with ⟨g, hg, e⟩ | c
    · subst e
      have hbg := hb g
      rw [hC.2.1, s_bit4 hb hg]
      refine ⟨fun q3 => h0 (fun g' hg' e' => ?_), fun q3 => h1 g hg rfl ((nI_is1 hbg).mp q3)⟩
      have e' := (nI_inj (by omega) (by omega)).mp e'
      subst e'
      have : ¬ T.2 10 g = 1 := fun w => q3 ((nI_is1 hbg).mpr w)
      omega
    · omega
  · rw [e, nI_i (by omega)] at q
    omega
-- bits counted
def tPop (N : Nat) : Nat := N % 2 + N / 2 % 2 + N / 4 % 2 + N / 8 % 2 + N / 16 % 2 + N / 32 % 2 + N / 64 % 2
theorem tPop_s : ∀ N, N < 128 → N ≠ 0 → (nI N &&& (nI N - 1)) = nI (N &&& (N - 1)) ∧ (N &&& (N - 1)) < N ∧ tPop N = tPop (N &&& (N - 1)) + 1 := by decide +kernel
theorem tPop_lt : ∀ N, N < 128 → tPop N ≤ 7 := by decide +kernel
theorem tPop_bc : ∀ N, N < 128 → (((((nI N - (s_us (nI N) 1 &&& 1431655765) &&& 858993459) + (s_us (nI N - (s_us (nI N) 1 &&& 1431655765)) 2 &&& 858993459) + s_us ((nI N - (s_us (nI N) 1 &&& 1431655765) &&& 858993459) + (s_us (nI N - (s_us (nI N) 1 &&& 1431655765)) 2 &&& 858993459)) 4 &&& 252645135) + s_us (((nI N - (s_us (nI N) 1 &&& 1431655765) &&& 858993459) + (s_us (nI N - (s_us (nI N) 1 &&& 1431655765)) 2 &&& 858993459) + s_us ((nI N - (s_us (nI N) 1 &&& 1431655765) &&& 858993459) + (s_us (nI N - (s_us (nI N) 1 &&& 1431655765)) 2 &&& 858993459)) 4 &&& 252645135)) 8) + s_us ((((nI N - (s_us (nI N) 1 &&& 1431655765) &&& 858993459) + (s_us (nI N - (s_us (nI N) 1 &&& 1431655765)) 2 &&& 858993459) + s_us ((nI N - (s_us (nI N) 1 &&& 1431655765) &&& 858993459) + (s_us (nI N - (s_us (nI N) 1 &&& 1431655765)) 2 &&& 858993459)) 4 &&& 252645135) + s_us (((nI N - (s_us (nI N) 1 &&& 1431655765) &&& 858993459) + (s_us (nI N - (s_us (nI N) 1 &&& 1431655765)) 2 &&& 858993459) + s_us ((nI N - (s_us (nI N) 1 &&& 1431655765) &&& 858993459) + (s_us (nI N - (s_us (nI N) 1 &&& 1431655765)) 2 &&& 858993459)) 4 &&& 252645135)) 8)) 16) &&& 63) = nI (tPop N) := by decide +kernel
theorem c_bitCount {d : Nat} {μ : sM} {N : Nat} {f : Int32 → sM → Prop} (hN : N < 128) (h : f (nI (tPop N)) μ) : sCl sLL mJ6_bitCount_0f7a4 d [sI (nI N)] μ (kI f) := by
  rw [← tPop_bc N hN] at h
  exact eJ6_bitCount_0f7a4 h
theorem c_ones {d : Nat} {μ : sM} {N : Nat} {f : Int32 → sM → Prop} (hN : N < 128) (h : f (nI (tPop N)) μ) : sCl sLL mX9_ones d [sI (nI N)] μ (kI f) := by
  refine eX9_ones ?_
  have key : ∀ (m M c : Nat), M ≤ m → M < 128 → c + tPop M = tPop N → sG sLL mX9_ones d (kI f) 4 [some (sI (nI N)), some (sI (nI c)), some (sI (nI M))] [] μ := by
    intro m
    induction m with
    | zero =>
      intro M c hM hM2 e
      have hM : M = 0 := by omega
      subst hM
      refine sX9_ones_4 ⟨fun _ => ?_, fun w => absurd rfl w⟩
      have e : c = tPop N := by have : tPop 0 = 0 := rfl
                                omega
      rw [e]
      exact h
    | succ m ih =>
      intro M c hM hM2 e
      by_cases z : M = 0
      · subst z
        exact ih 0 c (by omega) (by omega) e
      · obtain ⟨h1, h2, h3⟩ := tPop_s M hM2 z
        refine sX9_ones_4 ⟨fun w => absurd ((nI_is0 (by omega)).mp w) z, fun _ => ?_⟩
        rw [h1, nI_1]
        exact ih _ _ (by omega) (by omega) (by omega)
  exact key N N 0 (Nat.le_refl _) hN (by omega)
