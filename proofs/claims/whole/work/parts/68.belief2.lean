-- belief: lowest terms, the class's whole answer
theorem gcd_half {b c : Nat} (hc : c ≠ 0) (h : c < b) : 2 * (b % c) < b := by
  have a := Nat.mod_lt b (Nat.pos_of_ne_zero hc)
  have e := Nat.div_add_mod b c
  have q : 1 ≤ b / c := Nat.div_pos (by omega) (by omega)
  have : c ≤ c * (b / c) := Nat.le_mul_of_pos_right c q
  omega
theorem gcd_st (a b : Nat) : Nat.gcd b (a % b) = Nat.gcd a b := by
  rw [Nat.gcd_comm a b, Nat.gcd_rec b a, Nat.gcd_comm]
theorem s_ul_at {μ : sM} {r i : Nat} {v : Int64} : (s_ul μ r i v).2 r i = v := by simp [s_ul, va_up, vp_updL]
theorem s_ul_off {μ : sM} {r i j : Nat} {v : Int64} (h : j ≠ i) : (s_ul μ r i v).2 r j = μ.2 r j := by simp [s_ul, va_up, vp_updL, h]
theorem c_reduce {d : Nat} {μ : sM} {U V : Nat} {f : sM → Prop} (hU : μ.2 57 2 = lN U) (hV : μ.2 57 3 = lN V) (bU : U < 2 ^ 40) (bV : V < 2 ^ 40) (V1 : 1 ≤ V) (h : ∀ μ', μ'.1 = μ.1 → μ'.2 57 2 = lN (U / Nat.gcd U V) → μ'.2 57 3 = lN (V / Nat.gcd U V) → f μ') : sCl sLL mX0_reduce d [sR 57] μ (kV f) := by
  have g1 : 1 ≤ Nat.gcd U V := Nat.gcd_pos_of_pos_right U V1
  have g40 : Nat.gcd U V ≤ V := Nat.gcd_le_right U V1
  have p40 : (2 : Nat) ^ 40 = 1099511627776 := by decide
  have fin : (((lg_cmp (lN (Nat.gcd U V)) 1) ≤ 0 → (kV f) none μ) ∧ (¬ (lg_cmp (lN (Nat.gcd U V)) 1) ≤ 0 → (¬ lN (Nat.gcd U V) = 0 ∧ (kV f) none (s_ul (s_ul μ 57 2 ((μ.2 57 2) / lN (Nat.gcd U V))) 57 3 ((μ.2 57 3) / lN (Nat.gcd U V)))))) := by
    have ile := pk_lLE (a := Nat.gcd U V) (b := 1) (by omega) (by omega)
    have ieq := pk_lEQ (a := Nat.gcd U V) (b := 0) (by omega) (by omega)
    rw [lg_cmp_le]
    refine ⟨fun q => ?_, fun q => ⟨fun w => ?_, ?_⟩⟩
    · have q := ile.mp q
      have e : Nat.gcd U V = 1 := by omega
      rw [e, Nat.div_one, Nat.div_one] at h
      exact h μ rfl hU hV
    · have := ieq.mp w
      omega
    · rw [hU, hV, pk_lDiv (by omega) g1 (by omega), pk_lDiv (by omega) g1 (by omega)]
      exact h _ rfl (by rw [s_ul_off (by omega), s_ul_at]) s_ul_at
  refine eX0_reduce ?_
  rw [hU, hV]
  have key : ∀ k a b i, b < 2 ^ k → a < 2 ^ 40 → b < 2 ^ 40 → i + 2 * k ≤ 99 → Nat.gcd a b = Nat.gcd U V → sG sLL mX0_reduce d (kV f) 13 [some (sR 57), some (sL (lN a)), none, some (sL (lN b)), none, some (sI (nI i)), none, none] [] μ := by
    have stop : ∀ a i, i ≤ 99 → Nat.gcd a 0 = Nat.gcd U V → sG sLL mX0_reduce d (kV f) 13 [some (sR 57), some (sL (lN a)), none, some (sL (lN 0)), none, some (sI (nI i)), none, none] [] μ := by
      intro a i _ e
      rw [Nat.gcd_zero_right] at e
      subst e
      exact sX0_reduce_13 ⟨fun _ => fin, fun _ => ⟨fun _ => fin, fun q => absurd ((lg_cmp_eq _ _).mpr rfl) q⟩⟩
    have step : ∀ a b i, b ≠ 0 → a < 2 ^ 40 → b < 2 ^ 40 → i < 99 → sG sLL mX0_reduce d (kV f) 13 [some (sR 57), some (sL (lN b)), none, some (sL (lN (a % b))), none, some (sI (nI (i + 1))), none, none] [] μ → sG sLL mX0_reduce d (kV f) 13 [some (sR 57), some (sL (lN a)), none, some (sL (lN b)), none, some (sI (nI i)), none, none] [] μ := by
      intro a b i hb ha hb2 hi n
      have ieq := pk_lEQ (a := b) (b := 0) (by omega) (by omega)
      refine sX0_reduce_13 ⟨fun q => ?_, fun _ => ⟨fun q => ?_, fun _ => ⟨fun w => hb (ieq.mp w), ?_⟩⟩⟩
      · have q := (nI_leN (a := 100) (by omega) (by omega)).mp q
        omega
      · exact absurd (ieq.mp ((lg_cmp_eq _ _).mp q)) hb
      · have er : s_lrem (lN a) (lN b) = lN (a % b) := pk_lRem (by omega) (by omega) (by omega)
        rw [er, nI_1]
        exact n
    intro k
    induction k with
    | zero =>
      intro a b i hb ha hb2 hi e
      have : b = 0 := by simpa using hb
      subst this
      exact stop a i (by omega) e
    | succ k ih =>
      intro a b i hb ha hb2 hi e
      by_cases b0 : b = 0
      · subst b0
        exact stop a i (by omega) e
      · refine step a b i b0 ha hb2 (by omega) ?_
        have m1 := Nat.mod_lt a (Nat.pos_of_ne_zero b0)
        rw [← gcd_st] at e
        by_cases c0 : a % b = 0
        · rw [c0] at e ⊢
          exact stop b (i + 1) (by omega) e
        · refine step b (a % b) (i + 1) c0 hb2 (by omega) (by omega) ?_
          rw [← gcd_st] at e
          have hh := gcd_half c0 m1
          rw [Nat.pow_succ] at hb
          exact ih _ _ _ (by omega) (by omega) (by omega) (by omega) e
  exact key 40 U V 0 bV bU bV (by omega) rfl
theorem c_lowest {d : Nat} {μ : sM} {U V : Nat} {p : Int32} {f : Int64 → sM → Prop} (bU : U < 2 ^ 40) (bV : V < 2 ^ 40) (V1 : 1 ≤ V) (h1 : ¬ p = 0 → f (lN (V / Nat.gcd U V)) μ) (h0 : p = 0 → f (lN (U / Nat.gcd U V)) μ) : sCl sLL mX9_lowest d [sL (lN U), sL (lN V), sI p] μ (kL f) := by
  have g1 : 1 ≤ Nat.gcd U V := Nat.gcd_pos_of_pos_right U V1
  have g40 : Nat.gcd U V ≤ V := Nat.gcd_le_right U V1
  have p40 : (2 : Nat) ^ 40 = 1099511627776 := by decide
  refine eX9_lowest ?_
  have key : ∀ n b a, b ≤ n → a < 2 ^ 40 → b < 2 ^ 40 → Nat.gcd a b = Nat.gcd U V → sG sLL mX9_lowest d (kL f) 6 [some (sL (lN U)), none, some (sL (lN V)), none, some (sI p), some (sL (lN a)), none, some (sL (lN b)), none, none, none] [] μ := by
    intro n
    induction n with
    | zero =>
      intro b a hb ha hb2 e
      have : b = 0 := Nat.le_zero.mp hb
      subst this
      rw [Nat.gcd_zero_right] at e
      subst e
      have ieq := pk_lEQ (a := Nat.gcd U V) (b := 0) (by omega) (by omega)
      refine sX9_lowest_6 ⟨fun _ => ⟨fun q => ⟨fun w => ?_, ?_⟩, fun q => ⟨fun w => ?_, ?_⟩⟩, fun q => absurd ((lg_cmp_eq _ _).mpr rfl) q⟩
      · have := ieq.mp w; omega
      · rw [pk_lDiv (by omega) g1 (by omega)]; exact h1 q
      · have := ieq.mp w; omega
      · rw [pk_lDiv (by omega) g1 (by omega)]; exact h0 q
    | succ n ih =>
      intro b a hb ha hb2 e
      by_cases b0 : b = 0
      · exact ih b a (by omega) ha hb2 e
      · have ieq := pk_lEQ (a := b) (b := 0) (by omega) (by omega)
        have m1 := Nat.mod_lt a (Nat.pos_of_ne_zero b0)
        refine sX9_lowest_6 ⟨fun q => ?_, fun _ => ⟨fun w => b0 (ieq.mp w), ?_⟩⟩
        · exact absurd (ieq.mp ((lg_cmp_eq _ _).mp q)) b0
        · have er : s_lrem (lN a) (lN b) = lN (a % b) := pk_lRem (by omega) (by omega) (by omega)
          rw [er]
          exact ih _ _ (by omega) hb2 (by omega) (by rw [gcd_st]; exact e)
  exact key U U V (Nat.le_refl _) bV bU (Nat.gcd_comm V U)
theorem bSum_le {h k : Nat → Nat} (hh : ∀ g, h g ≤ k g) : ∀ n g, bSum h n g ≤ bSum k n g
  | 0, _ => Nat.le_refl _
  | n + 1, g => Nat.add_le_add (hh g) (bSum_le hh n (g + 1))
theorem bSum_mul {h : Nat → Nat} {c : Nat} : ∀ n g, bSum (fun g => h g * c) n g = bSum h n g * c
  | 0, _ => by rw [bSum, bSum, Nat.zero_mul]
  | n + 1, g => by rw [bSum, bSum, bSum_mul n (g + 1), Nat.add_mul]
def bA (T : tT) : Nat := bSum (bOf T) 4 0
theorem bA_le {T : tT} (hT : tW T) : bA T ≤ 36 := by
  have : ∀ g, bOf T g ≤ 9 := fun g => by
    have b9 := hT.2.1 9 g
    simp at b9
    unfold bOf
    split <;> omega
  have a := this 0
  have b := this 1
  have c := this 2
  have e := this 3
  show bOf T 0 + (bOf T 1 + (bOf T 2 + (bOf T 3 + 0))) ≤ 36
  omega
theorem bW_le {T : tT} {S : Nat → Nat} : ∀ m σ, bW T S m σ ≤ bA T ^ m
  | 0, σ => by
    unfold bW
    rw [Nat.pow_zero]
    split <;> omega
  | m + 1, σ => by
    unfold bW
    refine Nat.le_trans (bSum_le (fun g => Nat.mul_le_mul_left _ (bW_le m (bStep T σ g))) 4 0) ?_
    rw [bSum_mul, Nat.pow_succ, Nat.mul_comm]
    exact Nat.le_refl _
def bU (T : tT) (m : Nat) (a : Int32) : Nat := if m = 0 then (if a = -1 then bW T (T.2 5) 0 (T.2 3, none) else 0) else bT T (T.2 5) (m - 1) (T.2 3, none) a
theorem bU_le {T : tT} {m : Nat} {a : Int32} : bU T m a ≤ bA T ^ m := by
  unfold bU
  cases m with
  | zero =>
    rw [if_pos rfl]
    split
    · exact bW_le 0 _
    · exact Nat.zero_le _
  | succ m =>
    rw [if_neg (by omega), Nat.add_sub_cancel]
    unfold bT
    refine Nat.le_trans (bSum_le (k := fun g => bOf T g * bA T ^ m) (fun g => ?_) 4 0) ?_
    · split
      · exact Nat.mul_le_mul_left _ (bW_le m _)
      · exact Nat.zero_le _
    · rw [bSum_mul, Nat.pow_succ, Nat.mul_comm]
      exact Nat.le_refl _
theorem bA_pow {T : tT} (hT : tW T) {m : Nat} (hm : m ≤ 6) : bA T ^ m < 2 ^ 40 := by
  have a : bA T ^ m ≤ 36 ^ m := Nat.pow_le_pow_left (bA_le hT) m
  have b : (36 : Nat) ^ m ≤ 36 ^ 6 := Nat.pow_le_pow_right (by omega) hm
  have c : (36 : Nat) ^ 6 < 2 ^ 40 := by decide
  omega
theorem c_weigh {d : Nat} {μ : sM} {T : tT} {m : Nat} {a : Int32} {f : sM → Prop} (hT : tW T) (hC : tC μ 1 4 T) (hm : m ≤ 6) (hA : 1 ≤ bA T) (h : ∀ μ', (∀ r, r ≠ 35 → r ≠ 36 → μ'.1 r = μ.1 r) → μ'.2 57 2 = lN (bU T m a / Nat.gcd (bU T m a) (bA T ^ m)) → μ'.2 57 3 = lN (bA T ^ m / Nat.gcd (bU T m a) (bA T ^ m)) → f μ') : sCl sLL mX0_weigh (d + 12) [sR 57, sI (nI m), sI a] μ (kV f) := by
  have hL9 : ∀ i, T.2 3 i ≤ 9 := fun i => by have := hT.2.1 3 i; simpa using this
  have ha36 := bA_le hT
  have p1 : 1 ≤ bA T ^ m := Nat.one_le_pow m _ hA
  have pb := bA_pow hT hm
  have ub := bU_le (T := T) (m := m) (a := a)
  refine eX0_weigh ?_
  refine s_down (P := fun g => ∀ n, n + bSum (bOf T) (4 - g) g = bA T → sG sLL mX0_weigh (d + 11 + 1) (kV f) 5 [some (sR 57), some (sI (nI m)), some (sI a), some (sI (nI n)), some (sI (nI g))] [] μ) 4 ?_ ?_ 0 (by omega) 0 (by rw [Nat.zero_add]; rfl)
  · intro n hn
    have hn : n = bA T := hn
    subst hn
    refine sX0_weigh_5 ⟨fun _ => ?_, fun q => absurd (by decide) q⟩
    refine s_down (P := fun i => ∀ μ1 : sM, μ1.1 = μ.1 → μ1.2 57 3 = lN (bA T ^ i) → sG sLL mX0_weigh (d + 11 + 1) (kV f) 50 [some (sR 57), some (sI (nI m)), some (sI a), some (sI (nI (bA T))), some (sI (nI i))] [] μ1) m ?_ ?_ 0 (by omega) _ rfl (by rw [s_ul_at, Nat.pow_zero]; rfl)
    · intro μ1 e1 e3
      have hC1 : tC μ1 1 4 T := by
        unfold tC
        rw [e1]
        exact hC
      have red : ∀ μ2 U, (∀ r, r ≠ 35 → r ≠ 36 → μ2.1 r = μ.1 r) → μ2.2 57 3 = lN (bA T ^ m) → U = bU T m a → sCl sLL mX0_reduce (d + 11) [sR 57] (s_ul μ2 57 2 (lN U)) (kV fun μ3 => f μ3) := by
        intro μ2 U e2 e23 eU
        subst eU
        exact c_reduce s_ul_at (by rw [s_ul_off (by omega)]; exact e23) (by omega) pb p1 (fun μ3 f3 u3 v3 => h μ3 (fun r a b => by rw [f3]; exact e2 r a b) u3 v3)
      have e6 : (if 6 < nI m then 6 else nI m) = nI m := by
        rw [if_neg]
        intro w
        have := (nI_ltN (a := 6) (by omega) (by omega)).mp w
        omega
      refine sX0_weigh_50 ⟨fun _ => c_begin hC1 (fun μ2 hf2 hk2 => ?_), fun q => absurd ((nI_leN (by omega) (by omega)).mpr (Nat.le_refl _)) q⟩
      rw [e6]
      have e2 : ∀ r, r ≠ 35 → r ≠ 36 → μ2.1 r = μ.1 r := fun r a b => by rw [hf2.2 r (by simp [a, b]), e1]
      have i0 := nI_is0 (a := m) (by omega)
      have go : (if m = 0 then bW T (T.2 5) 0 (T.2 3, none) else bT T (T.2 5) (m - 1) (T.2 3, none) a) = bU T m a → sCl sLL mX0_ways (d + 11) [sR 57, sI (nI m), sI a] μ2 (kL fun r2 μ3 => sCl sLL mX0_reduce (d + 11) [sR 57] (s_ul μ3 57 2 r2) (kV fun μ4 => f μ4)) := by
        intro eU
        refine sG.more (d := d + m + 4) (c_ways hT m d (T.2 3, none) a μ2 _ hm ⟨hL9, fun u hu => by cases hu⟩ (tC_S hC1 hf2 (by decide)) hk2 (fun μ3 hf3 _ => ?_)) (by omega)
        rw [eU]
        exact red μ3 _ (fun r a b => by rw [hf3.2 r (by simp [a, b])]; exact e2 r a b) (by rw [hf3.1, hf2.1]; exact e3) rfl
      refine ⟨fun q => go ?_, fun q => ⟨fun q2 => go ?_, fun q2 => red μ2 0 e2 (by rw [hf2.1]; exact e3) ?_⟩⟩
      · have q : ¬ m = 0 := fun w => q (i0.mpr w)
        unfold bU
        rw [if_neg q, if_neg q]
      · have q := i0.mp q
        unfold bU
        rw [if_pos q, if_pos q, if_pos q2]
      · have q := i0.mp q
        unfold bU
        rw [if_pos q, if_neg q2]
    · intro i hi ih μ1 e1 e3
      refine sX0_weigh_50 ⟨fun q => ?_, fun _ => ?_⟩
      · have q := (nI_leN (by omega) (by omega)).mp q
        omega
      · rw [nI_1]
        refine ih _ e1 ?_
        rw [s_ul_at, e3, nI_l (by omega), lN_mul, Nat.pow_succ]
  · intro g hg ih n hn
    rw [show 4 - g = (4 - (g + 1)) + 1 by omega, bSum] at hn
    refine sX0_weigh_5 ⟨fun q => ?_, fun _ => c_hasGuest hT hC (fun g' hg' e th => ⟨fun w => absurd w (by decide), fun _ => ⟨vp_nI hg (by omega), ?_⟩⟩) (fun hno => ⟨fun _ => ?_, fun w => absurd rfl w⟩)⟩
    · have q := (nI_leN (a := 4) (by omega) (by omega)).mp q
      omega
    · have e := (nI_inj (by omega) (by omega)).mp e
      subst e
      have e12 : μ.1 12 g = nI (T.2 9 g) := (hC.2.2.2.2 g hg).2.2.2
      have hof : bOf T g = T.2 9 g := if_pos th
      rw [nI_c (by omega), e12, nI_add, nI_1]
      refine ih _ ?_
      rw [hof] at hn
      omega
    · have hof : bOf T g = 0 := if_neg (by have := hno g hg rfl; omega)
      rw [nI_1]
      refine ih _ ?_
      rw [hof] at hn
      omega
