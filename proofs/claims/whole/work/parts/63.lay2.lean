-- lay: the sets in their order
def loN (x : Nat) : Nat → Nat → Nat
  | 0, acc => acc
  | k + 1, acc => loN x k (if x / 2 ^ k % 2 = 1 then k else acc)
def hiN (x : Nat) : Nat → Nat → Nat → Nat
  | 0, _, acc => acc
  | k + 1, i, acc => hiN x k (i + 1) (if x / 2 ^ i % 2 = 1 then i else acc)
def okN (lk : Nat → Nat) (x : Nat) : Nat → Nat → Bool → Bool
  | 0, _, b => b
  | k + 1, i, b => okN lk x k (i + 1) (b && (decide (x / 2 ^ i % 2 = 0) || decide (lk i = 0)))
theorem okN_iff {lk : Nat → Nat} {x : Nat} : ∀ k i b, okN lk x k i b = true ↔ (b = true ∧ ∀ t, i ≤ t → t < i + k → (x / 2 ^ t % 2 = 0 ∨ lk t = 0))
  | 0, i, b => by
    show b = true ↔ _
    constructor
    · intro h; exact ⟨h, fun t a c => by omega⟩
    · intro h; exact h.1
  | k + 1, i, b => by
    rw [okN, okN_iff k (i + 1)]
    simp only [Bool.and_eq_true, Bool.or_eq_true, decide_eq_true_eq]
    constructor
    · rintro ⟨⟨h1, h2⟩, h3⟩
      refine ⟨h1, fun t a c => ?_⟩
      by_cases e : t = i
      · rw [e]; exact h2
      · exact h3 t (by omega) (by omega)
    · rintro ⟨h1, h2⟩
      exact ⟨⟨h1, h2 i (by omega) (by omega)⟩, fun t a c => h2 t (by omega) (by omega)⟩
def aE2 (T : tT) (i j : Nat) : Bool := (List.range 10).any (fun v => (List.range 10).any (fun w => (aAll (aAl T (aUp (T.2 3) i j v w)) 4 0).isEmpty))
theorem aE2_t {T : tT} {i j : Nat} : aE2 T i j = true ↔ aEx T i j := by
  simp only [aE2, List.any_eq_true, List.mem_range, List.isEmpty_iff, aEx, aAp]
def aGd (T : tT) (x : Nat) : Bool := okN (T.2 2) x T.1 0 true && aE2 T (loN x T.1 0) (hiN x T.1 0 0)
def aSt (n s : Nat) : List Nat := (List.range' 1 (2 ^ n - 1)).filter (fun x => decide (tPop x = s))
theorem aSt1 : ∀ n, n < 8 → aSt n 1 = (aPr n).map aCd := by decide +kernel
theorem aSt2 : ∀ n, n < 8 → aSt n 2 = (aPs (n - 1) 1).map aCd := by decide +kernel
theorem aLh : ∀ n, n < 8 → ∀ p ∈ aPr n ++ aPs (n - 1) 1, loN (aCd p) n 0 = p.1 ∧ hiN (aCd p) n 0 0 = p.2 ∧ p.1 < n ∧ p.2 < n ∧ ∀ t, t < n → (aCd p / 2 ^ t % 2 = 0 ↔ (t ≠ p.1 ∧ t ≠ p.2)) := by decide +kernel
theorem lo7 : ∀ n, n < 8 → ∀ x, x < 128 → loN x n 0 < 7 ∧ hiN x n 0 0 < 7 := by decide +kernel
theorem find_map {α β : Type} {f : α → β} {p : β → Bool} {q : α → Bool} : ∀ (l : List α), (∀ a ∈ l, p (f a) = q a) → (l.map f).find? p = (l.find? q).map f
  | [], _ => rfl
  | a :: l, h => by
    rw [List.map_cons, List.find?_cons, List.find?_cons, h a List.mem_cons_self]
    cases q a with
    | true => rfl
    | false => exact find_map l (fun b hb => h b (List.mem_cons_of_mem _ hb))
theorem aLay_eq {T : tT} (hT : tW T) : (aSt T.1 1 ++ aSt T.1 2).find? (aGd T) = aLay T := by
  have h7 := hT.1.2
  rw [aSt1 T.1 (by omega), aSt2 T.1 (by omega), ← List.map_append]
  unfold aLay
  refine find_map _ (fun p hp => ?_)
  obtain ⟨e1, e2, l1, l2, hb⟩ := aLh T.1 (by omega) p hp
  have k1 := tW_lk hT p.1
  have k2 := tW_lk hT p.2
  unfold aGd
  rw [e1, e2]
  have ok : okN (T.2 2) (aCd p) T.1 0 true = (decide (T.2 2 p.1 ≠ 1) && decide (T.2 2 p.2 ≠ 1)) := by
    rw [Bool.eq_iff_iff, okN_iff]
    simp only [Bool.and_eq_true, decide_eq_true_eq]
    constructor
    · rintro ⟨-, h⟩
      have a1 := h p.1 (by omega) (by omega)
      have a2 := h p.2 (by omega) (by omega)
      rw [hb p.1 l1] at a1
      rw [hb p.2 l2] at a2
      omega
    · rintro ⟨a1, a2⟩
      refine ⟨trivial, fun t _ ht => ?_⟩
      rw [hb t (by omega)]
      by_cases c1 : t = p.1
      · rw [c1]; omega
      · by_cases c2 : t = p.2
        · rw [c2]; omega
        · exact Or.inl ⟨c1, c2⟩
  rw [ok]
  unfold aH aE2
  rw [Bool.and_assoc]
theorem s_shl8 : ∀ t, t < 8 → (1 : Int32) <<< (nI t &&& 31) = nI (2 ^ t) := by decide +kernel
theorem c_laidSet {d : Nat} {μ : sM} {T : tT} {f : Int32 → sM → Prop} (hT : tW T) (hE : tE μ T) (hlk : ∀ t, t < 7 → μ.1 63 (14 + t) = nI (T.2 2 t)) (h71 : ∀ t, t < 7 → μ.1 71 t = nI (T.2 3 t)) (h : ∀ μ', hS μ μ' → f (nO (if aAll (aAl T (T.2 3)) 4 0 = [] then some 0 else aLay T)) μ') : sCl sLL mX9_laidSet (d + 6) [sR 62] μ (kI f) := by
  have h7 := hT.1.2
  have n1 := hT.1.1
  have hL9 : ∀ i, T.2 3 i ≤ 9 := fun i => by have := hT.2.1 3 i; simpa using this
  have p7 : 2 ^ T.1 ≤ 128 := by
    have : (2 : Nat) ^ T.1 ≤ 2 ^ 7 := Nat.pow_le_pow_right (by omega) h7
    simpa using this
  have p1 : 1 ≤ 2 ^ T.1 := Nat.one_le_two_pow
  have hS_of : ∀ μ', fF μ μ' → (∀ i, i < 7 → μ'.1 63 (21 + i) = μ.1 71 i ∧ μ'.1 64 i = μ.1 72 i) → hS μ μ' := fun μ' F hb => ⟨hG.f F, fun t ht => ⟨by rw [F.1.2 71 (by decide)], hb t ht⟩⟩
  refine eX9_laidSet (c_areApart hT hE hlk h71 hL9 (fun ap μ1 F1 hb1 => ⟨fun w => absurd w (by decide), fun _ => ?_⟩) (fun ap μ1 F1 hb1 => ⟨fun _ => ?_, fun w => absurd rfl w⟩))
  · have h := h μ1 (hS_of μ1 F1 hb1)
    have ap2 : aAll (aAl T (T.2 3)) 4 0 = [] := ap
    rw [if_pos ap2] at h
    exact h
  · have ap2 : ¬ aAll (aAl T (T.2 3)) 4 0 = [] := ap
    rw [if_neg ap2, ← aLay_eq hT] at h
    have S1 := hS_of μ1 F1 hb1
    -- one set
    have set1 : ∀ (s x : Nat), s < 3 → 1 ≤ x → x < 2 ^ T.1 → (aGd T x = true → ∀ μ', hS μ μ' → f (nI x) μ') → (aGd T x = false → ∀ μ', hS μ μ' → sG sLL mX9_laidSet (d + 5 + 1) (kI f) 18 [some (sR 62), some (sI (nI s)), some (sI (nI (x + 1))), none, none, none, none] [] μ') → ∀ μ2, hS μ μ2 → sG sLL mX9_laidSet (d + 5 + 1) (kI f) 52 [some (sR 62), some (sI (nI s)), some (sI (nI x)), some (sI 0), some (sI 0), some (sI 1), some (sI (nI T.1 - 1))] [] μ2 := by
      intro s x hs hx1 hx hg hb μ2 S2
      have E2 := tE_h S2.1 hE
      have m1 : ∀ k, nI (k + 1) - 1 = nI k := fun k => pk_sub (a := k + 1) (b := 1) (by omega)
      have m2 : ∀ k, nI k + (-1) = nI k - 1 := fun k => by rw [Int32.sub_eq_add_neg]
      have loop83 : ∀ lo, lo = loN x T.1 0 → sG sLL mX9_laidSet (d + 5 + 1) (kI f) 83 [some (sR 62), some (sI (nI s)), some (sI (nI x)), some (sI (nI lo)), some (sI 0), some (sI 1), some (sI 0)] [] μ2 := by
        intro lo elo
        refine s_down (P := fun i => ∀ (hi : Nat) (b : Bool), hiN x (T.1 - i) i hi = hiN x T.1 0 0 → okN (T.2 2) x (T.1 - i) i b = okN (T.2 2) x T.1 0 true → sG sLL mX9_laidSet (d + 5 + 1) (kI f) 83 [some (sR 62), some (sI (nI s)), some (sI (nI x)), some (sI (nI lo)), some (sI (nI hi)), some (sI (if b = true then 1 else 0)), some (sI (nI i))] [] μ2) T.1 ?_ ?_ 0 (by omega) 0 true rfl rfl
        · intro hi b e1 e2
          rw [Nat.sub_self] at e1 e2
          have e1 : hi = hiN x T.1 0 0 := e1
          have e2 : b = okN (T.2 2) x T.1 0 true := e2
          have l7 := lo7 T.1 (by omega) x (by omega)
          refine sX9_laidSet_83 ⟨fun _ => ⟨fun q => ?_, fun q => ?_⟩, fun q => ?_⟩
          · have hbf : b = false := by
              cases b with
              | false => rfl
              | true => exact absurd q (by decide)
            rw [nI_1]
            refine hb ?_ μ2 S2
            unfold aGd
            rw [← e2, hbf]
            rfl
          · have hbt : b = true := by
              cases b with
              | true => rfl
              | false => exact absurd rfl q
            refine c_canBeLaid hT hE hlk h71 S2 (by omega) (by omega) (fun ex μ3 S3 => ⟨fun w => absurd w (by decide), fun _ => hg ?_ μ3 S3⟩) (fun ex μ3 S3 => ⟨fun _ => ?_, fun w => absurd rfl w⟩)
            · unfold aGd
              rw [← e2, hbt, ← elo, ← e1, aE2_t.mpr ex]
              rfl
            · rw [nI_1]
              refine hb ?_ μ3 S3
              unfold aGd
              rw [← e2, hbt, ← elo, ← e1]
              have : ¬ aE2 T lo hi = true := fun w => ex (aE2_t.mp w)
              simpa using this
          · rw [E2.1] at q
            exact absurd ((nI_leN (by omega) (by omega)).mpr (Nat.le_refl _)) q
        · intro i hiT ih hi b e1 e2
          rw [show T.1 - i = (T.1 - (i + 1)) + 1 by omega, hiN] at e1
          rw [show T.1 - i = (T.1 - (i + 1)) + 1 by omega, okN] at e2
          have lki := tW_lk hT i
          have md : x / 2 ^ i % 2 < 2 := Nat.mod_lt _ (by omega)
          have z : ((if (false : Bool) = true then 1 else 0 : Int32)) = 0 := rfl
          refine sX9_laidSet_83 ⟨fun q => ?_, fun _ => ?_⟩
          · rw [E2.1] at q
            have q := (nI_leN (by omega) (by omega)).mp q
            omega
          · rw [s_bitN (by omega) (by omega), nI_is1 (by omega), nI_is0 (by omega), nI_1]
            refine ⟨fun q => ?_, fun q => ?_⟩
            · rw [if_neg q] at e1
              have q0 : x / 2 ^ i % 2 = 0 := by omega
              rw [q0] at e2
              simp only [decide_true, Bool.true_or, Bool.and_true] at e2
              cases b with
              | false => exact ⟨fun _ => ih hi false e1 e2, fun w => absurd rfl w⟩
              | true => exact ⟨fun w => absurd w (by decide), fun _ => ⟨fun _ => ih hi true e1 e2, fun w => absurd q0 w⟩⟩
            · rw [if_pos q] at e1
              have q0 : ¬ x / 2 ^ i % 2 = 0 := by omega
              cases b with
              | false =>
                simp only [Bool.false_and] at e2
                exact ⟨fun _ => ih i false e1 e2, fun w => absurd rfl w⟩
              | true =>
                simp only [Bool.true_and, q0, decide_false, Bool.false_or] at e2
                refine ⟨fun w => absurd w (by decide), fun _ => ⟨fun w => absurd w q0, fun _ => c_at 2 i ⟨vp_nI (by omega) (by omega), ?_⟩⟩⟩
                rw [nI_c (by omega), show 7 * 2 + i = 14 + i by omega, S2.1.2.2 _ (by omega), hlk i (by omega), nI_is0 (by omega)]
                refine ⟨fun w => ih i false e1 ?_, fun w => ih i true e1 ?_⟩
                · rw [← e2]; simp [w]
                · rw [← e2]; simp [w]
      -- the lowest
      have key : ∀ k acc, loN x k acc = loN x T.1 0 → k ≤ 7 → sG sLL mX9_laidSet (d + 5 + 1) (kI f) 52 [some (sR 62), some (sI (nI s)), some (sI (nI x)), some (sI (nI acc)), some (sI 0), some (sI 1), some (sI (nI k - 1))] [] μ2 := by
        intro k
        induction k with
        | zero =>
          intro acc e _
          exact sX9_laidSet_52 ⟨fun _ => loop83 acc e, fun q => absurd (by decide) q⟩
        | succ k ihk =>
          intro acc e hk7
          have md : x / 2 ^ k % 2 < 2 := Nat.mod_lt _ (by omega)
          rw [m1]
          refine sX9_laidSet_52 ⟨fun q => absurd q (nI_pos (by omega)), fun _ => ?_⟩
          rw [s_bitN (by omega) (by omega), nI_is1 (by omega), m2]
          rw [loN] at e
          refine ⟨fun q => ?_, fun q => ?_⟩
          · rw [if_neg q] at e
            exact ihk acc e (by omega)
          · rw [if_pos q] at e
            exact ihk k e (by omega)
      exact key T.1 0 rfl h7
    -- sets of one size
    have size : ∀ (s : Nat) (R : List Nat), s < 3 → (∀ μ', hS μ μ' → (∀ μ3, hS μ μ3 → f (nO (R.find? (aGd T))) μ3) → sG sLL mX9_laidSet (d + 5 + 1) (kI f) 11 [some (sR 62), some (sI (nI (s + 1))), none, none, none, none, none] [] μ') → ∀ μ2, hS μ μ2 → (∀ μ3, hS μ μ3 → f (nO ((aSt T.1 s ++ R).find? (aGd T))) μ3) → sG sLL mX9_laidSet (d + 5 + 1) (kI f) 18 [some (sR 62), some (sI (nI s)), some (sI 1), none, none, none, none] [] μ2 := by
      intro s R hs hn μ2 S2 h
      refine s_down (P := fun x => 1 ≤ x → ∀ μ2, hS μ μ2 → (∀ μ3, hS μ μ3 → f (nO ((((List.range' x (2 ^ T.1 - x)).filter (fun x => decide (tPop x = s))) ++ R).find? (aGd T))) μ3) → sG sLL mX9_laidSet (d + 5 + 1) (kI f) 18 [some (sR 62), some (sI (nI s)), some (sI (nI x)), none, none, none, none] [] μ2) (2 ^ T.1) ?_ ?_ 1 p1 (Nat.le_refl _) μ2 S2 h
      · intro _ μ2 S2 h
        rw [Nat.sub_self] at h
        have E2 := tE_h S2.1 hE
        refine sX9_laidSet_18 ⟨fun _ => ?_, fun q => ?_⟩
        · rw [nI_1]
          exact hn μ2 S2 h
        · rw [E2.1, s_shl8 _ (by omega)] at q
          exact absurd ((nI_leN (by omega) (by omega)).mpr (Nat.le_refl _)) q
      · intro x hx ih x1 μ2 S2 h
        have E2 := tE_h S2.1 hE
        rw [show 2 ^ T.1 - x = (2 ^ T.1 - (x + 1)) + 1 by omega, List.range'_succ, List.filter_cons] at h
        refine sX9_laidSet_18 ⟨fun q => ?_, fun _ => c_ones (by omega) ?_⟩
        · rw [E2.1, s_shl8 _ (by omega)] at q
          have q := (nI_leN (by omega) (by omega)).mp q
          omega
        · have tp := tPop_lt x (by omega)
          rw [nI_inj (by omega) (by omega)]
          refine ⟨fun q => ?_, fun q => ?_⟩
          · rw [nI_1]
            rw [if_neg (by simpa using q)] at h
            exact ih (by omega) μ2 S2 h
          · rw [if_pos (by simpa using q)] at h
            simp only [List.cons_append, List.find?_cons] at h
            rw [E2.1]
            refine set1 s x hs x1 hx (fun g μ3 S3 => ?_) (fun g μ3 S3 => ?_) μ2 S2
            · rw [g] at h
              exact h μ3 S3
            · rw [g] at h
              exact ih (by omega) μ3 S3 h
    refine sX9_laidSet_11 ⟨fun q => absurd q (by decide), fun _ => ?_⟩
    refine size 1 (aSt T.1 2) (by omega) (fun μ2 S2 h => ?_) μ1 S1 h
    refine sX9_laidSet_11 ⟨fun q => absurd q (by decide), fun _ => ?_⟩
    refine size 2 [] (by omega) (fun μ3 S3 h => ?_) μ2 S2 (by rw [List.append_nil]; exact h)
    exact sX9_laidSet_11 ⟨fun _ => h μ3 S3, fun q => absurd (by decide) q⟩
theorem q_lay {d : Nat} {μ : sM} {Z : tZ} {a : Int32} {K : Int32 → Int32 → sM → Prop} (hW : zW Z) (hC : zC μ Z) (hM : zM μ Z) (hK : qK K) : sCl sLL mX8_lay (d + 20) [sR 0, sI a] μ (kI fun r μ1 => sCl sLL mX9_lay (d + 20) [sR 62, sI a] μ1 (kI fun r2 μ2 => K r r2 μ2)) := by
  have z1 : (1 : Int32).toInt = 1 := by decide
  have hT := hW.1
  by_cases c : oIn a 0 1 = true
  · have cc := c
    simp only [oIn, decide_eq_true_eq] at cc
    have code : ∀ o, (if aAll (aAl Z.1 (Z.1.2 3)) 4 0 = [] then some 0 else aLay Z.1) = some o → o < 128 := by
      intro o ho
      split at ho
      · injection ho with e; omega
      · rw [← aLay_eq hT] at ho
        have hm := List.mem_of_find?_eq_some ho
        have p7 : 2 ^ Z.1.1 ≤ 2 ^ 7 := Nat.pow_le_pow_right (by omega) hT.1.2
        rcases List.mem_append.mp hm with hm | hm <;>
        · have := (List.mem_filter.mp hm).1
          rw [List.mem_range'_1] at this
          have e7 : (2 : Nat) ^ 7 = 128 := by decide
          omega
    refine eX8_lay ⟨fun q => ?_, fun _ => ⟨fun _ => c_begin hC.1 (fun μ1 hf1 hk1 => c_fewest hT (tC_S hC.1 hf1 (by decide)) hk1 (fun μ2 hf2 => ?_)), fun q => ?_⟩⟩
    · rw [fa_lt, s_z0] at q; omega
    · have hC2 := zC_S hf2 (by decide) (zC_S hf1 (by decide) hC)
      have hM2 := zM_A (zA_S hf2 (by decide)) (zM_A (zA_S hf1 (by decide)) hM)
      have ref : ∀ {K2 : Int32 → sM → Prop}, (∀ μ4, zM μ4 Z → zB μ2 μ4 → (((nO (if aAll (aAl Z.1 (Z.1.2 3)) 4 0 = [] then some 0 else aLay Z.1) < 0 → K2 (nO (if aAll (aAl Z.1 (Z.1.2 3)) 4 0 = [] then some 0 else aLay Z.1)) μ4) ∧ (¬ nO (if aAll (aAl Z.1 (Z.1.2 3)) 4 0 = [] then some 0 else aLay Z.1) < 0 → ((¬ a = 1 → sCl sLL mX9_ones (d + 19) [sI (nO (if aAll (aAl Z.1 (Z.1.2 3)) 4 0 = [] then some 0 else aLay Z.1))] μ4 (kI fun r4 μ4 => K2 r4 μ4)) ∧ (a = 1 → K2 (nO (if aAll (aAl Z.1 (Z.1.2 3)) 4 0 = [] then some 0 else aLay Z.1)) μ4)))))) → sCl sLL mX9_lay (d + 20) [sR 62, sI a] μ2 (kI K2) := by
        intro K2 k
        refine eX9_lay (c_inN 0 1 (by decide) (by decide) (fun _ => ⟨fun _ => c_keepNow (fun μ3 hf3 hb3 => ?_), fun w => absurd w (by decide)⟩) (fun c2 => by rw [c] at c2; cases c2))
        have E3 : tE μ3 Z.1 := tE_fr (by rw [hf3.2 62 (by decide)]) (by rw [hf3.2 62 (by decide)]) (fun j _ => by rw [hf3.2 63 (by decide)]) (fun j hj => hf3.2 (66 + j) (by simp; omega)) hM2.1.1
        refine c_laidSet hT E3 (fun t ht => by rw [hf3.2 63 (by decide)]; exact (hM2.1.2 t ht).1) (fun t ht => by rw [(hb3 t ht).1]; exact (hM2.1.2 t ht).2.1) (fun μ4 S4 => ?_)
        have Q4 : mQ μ2 μ4 := by
          refine ⟨mG.of (S := mS) ((hf3.mono (by decide)).tr (S4.1.1.mono (by decide))) (by simp) (fun k hk => ?_) (fun j hj => ?_), fun i hi => ?_⟩
          · rw [S4.1.2.1 k (by omega) (by omega), hf3.2 62 (by decide)]
          · rw [S4.1.2.2 j hj, hf3.2 63 (by decide)]
          · rw [(S4.2 i hi).2.1, (S4.2 i hi).2.2]
            exact hb3 i hi
        exact k μ4 (zM_Q Q4 hM2) (zB_Q Q4)
      have fin : ∀ r μ4, zM μ4 Z → zB μ2 μ4 → K r r μ4 := fun r μ4 h4 hB => hK r μ4 Z hW (zC_B hB hC2) h4
      generalize ho : (if aAll (aAl Z.1 (Z.1.2 3)) 4 0 = [] then some 0 else aLay Z.1) = o at ref code
      cases o with
      | none =>
        exact ⟨fun _ => ref (fun μ4 h4 hB => ⟨fun _ => fin _ μ4 h4 hB, fun w => absurd (by decide) w⟩), fun w => absurd rfl w⟩
      | some x =>
        have hx := code x rfl
        have np : ¬ nO (some x) < 0 := nI_pos (show x < 2147483648 by omega)
        refine ⟨fun w => ?_, fun _ => ⟨fun qa => ?_, fun qa => ref (fun μ4 h4 hB => ⟨fun w => absurd w np, fun _ => ⟨fun w => absurd qa w, fun _ => fin _ μ4 h4 hB⟩⟩)⟩⟩
        · rw [nO_m6 (by intro u hu; cases hu; omega)] at w
          cases w
        · exact c_bitCount (N := x) hx (ref (fun μ4 h4 hB => ⟨fun w => absurd w np, fun _ => ⟨fun _ => c_ones (N := x) hx (fin _ μ4 h4 hB), fun w => absurd w qa⟩⟩))
    · rw [fa_le, z1] at q; omega
  · have c : oIn a 0 1 = false := by simpa using c
    have out : sCl sLL mX9_lay (d + 20) [sR 62, sI a] μ (kI fun r2 μ2 => K (-2) r2 μ2) := eX9_lay (c_inN 0 1 (by decide) (by decide) (fun c2 => by rw [c] at c2; cases c2) (fun _ => ⟨fun w => absurd rfl w, fun _ => hK _ μ Z hW hC hM⟩))
    simp only [oIn, decide_eq_false_iff_not] at c
    refine eX8_lay ⟨fun _ => out, fun q => ⟨fun q2 => ?_, fun _ => out⟩⟩
    rw [fa_lt, s_z0] at q
    rw [fa_le, z1] at q2
    omega
