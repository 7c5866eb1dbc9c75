-- lock: in pure words, and in the class (a set of places)
def tLv (T : tT) (lk : Nat → Nat) : Nat → tS → List Nat
  | 0, σ => [tNum σ.1 T.1]
  | m + 1, σ => (List.range' 0 4).flatMap (fun g => match tStep T lk σ g with
    | none => []
    | some σ' => tLv T lk m σ')
def dAdd (D : List Nat) (x : Nat) : List Nat := if x ∈ D then D else D ++ [x]
def dAll (D ns : List Nat) : List Nat := ns.foldl dAdd D
theorem dAll_app {D a b : List Nat} : dAll D (a ++ b) = dAll (dAll D a) b := List.foldl_append
theorem dAdd_len {D : List Nat} {x : Nat} : (dAdd D x).length ≤ D.length + 1 := by
  unfold dAdd
  split <;> simp
theorem dAll_len : ∀ (ns D : List Nat), (dAll D ns).length ≤ D.length + ns.length
  | [], D => Nat.le_refl _
  | x :: ns, D => by
    have := dAll_len ns (dAdd D x)
    have := dAdd_len (D := D) (x := x)
    show (dAll (dAdd D x) ns).length ≤ _
    simp only [List.length_cons]
    omega
theorem tLv_len {T : tT} {lk : Nat → Nat} : ∀ (m : Nat) (σ : tS), (tLv T lk m σ).length ≤ 4 ^ m
  | 0, σ => by simp [tLv]
  | m + 1, σ => by
    have key : ∀ k g, ((List.range' g k).flatMap (fun g => match tStep T lk σ g with
      | none => []
      | some σ' => tLv T lk m σ')).length ≤ k * 4 ^ m := by
      intro k
      induction k with
      | zero => intro g; simp
      | succ k ih =>
        intro g
        rw [List.range'_succ, List.flatMap_cons, List.length_append]
        have a := ih (g + 1)
        have b : (match tStep T lk σ g with
          | none => []
          | some σ' => tLv T lk m σ').length ≤ 4 ^ m := by
          split
          · simp
          next σ' _ => exact tLv_len m σ'
        rw [Nat.succ_mul]
        omega
    have := key 4 0
    rw [Nat.pow_succ, Nat.mul_comm (4 ^ m) 4]
    exact this
theorem tLv_all {T : tT} {lk : Nat → Nat} : ∀ (m : Nat) (σ : tS), tLv T lk m σ = (tAll m).filterMap (fun s => (tRun T lk s σ).map (fun σ' => tNum σ'.1 T.1))
  | 0, σ => rfl
  | m + 1, σ => by
    rw [tAll, List.filterMap_flatMap, tLv, ← List.range_eq_range']
    congr 1
    funext g
    rw [List.filterMap_map]
    cases hs : tStep T lk σ g with
    | none =>
      symm
      rw [List.filterMap_eq_nil_iff]
      intro s _
      show (tRun T lk (g :: s) σ).map _ = none
      rw [tRun, hs]
      rfl
    | some σ' =>
      show tLv T lk m σ' = _
      rw [tLv_all m σ']
      congr 1
      funext s
      show _ = (tRun T lk (g :: s) σ).map _
      rw [tRun, hs]
      rfl
-- places
theorem i_of (y : Int32) : nI y.toBitVec.toNat = y := by
  apply Int32.toBitVec_inj.mp
  simp [nI]
def pH (x : Nat) : Nat := (nI x * (-1640531535)).toBitVec.toNat / 2 ^ 21
theorem pH_lt (x : Nat) : pH x < 2048 := by
  have := (nI x * (-1640531535)).toBitVec.isLt
  unfold pH
  omega
theorem pH_is (x : Nat) : s_us (nI x * (-1640531535)) 21 = nI (pH x) := by
  have h := pk_ushrN (n := (nI x * (-1640531535)).toBitVec.toNat) (nI x * (-1640531535)).toBitVec.isLt 21 21 (by decide)
  rw [i_of] at h
  exact h
def hI (μ : sM) (D : List Nat) : Prop := D.Nodup ∧ (∀ p, p < 2048 → μ.1 59 p = -6 ∨ ∃ x, x ∈ D ∧ μ.1 59 p = nI x) ∧
  (∀ x, x ∈ D → x < 2147483648 ∧ ∃ k, k < 2048 ∧ μ.1 59 ((pH x + k) % 2048) = nI x ∧ ∀ j, j < k → μ.1 59 ((pH x + j) % 2048) ≠ -6) ∧
  (∀ p q, p < 2048 → q < 2048 → p ≠ q → μ.1 59 p = μ.1 59 q → μ.1 59 p = -6) ∧ μ.1 58 2 = nI D.length
theorem hI_fr {μ μ' : sM} {D : List Nat} (h59 : μ'.1 59 = μ.1 59) (h58 : μ'.1 58 = μ.1 58) (h : hI μ D) : hI μ' D := by
  unfold hI
  rw [h59, h58]
  exact h
theorem nI_ne6 {x : Nat} (h : x < 2147483648) : nI x ≠ -6 := fun w => by
  have := (nO_m6 (o := some x) (by intro u hu; cases hu; exact h)).mp w
  cases this
theorem c_put {d : Nat} {μ : sM} {D : List Nat} {x : Nat} {f : sM → Prop} (hx : x < 2147483648) (hD : D.length < 2000) (hH : hI μ D) (h : ∀ μ', sFr [58, 59] μ μ' → hI μ' (dAdd D x) → f μ') : sCl sLL mX3_put d [sR 58, sI (nI x)] μ (kV f) := by
  obtain ⟨hn, h2, h3, h4, h5⟩ := id hH
  refine eX3_put ?_
  rw [pH_is]
  have px := pH_lt x
  have mod1 : ∀ k, (nI ((pH x + k) % 2048) + 1) &&& 2047 = nI ((pH x + (k + 1)) % 2048) := by
    intro k
    have e : nI ((pH x + k) % 2048 + 1) &&& nI (2 ^ 11 - 1) = nI (((pH x + k) % 2048 + 1) % 2 ^ 11) := fa_mask _ 11
    rw [nI_1]
    have e2 : ((pH x + k) % 2048 + 1) % 2 ^ 11 = (pH x + (k + 1)) % 2048 := by
      rw [show (2 : Nat) ^ 11 = 2048 by decide]
      omega
    rw [e2] at e
    exact e
  have start : nI (pH x) = nI ((pH x + 0) % 2048) := by rw [Nat.add_zero, Nat.mod_eq_of_lt px]
  rw [start]
  refine s_down (P := fun k => (∀ j, j < k → μ.1 59 ((pH x + j) % 2048) ≠ -6 ∧ μ.1 59 ((pH x + j) % 2048) ≠ nI x) → sG sLL mX3_put d (kV f) 10 [some (sR 58), some (sI (nI x)), some (sI (nI ((pH x + k) % 2048))), some (sI (nI k))] [] μ) 2048 ?_ ?_ 0 (by omega) (fun j hj => by omega)
  · intro hno
    exfalso
    -- every place is taken: too many
    have full : ∀ p, p < 2048 → ∃ y, y ∈ D ∧ μ.1 59 p = nI y := by
      intro p hp
      rcases h2 p hp with e | e
      · have := (hno ((p + 2048 - pH x) % 2048) (Nat.mod_lt _ (by omega))).1
        rw [show (pH x + (p + 2048 - pH x) % 2048) % 2048 = p by omega] at this
        exact absurd e this
      · exact e
    have inj := fb_holes D.length 2048 (fun p => D.idxOf (μ.1 59 p).toNatClampNeg) (fun p hp => by
      obtain ⟨y, hy, e⟩ := full p hp
      show D.idxOf (μ.1 59 p).toNatClampNeg < D.length
      rw [e, nI_c (h3 y hy).1]
      exact List.idxOf_lt_length_of_mem hy) (fun p q hpq hq => by
      obtain ⟨y, hy, e⟩ := full p (by omega)
      obtain ⟨z, hz, e2⟩ := full q hq
      show D.idxOf (μ.1 59 p).toNatClampNeg ≠ D.idxOf (μ.1 59 q).toNatClampNeg
      rw [e, e2, nI_c (h3 y hy).1, nI_c (h3 z hz).1]
      intro w
      have a := List.getElem_idxOf (List.idxOf_lt_length_of_mem hy)
      have b := List.getElem_idxOf (List.idxOf_lt_length_of_mem hz)
      have yz : y = z := by
        rw [← a, ← b]
        congr 1
      have := h4 p q (by omega) hq (by omega) (by rw [e, e2, yz])
      rw [e] at this
      exact nI_ne6 (h3 y hy).1 this)
    omega
  · intro k hk ih hno
    have pk : (pH x + k) % 2048 < 2048 := Nat.mod_lt _ (by omega)
    refine sX3_put_10 ⟨fun q => ?_, fun _ => ⟨vp_nI pk (by omega), ?_⟩⟩
    · have q := (nI_leN (a := 2048) (by omega) (by omega)).mp q
      omega
    · rw [nI_c (by omega), mod1, nI_1]
      refine ⟨fun q1 => ⟨fun q2 => ?_, fun q2 => ?_⟩, fun q1 => ?_⟩
      · refine ih (fun j hj => ?_)
        by_cases c : j = k
        · rw [c]; exact ⟨q2, q1⟩
        · exact hno j (by omega)
      · have xD : x ∉ D := by
          intro w
          obtain ⟨-, k', hk', e, hj⟩ := h3 x w
          rcases Nat.lt_trichotomy k' k with c | c | c
          · exact (hno k' c).2 e
          · rw [c, q2] at e
            exact nI_ne6 hx e.symm
          · exact hj k c q2
        refine h _ ((sFr.u (by decide)).tr (sFr.u (by decide))) ?_
        have at59 : ∀ p, (s_u (s_u μ 59 ((pH x + k) % 2048) (nI x)) 58 2 (μ.1 58 2 + 1)).1 59 p = if p = (pH x + k) % 2048 then nI x else μ.1 59 p := by
          intro p
          rw [s_u_ne (by omega)]
          split
          next c => rw [c, s_u_at]
          next c => rw [s_u_off c]
        unfold dAdd
        rw [if_neg xD]
        refine ⟨?_, fun p hp => ?_, fun y hy => ?_, fun p q hp hq hpq e => ?_, ?_⟩
        · rw [List.nodup_append]
          refine ⟨hn, by simp, fun a ha b hb => ?_⟩
          rw [List.mem_singleton] at hb
          rw [hb]
          intro w
          exact xD (w ▸ ha)
        · rw [at59]
          split
          · exact Or.inr ⟨x, by simp, rfl⟩
          · rcases h2 p hp with e | ⟨y, hy, e⟩
            · exact Or.inl e
            · exact Or.inr ⟨y, by simp [hy], e⟩
        · rcases List.mem_append.mp hy with hy | hy
          · obtain ⟨y1, k', hk', e, hj⟩ := h3 y hy
            refine ⟨y1, k', hk', ?_, fun j hj2 => ?_⟩
            · rw [at59, if_neg]
              · exact e
              · intro w
                rw [w, q2] at e
                exact nI_ne6 y1 e.symm
            · rw [at59]
              split
              · exact nI_ne6 hx
              · exact hj j hj2
          · rw [List.mem_singleton] at hy
            subst hy
            refine ⟨hx, k, hk, ?_, fun j hj2 => ?_⟩
            · rw [at59, if_pos rfl]
            · rw [at59]
              split
              · exact nI_ne6 hx
              · exact (hno j hj2).1
        · rw [at59] at e ⊢
          rw [at59] at e
          have nox : ∀ r, r < 2048 → μ.1 59 r ≠ nI x := by
            intro r hr w
            rcases h2 r hr with e | ⟨y, hy, e⟩
            · rw [e] at w; exact nI_ne6 hx w.symm
            · rw [e] at w
              have w := (nI_inj (h3 y hy).1 hx).mp w
              exact xD (w ▸ hy)
          by_cases c1 : p = (pH x + k) % 2048
          · rw [if_pos c1, if_neg (by omega)] at e
            exact absurd e.symm (nox q hq)
          · rw [if_neg c1] at e ⊢
            by_cases c2 : q = (pH x + k) % 2048
            · rw [if_pos c2] at e
              exact absurd e (nox p hp)
            · rw [if_neg c2] at e
              exact h4 p q hp hq hpq e
        · rw [s_u_at, h5, nI_1]
          simp
      · have xD : x ∈ D := by
          rcases h2 _ pk with e | ⟨y, hy, e⟩
          · rw [e] at q1; exact absurd q1.symm (nI_ne6 hx)
          · rw [e] at q1
            have := (nI_inj (h3 y hy).1 hx).mp q1
            exact this ▸ hy
        refine h μ sFr.rf ?_
        unfold dAdd
        rw [if_pos xD]
        exact hH
