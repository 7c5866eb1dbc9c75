-- belief in the reference
def rS (f : List Nat → Nat) : List (List Nat) → Nat
  | [] => 0
  | s :: l => f s + rS f l
theorem rS_app {f : List Nat → Nat} : ∀ a b, rS f (a ++ b) = rS f a + rS f b
  | [], b => by rw [List.nil_append, rS, Nat.zero_add]
  | s :: a, b => by rw [List.cons_append, rS, rS, rS_app a b, Nat.add_assoc]
theorem rS_map {f : List Nat → Nat} {h : List Nat → List Nat} : ∀ l, rS f (l.map h) = rS (fun s => f (h s)) l
  | [] => rfl
  | s :: l => by rw [List.map_cons, rS, rS, rS_map l]
theorem rS_mul {f : List Nat → Nat} {c : Nat} : ∀ l, rS (fun s => c * f s) l = c * rS f l
  | [] => rfl
  | s :: l => by rw [rS, rS, rS_mul l, Nat.mul_add]
theorem rS_cong {f h : List Nat → Nat} (e : ∀ s, f s = h s) (l : List (List Nat)) : rS f l = rS h l := by
  rw [show f = h from funext e]
theorem rS_all {f : List Nat → Nat} {k : Nat} : rS f (tAll (k + 1)) = bSum (fun g => rS (fun s => f (g :: s)) (tAll k)) 4 0 := by
  rw [tAll, show List.range 4 = [0, 1, 2, 3] from rfl]
  simp only [List.flatMap_cons, List.flatMap_nil, List.append_nil, rS_app, rS_map]
  rfl
def bSt (T : tT) (σ : bS) (g : Nat) : bS := if T.2 10 g = 1 then bStep T σ g else σ
def bRun (T : tT) : bS → List Nat → bS
  | σ, [] => σ
  | σ, g :: s => bRun T (bSt T σ g) s
def bPr (T : tT) : List Nat → Nat
  | [] => 1
  | g :: s => bOf T g * bPr T s
theorem rS_pr {T : tT} : ∀ k, rS (bPr T) (tAll k) = bA T ^ k
  | 0 => by rw [Nat.pow_zero]; rfl
  | k + 1 => by
    rw [rS_all]
    have : (fun g => rS (fun s => bPr T (g :: s)) (tAll k)) = fun g => bOf T g * bA T ^ k := by
      funext g
      show rS (fun s => bOf T g * bPr T s) (tAll k) = _
      rw [rS_mul, rS_pr k]
    rw [this, bSum_mul, Nat.pow_succ]
    exact Nat.mul_comm _ _
def bV (T : tT) (σ : bS) (s : List Nat) : Nat := if tSeen T.1 (bRun T σ s).1 (T.2 5) = true then bPr T s else 0
theorem rS_bV {T : tT} : ∀ k σ, rS (bV T σ) (tAll k) = bW T (T.2 5) k σ
  | 0, σ => rfl
  | k + 1, σ => by
    rw [rS_all]
    show _ = bSum (fun g => bOf T g * bW T (T.2 5) k (bStep T σ g)) 4 0
    congr 1
    funext g
    have e : ∀ s, bV T σ (g :: s) = bOf T g * bV T (bSt T σ g) s := by
      intro s
      show (if tSeen T.1 (bRun T (bSt T σ g) s).1 (T.2 5) = true then bOf T g * bPr T s else 0) = _
      unfold bV
      split
      · rfl
      · rw [Nat.mul_zero]
    rw [rS_cong e, rS_mul, rS_bV k]
    unfold bSt
    split
    · rfl
    next c =>
      have : bOf T g = 0 := if_neg c
      rw [this, Nat.zero_mul, Nat.zero_mul]
def bOk (a : Int32) : List Nat → Bool
  | [] => decide (a = -1)
  | g :: _ => decide (a = -1 ∨ a = nI g)
def bX (T : tT) (a : Int32) (s : List Nat) : Nat := if bOk a s = true then bV T (T.2 3, none) s else 0
theorem rS_bX {T : tT} {a : Int32} : ∀ m, rS (bX T a) (tAll m) = bU T m a
  | 0 => by
    show bX T a [] + 0 = bU T 0 a
    unfold bX bU bOk
    rw [if_pos rfl]
    simp only [decide_eq_true_eq]
    split
    · rfl
    · rfl
  | k + 1 => by
    rw [rS_all]
    unfold bU
    rw [if_neg (by omega), Nat.add_sub_cancel]
    unfold bT
    congr 1
    funext g
    have e : ∀ s, bX T a (g :: s) = if a = -1 ∨ a = nI g then bOf T g * bV T (bSt T (T.2 3, none) g) s else 0 := by
      intro s
      unfold bX bOk
      simp only [decide_eq_true_eq]
      split
      · show (if tSeen T.1 (bRun T (bSt T (T.2 3, none) g) s).1 (T.2 5) = true then bOf T g * bPr T s else 0) = _
        unfold bV
        split
        · rfl
        · rw [Nat.mul_zero]
      · rfl
    rw [rS_cong e]
    split
    · rw [rS_mul, rS_bV k]
      unfold bSt
      split
      · rfl
      next c =>
        have : bOf T g = 0 := if_neg c
        rw [this, Nat.zero_mul, Nat.zero_mul]
    · have z : ∀ l, rS (fun _ => 0) l = 0 := by
        intro l
        induction l with
        | nil => rfl
        | cons s l ih => rw [rS, ih]
      exact z _
theorem bSt_w {T : tT} {σ : bS} {g : Nat} (h : bw T σ) : bw T (bSt T σ g) := by
  unfold bSt
  split
  · exact bStep_w h
  · exact h
theorem c_weightOf {d : Nat} {μ : sM} {T : tT} {r : List Nat} {f : Int64 → sM → Prop} (hT : tW T) (hE : tE μ T) (hlk : ∀ t, t < 7 → μ.1 63 (14 + t) = nI (T.2 2 t)) (h71 : ∀ t, t < 7 → μ.1 71 t = nI (T.2 3 t)) (hr6 : r.length ≤ 6) (hrg : ∀ g ∈ r, g < 4) (hr : ∀ i, i < r.length → μ.1 78 i = nI (r.getD i 0)) (h : ∀ μ', mFr μ μ' → (∀ t, t < 7 → μ'.1 63 (21 + t) = nI ((bRun T (T.2 3, none) r).1 t)) → (∀ i, (bRun T (T.2 3, none) r).1 i ≤ 9) → f (lN (bPr T r)) μ') : sCl sLL mX9_weightOf (d + 3) [sR 62, sI (nI r.length)] μ (kL f) := by
  have h7 := hT.1.2
  have hL9 : ∀ i, T.2 3 i ≤ 9 := fun i => by have := hT.2.1 3 i; simpa using this
  refine eX9_weightOf (c_putBack (fun μ1 hf1 h63 hb => ?_))
  have F1 : mFr μ (s_u μ1 62 11 (-6)) := ⟨(hf1.mono (by decide)).tr (sFr.u (by decide)), fun k a _ => by rw [s_u_off a, hf1.2 62 (by decide)], fun j hj => by rw [s_u_ne (by omega)]; exact h63 j hj⟩
  have key : ∀ (s : List Nat) (i : Nat) (σ : bS) (n : Nat) (μ2 : sM), i + s.length = r.length → (∀ j, j < s.length → μ.1 78 (i + j) = nI (s.getD j 0)) → (∀ g ∈ s, g < 4) → mFr μ μ2 → bw T σ → kM μ2 (T.2 2) σ.1 σ.2 → (∀ μ', mFr μ μ' → (∀ t, t < 7 → μ'.1 63 (21 + t) = nI ((bRun T σ s).1 t)) → (∀ i, (bRun T σ s).1 i ≤ 9) → f (lN (n * bPr T s)) μ') → sG sLL mX9_weightOf (d + 2 + 1) (kL f) 15 [some (sR 62), some (sI (nI r.length)), some (sL (lN n)), none, some (sI (nI i)), none] [] μ2 := by
    intro s
    induction s with
    | nil =>
      intro i σ n μ2 hi _ _ F2 hw hk2 hf
      have hi : i = r.length := by simpa using hi
      subst hi
      refine sX9_weightOf_15 ⟨fun _ => ?_, fun q => absurd ((nI_leN (by omega) (by omega)).mpr (Nat.le_refl _)) q⟩
      have := hf μ2 F2 (fun t ht => (hk2.1 t ht).2) hw.1
      rw [show n * bPr T [] = n from Nat.mul_one n] at this
      exact this
    | cons g s ih =>
      intro i σ n μ2 hi h78 hsg F2 hw hk2 hf
      have hlen : i + (s.length + 1) = r.length := by simpa using hi
      have hg : g < 4 := hsg g (List.mem_cons_self)
      have e78 : μ.1 78 i = nI g := by have := h78 0 (by simp); simpa using this
      have E2 := tE_m F2 hE
      have e782 : ∀ μ3, mFr μ μ3 → μ3.1 78 i = nI g := fun μ3 F3 => by rw [F3.1.2 78 (by decide)]; exact e78
      have next : ∀ μ3 (y : Int64), mFr μ μ3 → kM μ3 (T.2 2) (bSt T σ g).1 (bSt T σ g).2 → y = lN (n * bOf T g) → sG sLL mX9_weightOf (d + 2 + 1) (kL f) 15 [some (sR 62), some (sI (nI r.length)), some (sL y), none, some (sI (nI i + 1)), none] [] μ3 := by
        intro μ3 y F3 k3 ey
        subst ey
        rw [nI_1]
        refine ih (i + 1) (bSt T σ g) (n * bOf T g) μ3 (by omega) (fun j hj => ?_) (fun x hx => hsg x (List.mem_cons_of_mem _ hx)) F3 (bSt_w hw) k3 (fun μ' a b c => ?_)
        · have := h78 (j + 1) (by simp; omega)
          rw [show i + 1 + j = i + (j + 1) by omega, this]
          simp
        · have := hf μ' a b c
          rw [show n * bPr T (g :: s) = n * bOf T g * bPr T s by rw [bPr, Nat.mul_assoc]] at this
          exact this
      refine sX9_weightOf_15 ⟨fun q => ?_, fun _ => ⟨vp_nI (by omega) (by omega), ?_⟩⟩
      · have q := (nI_leN (by omega) (by omega)).mp q
        omega
      · rw [nI_c (by omega), e782 μ2 F2]
        refine c_isThere hT E2 (fun g' hg' e th => ⟨fun w => absurd w (by decide), fun _ => ?_⟩) (fun hno => ⟨fun _ => ?_, fun w => absurd rfl w⟩)
        · have e := (nI_inj (by omega) (by omega)).mp e
          subst e
          rw [e782 μ2 F2]
          have hof : bOf T g = T.2 9 g := if_pos th
          have b9 := hT.2.1 9 g
          simp at b9
          have e69 : μ2.1 69 g = nI (T.2 9 g) := (E2.2.2.2 g hg).2.2.2
          refine ⟨vp_nI hg (by omega), c_isThere hT E2 (fun _ _ _ _ => ⟨fun w => absurd w (by decide), fun _ => ?_⟩) (fun hno => ?_)⟩
          · rw [e782 μ2 F2, nI_c (by omega), e69, nI_l (by omega), lN_mul]
            have eb : bSt T σ g = bStep T σ g := if_pos th
            refine c_taken hT E2 hk2 (tW_lk hT) hw.1 hw.2 hg ?_
            cases hp : tPick T (T.2 2) σ.1 σ.2 g with
            | none =>
              have eS : bSt T σ g = σ := by rw [eb]; unfold bStep; rw [hp]
              exact ⟨fun _ => next μ2 _ F2 (by rw [eS]; exact hk2) (by rw [hof]), fun q => absurd (by decide) q⟩
            | some t =>
              have ht := (tPick_lt hp).1
              have eS : bSt T σ g = (tLess σ.1 t (tBite T σ.1 g t), some t) := by rw [eb]; unfold bStep; rw [hp]
              refine ⟨fun q => ?_, fun _ => ?_⟩
              · rw [nO_neg (by intro u hu; cases hu; omega)] at q
                cases q
              · rw [e782 μ2 F2]
                show sCl sLL mX9_use (d + 2) [sR 62, sI (nI g), sI (nI t)] _ _
                exact c_useM hT E2 hk2 hw.1 hg (by omega) (fun μ5 m5 k5 _ _ => next μ5 _ (F2.tr m5) (by rw [eS]; exact k5) (by rw [hof]))
          · have := hno g hg rfl
            omega
        · rw [e782 μ2 F2]
          have hn := hno g hg rfl
          have hof : bOf T g = 0 := if_neg (by omega)
          have eS : bSt T σ g = σ := if_neg (by omega)
          refine c_isThere hT E2 (fun g' hg' e th => ?_) (fun _ => ⟨fun _ => next μ2 _ F2 (by rw [eS]; exact hk2) ?_, fun w => absurd rfl w⟩)
          · have := hno g' hg' e
            omega
          · rw [hof, Nat.mul_zero]
            have : lN n * 0 = lN (n * 0) := lN_mul n 0
            rw [this, Nat.mul_zero]
  refine key r 0 (T.2 3, none) 1 _ (by omega) (fun j hj => by rw [Nat.zero_add]; exact hr j hj) hrg F1 ⟨hL9, fun u hu => by cases hu⟩ ⟨fun t ht => ⟨?_, ?_⟩, s_u_at⟩ (fun μ' a b c => ?_)
  · rw [F1.2.2 _ (by omega)]
    exact hlk t ht
  · rw [s_u_ne (by omega), (hb t ht).1]
    exact h71 t ht
  · have := h μ' a b c
    rw [Nat.one_mul]
    exact this
