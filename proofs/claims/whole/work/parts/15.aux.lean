-- small rows for the printed segments
def s_le : List (Option sAV) → List (Option sAV) → Prop
  | [], _ => True
  | none :: t, [] => s_le t []
  | none :: t, _ :: t' => s_le t t'
  | some _ :: _, [] => False
  | some v :: t, x :: t' => x = some v ∧ s_le t t'
theorem s_le_0 {l : List (Option sAV)} : s_le [] l := by unfold s_le; trivial
theorem s_le_p {t : List (Option sAV)} (h : s_le t []) : s_le (none :: t) [] := by unfold s_le; exact h
theorem s_le_n {t t' : List (Option sAV)} {x : Option sAV} (h : s_le t t') : s_le (none :: t) (x :: t') := by unfold s_le; exact h
theorem s_le_s {t t' : List (Option sAV)} {v : sAV} (h : s_le t t') : s_le (some v :: t) (some v :: t') := by unfold s_le; exact ⟨rfl, h⟩
theorem s_le_get : ∀ {a b : List (Option sAV)}, s_le a b → ∀ {k : Nat} {v : sAV}, a[k]? = some (some v) → b[k]? = some (some v)
  | [], _, _, k, v, hk => by simp at hk
  | none :: t, [], h, k, v, hk => by
    unfold s_le at h
    cases k with
    | zero => simp at hk
    | succ k => have := s_le_get h (k := k) (by simpa using hk); simp at this
  | none :: t, x :: t', h, k, v, hk => by
    unfold s_le at h
    cases k with
    | zero => simp at hk
    | succ k => have := s_le_get h (k := k) (by simpa using hk); simpa using this
  | some w :: t, [], h, k, v, hk => by
    unfold s_le at h
    exact h.elim
  | some w :: t, x :: t', h, k, v, hk => by
    unfold s_le at h
    cases k with
    | zero => rw [h.1]; simpa using hk
    | succ k => have := s_le_get h.2 (k := k) (by simpa using hk); simpa using this
theorem sG.loc {L : sLy} {mi : sMI} {d : Nat} {Q : Option sAV → sM → Prop} {pc : Nat} {al al2 : List (Option sAV)} {st : List sAV} {μ : sM} (hle : s_le al2 al) (h : sG L mi d Q pc al2 st μ) : sG L mi d Q pc al st μ :=
  fun l D tys ad cA p e R s m args below meth c A H locs cells slots Z ls hC hl hP hD hS hZ => h l D tys ad cA p e R s m args below meth c A H locs cells slots Z ls hC (s_lv_sub hl (fun q hq => by
    obtain ⟨k, w⟩ := q
    obtain ⟨j, v, h1, h2, h3⟩ := s_ll_mem.mp hq
    exact s_ll_mem.mpr ⟨j, v, h1, s_le_get hle h2, h3⟩)) hP hD hS hZ
theorem kI_mono {f g : Int32 → sM → Prop} (h : ∀ x μ, f x μ → g x μ) : ∀ v μ, kI f v μ → kI g v μ := fun v μ q => by
  match v, q with
  | some (.inl x), q => exact h x μ q
  | none, q => exact q.elim
  | some (.inr x), q => exact q.elim
theorem kL_mono {f g : Int64 → sM → Prop} (h : ∀ x μ, f x μ → g x μ) : ∀ v μ, kL f v μ → kL g v μ := fun v μ q => by
  match v, q with
  | some (.inr (.inl x)), q => exact h x μ q
  | none, q => exact q.elim
  | some (.inl x), q => exact q.elim
  | some (.inr (.inr x)), q => exact q.elim
theorem kV_mono {f g : sM → Prop} (h : ∀ μ, f μ → g μ) : ∀ v μ, kV f v μ → kV g v μ := fun v μ q => by
  match v, q with
  | none, q => exact h μ q
  | some x, q => exact q.elim
theorem s_nb {e : Int32} (h : e = 0 ∨ e = 1) : narrow .boolean (.int e) = .int e := by
  rcases h with rfl | rfl <;> decide +kernel
/-- what arraycopy from the first place of r0 to the first place of r1 leaves -/
def s_cp (μ : sM) (r0 r1 : Nat) (n : Int32) : sM := (va_up μ.1 r1 (va_cpy (μ.1 r0) (μ.1 r1) 0 0 n.toNatClampNeg), μ.2)
theorem h_copy {L : sLy} {mi : sMI} {d : Nat} {Q : Option sAV → sM → Prop} {pc : Nat} {al : List (Option sAV)} {μ : sM} {r0 r1 n0 n1 idx : Nat} {n : Int32} (hd : decode mi.2.1 pc = .ok (.invokestatic idx, 3)) (hlk : Cond.methodLink mi.1.cls idx arraycopyName ∈ sT) (hr0 : L.1[r0]? = some (sA_ n0)) (hr1 : L.1[r1]? = some (sA_ n1)) (ht0 : L.2 r0 = .int) (ht1 : L.2 r1 = .int) (h3 : ¬ n < 0) (h4 : n.toNatClampNeg ≤ n0) (h5 : n.toNatClampNeg ≤ n1)
    (k : sG L mi (d + 1) Q (pc + 3) al [] (s_cp μ r0 r1 n)) : sG L mi (d + 1) Q pc al [sI n, sI 0, sR r1, sI 0, sR r0] μ :=
  g_copy hd hlk hr0 hr1 ht0 ht1 (by decide) (by decide) h3 (by rw [show (0 : Int32).toNatClampNeg = 0 from rfl]; omega) (by rw [show (0 : Int32).toNatClampNeg = 0 from rfl]; omega) rfl k
theorem h_geti {L : sLy} {mi : sMI} {d : Nat} {Q : Option sAV → sM → Prop} {pc : Nat} {al : List (Option sAV)} {st : List sAV} {μ : sM} {r idx ci k : Nat} {fl : List Nat} {ty : FieldType} {fin : Bool} (x : Int32) (hd : decode mi.2.1 pc = .ok (.getfield idx, 3)) (hf : s_FL mi.1.cls idx ci k ty fin) (hr : L.1[r]? = some (sO_ ci fl)) (hk : fl[k]? = some 0) (hx : μ.1 r k = x) (kk : sG L mi d Q (pc + 3) al (sI x :: st) μ) : sG L mi d Q pc al (sR r :: st) μ := by
  subst hx; exact g_geti hd hf hr hk kk
theorem h_getl {L : sLy} {mi : sMI} {d : Nat} {Q : Option sAV → sM → Prop} {pc : Nat} {al : List (Option sAV)} {st : List sAV} {μ : sM} {r idx ci k : Nat} {fl : List Nat} {ty : FieldType} {fin : Bool} (x : Int64) (hd : decode mi.2.1 pc = .ok (.getfield idx, 3)) (hf : s_FL mi.1.cls idx ci k ty fin) (hr : L.1[r]? = some (sO_ ci fl)) (hk : fl[k]? = some 1) (hx : μ.2 r k = x) (kk : sG L mi d Q (pc + 3) al (sL x :: st) μ) : sG L mi d Q pc al (sR r :: st) μ := by
  subst hx; exact g_getl hd hf hr hk kk
theorem h_iald {L : sLy} {mi : sMI} {d : Nat} {Q : Option sAV → sM → Prop} {pc : Nat} {al : List (Option sAV)} {st : List sAV} {μ : sM} {r n : Nat} {i : Int32} (x : Int32) (hd : decode mi.2.1 pc = .ok (.iaload, 1)) (hr : L.1[r]? = some (sA_ n)) (ht : L.2 r = .int) (hi : vp_in i n) (hx : μ.1 r i.toNatClampNeg = x) (k : sG L mi d Q (pc + 1) al (sI x :: st) μ) : sG L mi d Q pc al (sI i :: sR r :: st) μ := by
  subst hx; exact g_iald hd hr ht hi k
theorem h_zald {L : sLy} {mi : sMI} {d : Nat} {Q : Option sAV → sM → Prop} {pc : Nat} {al : List (Option sAV)} {st : List sAV} {μ : sM} {r n : Nat} {i : Int32} (x : Int32) (hd : decode mi.2.1 pc = .ok (.baload, 1)) (hr : L.1[r]? = some (sA_ n)) (ht : L.2 r = .boolean) (hi : vp_in i n) (hx : μ.1 r i.toNatClampNeg = x) (k : sG L mi d Q (pc + 1) al (sI x :: st) μ) : sG L mi d Q pc al (sI i :: sR r :: st) μ := by
  subst hx; exact g_zald hd hr ht hi k
theorem h_iast {L : sLy} {mi : sMI} {d : Nat} {Q : Option sAV → sM → Prop} {pc : Nat} {al : List (Option sAV)} {st : List sAV} {μ : sM} {r n : Nat} {i x : Int32} (j : Nat) (hd : decode mi.2.1 pc = .ok (.iastore, 1)) (hr : L.1[r]? = some (sA_ n)) (ht : L.2 r = .int) (hi : vp_in i n) (hj : i.toNatClampNeg = j) (k : sG L mi d Q (pc + 1) al st (s_u μ r j x)) : sG L mi d Q pc al (sI x :: sI i :: sR r :: st) μ := by
  subst hj; exact g_iast hd hr ht hi k
theorem h_zast {L : sLy} {mi : sMI} {d : Nat} {Q : Option sAV → sM → Prop} {pc : Nat} {al : List (Option sAV)} {st : List sAV} {μ : sM} {r n : Nat} {i x : Int32} (j : Nat) (w : Int32) (hd : decode mi.2.1 pc = .ok (.bastore, 1)) (hr : L.1[r]? = some (sA_ n)) (ht : L.2 r = .boolean) (hi : vp_in i n) (hj : i.toNatClampNeg = j) (hw : vp_nar .boolean x = w) (k : sG L mi d Q (pc + 1) al st (s_u μ r j w)) : sG L mi d Q pc al (sI x :: sI i :: sR r :: st) μ := by
  subst hj; subst hw; exact g_zast hd hr ht hi k
theorem h_aald {L : sLy} {mi : sMI} {d : Nat} {Q : Option sAV → sM → Prop} {pc : Nat} {al : List (Option sAV)} {st : List sAV} {μ : sM} {r n b : Nat} {i : Int32} (r2 : Nat) (hd : decode mi.2.1 pc = .ok (.aaload, 1)) (hr : L.1[r]? = some (sQ_ n b)) (ht : (L.2 r).isReference = true) (hi : vp_in i n) (hj : b + i.toNatClampNeg = r2) (k : sG L mi d Q (pc + 1) al (sR r2 :: st) μ) : sG L mi d Q pc al (sI i :: sR r :: st) μ := by
  subst hj; exact g_aald hd hr ht hi k
theorem s_vpj {i : Int32} {n : Nat} (h : vp_in i n) : i.toNatClampNeg < n := Nat.not_le.mp fun q => h (Or.inr q)
theorem s_rbl {i : Int32} (h : vp_in i 7) : sLL.1[50 + i.toNatClampNeg]? = some (sA_ 10) ∧ sLL.2 (50 + i.toNatClampNeg) = .int := by
  have hj := s_vpj h
  generalize i.toNatClampNeg = j at hj
  have : j = 0 ∨ j = 1 ∨ j = 2 ∨ j = 3 ∨ j = 4 ∨ j = 5 ∨ j = 6 := by omega
  rcases this with rfl | rfl | rfl | rfl | rfl | rfl | rfl <;> exact ⟨rfl, rfl⟩
def s_us (x y : Int32) : Int32 := (x.toUInt32 >>> (y.toUInt32 &&& Int32.toUInt32 31)).toInt32
def s_rem (x y : Int32) : Int32 := x - x / y * y
def s_lrem (x y : Int64) : Int64 := x - x / y * y
theorem h_iushr {L : sLy} {mi : sMI} {d : Nat} {Q : Option sAV → sM → Prop} {pc : Nat} {al : List (Option sAV)} {st : List sAV} {μ : sM} {x y : Int32} (hd : decode mi.2.1 pc = .ok (.iushr, 1)) (k : sG L mi d Q (pc + 1) al (sI (s_us x y) :: st) μ) : sG L mi d Q pc al (sI y :: sI x :: st) μ := g_iushr hd k
theorem h_irem {L : sLy} {mi : sMI} {d : Nat} {Q : Option sAV → sM → Prop} {pc : Nat} {al : List (Option sAV)} {st : List sAV} {μ : sM} {x y : Int32} (hd : decode mi.2.1 pc = .ok (.irem, 1)) (hne : ¬ y = 0) (k : sG L mi d Q (pc + 1) al (sI (s_rem x y) :: st) μ) : sG L mi d Q pc al (sI y :: sI x :: st) μ := g_irem hd hne k
theorem h_lrem {L : sLy} {mi : sMI} {d : Nat} {Q : Option sAV → sM → Prop} {pc : Nat} {al : List (Option sAV)} {st : List sAV} {μ : sM} {x y : Int64} (hd : decode mi.2.1 pc = .ok (.lrem, 1)) (hne : ¬ y = 0) (k : sG L mi d Q (pc + 1) al (sL (s_lrem x y) :: st) μ) : sG L mi d Q pc al (sL y :: sL x :: st) μ := g_lrem hd hne k
