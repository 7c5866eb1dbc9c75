-- THE WORLD AND THE JUDGEMENT sG: one flat memory of ints (by region, place) and of longs, over a fixed layout of objects and arrays; the machine is hidden behind sG
abbrev sAV : Type := Int32 ⊕ (Int64 ⊕ Nat)
abbrev sI (x : Int32) : sAV := .inl x
abbrev sL (x : Int64) : sAV := .inr (.inl x)
abbrev sR (r : Nat) : sAV := .inr (.inr r)
abbrev sM : Type := (Nat → Nat → Int32) × (Nat → Nat → Int64)
def s_av (ad : Nat → Nat) : sAV → Value
  | .inl x => .int x
  | .inr (.inl x) => .long x
  | .inr (.inr r) => .ref (ad r)
/-- a region: an array of ints; an array of references to regions that follow each other; an object of a kind, its fields (0 an int, 1 a long, r + 2 a reference to r) -/
abbrev sKd : Type := Nat ⊕ ((Nat × Nat) ⊕ (Nat × List Nat))
abbrev sA_ (n : Nat) : sKd := .inl n
abbrev sQ_ (n b : Nat) : sKd := .inr (.inl (n, b))
abbrev sO_ (ci : Nat) (fl : List Nat) : sKd := .inr (.inr (ci, fl))
def s_fv (ad : Nat → Nat) (μ : sM) (r k : Nat) (code : Nat) : Value := match code with
  | 0 => .int (μ.1 r k)
  | 1 => .long (μ.2 r k)
  | q + 2 => .ref (ad q)
def s_E (lay : List sKd) (ad : Nat → Nat) (cA : Nat → ClassId) (μ : sM) (r : Nat) : va_E := match lay[r]? with
  | some (.inl n) => .inl (cA r, n, .inl (μ.1 r))
  | some (.inr (.inl q)) => .inl (cA r, q.1, .inr (.inr (.inr (.inr (fun i => if i < q.1 then some (ad (q.2 + i)) else none)))))
  | some (.inr (.inr o)) => .inr (o.1, o.2.mapIdx (s_fv ad μ r))
  | none => .inr (0, [])
def s_W (lay : List sKd) (ad : Nat → Nat) (cA : Nat → ClassId) (μ : sM) : va_W := (List.range lay.length).map (fun r => (ad r, s_E lay ad cA μ r))
def s_u (μ : sM) (r i : Nat) (v : Int32) : sM := (va_up μ.1 r (upd (μ.1 r) i v), μ.2)
def s_ul (μ : sM) (r i : Nat) (v : Int64) : sM := (μ.1, va_up μ.2 r (vp_updL (μ.2 r) i v))
theorem s_W_get {lay : List sKd} {ad : Nat → Nat} {cA : Nat → ClassId} {μ : sM} {r : Nat} {k : sKd} (h : lay[r]? = some k) : (s_W lay ad cA μ)[r]? = some (ad r, s_E lay ad cA μ r) := by
  have hr : r < lay.length := (List.getElem?_eq_some_iff.mp h).1
  unfold s_W
  rw [List.getElem?_map, List.getElem?_range hr]
  rfl
theorem s_W_set {lay : List sKd} {ad : Nat → Nat} {cA : Nat → ClassId} {μ μ' : sM} {r : Nat} (h : ∀ j, j ≠ r → s_E lay ad cA μ' j = s_E lay ad cA μ j) : (s_W lay ad cA μ).set r (ad r, s_E lay ad cA μ' r) = s_W lay ad cA μ' := by
  apply List.ext_getElem?
  intro j
  unfold s_W
  rw [List.getElem?_set]
  by_cases hj : r = j
  · subst hj
    rw [if_pos rfl]
    by_cases hl : r < lay.length
    · simp [hl]
    · simp [hl]
  · rw [if_neg hj, List.getElem?_map, List.getElem?_map]
    by_cases hl : j < lay.length
    · rw [List.getElem?_range hl]
      simp [h j (fun e => hj e.symm)]
    · have : (List.range lay.length)[j]? = none := List.getElem?_eq_none (by rw [List.length_range]; omega)
      rw [this]
      rfl
theorem s_E_arr {lay : List sKd} {ad : Nat → Nat} {cA : Nat → ClassId} {μ : sM} {r n : Nat} (h : lay[r]? = some (sA_ n)) : s_E lay ad cA μ r = .inl (cA r, n, .inl (μ.1 r)) := by
  unfold s_E
  rw [h]
theorem s_E_rfs {lay : List sKd} {ad : Nat → Nat} {cA : Nat → ClassId} {μ : sM} {r n b : Nat} (h : lay[r]? = some (sQ_ n b)) : s_E lay ad cA μ r = .inl (cA r, n, .inr (.inr (.inr (.inr (fun i => if i < n then some (ad (b + i)) else none))))) := by
  unfold s_E
  rw [h]
theorem s_E_obj {lay : List sKd} {ad : Nat → Nat} {cA : Nat → ClassId} {μ : sM} {r ci : Nat} {fl : List Nat} (h : lay[r]? = some (sO_ ci fl)) : s_E lay ad cA μ r = .inr (ci, fl.mapIdx (s_fv ad μ r)) := by
  unfold s_E
  rw [h]
theorem s_E_u {lay : List sKd} {ad : Nat → Nat} {cA : Nat → ClassId} {μ : sM} {r i j : Nat} {v : Int32} (h : j ≠ r) : s_E lay ad cA (s_u μ r i v) j = s_E lay ad cA μ j := by
  have e : (s_u μ r i v).1 j = μ.1 j := by simp [s_u, va_up, h]
  have e2 : (s_u μ r i v).2 = μ.2 := rfl
  have e3 : s_fv ad (s_u μ r i v) j = s_fv ad μ j := by
    funext k q
    unfold s_fv
    rw [e, e2]
  unfold s_E
  rw [e, e3]
theorem s_E_ul {lay : List sKd} {ad : Nat → Nat} {cA : Nat → ClassId} {μ : sM} {r i j : Nat} {v : Int64} (h : j ≠ r) : s_E lay ad cA (s_ul μ r i v) j = s_E lay ad cA μ j := by
  have e : (s_ul μ r i v).2 j = μ.2 j := by simp [s_ul, va_up, h]
  have e2 : (s_ul μ r i v).1 = μ.1 := rfl
  have e3 : s_fv ad (s_ul μ r i v) j = s_fv ad μ j := by
    funext k q
    unfold s_fv
    rw [e, e2]
  unfold s_E
  rw [e2, e3]
theorem s_fs_get {ad : Nat → Nat} {μ : sM} {r k q : Nat} {fl : List Nat} (h : fl[k]? = some q) : (fl.mapIdx (s_fv ad μ r))[k]? = some (s_fv ad μ r k q) := by
  rw [List.getElem?_mapIdx, h]
  rfl
theorem s_fs_set {ad : Nat → Nat} {μ : sM} {r k : Nat} {v : Int32} {fl : List Nat} (h : fl[k]? = some 0) : (fl.mapIdx (s_fv ad μ r)).set k (.int v) = fl.mapIdx (s_fv ad (s_u μ r k v) r) := by
  apply List.ext_getElem?
  intro j
  rw [List.getElem?_set, List.getElem?_mapIdx, List.getElem?_mapIdx]
  by_cases hj : k = j
  · subst hj
    have hk : k < fl.length := (List.getElem?_eq_some_iff.mp h).1
    rw [if_pos rfl, if_pos (by simpa using hk), h]
    simp [s_fv, s_u, va_up, upd]
  · rw [if_neg hj]
    cases hf : fl[j]? with
    | none => rfl
    | some q =>
      have e : (s_u μ r k v).1 r j = μ.1 r j := by simp [s_u, va_up, upd, Ne.symm hj]
      match q with
      | 0 => simp [s_fv, e]
      | 1 => rfl
      | q + 2 => rfl
theorem s_fs_setl {ad : Nat → Nat} {μ : sM} {r k : Nat} {v : Int64} {fl : List Nat} (h : fl[k]? = some 1) : (fl.mapIdx (s_fv ad μ r)).set k (.long v) = fl.mapIdx (s_fv ad (s_ul μ r k v) r) := by
  apply List.ext_getElem?
  intro j
  rw [List.getElem?_set, List.getElem?_mapIdx, List.getElem?_mapIdx]
  by_cases hj : k = j
  · subst hj
    have hk : k < fl.length := (List.getElem?_eq_some_iff.mp h).1
    rw [if_pos rfl, if_pos (by simpa using hk), h]
    simp [s_fv, s_ul, va_up, vp_updL]
  · rw [if_neg hj]
    cases hf : fl[j]? with
    | none => rfl
    | some q =>
      have e : (s_ul μ r k v).2 r j = μ.2 r j := by simp [s_ul, va_up, vp_updL, Ne.symm hj]
      match q with
      | 0 => rfl
      | 1 => simp [s_fv, e]
      | q + 2 => rfl
-- LOCALS: by their places
def s_ll (ad : Nat → Nat) : Nat → List (Option sAV) → List (Nat × Value)
  | _, [] => []
  | i, none :: t => s_ll ad (i + 1) t
  | i, some v :: t => (i, s_av ad v) :: s_ll ad (i + 1) t
def s_ent : List sAV → List (Option sAV)
  | [] => []
  | .inl x :: t => some (.inl x) :: s_ent t
  | .inr (.inl x) :: t => some (.inr (.inl x)) :: none :: s_ent t
  | .inr (.inr x) :: t => some (.inr (.inr x)) :: s_ent t
theorem s_ll_mem {ad : Nat → Nat} : ∀ {al : List (Option sAV)} {i k : Nat} {w : Value}, (k, w) ∈ s_ll ad i al ↔ ∃ j v, k = i + j ∧ al[j]? = some (some v) ∧ w = s_av ad v
  | [], i, k, w => by simp [s_ll]
  | none :: t, i, k, w => by
    rw [s_ll, s_ll_mem (al := t)]
    constructor
    · rintro ⟨j, v, h1, h2, h3⟩
      exact ⟨j + 1, v, by omega, by simpa using h2, h3⟩
    · rintro ⟨j, v, h1, h2, h3⟩
      cases j with
      | zero => simp at h2
      | succ j => exact ⟨j, v, by omega, by simpa using h2, h3⟩
  | some u :: t, i, k, w => by
    rw [s_ll, List.mem_cons, s_ll_mem (al := t)]
    constructor
    · rintro (h | ⟨j, v, h1, h2, h3⟩)
      · cases h
        exact ⟨0, u, rfl, rfl, rfl⟩
      · exact ⟨j + 1, v, by omega, by simpa using h2, h3⟩
    · rintro ⟨j, v, h1, h2, h3⟩
      cases j with
      | zero =>
        left
        have h2 : u = v := by simpa using h2
        rw [h1, h3, h2]
        rfl
      | succ j => exact Or.inr ⟨j, v, by omega, by simpa using h2, h3⟩
theorem s_lv_at {ad : Nat → Nat} {ls : Array Slot} {nL : Nat} {al : List (Option sAV)} (h : lv_has ls nL (s_ll ad 0 al)) {k : Nat} {v : sAV} (hk : al[k]? = some (some v)) : ls[k]? = some (.val (s_av ad v)) :=
  h.2.2 (k, s_av ad v) (s_ll_mem.mpr ⟨k, v, by omega, hk, rfl⟩)
theorem s_lv_sub {ls : Array Slot} {nL : Nat} {l l' : List (Nat × Value)} (h : lv_has ls nL l) (hs : ∀ q ∈ l', q ∈ l) : lv_has ls nL l' := ⟨h.1, h.2.1, fun q hq => h.2.2 q (hs q hq)⟩
/-- what a store at k leaves of a long at k - 1 -/
def s_kill : List (Option sAV) → Nat → List (Option sAV)
  | al, 0 => al
  | al, k + 1 => match al[k]? with
    | some (some (.inr (.inl _))) => al.set k none
    | _ => al
def s_st1 (al : List (Option sAV)) (k : Nat) (v : sAV) : List (Option sAV) := (s_kill al k).set k (some v)
def s_st2 (al : List (Option sAV)) (k : Nat) (v : sAV) : List (Option sAV) := ((s_kill al k).set (k + 1) none).set k (some v)
theorem s_kill_succ (al : List (Option sAV)) (k : Nat) : s_kill al (k + 1) = (match al[k]? with
    | some (some (.inr (.inl _))) => al.set k none
    | _ => al) := rfl
theorem s_kill_get {al : List (Option sAV)} {k j : Nat} {v : sAV} (h : (s_kill al k)[j]? = some (some v)) : al[j]? = some (some v) ∧ ∀ ad, ¬ (j + 1 = k ∧ (s_av ad v).category = 2) := by
  cases k with
  | zero => exact ⟨h, fun ad q => by omega⟩
  | succ k =>
    rw [s_kill_succ] at h
    split at h
    next x hx =>
      rw [List.getElem?_set] at h
      split at h
      next e =>
        split at h
        · cases h
        · cases h
      next e => exact ⟨h, fun ad q => e (by omega)⟩
    next hx =>
      refine ⟨h, fun ad q => ?_⟩
      have e : j = k := by omega
      subst e
      match v, h, q with
      | .inl x, h, q => simp [s_av, Value.category] at q
      | .inr (.inl x), h, q => exact hx x h
      | .inr (.inr x), h, q => simp [s_av, Value.category] at q
theorem s_st1_in {ad : Nat → Nat} {al : List (Option sAV)} {k : Nat} {v : sAV} : ∀ q ∈ s_ll ad 0 (s_st1 al k v), q ∈ (k, s_av ad v) :: (s_ll ad 0 al).filter (fun q => !(q.1 == k) && !(q.1 + 1 == k && q.2.category == 2)) := by
  rintro ⟨i, w⟩ hq
  obtain ⟨j, u, h1, h2, h3⟩ := s_ll_mem.mp hq
  have h1 : i = j := by omega
  subst h1
  subst h3
  unfold s_st1 at h2
  rw [List.getElem?_set] at h2
  split at h2
  next e =>
    subst e
    split at h2
    · have : v = u := by simpa using h2
      subst this
      exact List.mem_cons_self
    · cases h2
  next e =>
    obtain ⟨g1, g2⟩ := s_kill_get h2
    refine List.mem_cons_of_mem _ (List.mem_filter.mpr ⟨s_ll_mem.mpr ⟨i, u, by omega, g1, rfl⟩, ?_⟩)
    have g3 := g2 ad
    simp
    refine ⟨fun q => e q.symm, ?_⟩
    by_cases q1 : i + 1 = k
    · exact Or.inr (fun q2 => g3 ⟨q1, q2⟩)
    · exact Or.inl q1
theorem s_st2_in {ad : Nat → Nat} {al : List (Option sAV)} {k : Nat} {v : sAV} : ∀ q ∈ s_ll ad 0 (s_st2 al k v), q ∈ (k, s_av ad v) :: (s_ll ad 0 al).filter (fun q => !(q.1 == k) && (!(q.1 == k + 1) && !(q.1 + 1 == k && q.2.category == 2))) := by
  rintro ⟨i, w⟩ hq
  obtain ⟨j, u, h1, h2, h3⟩ := s_ll_mem.mp hq
  have h1 : i = j := by omega
  subst h1
  subst h3
  unfold s_st2 at h2
  rw [List.getElem?_set] at h2
  split at h2
  next e =>
    subst e
    split at h2
    · have : v = u := by simpa using h2
      subst this
      exact List.mem_cons_self
    · cases h2
  next e =>
    rw [List.getElem?_set] at h2
    split at h2
    next e2 =>
      split at h2 <;> cases h2
    next e2 =>
      obtain ⟨g1, g2⟩ := s_kill_get h2
      refine List.mem_cons_of_mem _ (List.mem_filter.mpr ⟨s_ll_mem.mpr ⟨i, u, by omega, g1, rfl⟩, ?_⟩)
      have g3 := g2 ad
      simp
      refine ⟨fun q => e q.symm, fun q => e2 q.symm, ?_⟩
      by_cases q1 : i + 1 = k
      · exact Or.inr (fun q2 => g3 ⟨q1, q2⟩)
      · exact Or.inl q1
theorem s_ent_args {ad : Nat → Nat} : ∀ (as : List sAV) (i : Nat), s_ll ad i (s_ent as) = lv_args i (as.map (s_av ad))
  | [], i => rfl
  | .inl x :: t, i => by
    simp only [s_ent, s_ll, List.map_cons, lv_args]
    rw [s_ent_args t]
    simp [s_av, Value.category]
  | .inr (.inl x) :: t, i => by
    simp only [s_ent, s_ll, List.map_cons, lv_args]
    rw [s_ent_args t]
    simp [s_av, Value.category]
  | .inr (.inr x) :: t, i => by
    simp only [s_ent, s_ll, List.map_cons, lv_args]
    rw [s_ent_args t]
    simp [s_av, Value.category]
theorem s_sl_cons (v : Value) (vs : List Value) : lg_sl (v :: vs) = (if v.category = 2 then [.val v, .second] else [.val v]) ++ lg_sl vs := by
  simp [lg_sl]
theorem s_ent_len {ad : Nat → Nat} : ∀ (as : List sAV), (lg_sl (as.map (s_av ad))).length = (s_ent as).length
  | [] => rfl
  | .inl x :: t => by
    rw [List.map_cons, s_sl_cons, List.length_append, s_ent_len t]
    show 1 + (s_ent t).length = (s_ent t).length + 1
    omega
  | .inr (.inl x) :: t => by
    rw [List.map_cons, s_sl_cons, List.length_append, s_ent_len t]
    show 2 + (s_ent t).length = (s_ent t).length + 1 + 1
    omega
  | .inr (.inr x) :: t => by
    rw [List.map_cons, s_sl_cons, List.length_append, s_ent_len t]
    show 1 + (s_ent t).length = (s_ent t).length + 1
    omega
