-- the world of a layout, place by place
def s_fl (ad : Nat → Nat) (μ : sM) (r : Nat) : Nat → List Nat → List Value
  | _, [] => []
  | k, c :: t => s_fv ad μ r k c :: s_fl ad μ r (k + 1) t
theorem s_fl_get {ad : Nat → Nat} {μ : sM} {r : Nat} : ∀ (fl : List Nat) (i j : Nat), (s_fl ad μ r i fl)[j]? = fl[j]?.map (s_fv ad μ r (i + j))
  | [], i, j => rfl
  | c :: t, i, 0 => rfl
  | c :: t, i, j + 1 => by
    show (s_fl ad μ r (i + 1) t)[j]? = t[j]?.map _
    rw [s_fl_get t (i + 1) j, show i + 1 + j = i + (j + 1) by omega]
theorem s_fl_eq {ad : Nat → Nat} {μ : sM} {r : Nat} {fl : List Nat} : fl.mapIdx (s_fv ad μ r) = s_fl ad μ r 0 fl := by
  apply List.ext_getElem?
  intro j
  rw [s_fl_get, List.getElem?_mapIdx, Nat.zero_add]
def s_Ek (ad : Nat → Nat) (cA : Nat → ClassId) (μ : sM) (k : sKd) (r : Nat) : va_E := match k with
  | .inl n => .inl (cA r, n, .inl (μ.1 r))
  | .inr (.inl q) => .inl (cA r, q.1, .inr (.inr (.inr (.inr (fun i => if i < q.1 then some (ad (q.2 + i)) else none)))))
  | .inr (.inr o) => .inr (o.1, s_fl ad μ r 0 o.2)
def s_Wl (ad : Nat → Nat) (cA : Nat → ClassId) (μ : sM) : Nat → List sKd → va_W
  | _, [] => []
  | i, k :: t => (ad i, s_Ek ad cA μ k i) :: s_Wl ad cA μ (i + 1) t
theorem s_Wl_get {ad : Nat → Nat} {cA : Nat → ClassId} {μ : sM} : ∀ (lay : List sKd) (i j : Nat), (s_Wl ad cA μ i lay)[j]? = lay[j]?.map (fun k => (ad (i + j), s_Ek ad cA μ k (i + j)))
  | [], i, j => rfl
  | c :: t, i, 0 => rfl
  | c :: t, i, j + 1 => by
    show (s_Wl ad cA μ (i + 1) t)[j]? = t[j]?.map _
    rw [s_Wl_get t (i + 1) j, show i + 1 + j = i + (j + 1) by omega]
theorem s_W_l {lay : List sKd} {ad : Nat → Nat} {cA : Nat → ClassId} {μ : sM} : s_W lay ad cA μ = s_Wl ad cA μ 0 lay := by
  apply List.ext_getElem?
  intro j
  rw [s_Wl_get]
  by_cases hl : j < lay.length
  · obtain ⟨k, hk⟩ : ∃ k, lay[j]? = some k := ⟨_, List.getElem?_eq_getElem hl⟩
    rw [s_W_get hk, hk, Nat.zero_add]
    refine congrArg some (Prod.ext rfl ?_)
    match k, hk with
    | .inl n, hk => exact s_E_arr hk
    | .inr (.inl q), hk => exact s_E_rfs (n := q.1) (b := q.2) hk
    | .inr (.inr o), hk =>
      refine (s_E_obj (ci := o.1) (fl := o.2) hk).trans ?_
      rw [s_fl_eq]
      rfl
  · have hn : lay[j]? = none := List.getElem?_eq_none (by omega)
    rw [hn]
    unfold s_W
    rw [List.getElem?_map, List.getElem?_eq_none (by rw [List.length_range]; omega)]
    rfl
theorem s_W_ofl {lay : List sKd} {ad : Nat → Nat} {cA : Nat → ClassId} {μ : sM} {ws : va_W} (h : s_Wl ad cA μ 0 lay = ws) : ws = s_W lay ad cA μ := by rw [s_W_l, h]
