-- ROWS OF GUESTS: pure
abbrev tS : Type := (Nat → Nat) × Option Nat × (Nat → Option Nat)
abbrev tR : Type := List Nat × tS
def tStep (T : tT) (lk : Nat → Nat) (σ : tS) (g : Nat) : Option tS :=
  if T.2 10 g = 1 then (tPick T lk σ.1 σ.2.1 g).map (fun t => (tLess σ.1 t (tBite T σ.1 g t), some t, if σ.2.2 t = none then va_up σ.2.2 t (some g) else σ.2.2)) else none
def tRun (T : tT) (lk : Nat → Nat) : List Nat → tS → Option tS
  | [], σ => some σ
  | g :: r, σ => (tStep T lk σ g).bind (tRun T lk r)
def tEnt (T : tT) (lk S : Nat → Nat) (r : List Nat) (σ : tS) (s : List Nat) : Option tR := (tRun T lk s σ).bind (fun σ' => if tSeen T.1 σ'.1 S = true then some (r ++ s, σ') else none)
def tAll : Nat → List (List Nat)
  | 0 => [[]]
  | k + 1 => (List.range 4).flatMap (fun g => (tAll k).map (fun s => g :: s))
def tHd (T : tT) (S : Nat → Nat) (r : List Nat) (σ : tS) : List tR := if tSeen T.1 σ.1 S = true then [(r, σ)] else []
def tDfs (T : tT) (lk S : Nat → Nat) : Nat → List Nat → tS → List tR
  | 0, r, σ => tHd T S r σ
  | m + 1, r, σ => tHd T S r σ ++ (List.range 4).flatMap (fun g => match tStep T lk σ g with | none => [] | some σ' => tDfs T lk S m (r ++ [g]) σ')
def tSub (T : tT) (lk S : Nat → Nat) (m : Nat) (r : List Nat) (σ : tS) (g : Nat) : List tR := match tStep T lk σ g with
  | none => []
  | some σ' => tDfs T lk S m (r ++ [g]) σ'
theorem tDfs_s {T : tT} {lk S : Nat → Nat} {m : Nat} {r : List Nat} {σ : tS} : tDfs T lk S (m + 1) r σ = tHd T S r σ ++ (List.range 4).flatMap (tSub T lk S m r σ) := rfl
/-- a state of a course is as it must be -/
def tSw (T : tT) (σ : tS) : Prop := (∀ i, σ.1 i ≤ 9) ∧ (∀ u, σ.2.1 = some u → u < T.1) ∧ ∀ t g, σ.2.2 t = some g → g < 4
theorem tStep_w {T : tT} {lk : Nat → Nat} {σ σ' : tS} {g : Nat} (hg : g < 4) (hw : tSw T σ) (h : tStep T lk σ g = some σ') : tSw T σ' := by
  unfold tStep at h
  split at h
  next h1 =>
    cases hp : tPick T lk σ.1 σ.2.1 g with
    | none => rw [hp] at h; cases h
    | some t =>
      rw [hp] at h
      cases h
      refine ⟨tLess_le hw.1, fun u hu => ?_, fun i q hi => ?_⟩
      · cases hu
        exact (tPick_lt hp).1
      · simp only at hi
        split at hi
        · unfold va_up at hi
          split at hi
          · cases hi; exact hg
          · exact hw.2.2 i q hi
        · exact hw.2.2 i q hi
  next => cases h
theorem tStep_dec {T : tT} {lk : Nat → Nat} {σ σ' : tS} {g : Nat} (h : tStep T lk σ g = some σ') (i : Nat) : σ'.1 i ≤ σ.1 i := by
  unfold tStep at h
  split at h
  next h1 =>
    cases hp : tPick T lk σ.1 σ.2.1 g with
    | none => rw [hp] at h; cases h
    | some t =>
      rw [hp] at h
      cases h
      simp only [tLess, va_up]
      split
      next e => subst e; omega
      next => exact Nat.le_refl _
  next => cases h
theorem tDfs_bad {T : tT} {lk S : Nat → Nat} : ∀ {m : Nat} {r : List Nat} {σ : tS}, (∃ t, t < T.1 ∧ σ.1 t + 1 < S t) → tDfs T lk S m r σ = []
  | m, r, σ, ⟨t, ht, hb⟩ => by
    have hs : tSeen T.1 σ.1 S = false := by
      simp only [tSeen, decide_eq_false_iff_not]
      intro w
      have := w t ht
      omega
    have h0 : tHd T S r σ = [] := by simp [tHd, hs]
    cases m with
    | zero => exact h0
    | succ m =>
      rw [tDfs_s, h0, List.nil_append, List.flatMap_eq_nil_iff]
      intro g hg
      unfold tSub
      cases hst : tStep T lk σ g with
      | none => rfl
      | some σ' =>
        have := tStep_dec hst t
        exact tDfs_bad ⟨t, ht, by omega⟩
def tCap : Nat → Nat
  | 0 => 1
  | m + 1 => 1 + 4 * tCap m
theorem tHd_len {T : tT} {S : Nat → Nat} {r : List Nat} {σ : tS} : (tHd T S r σ).length ≤ 1 := by
  unfold tHd
  split <;> simp
theorem tDfs_len {T : tT} {lk S : Nat → Nat} : ∀ (m : Nat) (r : List Nat) (σ : tS), (tDfs T lk S m r σ).length ≤ tCap m
  | 0, r, σ => tHd_len
  | m + 1, r, σ => by
    have h1 := tHd_len (T := T) (S := S) (r := r) (σ := σ)
    have h2 : ∀ g, (tSub T lk S m r σ g).length ≤ tCap m := fun g => by
      unfold tSub
      cases tStep T lk σ g with
      | none => simp
      | some σ' => exact tDfs_len m _ _
    have a0 := h2 0; have a1 := h2 1; have a2 := h2 2; have a3 := h2 3
    rw [tDfs_s, List.length_append, show List.range 4 = [0, 1, 2, 3] from rfl]
    simp only [List.flatMap_cons, List.flatMap_nil, List.length_append, List.length_nil]
    show _ ≤ 1 + 4 * tCap m
    omega
theorem tDfs_ge {T : tT} {lk S : Nat → Nat} : ∀ {m : Nat} {r : List Nat} {σ : tS} {e : tR}, e ∈ tDfs T lk S m r σ → r.length ≤ e.1.length ∧ e.1.length ≤ r.length + m
  | 0, r, σ, e, h => by
    have h : e ∈ tHd T S r σ := h
    unfold tHd at h
    split at h
    · simp at h
      subst h
      simp
    · simp at h
  | m + 1, r, σ, e, h => by
    rw [tDfs_s, List.mem_append] at h
    rcases h with h | h
    · unfold tHd at h
      split at h
      · simp at h
        subst h
        simp
      · simp at h
    · obtain ⟨g, hg, h⟩ := List.mem_flatMap.mp h
      unfold tSub at h
      cases hst : tStep T lk σ g with
      | none => rw [hst] at h; simp at h
      | some σ' =>
        rw [hst] at h
        have := tDfs_ge h
        simp at this
        omega
theorem tEnt_cons {T : tT} {lk S : Nat → Nat} {r s : List Nat} {σ : tS} {g : Nat} : tEnt T lk S r σ (g :: s) = (tStep T lk σ g).bind (fun σ' => tEnt T lk S (r ++ [g]) σ' s) := by
  unfold tEnt
  rw [tRun]
  cases tStep T lk σ g with
  | none => rfl
  | some σ' => simp
theorem tDfs_filter {T : tT} {lk S : Nat → Nat} : ∀ (m k : Nat) (r : List Nat) (σ : tS), k ≤ m → (tDfs T lk S m r σ).filter (fun e => decide (e.1.length = r.length + k)) = (tAll k).filterMap (tEnt T lk S r σ)
  | m, 0, r, σ, hk => by
    have h0 : (tHd T S r σ).filter (fun e => decide (e.1.length = r.length + 0)) = (tAll 0).filterMap (tEnt T lk S r σ) := by
      have e0 : tEnt T lk S r σ [] = if tSeen T.1 σ.1 S = true then some (r, σ) else none := by simp [tEnt, tRun]
      unfold tHd tAll
      rw [List.filterMap_cons, e0]
      by_cases c : tSeen T.1 σ.1 S = true
      · simp [c]
      · simp [c]
    cases m with
    | zero => exact h0
    | succ m =>
      rw [tDfs_s, List.filter_append, h0]
      have : ((List.range 4).flatMap (tSub T lk S m r σ)).filter (fun e => decide (e.1.length = r.length + 0)) = [] := by
        rw [List.filter_eq_nil_iff]
        intro e he
        obtain ⟨g, hg, h⟩ := List.mem_flatMap.mp he
        unfold tSub at h
        cases hst : tStep T lk σ g with
        | none => rw [hst] at h; simp at h
        | some σ' =>
          rw [hst] at h
          have := tDfs_ge h
          simp at this
          simp
          omega
      rw [this, List.append_nil]
  | 0, k + 1, r, σ, hk => by omega
  | m + 1, k + 1, r, σ, hk => by
    have h0 : (tHd T S r σ).filter (fun e => decide (e.1.length = r.length + (k + 1))) = [] := by
      unfold tHd
      split
      · simp
      · simp
    rw [tDfs_s, List.filter_append, h0, List.nil_append, List.filter_flatMap, tAll, List.filterMap_flatMap]
    congr 1
    funext g
    rw [List.filterMap_map]
    unfold tSub
    have e1 : tEnt T lk S r σ ∘ (fun s => g :: s) = fun s => (tStep T lk σ g).bind (fun σ' => tEnt T lk S (r ++ [g]) σ' s) := by
      funext s
      exact tEnt_cons
    rw [e1]
    cases hst : tStep T lk σ g with
    | none => simp
    | some σ' =>
      simp only [Option.bind_some]
      have := tDfs_filter (T := T) (lk := lk) (S := S) m k (r ++ [g]) σ' (by omega)
      rw [← this]
      congr 1
      funext e
      simp
      omega
-- what is gathered of rows
def hWho (r : List Nat) : Nat := r.foldl (fun w g => w ||| 2 ^ g) 0
def hSure (h : List tR) : Nat := h.foldl (fun a e => a &&& hWho e.1) 15
def hMaybe (h : List tR) : Nat := h.foldl (fun a e => a ||| hWho e.1) 0
def hBit : Option Nat → Nat
  | none => 16
  | some g => 2 ^ g
def hCup (h : List tR) (t : Nat) : Nat := h.foldl (fun a e => a ||| hBit (e.2.2.2 t)) 0
def hBy (h : List tR) (t v : Nat) : Nat := (h.filter (fun e => decide (e.2.1 t = v))).length
def hB1 (b : Option tR) (e : tR) : Option tR := match b with
  | none => some e
  | some c => if e.1.length < c.1.length then some e else some c
def hBest (h : List tR) : Option tR := h.foldl hB1 none
def hSame (h1 h2 : List tR) : Prop := ∀ k, h1.filter (fun e => decide (e.1.length = k)) = h2.filter (fun e => decide (e.1.length = k))
theorem hBest_is : ∀ (n : Nat) (h : List tR), h.length = n → (h = [] ∧ hBest h = none) ∨ ∃ k e, hBest h = some e ∧ (h.filter (fun e => decide (e.1.length = k))).head? = some e ∧ e.1.length = k ∧ ∀ j, j < k → h.filter (fun e => decide (e.1.length = j)) = []
  | 0, h, hn => by
    have : h = [] := List.eq_nil_of_length_eq_zero hn
    subst this
    exact Or.inl ⟨rfl, rfl⟩
  | n + 1, h, hn => by
    right
    have hne : h ≠ [] := fun w => by rw [w] at hn; simp at hn
    obtain ⟨l, x, rfl⟩ : ∃ l x, h = l ++ [x] := ⟨h.dropLast, h.getLast hne, (List.dropLast_concat_getLast hne).symm⟩
    have hl : l.length = n := by simpa using hn
    have hb : hBest (l ++ [x]) = hB1 (hBest l) x := by simp [hBest, List.foldl_append]
    rcases hBest_is n l hl with ⟨rfl, h2⟩ | ⟨k, e, h1, h2, h3, h4⟩
    · refine ⟨x.1.length, x, by rw [hb, h2]; rfl, by simp, rfl, fun j hj => ?_⟩
      simp
      omega
    · rw [h1] at hb
      by_cases c : x.1.length < e.1.length
      · refine ⟨x.1.length, x, by rw [hb]; simp [hB1, c], ?_, rfl, fun j hj => ?_⟩
        · rw [List.filter_append, h4 _ (by omega)]
          simp
        · rw [List.filter_append, h4 _ (by omega)]
          simp
          omega
      · refine ⟨k, e, by rw [hb]; simp [hB1, c], ?_, h3, fun j hj => ?_⟩
        · rw [List.filter_append, List.head?_append, h2]
          rfl
        · rw [List.filter_append, h4 j hj]
          simp
          omega
theorem hBest_same {h1 h2 : List tR} (hs : hSame h1 h2) : hBest h1 = hBest h2 := by
  rcases hBest_is _ h1 rfl with ⟨rfl, a⟩ | ⟨k, e, a1, a2, a3, a4⟩ <;> rcases hBest_is _ h2 rfl with ⟨rfl, b⟩ | ⟨k', e', b1, b2, b3, b4⟩
  · rfl
  · have := hs k'
    rw [← this] at b2
    simp at b2
  · have := hs k
    rw [this] at a2
    simp at a2
  · rcases Nat.lt_trichotomy k k' with c | c | c
    · have := b4 k c
      rw [← hs k] at this
      rw [this] at a2
      simp at a2
    · subst c
      rw [hs k, b2] at a2
      rw [a1, b1, a2]
    · have := a4 k' c
      rw [hs k'] at this
      rw [this] at b2
      simp at b2
theorem hPerm_by : ∀ (m : Nat) (h : List tR), (∀ e ∈ h, e.1.length < m) → ((List.range m).flatMap (fun k => h.filter (fun e => decide (e.1.length = k)))).Perm h
  | 0, h, hm => by
    have : h = [] := List.eq_nil_iff_forall_not_mem.mpr (fun e he => by have := hm e he; omega)
    subst this
    simp
  | m + 1, h, hm => by
    rw [List.range_succ, List.flatMap_append]
    have ih := hPerm_by m (h.filter (fun e => !decide (e.1.length = m))) (fun e he => by
      obtain ⟨h1, h2⟩ := List.mem_filter.mp he
      have := hm e h1
      simp at h2
      omega)
    have e1 : (List.range m).flatMap (fun k => (h.filter (fun e => !decide (e.1.length = m))).filter (fun e => decide (e.1.length = k))) = (List.range m).flatMap (fun k => h.filter (fun e => decide (e.1.length = k))) := by
      rw [List.flatMap_def, List.flatMap_def]
      congr 1
      apply List.map_congr_left
      intro k hk
      have hk := List.mem_range.mp hk
      rw [List.filter_filter]
      congr 1
      funext e
      by_cases c : e.1.length = k
      · simp [c]
        omega
      · simp [c]
    rw [e1] at ih
    simp only [List.flatMap_cons, List.flatMap_nil, List.append_nil]
    exact ((ih.append_right _).trans List.perm_append_comm).trans (List.filter_append_perm _ h)
theorem hSame_perm {h1 h2 : List tR} (hs : hSame h1 h2) {m : Nat} (a1 : ∀ e ∈ h1, e.1.length < m) (a2 : ∀ e ∈ h2, e.1.length < m) : h1.Perm h2 := by
  have p1 := hPerm_by m h1 a1
  have p2 := hPerm_by m h2 a2
  have e : (fun k => h1.filter (fun e => decide (e.1.length = k))) = (fun k => h2.filter (fun e => decide (e.1.length = k))) := funext hs
  rw [e] at p1
  exact p1.symm.trans p2
theorem hSure_perm {h1 h2 : List tR} (p : h1.Perm h2) : hSure h1 = hSure h2 := p.foldl_eq' (fun x _ y _ z => by rw [Nat.and_assoc, Nat.and_assoc, Nat.and_comm (hWho x.1)]) 15
theorem hMaybe_perm {h1 h2 : List tR} (p : h1.Perm h2) : hMaybe h1 = hMaybe h2 := p.foldl_eq' (fun x _ y _ z => by rw [Nat.or_assoc, Nat.or_assoc, Nat.or_comm (hWho x.1)]) 0
theorem hCup_perm {h1 h2 : List tR} (p : h1.Perm h2) (t : Nat) : hCup h1 t = hCup h2 t := p.foldl_eq' (fun x _ y _ z => by rw [Nat.or_assoc, Nat.or_assoc, Nat.or_comm (hBit (x.2.2.2 t))]) 0
theorem hBy_perm {h1 h2 : List tR} (p : h1.Perm h2) (t v : Nat) : hBy h1 t v = hBy h2 t v := (p.filter _).length_eq
/-- the reference's order: by how many, then by guests -/
def tLex (T : tT) (lk S : Nat → Nat) (σ : tS) (m : Nat) : List tR := (List.range (m + 1)).flatMap (fun k => (tAll k).filterMap (tEnt T lk S [] σ))
theorem tAll_len : ∀ {k : Nat} {s : List Nat}, s ∈ tAll k → s.length = k ∧ ∀ g ∈ s, g < 4
  | 0, s, h => by
    simp [tAll] at h
    subst h
    simp
  | k + 1, s, h => by
    rw [tAll, List.mem_flatMap] at h
    obtain ⟨g, hg, h⟩ := h
    obtain ⟨s', hs', rfl⟩ := List.mem_map.mp h
    have := tAll_len hs'
    have hg := List.mem_range.mp hg
    refine ⟨by simp [this.1], fun q hq => ?_⟩
    rcases List.mem_cons.mp hq with rfl | hq
    · exact hg
    · exact this.2 q hq
theorem tEnt_len {T : tT} {lk S : Nat → Nat} {r s : List Nat} {σ : tS} {e : tR} (h : tEnt T lk S r σ s = some e) : e.1 = r ++ s := by
  unfold tEnt at h
  cases hr : tRun T lk s σ with
  | none => rw [hr] at h; cases h
  | some σ' =>
    rw [hr] at h
    simp only [Option.bind_some] at h
    split at h
    · cases h; rfl
    · cases h
theorem tLex_filter {T : tT} {lk S : Nat → Nat} {σ : tS} {m k : Nat} : (tLex T lk S σ m).filter (fun e => decide (e.1.length = k)) = if k ≤ m then (tAll k).filterMap (tEnt T lk S [] σ) else [] := by
  unfold tLex
  rw [List.filter_flatMap]
  have e1 : ∀ j, ((tAll j).filterMap (tEnt T lk S [] σ)).filter (fun e => decide (e.1.length = k)) = if j = k then (tAll k).filterMap (tEnt T lk S [] σ) else [] := fun j => by
    by_cases c : j = k
    · subst c
      rw [if_pos rfl, List.filter_eq_self]
      intro e he
      obtain ⟨s, hs, h⟩ := List.mem_filterMap.mp he
      have := tEnt_len h
      simp [this, (tAll_len hs).1]
    · rw [if_neg c, List.filter_eq_nil_iff]
      intro e he
      obtain ⟨s, hs, h⟩ := List.mem_filterMap.mp he
      have := tEnt_len h
      simp [this, (tAll_len hs).1, c]
  simp only [e1]
  generalize (tAll k).filterMap (tEnt T lk S [] σ) = X
  have key : ∀ n, (List.range n).flatMap (fun j => if j = k then X else []) = if k < n then X else [] := by
    intro n
    induction n with
    | zero => simp
    | succ n ih =>
      rw [List.range_succ, List.flatMap_append, ih]
      by_cases c : k < n
      · simp [c, show ¬ n = k by omega, show k < n + 1 by omega]
      · by_cases c2 : n = k
        · subst c2
          simp
        · simp [c, c2, show ¬ k < n + 1 by omega]
  rw [key]
  by_cases c : k ≤ m
  · simp [c, show k < m + 1 by omega]
  · simp [c, show ¬ k < m + 1 by omega]
theorem tDfs_lex {T : tT} {lk S : Nat → Nat} {σ : tS} {m : Nat} : hSame (tDfs T lk S m [] σ) (tLex T lk S σ m) := fun k => by
  rw [tLex_filter]
  by_cases c : k ≤ m
  · rw [if_pos c]
    have := tDfs_filter (T := T) (lk := lk) (S := S) m k [] σ c
    simpa using this
  · rw [if_neg c, List.filter_eq_nil_iff]
    intro e he
    have := tDfs_ge he
    simp at this
    simp
    omega
