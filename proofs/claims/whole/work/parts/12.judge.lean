-- THE JUDGEMENT: from method mi at pc, with locals al, operands st, memory μ, room for d calls within one another: it comes to a return with Q
abbrev sLy : Type := List sKd × (Nat → FieldType)
abbrev sLL : sLy := (sLay, sTy)
def s_ret (mi : sMI) (pc : Nat) (v : Option sAV) : Prop := match v with
  | none => decode mi.2.1 pc = .ok (.return_, 1) ∧ mi.2.2.2 = none
  | some (.inl x) => decode mi.2.1 pc = .ok (.ireturn, 1) ∧ ∃ ty, mi.2.2.2 = some ty ∧ narrow ty (.int x) = .int x
  | some (.inr (.inl _)) => decode mi.2.1 pc = .ok (.lreturn, 1) ∧ mi.2.2.2 = some .long
  | some (.inr (.inr _)) => False
def s_C (L : sLy) (mi : sMI) (d : Nat) (D : va_G) (tys : List (ClassId × FieldType)) (cA : Nat → ClassId) (p : Program) (R : Room) (s : State) (m : MethodId) (args : Array Value) (c : Code) (A : Nat → Prop) (cells slots : Nat) : Prop :=
  p.tables.exec = Jvm.exec ∧ c.code = mi.2.1 ∧ c.maxLocals = mi.2.2.1 ∧ s.vm.findClass mi.1.cls = some m.cls ∧ (∀ w ∈ sT, w.before args s = true) ∧ (∀ w ∈ sTn, va_Nw w s) ∧ va_K D vwCl tys s ∧ (∀ r k, L.1[r]? = some k → (∃ n, k = sA_ n) ∨ (∃ n b, k = sQ_ n b) → (cA r, L.2 r) ∈ tys) ∧ (d ≤ R.frames ∧ 60 * d ≤ R.locals ∧ cells ≤ R.cells ∧ slots ≤ R.slots) ∧ ∀ q, s.heap.size ≤ q → A q
def sG (L : sLy) (mi : sMI) (d : Nat) (Q : Option sAV → sM → Prop) (pc : Nat) (al : List (Option sAV)) (st : List sAV) (μ : sM) : Prop :=
  ∀ (l : Launch) (D : va_G) (tys : List (ClassId × FieldType)) (ad : Nat → Nat) (cA : Nat → ClassId) (p : Program) (e : Env) (R : Room) (s : State) (m : MethodId) (args : Array Value) (below : List Frame) (meth : Method) (c : Code) (A : Nat → Prop) (H : Heap) (locs : List Loc) (cells slots : Nat) (Z : State → Prop) (ls : Array Slot),
    s_C L mi d D tys cA p R s m args c A cells slots → lv_has ls mi.2.2.1 (s_ll ad 0 al) → va_P D vwCl (s_W L.1 ad cA μ) H → va_D A (s_W L.1 ad cA μ) → va_S A s.heap H locs →
    (∀ (v : Option sAV) (μ' : sM) (H' : Heap) (locs' : List Loc) (ls' : Array Slot) (pc' : Nat), Q v μ' → va_P D vwCl (s_W L.1 ad cA μ') H' → va_D A (s_W L.1 ad cA μ') → va_S A s.heap H' locs' → s_ret mi pc' v → W p l e R s m args below meth c H' locs' cells slots Z (F0 m pc' ls' (v.toList.map (s_av ad)))) →
    W p l e R s m args below meth c H locs cells slots Z (F0 m pc ls (st.map (s_av ad)))
theorem sG.mono {L : sLy} {mi : sMI} {d : Nat} {Q Q' : Option sAV → sM → Prop} {pc : Nat} {al : List (Option sAV)} {st : List sAV} {μ : sM} (h : sG L mi d Q pc al st μ) (hQ : ∀ v μ', Q v μ' → Q' v μ') : sG L mi d Q' pc al st μ :=
  fun l D tys ad cA p e R s m args below meth c A H locs cells slots Z ls hC hl hP hD hS hZ => h l D tys ad cA p e R s m args below meth c A H locs cells slots Z ls hC hl hP hD hS (fun v μ' H' locs' ls' pc' q => hZ v μ' H' locs' ls' pc' (hQ v μ' q))
/-- more room is as good -/
theorem sG.more {L : sLy} {mi : sMI} {d d' : Nat} {Q : Option sAV → sM → Prop} {pc : Nat} {al : List (Option sAV)} {st : List sAV} {μ : sM} (h : sG L mi d Q pc al st μ) (hd : d ≤ d') : sG L mi d' Q pc al st μ :=
  fun l D tys ad cA p e R s m args below meth c A H locs cells slots Z ls hC hl hP hD hS hZ => h l D tys ad cA p e R s m args below meth c A H locs cells slots Z ls (by
    obtain ⟨h1, h2, h3, h4, h5, h6, h7, h8, ⟨q1, q2, q3, q4⟩, h10⟩ := hC
    exact ⟨h1, h2, h3, h4, h5, h6, h7, h8, ⟨by omega, by omega, q3, q4⟩, h10⟩) hl hP hD hS hZ
/-- a call of mi from its entry -/
abbrev sCl (L : sLy) (mi : sMI) (d : Nat) (as : List sAV) (μ : sM) (K : Option sAV → sM → Prop) : Prop := sG L mi d K 0 (s_ent as) [] μ
/-- what is asked of an answer: an int, a long, nothing -/
def kI (f : Int32 → sM → Prop) : Option sAV → sM → Prop := fun v μ => match v with
  | some (.inl x) => f x μ
  | _ => False
def kL (f : Int64 → sM → Prop) : Option sAV → sM → Prop := fun v μ => match v with
  | some (.inr (.inl x)) => f x μ
  | _ => False
def kV (f : sM → Prop) : Option sAV → sM → Prop := fun v μ => match v with
  | none => f μ
  | _ => False
/-- the contract's start, for the kit -/
def s_Pc (L : sLy) (D : va_G) (tys : List (ClassId × FieldType)) (ad : Nat → Nat) (cA : Nat → ClassId) (sz : Nat) (as : List sAV) (μ : sM) : Array Value → State → Prop := va_Pc (as.map (s_av ad)) (fun U => U.heap.size = sz ∧ va_P D vwCl (s_W L.1 ad cA μ) U.heap ∧ va_K D vwCl tys U ∧ (∀ w ∈ sTn, va_Nw w U) ∧ va_D (fun _ => True) (s_W L.1 ad cA μ))
def s_B (L : sLy) (D : va_G) (ad : Nat → Nat) (cA : Nat → ClassId) (A : Nat → Prop) (μ : sM) (t : State) : Prop := va_P D vwCl (s_W L.1 ad cA μ) t.heap ∧ va_D A (s_W L.1 ad cA μ)
def s_rm (d : Nat) : Room := { frames := d, cells := 0, slots := 0, locals := 60 * d }
theorem s_blind {L : sLy} {D : va_G} {tys : List (ClassId × FieldType)} {ad : Nat → Nat} {cA : Nat → ClassId} {sz : Nat} {as : List sAV} {μ : sM} : FrameBlind (s_Pc L D tys ad cA sz as μ) := fun a U g mk q => by
  obtain ⟨q0, q1, qP, qK, qN, qD⟩ := q
  exact ⟨q0, q1, qP, va_K.moved (u := U) (U := U.calling g mk a) (Vm.Alike.refl U.vm) qK, sTn_same (u := U) (U := U.calling g mk a) rfl qN, qD⟩
/-- the walk of a method's body out of sG, for any end Qc that takes what the kit's returns give -/
theorem s_body {L : sLy} {mi : sMI} {n : Nat} (hF : s_MF mi n) (l : Launch) {D : va_G} {tys : List (ClassId × FieldType)} {ad : Nat → Nat} {cA : Nat → ClassId} {sz d : Nat} {as : List sAV} {μ : sM} {K : Option sAV → sM → Prop} {Qc : Array Value → State → Outcome → State → Prop}
    (hT : ∀ r k, L.1[r]? = some k → (∃ n, k = sA_ n) ∨ (∃ n b, k = sQ_ n b) → (cA r, L.2 r) ∈ tys) (hlen : (s_ent as).length ≤ mi.2.2.1) (h : sCl L mi d as μ K)
    (hQ : ∀ (args : Array Value) (s t : State) (v : Option sAV) (μ' : sM) (H : Heap) (locs : List Loc), s.heap.size = sz → K v μ' → va_P D vwCl (s_W L.1 ad cA μ') H → va_D (va_A (s_W L.1 ad cA μ) sz) (s_W L.1 ad cA μ') → va_S (va_A (s_W L.1 ad cA μ) sz) s.heap H locs → t.heap = H → Qc args s (.returned (v.map (s_av ad))) t) :
    Met l mi.1 (Cond.code mi.1 mi.2.1 mi.2.2.1 mi.2.2.2 :: sT) (s_rm d) (s_Pc L D tys ad cA sz as μ) Qc 0 0 (va_A (s_W L.1 ad cA μ) sz) := by
  obtain ⟨f1, f2, f3, f4, f5, f6⟩ := hF
  refine Met.ofW (cc := mi.2.1) (maxL := mi.2.2.1) (ret := mi.2.2.2) f5 rfl ?_
  intro p e s m args below meth c s₁ B hml hv
  obtain ⟨rfl, hsz, hP, hK, hN, hD0⟩ := hv
  have hx := B.exec
  have hb := B.bytes
  have hr := B.returns
  have hts := atoms_spec (ws := Cond.code mi.1 mi.2.1 mi.2.2.1 mi.2.2.2 :: sT) B.pre
  have hown : s.vm.findClass mi.1.cls = some m.cls := findClass_of_methodNamed B.named
  have hlocks := B.notSynchronized
  subst hsz
  have hD := hD0.self (sz := s.heap.size)
  have hl := lv_entry (as.map (s_av ad)) (n := mi.2.2.1) (by rw [s_ent_len]; exact hlen)
  rw [lg_entry_eq]
  generalize (lg_sl (as.map (s_av ad)) ++ List.replicate (mi.2.2.1 - (lg_sl (as.map (s_av ad))).length) Slot.unset).toArray = ls at hl ⊢
  rw [← s_ent_args] at hl
  refine h l D tys ad cA p e _ s m _ below meth c (va_A (s_W L.1 ad cA μ) s.heap.size) s.heap [] 0 0 _ ls ⟨hx, hb, hml, hown, fun w hw => hts w (List.mem_cons_of_mem _ hw), hN, hK, hT, ⟨Nat.le_refl _, Nat.le_refl _, Nat.zero_le _, Nat.zero_le _⟩, fun q hq => Or.inr hq⟩ hl hP hD va_S.rf ?_
  intro v μ' H' locs' ls' pc' hKv hP' hD' hS' hret
  match v, hKv, hret with
  | none, hKv, hret =>
    exact W.vret hx hb (hr.trans hret.2) (fun t ht hW => hQ _ s t none μ' H' locs' rfl hKv hP' hD' hS' ht) hS'.2.2 hret.1
  | some (.inl x), hKv, hret =>
    obtain ⟨h1, ty, h2, h3⟩ := hret
    exact W.zret hx hb (hr.trans h2) h3 (fun t ht hW => hQ _ s t (some (.inl x)) μ' H' locs' rfl hKv hP' hD' hS' ht) hS'.2.2 h1
  | some (.inr (.inl x)), hKv, hret =>
    exact W.lret hx hb (hr.trans hret.2) (fun t ht hW => hQ _ s t (some (.inr (.inl x))) μ' H' locs' rfl hKv hP' hD' hS' ht) hS'.2.2 hret.1
  | some (.inr (.inr x)), hKv, hret => exact hret.elim
theorem s_metI {L : sLy} {mi : sMI} {n : Nat} (hF : s_MF mi n) (l : Launch) {D : va_G} {tys : List (ClassId × FieldType)} {ad : Nat → Nat} {cA : Nat → ClassId} {sz d : Nat} {as : List sAV} {μ : sM} {f : Int32 → sM → Prop}
    (hT : ∀ r k, L.1[r]? = some k → (∃ n, k = sA_ n) ∨ (∃ n b, k = sQ_ n b) → (cA r, L.2 r) ∈ tys) (hlen : (s_ent as).length ≤ mi.2.2.1) (h : sCl L mi d as μ (kI f)) :
    Met l mi.1 (Cond.code mi.1 mi.2.1 mi.2.2.1 mi.2.2.2 :: sT) (s_rm d) (s_Pc L D tys ad cA sz as μ) (va_Qi f (s_B L D ad cA (va_A (s_W L.1 ad cA μ) sz)) (va_A (s_W L.1 ad cA μ) sz)) 0 0 (va_A (s_W L.1 ad cA μ) sz) := by
  refine s_body hF l hT hlen h ?_
  intro args s t v μ' H locs hsz hK hP hD hS ht
  match v, hK with
  | some (.inl x), hK => exact ⟨⟨x, μ', rfl, hK, by rw [ht]; exact hP, hD⟩, hS.F ht⟩
  | none, hK => exact hK.elim
  | some (.inr x), hK => exact hK.elim
theorem s_metL {L : sLy} {mi : sMI} {n : Nat} (hF : s_MF mi n) (l : Launch) {D : va_G} {tys : List (ClassId × FieldType)} {ad : Nat → Nat} {cA : Nat → ClassId} {sz d : Nat} {as : List sAV} {μ : sM} {f : Int64 → sM → Prop}
    (hT : ∀ r k, L.1[r]? = some k → (∃ n, k = sA_ n) ∨ (∃ n b, k = sQ_ n b) → (cA r, L.2 r) ∈ tys) (hlen : (s_ent as).length ≤ mi.2.2.1) (h : sCl L mi d as μ (kL f)) :
    Met l mi.1 (Cond.code mi.1 mi.2.1 mi.2.2.1 mi.2.2.2 :: sT) (s_rm d) (s_Pc L D tys ad cA sz as μ) (va_Ql f (s_B L D ad cA (va_A (s_W L.1 ad cA μ) sz)) (va_A (s_W L.1 ad cA μ) sz)) 0 0 (va_A (s_W L.1 ad cA μ) sz) := by
  refine s_body hF l hT hlen h ?_
  intro args s t v μ' H locs hsz hK hP hD hS ht
  match v, hK with
  | some (.inr (.inl x)), hK => exact ⟨⟨x, μ', rfl, hK, by rw [ht]; exact hP, hD⟩, hS.F ht⟩
  | none, hK => exact hK.elim
  | some (.inl x), hK => exact hK.elim
  | some (.inr (.inr x)), hK => exact hK.elim
theorem s_metV {L : sLy} {mi : sMI} {n : Nat} (hF : s_MF mi n) (l : Launch) {D : va_G} {tys : List (ClassId × FieldType)} {ad : Nat → Nat} {cA : Nat → ClassId} {sz d : Nat} {as : List sAV} {μ : sM} {f : sM → Prop}
    (hT : ∀ r k, L.1[r]? = some k → (∃ n, k = sA_ n) ∨ (∃ n b, k = sQ_ n b) → (cA r, L.2 r) ∈ tys) (hlen : (s_ent as).length ≤ mi.2.2.1) (h : sCl L mi d as μ (kV f)) :
    Met l mi.1 (Cond.code mi.1 mi.2.1 mi.2.2.1 mi.2.2.2 :: sT) (s_rm d) (s_Pc L D tys ad cA sz as μ) (va_Qv f (s_B L D ad cA (va_A (s_W L.1 ad cA μ) sz)) (va_A (s_W L.1 ad cA μ) sz)) 0 0 (va_A (s_W L.1 ad cA μ) sz) := by
  refine s_body hF l hT hlen h ?_
  intro args s t v μ' H locs hsz hK hP hD hS ht
  match v, hK with
  | none, hK => exact ⟨⟨μ', rfl, hK, by rw [ht]; exact hP, hD⟩, hS.F ht⟩
  | some x, hK => exact hK.elim
