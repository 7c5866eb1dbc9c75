-- CONSTRUCTORS: the judgement bG: a world that grows; the four classes of arrays are known beforehand (k4)
def bTy (k4 : Nat → ClassId) : List (ClassId × FieldType) := [(k4 0, .int), (k4 1, .boolean), (k4 2, .object RX6), (k4 3, .array .int)]
def b_O (U : State) : Prop := va_AO RX6 U ∧ va_AOA .int U
theorem b_O.moved {u U : State} (hvm : u.vm.Alike U.vm) (h : b_O u) : b_O U := ⟨h.1.moved hvm, over_moved hvm h.2⟩
def b_C (mi : sMI) (d : Nat) (D : va_G) (k4 : Nat → ClassId) (p : Program) (R : Room) (s : State) (m : MethodId) (args : Array Value) (meth : Method) (c : Code) (A : Nat → Prop) : Prop :=
  p.tables.exec = Jvm.exec ∧ c.code = mi.2.1 ∧ c.maxLocals = mi.2.2.1 ∧ meth.name = "<init>" ∧ s.vm.findClass mi.1.cls = some m.cls ∧ (∀ w ∈ sT, w.before args s = true) ∧ (∀ w ∈ sTn, va_Nw w s) ∧ b_O s ∧ va_K D vwCl (bTy k4) s ∧ (d ≤ R.frames ∧ 60 * d ≤ R.locals) ∧ ∀ q, s.heap.size ≤ q → A q
def bG (mi : sMI) (d ct sl : Nat) (k4 : Nat → ClassId) (Q : va_W → Prop) (pc : Nat) (al : List (Nat × Value)) (st : List Value) (ws : va_W) : Prop :=
  ∀ (l : Launch) (D : va_G) (p : Program) (e : Env) (R : Room) (s : State) (m : MethodId) (args : Array Value) (below : List Frame) (meth : Method) (c : Code) (A : Nat → Prop) (H : Heap) (locs : List Loc) (cells slots : Nat) (Z : State → Prop) (ls : Array Slot),
    b_C mi d D k4 p R s m args meth c A → (cells + ct ≤ R.cells ∧ slots + sl ≤ R.slots) → lv_has ls mi.2.2.1 al → va_P D vwCl ws H → va_D A ws → va_S A s.heap H locs →
    (∀ (ws' : va_W) (H' : Heap) (locs' : List Loc) (ls' : Array Slot) (pc' : Nat), Q ws' → va_P D vwCl ws' H' → va_D A ws' → va_S A s.heap H' locs' → decode mi.2.1 pc' = .ok (.return_, 1) → W p l e R s m args below meth c H' locs' (cells + ct) (slots + sl) Z (F0 m pc' ls' [])) →
    W p l e R s m args below meth c H locs cells slots Z (F0 m pc ls st)
section BG
variable {mi : sMI} {d ct sl : Nat} {k4 : Nat → ClassId} {Q : va_W → Prop} {pc : Nat} {al : List (Nat × Value)} {st : List Value} {ws : va_W}
theorem b_vret (hd : decode mi.2.1 pc = .ok (.return_, 1)) (h : Q ws) : bG mi d ct sl k4 Q pc al [] ws := by
  intro l D p e R s m args below meth c A H locs cells slots Z ls hC hf hl hP hD hS hZ
  exact W.widen (k := cells + ct) (n := slots + sl) (Nat.le_add_right _ _) (Nat.le_add_right _ _) (hZ ws H locs ls pc h hP hD hS hd)
/-- the same cells in another order -/
theorem b_perm {ws2 : va_W} (is : List Nat) (hn : va_nd is = true) (hs : is.map (fun i => ws[i]?) = ws2.map some) (k : bG mi d ct sl k4 Q pc al st ws2) : bG mi d ct sl k4 Q pc al st ws := by
  intro l D p e R s m args below meth c A H locs cells slots Z ls hC hf hl hP hD hS hZ
  have h2 : is.filterMap (fun i => ws[i]?) = ws2 := by
    have e1 : is.filterMap (fun i => ws[i]?) = (is.map (fun i => ws[i]?)).filterMap id := by rw [List.filterMap_map]; rfl
    rw [e1, hs, List.filterMap_map]
    exact List.filterMap_some
  exact k l D p e R s m args below meth c A H locs cells slots Z ls hC hf hl (hP.sub is h2) (hD.sub is hn hs) hS hZ
theorem b_aload {j : Fin 4} {x : Nat} (i : Nat) (hd : decode mi.2.1 pc = .ok (.aload_n j, 1)) (ha : al[i]? = some ((j : Nat), .ref x)) (k : bG mi d ct sl k4 Q (pc + 1) al (.ref x :: st) ws) : bG mi d ct sl k4 Q pc al st ws := by
  intro l D p e R s m args below meth c A H locs cells slots Z ls hC hf hl hP hD hS hZ
  exact lv_aload_n hC.1 hC.2.1 hd rfl (lv_at hl i ha) (k l D p e R s m args below meth c A H locs cells slots Z ls hC hf hl hP hD hS hZ)
theorem b_iconst {n : Int} (v : Int32) (hd : decode mi.2.1 pc = .ok (.iconst n, 1)) (hv : Int32.ofInt n = v) (k : bG mi d ct sl k4 Q (pc + 1) al (.int v :: st) ws) : bG mi d ct sl k4 Q pc al st ws := by
  intro l D p e R s m args below meth c A H locs cells slots Z ls hC hf hl hP hD hS hZ
  exact lv_iconst hC.1 hC.2.1 hd hv (k l D p e R s m args below meth c A H locs cells slots Z ls hC hf hl hP hD hS hZ)
theorem b_bipush {n : Int} (v : Int32) (hd : decode mi.2.1 pc = .ok (.bipush n, 2)) (hv : (Int8.ofInt n).toInt32 = v) (k : bG mi d ct sl k4 Q (pc + 2) al (.int v :: st) ws) : bG mi d ct sl k4 Q pc al st ws := by
  intro l D p e R s m args below meth c A H locs cells slots Z ls hC hf hl hP hD hS hZ
  exact lv_bipush hC.1 hC.2.1 hd hv (k l D p e R s m args below meth c A H locs cells slots Z ls hC hf hl hP hD hS hZ)
theorem b_sipush {n : Int} (v : Int32) (hd : decode mi.2.1 pc = .ok (.sipush n, 3)) (hv : (Int16.ofInt n).toInt32 = v) (k : bG mi d ct sl k4 Q (pc + 3) al (.int v :: st) ws) : bG mi d ct sl k4 Q pc al st ws := by
  intro l D p e R s m args below meth c A H locs cells slots Z ls hC hf hl hP hD hS hZ
  exact lv_sipush hC.1 hC.2.1 hd hv (k l D p e R s m args below meth c A H locs cells slots Z ls hC hf hl hP hD hS hZ)
theorem b_dup {x : Nat} (hd : decode mi.2.1 pc = .ok (.dup, 1)) (k : bG mi d ct sl k4 Q (pc + 1) al (.ref x :: .ref x :: st) ws) : bG mi d ct sl k4 Q pc al (.ref x :: st) ws := by
  intro l D p e R s m args below meth c A H locs cells slots Z ls hC hf hl hP hD hS hZ
  exact lv_dup hC.1 hC.2.1 hd rfl (k l D p e R s m args below meth c A H locs cells slots Z ls hC hf hl hP hD hS hZ)
theorem b_objI : Cond.instanceMethod objectInit ∈ sT := sT_of 98 (by decide +kernel) rfl
theorem b_objC : Cond.code objectInit ⟨#[0xb1]⟩ 1 none ∈ sT := sT_of 99 (by decide +kernel) rfl
theorem b_arrI : Cond.arrayClass .int ∈ sT := sT_of 171 (by decide +kernel) rfl
theorem b_arrZ : Cond.arrayClass .boolean ∈ sT := sT_of 189 (by decide +kernel) rfl
theorem b_obj {idx x : Nat} (hd : decode mi.2.1 pc = .ok (.invokespecial idx, 3)) (hlk : Cond.methodLink mi.1.cls idx objectInit ∈ sT) (k : bG mi (d + 1) ct sl k4 Q (pc + 3) al [] ws) : bG mi (d + 1) ct sl k4 Q pc al [.ref x] ws := by
  intro l D p e R s m args below meth c A H locs cells slots Z ls hC hf hl hP hD hS hZ
  have hR := hC.2.2.2.2.2.2.2.2.2.1
  have hts := hC.2.2.2.2.2.1
  have hrm : 2 * (F0 m pc ls [Value.ref x]).monitorRoom + (([] : List Value).map fun v => v.category).sum ≤ 8 := lv_room (Nat.zero_le _)
  refine W.objInit hC.1 hC.2.1 hC.2.2.2.2.1 (hts _ hlk) (hts _ b_objI) (hts _ b_objC) rfl (by rw [hC.2.2.1]; exact hl.1) (rest := []) rfl hd (by omega) (by omega) ?_
  exact W.eq (g2 := F0 m (pc + 3) ls []) rfl (k l D p e R s m args below meth c A H locs cells slots Z ls hC hf hl hP hD hS hZ)
theorem b_newa {n : Int32} {N : Nat} {ct0 sl0 : Nat} (hd : decode mi.2.1 pc = .ok (.newarray .int, 2)) (hn : ¬ n < 0) (hN : n.toNatClampNeg = N) (hbt : N * componentBytes .int ≤ 536870912) (h0 : ct0 = ct + 1) (h1 : sl0 = sl + N)
    (k : ∀ q : Nat, bG mi d ct sl k4 Q (pc + 2) al (.ref q :: st) (ws ++ [(q, .inl (k4 0, N, .inl (fun _ => 0)))])) : bG mi d ct0 sl0 k4 Q pc al (.int n :: st) ws := by
  intro l D p e R s m args below meth c A H locs cells slots Z ls hC hf hl hP hD hS hZ
  subst h0
  subst h1
  have hK := hC.2.2.2.2.2.2.2.2.1
  refine va_newa (atype := .int) (a0 := (N, .inl (fun _ => 0))) hC.1 hC.2.1 (hC.2.2.2.2.2.1 _ b_arrI) rfl hK hP hD hS hC.2.2.2.2.2.2.2.2.2.2 (fun _ => rfl) hn hN hbt (by omega) (by omega) hd (fun q cA H1 hK1 hP1 hD1 hS1 => ?_)
  have e1 : cA = k4 0 := Option.some.inj ((hK1.2 4 (cA, .int) rfl).2.symm.trans (hK.2 0 (k4 0, .int) rfl).2)
  subst e1
  exact k q l D p e R s m args below meth c A H1 locs (cells + 1) (slots + N) Z ls hC ⟨by omega, by omega⟩ hl hP1 hD1 hS1 (by rw [show cells + 1 + ct = cells + (ct + 1) by omega, show slots + N + sl = slots + (sl + N) by omega]; exact hZ)
theorem b_newz {n : Int32} {N : Nat} {ct0 sl0 : Nat} (hd : decode mi.2.1 pc = .ok (.newarray .boolean, 2)) (hn : ¬ n < 0) (hN : n.toNatClampNeg = N) (hbt : N * componentBytes .boolean ≤ 536870912) (h0 : ct0 = ct + 1) (h1 : sl0 = sl + N)
    (k : ∀ q : Nat, bG mi d ct sl k4 Q (pc + 2) al (.ref q :: st) (ws ++ [(q, .inl (k4 1, N, .inl (fun _ => 0)))])) : bG mi d ct0 sl0 k4 Q pc al (.int n :: st) ws := by
  intro l D p e R s m args below meth c A H locs cells slots Z ls hC hf hl hP hD hS hZ
  subst h0
  subst h1
  have hK := hC.2.2.2.2.2.2.2.2.1
  refine va_newa (atype := .boolean) (a0 := (N, .inl (fun _ => 0))) hC.1 hC.2.1 (hC.2.2.2.2.2.1 _ b_arrZ) rfl hK hP hD hS hC.2.2.2.2.2.2.2.2.2.2 (fun _ => rfl) hn hN hbt (by omega) (by omega) hd (fun q cA H1 hK1 hP1 hD1 hS1 => ?_)
  have e1 : cA = k4 1 := Option.some.inj ((hK1.2 4 (cA, .boolean) rfl).2.symm.trans (hK.2 1 (k4 1, .boolean) rfl).2)
  subst e1
  exact k q l D p e R s m args below meth c A H1 locs (cells + 1) (slots + N) Z ls hC ⟨by omega, by omega⟩ hl hP1 hD1 hS1 (by rw [show cells + 1 + ct = cells + (ct + 1) by omega, show slots + N + sl = slots + (sl + N) by omega]; exact hZ)
theorem b_newq {idx : Nat} {n : Int32} {N : Nat} {ct0 sl0 : Nat} (hd : decode mi.2.1 pc = .ok (.anewarray idx, 3)) (hlk : Cond.classLink mi.1.cls idx RX6 ∈ sT) (hn : ¬ n < 0) (hN : n.toNatClampNeg = N) (hbt : N * 4 ≤ 536870912) (h0 : ct0 = ct + 1) (h1 : sl0 = sl + N)
    (k : ∀ q : Nat, bG mi d ct sl k4 Q (pc + 3) al (.ref q :: st) (ws ++ [(q, .inl (k4 2, N, .inr (.inr (.inr (.inr (fun _ => none))))))])) : bG mi d ct0 sl0 k4 Q pc al (.int n :: st) ws := by
  intro l D p e R s m args below meth c A H locs cells slots Z ls hC hf hl hP hD hS hZ
  subst h0
  subst h1
  have hK := hC.2.2.2.2.2.2.2.2.1
  refine va_newq hC.1 hC.2.1 hC.2.2.2.2.1 (hC.2.2.2.2.2.1 _ hlk) hC.2.2.2.2.2.2.2.1.1 hK hP hD hS hC.2.2.2.2.2.2.2.2.2.2 hn hN hbt (by omega) (by omega) hd (fun q cA H1 hK1 hP1 hD1 hS1 => ?_)
  obtain ⟨kA, cm, -, -, -, f1⟩ := (hK1.2 4 (cA, .object RX6) rfl).2
  obtain ⟨kA2, cm2, -, -, -, f2⟩ := (hK.2 2 (k4 2, .object RX6) rfl).2
  have e1 : cA = k4 2 := Option.some.inj (f1.symm.trans f2)
  subst e1
  exact k q l D p e R s m args below meth c A H1 locs (cells + 1) (slots + N) Z ls hC ⟨by omega, by omega⟩ hl hP1 hD1 hS1 (by rw [show cells + 1 + ct = cells + (ct + 1) by omega, show slots + N + sl = slots + (sl + N) by omega]; exact hZ)
theorem b_mna {idx : Nat} {n k9 : Int32} {N K : Nat} {ct0 sl0 : Nat} (hd : decode mi.2.1 pc = .ok (.multianewarray idx 2, 4)) (hlk : Cond.classLink mi.1.cls idx ("[" ++ (FieldType.array .int).toString) ∈ sT) (hn : ¬ n < 0) (hk9 : ¬ k9 < 0) (hN : n.toNatClampNeg = N) (hK9 : k9.toNatClampNeg = K) (hb1 : N * 4 ≤ 536870912) (hb2 : K * componentBytes .int ≤ 536870912) (hb3 : K ≤ 536870912) (h0 : ct0 = ct + (1 + N)) (h1 : sl0 = sl + (N + N * K))
    (k : ∀ (q : Nat) (r : Nat → Nat), bG mi d ct sl k4 Q (pc + 4) al (.ref q :: st) ((ws ++ [(q, .inl (k4 3, N, .inr (.inr (.inr (.inr (fun i => if i < N then some (r i) else none))))))]) ++ (List.range N).map (fun i => (r i, .inl (k4 0, K, .inl (fun _ => 0)))))) : bG mi d ct0 sl0 k4 Q pc al (.int k9 :: .int n :: st) ws := by
  intro l D p e R s m args below meth c A H locs cells slots Z ls hC hf hl hP hD hS hZ
  subst h0
  subst h1
  have hK := hC.2.2.2.2.2.2.2.2.1
  have hts := hC.2.2.2.2.2.1
  have f0 : s.vm.findClass (FieldType.array .int).toString = some (k4 0) := (hK.2 0 (k4 0, .int) rfl).2
  have e0 : ws ++ va_pl [] (fun _ => (.inr (0, []) : va_E)) = ws := List.append_nil ws
  refine va_mna (X := ws) (L := []) (f := fun _ => (.inr (0, []) : va_E)) (ty := .int) (cy := k4 0) (z := (K, .inl (fun _ => 0))) hC.1 hC.2.1 hC.2.2.2.2.1 (hts _ hlk) hC.2.2.2.2.2.2.2.1.2 (hts _ b_arrI) f0 hK (by rw [e0]; exact hP) (by rw [e0]; exact hD) hS hC.2.2.2.2.2.2.2.2.2.2 hn hk9 hN hK9 hb1 hb2 hb3 rfl rfl (by omega) (by omega) (fun c => ?_) hd (fun q r cA H1 i1 i2 hK1 hP1 hD1 hS1 => ?_)
  · show Jvm.Free.Multi.innerC c K (.int 0) = arrV c K (fun _ => .int 0)
    rw [← arrV_new]
    rfl
  · have e1 : cA = k4 3 := Option.some.inj ((hK1.2 4 (cA, .array .int) rfl).2.symm.trans (hK.2 3 (k4 3, .array .int) rfl).2)
    subst e1
    have e2 : va_pl ([] ++ (List.range N).map r) (vr_up (fun _ => (.inr (0, []) : va_E)) ((List.range N).map r) (.inl (k4 0, K, .inl (fun _ => 0)))) = (List.range N).map (fun i => (r i, .inl (k4 0, K, .inl (fun _ => 0)))) := by
      rw [← vr_rows (fun a _ h => by cases h)]
      show [] ++ _ = _
      rw [List.nil_append, List.map_map]
      rfl
    rw [e2] at hP1 hD1
    exact k q r l D p e R s m args below meth c A H1 locs (cells + 1 + N) (slots + N + N * K) Z ls hC ⟨by omega, by omega⟩ hl hP1 hD1 hS1 (by rw [show cells + 1 + N + ct = cells + (ct + (1 + N)) by omega, show slots + N + N * K + sl = slots + (sl + (N + N * K)) by omega]; exact hZ)
theorem b_new {idx ci : Nat} {C : String} {T : u_T} {N : Nat} {fs : List Value} {ct0 sl0 : Nat} (hKC : s_KC ci C T N) (ty : Nat → FieldType) (hty : ∀ k, k < N → parseFieldDescriptor (T k).2.2.1 = some (ty k)) (hd : decode mi.2.1 pc = .ok (.new idx, 3)) (hlk : Cond.classLink mi.1.cls idx C ∈ sT) (hin : Cond.instantiable C N ∈ sT) (hini : Cond.initialized C ∈ sT) (hfs : ∀ j, j < N → defaultValue (ty j) = vp_V fs j) (h0 : ct0 = ct + 1) (h1 : sl0 = sl + N)
    (k : ∀ q : Nat, bG mi d ct sl k4 Q (pc + 3) al (.ref q :: st) (ws ++ [(q, .inr (ci, fs))])) : bG mi d ct0 sl0 k4 Q pc al st ws := by
  intro l D p e R s m args below meth c A H locs cells slots Z ls hC hf hl hP hD hS hZ
  subst h0
  subst h1
  have hts := hC.2.2.2.2.2.1
  exact va_new (fs := fs) hC.1 hC.2.1 hts hKC.2.1 ty hty hC.2.2.2.2.1 (hts _ hlk) (hts _ hin) (hts _ hini) hC.2.2.2.2.2.2.2.2.1 hP hD hS hC.2.2.2.2.2.2.2.2.2.2 hKC.1 hfs (by omega) (by omega) hd (fun q H1 hP1 hD1 hS1 => k q l D p e R s m args below meth c A H1 locs (cells + 1) (slots + N) Z ls hC ⟨by omega, by omega⟩ hl hP1 hD1 hS1 (by rw [show cells + 1 + ct = cells + (ct + 1) by omega, show slots + N + sl = slots + (sl + N) by omega]; exact hZ))
theorem b_putF {idx ci kf a : Nat} {C : String} {T : u_T} {N : Nat} {ty : FieldType} {fs : List Value} {v : Value} (q0 : Nat) (ws2 : va_W) (hKC : s_KC ci C T N) (hd : decode mi.2.1 pc = .ok (.putfield idx, 3)) (hk : kf < N) (hlk : Cond.fieldLink mi.1.cls idx C (T kf).2.1 (T kf).2.2.1 ∈ sT) (hC1 : (T kf).1 = C) (hfin : (T kf).2.2.2 = true) (hown : C = mi.1.cls) (hp : parseFieldDescriptor (T kf).2.2.1 = some ty) (he : ws[q0]? = some (a, .inr (ci, fs))) (hn : narrow ty v = v) (hfit : fits ty v = true) (hlen : kf < fs.length) (h2 : ws.set q0 (a, .inr (ci, fs.set kf v)) = ws2)
    (k : bG mi d ct sl k4 Q (pc + 3) al st ws2) : bG mi d ct sl k4 Q pc al (v :: .ref a :: st) ws := by
  intro l D p e R s m args below meth c A H locs cells slots Z ls hC hf hl hP hD hS hZ
  subst h2
  obtain ⟨c1, c2, ⟨ty0, c3⟩, c4⟩ := hKC
  have hts := hC.2.2.2.2.2.1
  exact va_putF (v := v) hC.1 hC.2.1 hts c2 ty0 c3 c4 hC.2.2.2.2.1 hC.2.2.2.2.2.2.2.2.1 hP hD hS q0 he c1 kf hk (hts _ hlk) (fun x q => by rw [hC1] at q; exact q) hfin hC.2.2.2.1 (hC1.trans hown) hp hn hfit hlen hd (fun H locs hP hD hS => k l D p e R s m args below meth c A H locs cells slots Z ls hC hf hl hP hD hS hZ)
theorem b_get {idx ci kf a : Nat} {C : String} {T : u_T} {N : Nat} {fs : List Value} {v : Value} (q0 : Nat) (hKC : s_KC ci C T N) (hd : decode mi.2.1 pc = .ok (.getfield idx, 3)) (hk : kf < N) (hlk : Cond.fieldLink mi.1.cls idx C (T kf).2.1 (T kf).2.2.1 ∈ sT) (hC1 : (T kf).1 = C) (he : ws[q0]? = some (a, .inr (ci, fs))) (hv : fs[kf]? = some v)
    (k : bG mi d ct sl k4 Q (pc + 3) al (v :: st) ws) : bG mi d ct sl k4 Q pc al (.ref a :: st) ws := by
  intro l D p e R s m args below meth c A H locs cells slots Z ls hC hf hl hP hD hS hZ
  obtain ⟨c1, c2, ⟨ty0, c3⟩, c4⟩ := hKC
  have hts := hC.2.2.2.2.2.1
  exact va_get (v := v) hC.1 hC.2.1 hts c2 hC.2.2.2.2.1 hC.2.2.2.2.2.2.2.2.1 hP q0 he c1 kf hk (hts _ hlk) (fun x q => by rw [hC1] at q; exact q) hv hd (k l D p e R s m args below meth c A H locs cells slots Z ls hC hf hl hP hD hS hZ)
theorem b_astq {a v n : Nat} {vs : List Value} {f : Nat → Option Nat} {i : Int32} (q0 qk : Nat) (ws2 : va_W) (hd : decode mi.2.1 pc = .ok (.aastore, 1)) (ha : ws[q0]? = some (a, .inl (k4 2, n, .inr (.inr (.inr (.inr f)))))) (hv : ws[qk]? = some (v, .inr (6, vs))) (hin : vp_in i n) (h2 : ws.set q0 (a, .inl (k4 2, n, .inr (.inr (.inr (.inr (va_up f i.toNatClampNeg (some v))))))) = ws2)
    (k : bG mi d ct sl k4 Q (pc + 1) al st ws2) : bG mi d ct sl k4 Q pc al (.ref v :: .int i :: .ref a :: st) ws := by
  intro l D p e R s m args below meth c A H locs cells slots Z ls hC hf hl hP hD hS hZ
  subst h2
  exact va_astq (r := (RX6, TX6, 12)) hC.1 hC.2.1 hC.2.2.2.2.2.2.2.2.1 hP hD hS q0 2 qk 6 ha rfl hv rfl hin hd (fun H locs hP hD hS => k l D p e R s m args below meth c A H locs cells slots Z ls hC hf hl hP hD hS hZ)
end BG
/-- behind a call: the caller's other cells, and the callee's world -/
theorem b_join {A0 : Nat → Prop} {D : va_G} {cl : List vw_C} {X wc w1 : va_W} {H H1 : Heap} (hP : va_P D cl (X ++ wc) H) (hD : va_D A0 (X ++ wc)) (hk : ∀ q : Nat, q < H.size → ¬ va_A wc H.size q → H1[q]? = H[q]?) (hF : ∀ q, va_A wc H.size q → A0 q) (hP1 : va_P D cl w1 H1) (hD1 : va_D (va_A wc H.size) w1) : va_P D cl (X ++ w1) H1 ∧ va_D A0 (X ++ w1) := by
  have hX : ∀ (k : Nat) (q : Nat × va_E), X[k]? = some q → (X ++ wc)[k]? = some q := fun k q h => by
    rw [List.getElem?_append_left (List.getElem?_eq_some_iff.mp h).1]
    exact h
  have apart : ∀ (k : Nat) (q : Nat × va_E), X[k]? = some q → q.1 < H.size ∧ ¬ va_A wc H.size q.1 := by
    intro k q hq
    have h2 := hX k q hq
    have hl := (hP k q h2).lt
    refine ⟨hl, fun h => ?_⟩
    rcases h with ⟨k2, e, h⟩ | h
    · have hkl := (List.getElem?_eq_some_iff.mp hq).1
      have h4 : (X ++ wc)[X.length + k2]? = some (q.1, e) := by
        rw [List.getElem?_append_right (by omega), Nat.add_sub_cancel_left]
        exact h
      have := hD.1 k (X.length + k2) q (q.1, e) h2 h4 rfl
      omega
    · omega
  exact ⟨va_P.app (fun k q hq => (hP k q (hX k q hq)).kept (hk q.1 (apart k q hq).1 (apart k q hq).2)) hP1, va_D.app ⟨fun i j p q hi hj h => hD.1 i j p q (hX i p hi) (hX j q hj) h, fun k q hq => hD.2 k q (hX k q hq)⟩ (hD1.weaken (fun k q _ h => hF q.1 h)) (fun i j x y hx hy hxy => (apart i x hx).2 (by rw [hxy]; exact hD1.2 j y hy))⟩
/-- which cells of a suffix of the world may change -/
theorem b_free {A0 : Nat → Prop} {X wc : va_W} {H0 H : Heap} {locs : List Loc} (hD : va_D A0 (X ++ wc)) (hS : va_S A0 H0 H locs) (hA : ∀ q, H0.size ≤ q → A0 q) : ∀ q, va_A wc H.size q → A0 q := fun q h => by
  rcases h with ⟨k, e, h⟩ | h
  · have h4 : (X ++ wc)[X.length + k]? = some (q, e) := by
      rw [List.getElem?_append_right (by omega), Nat.add_sub_cancel_left]
      exact h
    exact hD.2 _ _ h4
  · exact hA q (Nat.le_trans hS.1 h)
theorem b_tail {D : va_G} {cl : List vw_C} {X wc : va_W} {H : Heap} (hP : va_P D cl (X ++ wc) H) : va_P D cl wc H := fun k q hk => hP (X.length + k) q (by
  rw [List.getElem?_append_right (by omega), Nat.add_sub_cancel_left]
  exact hk)
theorem b_tailD {A : Nat → Prop} {X wc : va_W} (hD : va_D A (X ++ wc)) : va_D A wc := by
  have h : ∀ (k : Nat) (q : Nat × va_E), wc[k]? = some q → (X ++ wc)[X.length + k]? = some q := fun k q hk => by
    rw [List.getElem?_append_right (by omega), Nat.add_sub_cancel_left]
    exact hk
  exact ⟨fun i j p q hi hj hpq => by
    have := hD.1 _ _ _ _ (h i p hi) (h j q hj) hpq
    omega, fun k q hk => hD.2 _ _ (h k q hk)⟩
def b_Pc (D : va_G) (k4 : Nat → ClassId) (sz : Nat) (as : List Value) (ws : va_W) : Array Value → State → Prop := va_Pc as (fun U => U.heap.size = sz ∧ va_P D vwCl ws U.heap ∧ va_K D vwCl (bTy k4) U ∧ (∀ w ∈ sTn, va_Nw w U) ∧ b_O U ∧ va_D (fun _ => True) ws)
def b_B (D : va_G) (A : Nat → Prop) (w1 : va_W) (t : State) : Prop := va_P D vwCl w1 t.heap ∧ va_D A w1
def b_rm (d ct sl : Nat) : Room := { frames := d, cells := ct, slots := sl, locals := 60 * d }
theorem b_blind {D : va_G} {k4 : Nat → ClassId} {sz : Nat} {as : List Value} {ws : va_W} : FrameBlind (b_Pc D k4 sz as ws) := fun a U g mk q => by
  obtain ⟨q0, q1, qP, qK, qN, qO, qD⟩ := q
  exact ⟨q0, q1, qP, va_K.moved (u := U) (U := U.calling g mk a) (Vm.Alike.refl U.vm) qK, sTn_same (u := U) (U := U.calling g mk a) rfl qN, qO.moved (U := U.calling g mk a) (Vm.Alike.refl U.vm), qD⟩
theorem b_met {mi : sMI} {n d ct sl : Nat} {k4 : Nat → ClassId} {Q : va_W → Prop} {as : List Value} {ws : va_W} (hF : s_MF mi n) (hnm : mi.1.name = "<init>") (hret : mi.2.2.2 = none) (l : Launch) {D : va_G} {sz : Nat} (hlen : (lg_sl as).length ≤ mi.2.2.1) (h : bG mi d ct sl k4 Q 0 (lv_args 0 as) [] ws) :
    Met l mi.1 (Cond.code mi.1 mi.2.1 mi.2.2.1 mi.2.2.2 :: sT) (b_rm d ct sl) (b_Pc D k4 sz as ws) (va_Qv Q (b_B D (va_A ws sz)) (va_A ws sz)) ct sl (va_A ws sz) := by
  obtain ⟨f1, f2, f3, f4, f5, f6⟩ := hF
  refine Met.ofW (cc := mi.2.1) (maxL := mi.2.2.1) (ret := mi.2.2.2) f5 rfl ?_
  intro p e s m args below meth c s₁ B hml hv
  obtain ⟨rfl, hsz, hP, hK, hN, hO, hD0⟩ := hv
  have hx := B.exec
  have hb := B.bytes
  have hr := B.returns
  have hts := atoms_spec (ws := Cond.code mi.1 mi.2.1 mi.2.2.1 mi.2.2.2 :: sT) B.pre
  have hown : s.vm.findClass mi.1.cls = some m.cls := findClass_of_methodNamed B.named
  have hlocks := B.notSynchronized
  have hin : meth.name = "<init>" := (name_of_methodNamed B.named B.method).1.trans hnm
  subst hsz
  have hD := hD0.self (sz := s.heap.size)
  have hl := lv_entry as (n := mi.2.2.1) hlen
  rw [lg_entry_eq]
  generalize (lg_sl as ++ List.replicate (mi.2.2.1 - (lg_sl as).length) Slot.unset).toArray = ls at hl ⊢
  refine h l D p e _ s m _ below meth c (va_A ws s.heap.size) s.heap [] 0 0 _ ls ⟨hx, hb, hml, hin, hown, fun w hw => hts w (List.mem_cons_of_mem _ hw), hN, hO, hK, ⟨Nat.le_refl _, Nat.le_refl _⟩, fun q hq => Or.inr hq⟩ ⟨Nat.le_of_eq (Nat.zero_add _), Nat.le_of_eq (Nat.zero_add _)⟩ hl hP hD va_S.rf ?_
  intro w1 H' locs' ls' pc' hQ hP' hD' hS' hret'
  rw [Nat.zero_add, Nat.zero_add]
  exact W.vret hx hb (hr.trans hret) (fun t ht hW => ⟨⟨w1, rfl, hQ, by rw [ht]; exact hP', hD'⟩, hS'.F ht⟩) hS'.2.2 hret'
theorem b_init {mi mi2 : sMI} {n d ct sl ct1 sl1 ct0 sl0 idx q : Nat} {k4 : Nat → ClassId} {Q Q1 : va_W → Prop} {pc : Nat} {al : List (Nat × Value)} {st sk : List Value} {X wc : va_W} (as : List Value) (hd : decode mi.2.1 pc = .ok (.invokespecial idx, 3)) (hlk : s_ML mi.1.cls idx mi2.1) (hF : s_MF mi2 n) (hI : Cond.instanceMethod mi2.1 ∈ sT) (hnm : mi2.1.name = "<init>") (hret : mi2.2.2.2 = none) (hn : as.length = n) (hlen : (lg_sl (.ref q :: as)).length ≤ mi2.2.2.1) (hst : (st.map fun v => v.category).sum ≤ 8) (hml : mi2.2.2.1 ≤ 41) (hs : sk = as.reverse ++ .ref q :: st) (h0 : ct0 = ct + ct1) (h1 : sl0 = sl + sl1)
    (body : bG mi2 d ct1 sl1 k4 Q1 0 (lv_args 0 (.ref q :: as)) [] wc) (k : ∀ w1, Q1 w1 → bG mi (d + 1) ct sl k4 Q (pc + 3) al st (X ++ w1)) : bG mi (d + 1) ct0 sl0 k4 Q pc al sk (X ++ wc) := by
  intro l D p e R s m args below meth c A H locs cells slots Z ls hC hf hl hP hD hS hZ
  subst h0
  subst h1
  subst hs
  obtain ⟨hx, hb, hmx, hin, hown, hts, hN, hO, hK, ⟨q1, q2⟩, hA⟩ := id hC
  have hFc := b_free hD hS hA
  have hM := b_met (D := D) (sz := H.size) hF hnm hret l hlen body
  have hR : (b_rm d ct1 sl1).frames + 1 ≤ R.frames ∧ 8 + (mi2.2.2.1 + 11) + (b_rm d ct1 sl1).locals ≤ R.locals := ⟨by show d + 1 ≤ _; omega, by show 8 + (mi2.2.2.1 + 11) + 60 * d ≤ _; omega⟩
  have hp : PreS s H (b_Pc D k4 H.size (.ref q :: as) wc) (.ref q :: as) := ⟨b_blind, fun U hU hW => ⟨rfl, by rw [hU], by rw [hU]; exact b_tail hP, va_K.moved hW.alike hK, sTn_warm hW hN, hO.moved hW.alike, (b_tailD hD).weaken (fun _ _ _ _ => trivial)⟩⟩
  have hroom : 2 * (F0 m pc ls (as.reverse ++ .ref q :: st)).monitorRoom + (st.map fun v => v.category).sum ≤ 8 := lv_room hst
  obtain ⟨f1, f2, f3, f4, f5, f6⟩ := id hF
  have hrun : va_Run p l e R s m args below meth c H locs cells slots ct1 sl1 (F0 m pc ls (as.reverse ++ .ref q :: st)) st ((va_Qv Q1 (b_B D (va_A wc H.size)) (va_A wc H.size)) (Value.ref q :: as).toArray) (va_A wc H.size) := by
    rcases hlk with hlk | ⟨host, hlk⟩
    · exact va_runI ⟨hx, hb, hmx, hown, hts⟩ hM (cwI n hts (s_goodc hF) (by rw [hret]) rfl rfl (hts _ f2) (hts _ hlk) (hts _ hI) hnm ⟨f3, f4, f6⟩ hR) hp rfl hn hl.1 rfl hroom hd ⟨by omega, by omega⟩
    · exact va_runIN ⟨hx, hb, hmx, hown, hts⟩ hM ⟨va_cnB n hts (s_goodc hF) (by rw [hret]) rfl rfl (hN _ hlk) (hts _ f2) ⟨f3, f4, f6⟩ hR, hnm, hts _ hI⟩ hp rfl hn hl.1 rfl hroom hd ⟨by omega, by omega⟩
  refine va_callv hrun hS (fun q _ h => hFc q h) hFc (fun w1 t H1 locs1 ht hvm hw hB hz1 hk1 hS1 => ?_)
  obtain ⟨hP1, hD1⟩ := hB
  rw [ht] at hP1
  obtain ⟨hP2, hD2⟩ := b_join hP hD hk1 hFc hP1 hD1
  exact k w1 hw l D p e R s m args below meth c A H1 locs1 (cells + ct1) (slots + sl1) Z ls hC ⟨by omega, by omega⟩ hl hP2 hD2 hS1 (by rw [show cells + ct1 + ct = cells + (ct + ct1) by omega, show slots + sl1 + sl = slots + (sl + sl1) by omega]; exact hZ)
/-- a call of a method that has its contract over a layout -/
theorem b_vcall {L : sLy} {mi mi2 : sMI} {n d ct sl idx ci r : Nat} {k4 : Nat → ClassId} {Q : va_W → Prop} {pc : Nat} {al : List (Nat × Value)} {sk : List Value} {ws : va_W} {μ : sM} {ad : Nat → Nat} {cA : Nat → ClassId} {fl : List Nat} {T : u_T} {N : Nat} {f : sM → Prop} (as st : List sAV) (hd : decode mi.2.1 pc = .ok (.invokevirtual idx, 3)) (hlk : s_ML mi.1.cls idx mi2.1) (hF : s_MF mi2 n) (hV : s_MV mi2) (hr : L.1[r]? = some (sO_ ci fl)) (hc : vwCl[ci]? = some (mi2.1.cls, T, N)) (hn : as.length = n) (hlen : (s_ent (sR r :: as)).length ≤ mi2.2.2.1) (hst : (st.map s_cat).sum ≤ 8) (hml : mi2.2.2.1 ≤ 41) (hT : ∀ r k, L.1[r]? = some k → (∃ n, k = sA_ n) ∨ (∃ n b, k = sQ_ n b) → (cA r, L.2 r) ∈ bTy k4) (hs : sk = (as.reverse ++ sR r :: st).map (s_av ad)) (hw : ws = s_W L.1 ad cA μ)
    (h : sCl L mi2 d (sR r :: as) μ (kV f)) (k : ∀ μ', f μ' → bG mi (d + 1) ct sl k4 Q (pc + 3) al (st.map (s_av ad)) (s_W L.1 ad cA μ')) : bG mi (d + 1) ct sl k4 Q pc al sk ws := by
  intro l D p e R s m args below meth c A H locs cells slots Z ls hC hf hl hP hD hS hZ
  subst hs
  subst hw
  obtain ⟨hx, hb, hmx, hin, hown, hts, hN, hO, hK, ⟨q1, q2⟩, hA⟩ := id hC
  have hC2 : s_C L mi (d + 1) D (bTy k4) cA p R s m args c A cells slots := ⟨hx, hb, hmx, hown, hts, hN, hK, hT, ⟨q1, q2, by omega, by omega⟩, hA⟩
  have hFc := s_free (D := D) hD hS hA
  have hM := s_metV (D := D) (tys := bTy k4) (ad := ad) (cA := cA) (sz := H.size) hF l hT hlen h
  have hl2 : lv_has ls mi.2.2.1 (s_ll ad 0 []) := ⟨hl.1, hl.2.1, fun _ q => by cases q⟩
  refine va_callv (s_runV hC2 hl2 hP hD hd hlk hF hV hr hc hn hst hml hM) hS (fun q _ h => hFc q h) hFc (fun u t H1 locs1 ht hvm hw hB hz1 hk1 hS1 => ?_)
  obtain ⟨hP1, hD1⟩ := hB
  rw [ht] at hP1
  exact k u hw l D p e R s m args below meth c A H1 locs1 cells slots Z ls hC hf hl hP1 (hD1.weaken (fun _ _ _ h => hFc _ h)) hS1 hZ
