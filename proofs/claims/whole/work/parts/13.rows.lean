-- ROWS OF sG: an instruction each (printed by wip/whole/gen_rows.py)
theorem g_iconst {L : sLy} {mi : sMI} {d : Nat} {Q : Option sAV → sM → Prop} {pc : Nat} {al : List (Option sAV)} {st : List sAV} {μ : sM} {n : Int} (v : Int32) (hd : decode mi.2.1 pc = .ok (.iconst n, 1)) (hv : Int32.ofInt n = v) (k : sG L mi d Q (pc + 1) al (sI v :: st) μ) : sG L mi d Q pc al (st) μ := by
  intro l D tys ad cA p e R s m args below meth c A H locs cells slots Z ls hC hl hP hD hS hZ
  exact lv_iconst hC.1 hC.2.1 hd hv (k l D tys ad cA p e R s m args below meth c A H locs cells slots Z ls hC hl hP hD hS hZ)
theorem g_bipush {L : sLy} {mi : sMI} {d : Nat} {Q : Option sAV → sM → Prop} {pc : Nat} {al : List (Option sAV)} {st : List sAV} {μ : sM} {n : Int} (v : Int32) (hd : decode mi.2.1 pc = .ok (.bipush n, 2)) (hv : (Int8.ofInt n).toInt32 = v) (k : sG L mi d Q (pc + 2) al (sI v :: st) μ) : sG L mi d Q pc al (st) μ := by
  intro l D tys ad cA p e R s m args below meth c A H locs cells slots Z ls hC hl hP hD hS hZ
  exact lv_bipush hC.1 hC.2.1 hd hv (k l D tys ad cA p e R s m args below meth c A H locs cells slots Z ls hC hl hP hD hS hZ)
theorem g_sipush {L : sLy} {mi : sMI} {d : Nat} {Q : Option sAV → sM → Prop} {pc : Nat} {al : List (Option sAV)} {st : List sAV} {μ : sM} {n : Int} (v : Int32) (hd : decode mi.2.1 pc = .ok (.sipush n, 3)) (hv : (Int16.ofInt n).toInt32 = v) (k : sG L mi d Q (pc + 3) al (sI v :: st) μ) : sG L mi d Q pc al (st) μ := by
  intro l D tys ad cA p e R s m args below meth c A H locs cells slots Z ls hC hl hP hD hS hZ
  exact lv_sipush hC.1 hC.2.1 hd hv (k l D tys ad cA p e R s m args below meth c A H locs cells slots Z ls hC hl hP hD hS hZ)
theorem g_lconst {L : sLy} {mi : sMI} {d : Nat} {Q : Option sAV → sM → Prop} {pc : Nat} {al : List (Option sAV)} {st : List sAV} {μ : sM} {n : Fin 2} (v : Int64) (hd : decode mi.2.1 pc = .ok (.lconst n, 1)) (hv : Int64.ofNat (n : Nat) = v) (k : sG L mi d Q (pc + 1) al (sL v :: st) μ) : sG L mi d Q pc al (st) μ := by
  intro l D tys ad cA p e R s m args below meth c A H locs cells slots Z ls hC hl hP hD hS hZ
  exact lv_lconst hC.1 hC.2.1 hd hv (k l D tys ad cA p e R s m args below meth c A H locs cells slots Z ls hC hl hP hD hS hZ)
theorem g_ldc {L : sLy} {mi : sMI} {d : Nat} {Q : Option sAV → sM → Prop} {pc : Nat} {al : List (Option sAV)} {st : List sAV} {μ : sM} {i : Nat} {v : Int32} (hd : decode mi.2.1 pc = .ok (.ldc i, 2)) (hw : Cond.constant mi.1.cls i v ∈ sT) (k : sG L mi d Q (pc + 2) al (sI v :: st) μ) : sG L mi d Q pc al st μ := by
  intro l D tys ad cA p e R s m args below meth c A H locs cells slots Z ls hC hl hP hD hS hZ
  exact lv_ldc hC.1 hC.2.1 hC.2.2.2.1 (hC.2.2.2.2.1 _ hw) hd (k l D tys ad cA p e R s m args below meth c A H locs cells slots Z ls hC hl hP hD hS hZ)
theorem g_ldcw {L : sLy} {mi : sMI} {d : Nat} {Q : Option sAV → sM → Prop} {pc : Nat} {al : List (Option sAV)} {st : List sAV} {μ : sM} {i : Nat} {v : Int32} (hd : decode mi.2.1 pc = .ok (.ldc_w i, 3)) (hw : Cond.constant mi.1.cls i v ∈ sT) (k : sG L mi d Q (pc + 3) al (sI v :: st) μ) : sG L mi d Q pc al st μ := by
  intro l D tys ad cA p e R s m args below meth c A H locs cells slots Z ls hC hl hP hD hS hZ
  exact lv_ldcw hC.1 hC.2.1 hC.2.2.2.1 (hC.2.2.2.2.1 _ hw) hd (k l D tys ad cA p e R s m args below meth c A H locs cells slots Z ls hC hl hP hD hS hZ)
theorem g_ldc2 {L : sLy} {mi : sMI} {d : Nat} {Q : Option sAV → sM → Prop} {pc : Nat} {al : List (Option sAV)} {st : List sAV} {μ : sM} {i : Nat} {v : Int64} (hd : decode mi.2.1 pc = .ok (.ldc2_w i, 3)) (hw : Cond.constantLong mi.1.cls i v ∈ sT) (k : sG L mi d Q (pc + 3) al (sL v :: st) μ) : sG L mi d Q pc al st μ := by
  intro l D tys ad cA p e R s m args below meth c A H locs cells slots Z ls hC hl hP hD hS hZ
  exact lv_ldc2 hC.1 hC.2.1 hC.2.2.2.1 (hC.2.2.2.2.1 _ hw) hd (k l D tys ad cA p e R s m args below meth c A H locs cells slots Z ls hC hl hP hD hS hZ)
theorem g_iload_n {L : sLy} {mi : sMI} {d : Nat} {Q : Option sAV → sM → Prop} {pc : Nat} {al : List (Option sAV)} {st : List sAV} {μ : sM} {k4 : Fin 4} {x : Int32} (hd : decode mi.2.1 pc = .ok (.iload_n k4, 1)) (ha : al[(k4 : Nat)]? = some (some (sI x))) (k : sG L mi d Q (pc + 1) al (sI x :: st) μ) : sG L mi d Q pc al st μ := by
  intro l D tys ad cA p e R s m args below meth c A H locs cells slots Z ls hC hl hP hD hS hZ
  exact lv_iload_n hC.1 hC.2.1 hd rfl (s_lv_at hl ha) (k l D tys ad cA p e R s m args below meth c A H locs cells slots Z ls hC hl hP hD hS hZ)
theorem g_iload {L : sLy} {mi : sMI} {d : Nat} {Q : Option sAV → sM → Prop} {pc : Nat} {al : List (Option sAV)} {st : List sAV} {μ : sM} {i : Nat} {x : Int32} (hd : decode mi.2.1 pc = .ok (.iload i, 2)) (ha : al[i]? = some (some (sI x))) (k : sG L mi d Q (pc + 2) al (sI x :: st) μ) : sG L mi d Q pc al st μ := by
  intro l D tys ad cA p e R s m args below meth c A H locs cells slots Z ls hC hl hP hD hS hZ
  exact lv_iload hC.1 hC.2.1 hd (s_lv_at hl ha) (k l D tys ad cA p e R s m args below meth c A H locs cells slots Z ls hC hl hP hD hS hZ)
theorem g_lload_n {L : sLy} {mi : sMI} {d : Nat} {Q : Option sAV → sM → Prop} {pc : Nat} {al : List (Option sAV)} {st : List sAV} {μ : sM} {k4 : Fin 4} {x : Int64} (hd : decode mi.2.1 pc = .ok (.lload_n k4, 1)) (ha : al[(k4 : Nat)]? = some (some (sL x))) (k : sG L mi d Q (pc + 1) al (sL x :: st) μ) : sG L mi d Q pc al st μ := by
  intro l D tys ad cA p e R s m args below meth c A H locs cells slots Z ls hC hl hP hD hS hZ
  exact lv_lload_n hC.1 hC.2.1 hd rfl (s_lv_at hl ha) (k l D tys ad cA p e R s m args below meth c A H locs cells slots Z ls hC hl hP hD hS hZ)
theorem g_lload {L : sLy} {mi : sMI} {d : Nat} {Q : Option sAV → sM → Prop} {pc : Nat} {al : List (Option sAV)} {st : List sAV} {μ : sM} {i : Nat} {x : Int64} (hd : decode mi.2.1 pc = .ok (.lload i, 2)) (ha : al[i]? = some (some (sL x))) (k : sG L mi d Q (pc + 2) al (sL x :: st) μ) : sG L mi d Q pc al st μ := by
  intro l D tys ad cA p e R s m args below meth c A H locs cells slots Z ls hC hl hP hD hS hZ
  exact lv_lload hC.1 hC.2.1 hd (s_lv_at hl ha) (k l D tys ad cA p e R s m args below meth c A H locs cells slots Z ls hC hl hP hD hS hZ)
theorem g_aload_n {L : sLy} {mi : sMI} {d : Nat} {Q : Option sAV → sM → Prop} {pc : Nat} {al : List (Option sAV)} {st : List sAV} {μ : sM} {k4 : Fin 4} {x : Nat} (hd : decode mi.2.1 pc = .ok (.aload_n k4, 1)) (ha : al[(k4 : Nat)]? = some (some (sR x))) (k : sG L mi d Q (pc + 1) al (sR x :: st) μ) : sG L mi d Q pc al st μ := by
  intro l D tys ad cA p e R s m args below meth c A H locs cells slots Z ls hC hl hP hD hS hZ
  exact lv_aload_n hC.1 hC.2.1 hd rfl (s_lv_at hl ha) (k l D tys ad cA p e R s m args below meth c A H locs cells slots Z ls hC hl hP hD hS hZ)
theorem g_aload {L : sLy} {mi : sMI} {d : Nat} {Q : Option sAV → sM → Prop} {pc : Nat} {al : List (Option sAV)} {st : List sAV} {μ : sM} {i : Nat} {x : Nat} (hd : decode mi.2.1 pc = .ok (.aload i, 2)) (ha : al[i]? = some (some (sR x))) (k : sG L mi d Q (pc + 2) al (sR x :: st) μ) : sG L mi d Q pc al st μ := by
  intro l D tys ad cA p e R s m args below meth c A H locs cells slots Z ls hC hl hP hD hS hZ
  exact lv_aload hC.1 hC.2.1 hd (s_lv_at hl ha) (k l D tys ad cA p e R s m args below meth c A H locs cells slots Z ls hC hl hP hD hS hZ)
theorem g_istore_n {L : sLy} {mi : sMI} {d : Nat} {Q : Option sAV → sM → Prop} {pc : Nat} {al : List (Option sAV)} {st : List sAV} {μ : sM} {k4 : Fin 4} {i : Nat} {x : Int32} (al2 : List (Option sAV)) (hd : decode mi.2.1 pc = .ok (.istore_n k4, 1)) (hi : (k4 : Nat) = i) (hn : i < mi.2.2.1) (h2 : s_st1 al i (sI x) = al2) (k : sG L mi d Q (pc + 1) al2 st μ) : sG L mi d Q pc al (sI x :: st) μ := by
  intro l D tys ad cA p e R s m args below meth c A H locs cells slots Z ls hC hl hP hD hS hZ
  subst h2
  exact lv_istore_n hC.1 hC.2.1 hd hi hl hn rfl (fun ls hl => k l D tys ad cA p e R s m args below meth c A H locs cells slots Z ls hC (s_lv_sub hl s_st1_in) hP hD hS hZ)
theorem g_istore {L : sLy} {mi : sMI} {d : Nat} {Q : Option sAV → sM → Prop} {pc : Nat} {al : List (Option sAV)} {st : List sAV} {μ : sM} {i : Nat} {x : Int32} (al2 : List (Option sAV)) (hd : decode mi.2.1 pc = .ok (.istore i, 2)) (hn : i < mi.2.2.1) (h2 : s_st1 al i (sI x) = al2) (k : sG L mi d Q (pc + 2) al2 st μ) : sG L mi d Q pc al (sI x :: st) μ := by
  intro l D tys ad cA p e R s m args below meth c A H locs cells slots Z ls hC hl hP hD hS hZ
  subst h2
  exact lv_istore hC.1 hC.2.1 hd hl hn rfl (fun ls hl => k l D tys ad cA p e R s m args below meth c A H locs cells slots Z ls hC (s_lv_sub hl s_st1_in) hP hD hS hZ)
theorem g_lstore_n {L : sLy} {mi : sMI} {d : Nat} {Q : Option sAV → sM → Prop} {pc : Nat} {al : List (Option sAV)} {st : List sAV} {μ : sM} {k4 : Fin 4} {i : Nat} {x : Int64} (al2 : List (Option sAV)) (hd : decode mi.2.1 pc = .ok (.lstore_n k4, 1)) (hi : (k4 : Nat) = i) (hn : i + 1 < mi.2.2.1) (h2 : s_st2 al i (sL x) = al2) (k : sG L mi d Q (pc + 1) al2 st μ) : sG L mi d Q pc al (sL x :: st) μ := by
  intro l D tys ad cA p e R s m args below meth c A H locs cells slots Z ls hC hl hP hD hS hZ
  subst h2
  exact lv_lstore_n hC.1 hC.2.1 hd hi hl hn rfl (fun ls hl => k l D tys ad cA p e R s m args below meth c A H locs cells slots Z ls hC (s_lv_sub hl s_st2_in) hP hD hS hZ)
theorem g_lstore {L : sLy} {mi : sMI} {d : Nat} {Q : Option sAV → sM → Prop} {pc : Nat} {al : List (Option sAV)} {st : List sAV} {μ : sM} {i : Nat} {x : Int64} (al2 : List (Option sAV)) (hd : decode mi.2.1 pc = .ok (.lstore i, 2)) (hn : i + 1 < mi.2.2.1) (h2 : s_st2 al i (sL x) = al2) (k : sG L mi d Q (pc + 2) al2 st μ) : sG L mi d Q pc al (sL x :: st) μ := by
  intro l D tys ad cA p e R s m args below meth c A H locs cells slots Z ls hC hl hP hD hS hZ
  subst h2
  exact lv_lstore hC.1 hC.2.1 hd hl hn rfl (fun ls hl => k l D tys ad cA p e R s m args below meth c A H locs cells slots Z ls hC (s_lv_sub hl s_st2_in) hP hD hS hZ)
theorem g_iinc {L : sLy} {mi : sMI} {d : Nat} {Q : Option sAV → sM → Prop} {pc : Nat} {al : List (Option sAV)} {st : List sAV} {μ : sM} {i : Nat} {n : Int} {x : Int32} (v : Int32) (al2 : List (Option sAV)) (hd : decode mi.2.1 pc = .ok (.iinc i n, 3)) (ha : al[i]? = some (some (sI x))) (hv : x + Int32.ofInt n = v) (hn : i < mi.2.2.1) (h2 : s_st1 al i (sI v) = al2) (k : sG L mi d Q (pc + 3) al2 st μ) : sG L mi d Q pc al st μ := by
  intro l D tys ad cA p e R s m args below meth c A H locs cells slots Z ls hC hl hP hD hS hZ
  subst h2
  obtain ⟨j, hj⟩ := List.getElem?_of_mem (s_ll_mem.mpr ⟨i, sI x, (Nat.zero_add i).symm, ha, rfl⟩ : (i, s_av ad (sI x)) ∈ s_ll ad 0 al)
  exact lv_iinc hC.1 hC.2.1 hd hl hj hv hn rfl (fun ls hl => k l D tys ad cA p e R s m args below meth c A H locs cells slots Z ls hC (s_lv_sub hl s_st1_in) hP hD hS hZ)
theorem g_iadd {L : sLy} {mi : sMI} {d : Nat} {Q : Option sAV → sM → Prop} {pc : Nat} {al : List (Option sAV)} {st : List sAV} {μ : sM} {x y : Int32} (hd : decode mi.2.1 pc = .ok (.iadd, 1))  (k : sG L mi d Q (pc + 1) al (sI (x + y) :: st) μ) : sG L mi d Q pc al (sI y :: sI x :: st) μ := by
  intro l D tys ad cA p e R s m args below meth c A H locs cells slots Z ls hC hl hP hD hS hZ
  exact lv_iadd hC.1 hC.2.1 hd (k l D tys ad cA p e R s m args below meth c A H locs cells slots Z ls hC hl hP hD hS hZ)
theorem g_isub {L : sLy} {mi : sMI} {d : Nat} {Q : Option sAV → sM → Prop} {pc : Nat} {al : List (Option sAV)} {st : List sAV} {μ : sM} {x y : Int32} (hd : decode mi.2.1 pc = .ok (.isub, 1))  (k : sG L mi d Q (pc + 1) al (sI (x - y) :: st) μ) : sG L mi d Q pc al (sI y :: sI x :: st) μ := by
  intro l D tys ad cA p e R s m args below meth c A H locs cells slots Z ls hC hl hP hD hS hZ
  exact lv_isub hC.1 hC.2.1 hd (k l D tys ad cA p e R s m args below meth c A H locs cells slots Z ls hC hl hP hD hS hZ)
theorem g_imul {L : sLy} {mi : sMI} {d : Nat} {Q : Option sAV → sM → Prop} {pc : Nat} {al : List (Option sAV)} {st : List sAV} {μ : sM} {x y : Int32} (hd : decode mi.2.1 pc = .ok (.imul, 1))  (k : sG L mi d Q (pc + 1) al (sI (x * y) :: st) μ) : sG L mi d Q pc al (sI y :: sI x :: st) μ := by
  intro l D tys ad cA p e R s m args below meth c A H locs cells slots Z ls hC hl hP hD hS hZ
  exact lv_imul hC.1 hC.2.1 hd (k l D tys ad cA p e R s m args below meth c A H locs cells slots Z ls hC hl hP hD hS hZ)
theorem g_iand {L : sLy} {mi : sMI} {d : Nat} {Q : Option sAV → sM → Prop} {pc : Nat} {al : List (Option sAV)} {st : List sAV} {μ : sM} {x y : Int32} (hd : decode mi.2.1 pc = .ok (.iand, 1))  (k : sG L mi d Q (pc + 1) al (sI (x &&& y) :: st) μ) : sG L mi d Q pc al (sI y :: sI x :: st) μ := by
  intro l D tys ad cA p e R s m args below meth c A H locs cells slots Z ls hC hl hP hD hS hZ
  exact lv_iand hC.1 hC.2.1 hd (k l D tys ad cA p e R s m args below meth c A H locs cells slots Z ls hC hl hP hD hS hZ)
theorem g_ior {L : sLy} {mi : sMI} {d : Nat} {Q : Option sAV → sM → Prop} {pc : Nat} {al : List (Option sAV)} {st : List sAV} {μ : sM} {x y : Int32} (hd : decode mi.2.1 pc = .ok (.ior, 1))  (k : sG L mi d Q (pc + 1) al (sI (x ||| y) :: st) μ) : sG L mi d Q pc al (sI y :: sI x :: st) μ := by
  intro l D tys ad cA p e R s m args below meth c A H locs cells slots Z ls hC hl hP hD hS hZ
  exact lv_ior hC.1 hC.2.1 hd (k l D tys ad cA p e R s m args below meth c A H locs cells slots Z ls hC hl hP hD hS hZ)
theorem g_ixor {L : sLy} {mi : sMI} {d : Nat} {Q : Option sAV → sM → Prop} {pc : Nat} {al : List (Option sAV)} {st : List sAV} {μ : sM} {x y : Int32} (hd : decode mi.2.1 pc = .ok (.ixor, 1))  (k : sG L mi d Q (pc + 1) al (sI (x ^^^ y) :: st) μ) : sG L mi d Q pc al (sI y :: sI x :: st) μ := by
  intro l D tys ad cA p e R s m args below meth c A H locs cells slots Z ls hC hl hP hD hS hZ
  exact lv_ixor hC.1 hC.2.1 hd (k l D tys ad cA p e R s m args below meth c A H locs cells slots Z ls hC hl hP hD hS hZ)
theorem g_ishl {L : sLy} {mi : sMI} {d : Nat} {Q : Option sAV → sM → Prop} {pc : Nat} {al : List (Option sAV)} {st : List sAV} {μ : sM} {x y : Int32} (hd : decode mi.2.1 pc = .ok (.ishl, 1))  (k : sG L mi d Q (pc + 1) al (sI (x <<< (y &&& 31)) :: st) μ) : sG L mi d Q pc al (sI y :: sI x :: st) μ := by
  intro l D tys ad cA p e R s m args below meth c A H locs cells slots Z ls hC hl hP hD hS hZ
  exact lv_ishl hC.1 hC.2.1 hd (k l D tys ad cA p e R s m args below meth c A H locs cells slots Z ls hC hl hP hD hS hZ)
theorem g_ishr {L : sLy} {mi : sMI} {d : Nat} {Q : Option sAV → sM → Prop} {pc : Nat} {al : List (Option sAV)} {st : List sAV} {μ : sM} {x y : Int32} (hd : decode mi.2.1 pc = .ok (.ishr, 1))  (k : sG L mi d Q (pc + 1) al (sI (x >>> (y &&& 31)) :: st) μ) : sG L mi d Q pc al (sI y :: sI x :: st) μ := by
  intro l D tys ad cA p e R s m args below meth c A H locs cells slots Z ls hC hl hP hD hS hZ
  exact lv_ishr hC.1 hC.2.1 hd (k l D tys ad cA p e R s m args below meth c A H locs cells slots Z ls hC hl hP hD hS hZ)
theorem g_iushr {L : sLy} {mi : sMI} {d : Nat} {Q : Option sAV → sM → Prop} {pc : Nat} {al : List (Option sAV)} {st : List sAV} {μ : sM} {x y : Int32} (hd : decode mi.2.1 pc = .ok (.iushr, 1))  (k : sG L mi d Q (pc + 1) al (sI ((x.toUInt32 >>> (y.toUInt32 &&& Int32.toUInt32 31)).toInt32) :: st) μ) : sG L mi d Q pc al (sI y :: sI x :: st) μ := by
  intro l D tys ad cA p e R s m args below meth c A H locs cells slots Z ls hC hl hP hD hS hZ
  exact lv_iushr hC.1 hC.2.1 hd rfl (k l D tys ad cA p e R s m args below meth c A H locs cells slots Z ls hC hl hP hD hS hZ)
theorem g_ineg {L : sLy} {mi : sMI} {d : Nat} {Q : Option sAV → sM → Prop} {pc : Nat} {al : List (Option sAV)} {st : List sAV} {μ : sM} {x : Int32} (hd : decode mi.2.1 pc = .ok (.ineg, 1))  (k : sG L mi d Q (pc + 1) al (sI (-x) :: st) μ) : sG L mi d Q pc al (sI x :: st) μ := by
  intro l D tys ad cA p e R s m args below meth c A H locs cells slots Z ls hC hl hP hD hS hZ
  exact lv_ineg hC.1 hC.2.1 hd (k l D tys ad cA p e R s m args below meth c A H locs cells slots Z ls hC hl hP hD hS hZ)
theorem g_idiv {L : sLy} {mi : sMI} {d : Nat} {Q : Option sAV → sM → Prop} {pc : Nat} {al : List (Option sAV)} {st : List sAV} {μ : sM} {x y : Int32} (hd : decode mi.2.1 pc = .ok (.idiv, 1)) (hne : ¬ y = 0) (k : sG L mi d Q (pc + 1) al (sI (x / y) :: st) μ) : sG L mi d Q pc al (sI y :: sI x :: st) μ := by
  intro l D tys ad cA p e R s m args below meth c A H locs cells slots Z ls hC hl hP hD hS hZ
  exact lv_idiv hC.1 hC.2.1 hd hne (k l D tys ad cA p e R s m args below meth c A H locs cells slots Z ls hC hl hP hD hS hZ)
theorem g_irem {L : sLy} {mi : sMI} {d : Nat} {Q : Option sAV → sM → Prop} {pc : Nat} {al : List (Option sAV)} {st : List sAV} {μ : sM} {x y : Int32} (hd : decode mi.2.1 pc = .ok (.irem, 1)) (hne : ¬ y = 0) (k : sG L mi d Q (pc + 1) al (sI (x - x / y * y) :: st) μ) : sG L mi d Q pc al (sI y :: sI x :: st) μ := by
  intro l D tys ad cA p e R s m args below meth c A H locs cells slots Z ls hC hl hP hD hS hZ
  exact lv_irem hC.1 hC.2.1 hd hne (k l D tys ad cA p e R s m args below meth c A H locs cells slots Z ls hC hl hP hD hS hZ)
theorem g_ladd {L : sLy} {mi : sMI} {d : Nat} {Q : Option sAV → sM → Prop} {pc : Nat} {al : List (Option sAV)} {st : List sAV} {μ : sM} {x y : Int64} (hd : decode mi.2.1 pc = .ok (.ladd, 1))  (k : sG L mi d Q (pc + 1) al (sL (x + y) :: st) μ) : sG L mi d Q pc al (sL y :: sL x :: st) μ := by
  intro l D tys ad cA p e R s m args below meth c A H locs cells slots Z ls hC hl hP hD hS hZ
  exact lv_ladd hC.1 hC.2.1 hd (k l D tys ad cA p e R s m args below meth c A H locs cells slots Z ls hC hl hP hD hS hZ)
theorem g_lsub {L : sLy} {mi : sMI} {d : Nat} {Q : Option sAV → sM → Prop} {pc : Nat} {al : List (Option sAV)} {st : List sAV} {μ : sM} {x y : Int64} (hd : decode mi.2.1 pc = .ok (.lsub, 1))  (k : sG L mi d Q (pc + 1) al (sL (x - y) :: st) μ) : sG L mi d Q pc al (sL y :: sL x :: st) μ := by
  intro l D tys ad cA p e R s m args below meth c A H locs cells slots Z ls hC hl hP hD hS hZ
  exact lv_lsub hC.1 hC.2.1 hd (k l D tys ad cA p e R s m args below meth c A H locs cells slots Z ls hC hl hP hD hS hZ)
theorem g_lmul {L : sLy} {mi : sMI} {d : Nat} {Q : Option sAV → sM → Prop} {pc : Nat} {al : List (Option sAV)} {st : List sAV} {μ : sM} {x y : Int64} (hd : decode mi.2.1 pc = .ok (.lmul, 1))  (k : sG L mi d Q (pc + 1) al (sL (x * y) :: st) μ) : sG L mi d Q pc al (sL y :: sL x :: st) μ := by
  intro l D tys ad cA p e R s m args below meth c A H locs cells slots Z ls hC hl hP hD hS hZ
  exact lv_lmul hC.1 hC.2.1 hd (k l D tys ad cA p e R s m args below meth c A H locs cells slots Z ls hC hl hP hD hS hZ)
theorem g_ldiv {L : sLy} {mi : sMI} {d : Nat} {Q : Option sAV → sM → Prop} {pc : Nat} {al : List (Option sAV)} {st : List sAV} {μ : sM} {x y : Int64} (hd : decode mi.2.1 pc = .ok (.ldiv, 1)) (hne : ¬ y = 0) (k : sG L mi d Q (pc + 1) al (sL (x / y) :: st) μ) : sG L mi d Q pc al (sL y :: sL x :: st) μ := by
  intro l D tys ad cA p e R s m args below meth c A H locs cells slots Z ls hC hl hP hD hS hZ
  exact lv_ldiv hC.1 hC.2.1 hd hne (k l D tys ad cA p e R s m args below meth c A H locs cells slots Z ls hC hl hP hD hS hZ)
theorem g_lrem {L : sLy} {mi : sMI} {d : Nat} {Q : Option sAV → sM → Prop} {pc : Nat} {al : List (Option sAV)} {st : List sAV} {μ : sM} {x y : Int64} (hd : decode mi.2.1 pc = .ok (.lrem, 1)) (hne : ¬ y = 0) (k : sG L mi d Q (pc + 1) al (sL (x - x / y * y) :: st) μ) : sG L mi d Q pc al (sL y :: sL x :: st) μ := by
  intro l D tys ad cA p e R s m args below meth c A H locs cells slots Z ls hC hl hP hD hS hZ
  exact lv_lrem hC.1 hC.2.1 hd hne (k l D tys ad cA p e R s m args below meth c A H locs cells slots Z ls hC hl hP hD hS hZ)
theorem g_lcmp {L : sLy} {mi : sMI} {d : Nat} {Q : Option sAV → sM → Prop} {pc : Nat} {al : List (Option sAV)} {st : List sAV} {μ : sM} {x y : Int64} (hd : decode mi.2.1 pc = .ok (.lcmp, 1))  (k : sG L mi d Q (pc + 1) al (sI (lg_cmp x y) :: st) μ) : sG L mi d Q pc al (sL y :: sL x :: st) μ := by
  intro l D tys ad cA p e R s m args below meth c A H locs cells slots Z ls hC hl hP hD hS hZ
  exact W.lcmp hC.1 hC.2.1 hd (k l D tys ad cA p e R s m args below meth c A H locs cells slots Z ls hC hl hP hD hS hZ)
theorem g_i2l {L : sLy} {mi : sMI} {d : Nat} {Q : Option sAV → sM → Prop} {pc : Nat} {al : List (Option sAV)} {st : List sAV} {μ : sM} {x : Int32} (hd : decode mi.2.1 pc = .ok (.i2l, 1))  (k : sG L mi d Q (pc + 1) al (sL x.toInt64 :: st) μ) : sG L mi d Q pc al (sI x :: st) μ := by
  intro l D tys ad cA p e R s m args below meth c A H locs cells slots Z ls hC hl hP hD hS hZ
  exact lv_i2l hC.1 hC.2.1 hd rfl (k l D tys ad cA p e R s m args below meth c A H locs cells slots Z ls hC hl hP hD hS hZ)
theorem g_l2i {L : sLy} {mi : sMI} {d : Nat} {Q : Option sAV → sM → Prop} {pc : Nat} {al : List (Option sAV)} {st : List sAV} {μ : sM} {x : Int64} (hd : decode mi.2.1 pc = .ok (.l2i, 1))  (k : sG L mi d Q (pc + 1) al (sI x.toInt32 :: st) μ) : sG L mi d Q pc al (sL x :: st) μ := by
  intro l D tys ad cA p e R s m args below meth c A H locs cells slots Z ls hC hl hP hD hS hZ
  exact lv_l2i hC.1 hC.2.1 hd rfl (k l D tys ad cA p e R s m args below meth c A H locs cells slots Z ls hC hl hP hD hS hZ)
theorem g_dup_i {L : sLy} {mi : sMI} {d : Nat} {Q : Option sAV → sM → Prop} {pc : Nat} {al : List (Option sAV)} {st : List sAV} {μ : sM} {x : Int32} (hd : decode mi.2.1 pc = .ok (.dup, 1))  (k : sG L mi d Q (pc + 1) al (sI x :: sI x :: st) μ) : sG L mi d Q pc al (sI x :: st) μ := by
  intro l D tys ad cA p e R s m args below meth c A H locs cells slots Z ls hC hl hP hD hS hZ
  exact lv_dup hC.1 hC.2.1 hd rfl (k l D tys ad cA p e R s m args below meth c A H locs cells slots Z ls hC hl hP hD hS hZ)
theorem g_dup_r {L : sLy} {mi : sMI} {d : Nat} {Q : Option sAV → sM → Prop} {pc : Nat} {al : List (Option sAV)} {st : List sAV} {μ : sM} {x : Nat} (hd : decode mi.2.1 pc = .ok (.dup, 1))  (k : sG L mi d Q (pc + 1) al (sR x :: sR x :: st) μ) : sG L mi d Q pc al (sR x :: st) μ := by
  intro l D tys ad cA p e R s m args below meth c A H locs cells slots Z ls hC hl hP hD hS hZ
  exact lv_dup hC.1 hC.2.1 hd rfl (k l D tys ad cA p e R s m args below meth c A H locs cells slots Z ls hC hl hP hD hS hZ)
theorem g_dup2 {L : sLy} {mi : sMI} {d : Nat} {Q : Option sAV → sM → Prop} {pc : Nat} {al : List (Option sAV)} {st : List sAV} {μ : sM} {x : Int32} {r : Nat} (hd : decode mi.2.1 pc = .ok (.dup2, 1))  (k : sG L mi d Q (pc + 1) al (sI x :: sR r :: sI x :: sR r :: st) μ) : sG L mi d Q pc al (sI x :: sR r :: st) μ := by
  intro l D tys ad cA p e R s m args below meth c A H locs cells slots Z ls hC hl hP hD hS hZ
  exact lv_dup2_11 hC.1 hC.2.1 hd rfl rfl (k l D tys ad cA p e R s m args below meth c A H locs cells slots Z ls hC hl hP hD hS hZ)
theorem g_if_eq {L : sLy} {mi : sMI} {d : Nat} {Q : Option sAV → sM → Prop} {pc : Nat} {al : List (Option sAV)} {st : List sAV} {μ : sM} {x : Int32} {off : Int} (tgt : Nat) (hd : decode mi.2.1 pc = .ok (.ifCond .eq off, 3)) (ht : (pc : Int) + off = (tgt : Int)) (kt : x = 0 → sG L mi d Q tgt al st μ) (kf : ¬ x = 0 → sG L mi d Q (pc + 3) al st μ) : sG L mi d Q pc al (sI x :: st) μ := by
  intro l D tys ad cA p e R s m args below meth c A H locs cells slots Z ls hC hl hP hD hS hZ
  exact lv_if_eq hC.1 hC.2.1 hd ht (fun q => kt q l D tys ad cA p e R s m args below meth c A H locs cells slots Z ls hC hl hP hD hS hZ) (fun q => kf q l D tys ad cA p e R s m args below meth c A H locs cells slots Z ls hC hl hP hD hS hZ)
theorem g_icmp_eq {L : sLy} {mi : sMI} {d : Nat} {Q : Option sAV → sM → Prop} {pc : Nat} {al : List (Option sAV)} {st : List sAV} {μ : sM} {x y : Int32} {off : Int} (tgt : Nat) (hd : decode mi.2.1 pc = .ok (.if_icmp .eq off, 3)) (ht : (pc : Int) + off = (tgt : Int)) (kt : x = y → sG L mi d Q tgt al st μ) (kf : ¬ x = y → sG L mi d Q (pc + 3) al st μ) : sG L mi d Q pc al (sI y :: sI x :: st) μ := by
  intro l D tys ad cA p e R s m args below meth c A H locs cells slots Z ls hC hl hP hD hS hZ
  exact lv_icmp_eq hC.1 hC.2.1 hd ht (fun q => kt q l D tys ad cA p e R s m args below meth c A H locs cells slots Z ls hC hl hP hD hS hZ) (fun q => kf q l D tys ad cA p e R s m args below meth c A H locs cells slots Z ls hC hl hP hD hS hZ)
theorem g_if_ne {L : sLy} {mi : sMI} {d : Nat} {Q : Option sAV → sM → Prop} {pc : Nat} {al : List (Option sAV)} {st : List sAV} {μ : sM} {x : Int32} {off : Int} (tgt : Nat) (hd : decode mi.2.1 pc = .ok (.ifCond .ne off, 3)) (ht : (pc : Int) + off = (tgt : Int)) (kt : ¬ x = 0 → sG L mi d Q tgt al st μ) (kf : x = 0 → sG L mi d Q (pc + 3) al st μ) : sG L mi d Q pc al (sI x :: st) μ := by
  intro l D tys ad cA p e R s m args below meth c A H locs cells slots Z ls hC hl hP hD hS hZ
  exact lv_if_ne hC.1 hC.2.1 hd ht (fun q => kt q l D tys ad cA p e R s m args below meth c A H locs cells slots Z ls hC hl hP hD hS hZ) (fun q => kf q l D tys ad cA p e R s m args below meth c A H locs cells slots Z ls hC hl hP hD hS hZ)
theorem g_icmp_ne {L : sLy} {mi : sMI} {d : Nat} {Q : Option sAV → sM → Prop} {pc : Nat} {al : List (Option sAV)} {st : List sAV} {μ : sM} {x y : Int32} {off : Int} (tgt : Nat) (hd : decode mi.2.1 pc = .ok (.if_icmp .ne off, 3)) (ht : (pc : Int) + off = (tgt : Int)) (kt : ¬ x = y → sG L mi d Q tgt al st μ) (kf : x = y → sG L mi d Q (pc + 3) al st μ) : sG L mi d Q pc al (sI y :: sI x :: st) μ := by
  intro l D tys ad cA p e R s m args below meth c A H locs cells slots Z ls hC hl hP hD hS hZ
  exact lv_icmp_ne hC.1 hC.2.1 hd ht (fun q => kt q l D tys ad cA p e R s m args below meth c A H locs cells slots Z ls hC hl hP hD hS hZ) (fun q => kf q l D tys ad cA p e R s m args below meth c A H locs cells slots Z ls hC hl hP hD hS hZ)
theorem g_if_lt {L : sLy} {mi : sMI} {d : Nat} {Q : Option sAV → sM → Prop} {pc : Nat} {al : List (Option sAV)} {st : List sAV} {μ : sM} {x : Int32} {off : Int} (tgt : Nat) (hd : decode mi.2.1 pc = .ok (.ifCond .lt off, 3)) (ht : (pc : Int) + off = (tgt : Int)) (kt : x < 0 → sG L mi d Q tgt al st μ) (kf : ¬ x < 0 → sG L mi d Q (pc + 3) al st μ) : sG L mi d Q pc al (sI x :: st) μ := by
  intro l D tys ad cA p e R s m args below meth c A H locs cells slots Z ls hC hl hP hD hS hZ
  exact lv_if_lt hC.1 hC.2.1 hd ht (fun q => kt q l D tys ad cA p e R s m args below meth c A H locs cells slots Z ls hC hl hP hD hS hZ) (fun q => kf q l D tys ad cA p e R s m args below meth c A H locs cells slots Z ls hC hl hP hD hS hZ)
theorem g_icmp_lt {L : sLy} {mi : sMI} {d : Nat} {Q : Option sAV → sM → Prop} {pc : Nat} {al : List (Option sAV)} {st : List sAV} {μ : sM} {x y : Int32} {off : Int} (tgt : Nat) (hd : decode mi.2.1 pc = .ok (.if_icmp .lt off, 3)) (ht : (pc : Int) + off = (tgt : Int)) (kt : x < y → sG L mi d Q tgt al st μ) (kf : ¬ x < y → sG L mi d Q (pc + 3) al st μ) : sG L mi d Q pc al (sI y :: sI x :: st) μ := by
  intro l D tys ad cA p e R s m args below meth c A H locs cells slots Z ls hC hl hP hD hS hZ
  exact lv_icmp_lt hC.1 hC.2.1 hd ht (fun q => kt q l D tys ad cA p e R s m args below meth c A H locs cells slots Z ls hC hl hP hD hS hZ) (fun q => kf q l D tys ad cA p e R s m args below meth c A H locs cells slots Z ls hC hl hP hD hS hZ)
theorem g_if_ge {L : sLy} {mi : sMI} {d : Nat} {Q : Option sAV → sM → Prop} {pc : Nat} {al : List (Option sAV)} {st : List sAV} {μ : sM} {x : Int32} {off : Int} (tgt : Nat) (hd : decode mi.2.1 pc = .ok (.ifCond .ge off, 3)) (ht : (pc : Int) + off = (tgt : Int)) (kt : 0 ≤ x → sG L mi d Q tgt al st μ) (kf : ¬ 0 ≤ x → sG L mi d Q (pc + 3) al st μ) : sG L mi d Q pc al (sI x :: st) μ := by
  intro l D tys ad cA p e R s m args below meth c A H locs cells slots Z ls hC hl hP hD hS hZ
  exact lv_if_ge hC.1 hC.2.1 hd ht (fun q => kt q l D tys ad cA p e R s m args below meth c A H locs cells slots Z ls hC hl hP hD hS hZ) (fun q => kf q l D tys ad cA p e R s m args below meth c A H locs cells slots Z ls hC hl hP hD hS hZ)
theorem g_icmp_ge {L : sLy} {mi : sMI} {d : Nat} {Q : Option sAV → sM → Prop} {pc : Nat} {al : List (Option sAV)} {st : List sAV} {μ : sM} {x y : Int32} {off : Int} (tgt : Nat) (hd : decode mi.2.1 pc = .ok (.if_icmp .ge off, 3)) (ht : (pc : Int) + off = (tgt : Int)) (kt : y ≤ x → sG L mi d Q tgt al st μ) (kf : ¬ y ≤ x → sG L mi d Q (pc + 3) al st μ) : sG L mi d Q pc al (sI y :: sI x :: st) μ := by
  intro l D tys ad cA p e R s m args below meth c A H locs cells slots Z ls hC hl hP hD hS hZ
  exact lv_icmp_ge hC.1 hC.2.1 hd ht (fun q => kt q l D tys ad cA p e R s m args below meth c A H locs cells slots Z ls hC hl hP hD hS hZ) (fun q => kf q l D tys ad cA p e R s m args below meth c A H locs cells slots Z ls hC hl hP hD hS hZ)
theorem g_if_gt {L : sLy} {mi : sMI} {d : Nat} {Q : Option sAV → sM → Prop} {pc : Nat} {al : List (Option sAV)} {st : List sAV} {μ : sM} {x : Int32} {off : Int} (tgt : Nat) (hd : decode mi.2.1 pc = .ok (.ifCond .gt off, 3)) (ht : (pc : Int) + off = (tgt : Int)) (kt : 0 < x → sG L mi d Q tgt al st μ) (kf : ¬ 0 < x → sG L mi d Q (pc + 3) al st μ) : sG L mi d Q pc al (sI x :: st) μ := by
  intro l D tys ad cA p e R s m args below meth c A H locs cells slots Z ls hC hl hP hD hS hZ
  exact lv_if_gt hC.1 hC.2.1 hd ht (fun q => kt q l D tys ad cA p e R s m args below meth c A H locs cells slots Z ls hC hl hP hD hS hZ) (fun q => kf q l D tys ad cA p e R s m args below meth c A H locs cells slots Z ls hC hl hP hD hS hZ)
theorem g_icmp_gt {L : sLy} {mi : sMI} {d : Nat} {Q : Option sAV → sM → Prop} {pc : Nat} {al : List (Option sAV)} {st : List sAV} {μ : sM} {x y : Int32} {off : Int} (tgt : Nat) (hd : decode mi.2.1 pc = .ok (.if_icmp .gt off, 3)) (ht : (pc : Int) + off = (tgt : Int)) (kt : y < x → sG L mi d Q tgt al st μ) (kf : ¬ y < x → sG L mi d Q (pc + 3) al st μ) : sG L mi d Q pc al (sI y :: sI x :: st) μ := by
  intro l D tys ad cA p e R s m args below meth c A H locs cells slots Z ls hC hl hP hD hS hZ
  exact lv_icmp_gt hC.1 hC.2.1 hd ht (fun q => kt q l D tys ad cA p e R s m args below meth c A H locs cells slots Z ls hC hl hP hD hS hZ) (fun q => kf q l D tys ad cA p e R s m args below meth c A H locs cells slots Z ls hC hl hP hD hS hZ)
theorem g_if_le {L : sLy} {mi : sMI} {d : Nat} {Q : Option sAV → sM → Prop} {pc : Nat} {al : List (Option sAV)} {st : List sAV} {μ : sM} {x : Int32} {off : Int} (tgt : Nat) (hd : decode mi.2.1 pc = .ok (.ifCond .le off, 3)) (ht : (pc : Int) + off = (tgt : Int)) (kt : x ≤ 0 → sG L mi d Q tgt al st μ) (kf : ¬ x ≤ 0 → sG L mi d Q (pc + 3) al st μ) : sG L mi d Q pc al (sI x :: st) μ := by
  intro l D tys ad cA p e R s m args below meth c A H locs cells slots Z ls hC hl hP hD hS hZ
  exact lv_if_le hC.1 hC.2.1 hd ht (fun q => kt q l D tys ad cA p e R s m args below meth c A H locs cells slots Z ls hC hl hP hD hS hZ) (fun q => kf q l D tys ad cA p e R s m args below meth c A H locs cells slots Z ls hC hl hP hD hS hZ)
theorem g_icmp_le {L : sLy} {mi : sMI} {d : Nat} {Q : Option sAV → sM → Prop} {pc : Nat} {al : List (Option sAV)} {st : List sAV} {μ : sM} {x y : Int32} {off : Int} (tgt : Nat) (hd : decode mi.2.1 pc = .ok (.if_icmp .le off, 3)) (ht : (pc : Int) + off = (tgt : Int)) (kt : x ≤ y → sG L mi d Q tgt al st μ) (kf : ¬ x ≤ y → sG L mi d Q (pc + 3) al st μ) : sG L mi d Q pc al (sI y :: sI x :: st) μ := by
  intro l D tys ad cA p e R s m args below meth c A H locs cells slots Z ls hC hl hP hD hS hZ
  exact lv_icmp_le hC.1 hC.2.1 hd ht (fun q => kt q l D tys ad cA p e R s m args below meth c A H locs cells slots Z ls hC hl hP hD hS hZ) (fun q => kf q l D tys ad cA p e R s m args below meth c A H locs cells slots Z ls hC hl hP hD hS hZ)
theorem g_goto {L : sLy} {mi : sMI} {d : Nat} {Q : Option sAV → sM → Prop} {pc : Nat} {al : List (Option sAV)} {st : List sAV} {μ : sM} {off : Int} (tgt : Nat) (hd : decode mi.2.1 pc = .ok (.goto off, 3)) (ht : (pc : Int) + off = (tgt : Int)) (k : sG L mi d Q tgt al st μ) : sG L mi d Q pc al st μ := by
  intro l D tys ad cA p e R s m args below meth c A H locs cells slots Z ls hC hl hP hD hS hZ
  exact lv_goto hC.1 hC.2.1 hd ht (k l D tys ad cA p e R s m args below meth c A H locs cells slots Z ls hC hl hP hD hS hZ)
theorem g_tin {L : sLy} {mi : sMI} {d : Nat} {Q : Option sAV → sM → Prop} {pc : Nat} {al : List (Option sAV)} {st : List sAV} {μ : sM} {dflt lo hi off : Int} {offs : Array Int} {len : Nat} {x : Int32} (tgt j : Nat) (hd : decode mi.2.1 pc = .ok (.tableswitch dflt lo hi offs, len)) (hx : x.toInt = lo + j) (hh : lo + j ≤ hi) (ho : offs[j]? = some off) (ht : (pc : Int) + off = (tgt : Int)) (k : sG L mi d Q tgt al st μ) : sG L mi d Q pc al (sI x :: st) μ := by
  intro l D tys ad cA p e R s m args below meth c A H locs cells slots Z ls hC hl hP hD hS hZ
  exact lv_tableIn hC.1 hC.2.1 hd (by omega) (by omega) (by rw [hx, show (lo + (j : Int) - lo).toNat = j by omega]; exact ho) ht (k l D tys ad cA p e R s m args below meth c A H locs cells slots Z ls hC hl hP hD hS hZ)
theorem g_tout {L : sLy} {mi : sMI} {d : Nat} {Q : Option sAV → sM → Prop} {pc : Nat} {al : List (Option sAV)} {st : List sAV} {μ : sM} {dflt lo hi : Int} {offs : Array Int} {len : Nat} {x : Int32} (tgt : Nat) (hd : decode mi.2.1 pc = .ok (.tableswitch dflt lo hi offs, len)) (h : x.toInt < lo ∨ hi < x.toInt) (ht : (pc : Int) + dflt = (tgt : Int)) (k : sG L mi d Q tgt al st μ) : sG L mi d Q pc al (sI x :: st) μ := by
  intro l D tys ad cA p e R s m args below meth c A H locs cells slots Z ls hC hl hP hD hS hZ
  exact lv_tableOut hC.1 hC.2.1 hd h ht (k l D tys ad cA p e R s m args below meth c A H locs cells slots Z ls hC hl hP hD hS hZ)
theorem g_get {L : sLy} {mi : sMI} {d : Nat} {Q : Option sAV → sM → Prop} {pc : Nat} {al : List (Option sAV)} {st : List sAV} {μ : sM} {r idx ci k code : Nat} {fl : List Nat} {ty : FieldType} {fin : Bool} {w : sAV} (hd : decode mi.2.1 pc = .ok (.getfield idx, 3)) (hf : s_FL mi.1.cls idx ci k ty fin) (hr : L.1[r]? = some (sO_ ci fl)) (hk : fl[k]? = some code) (hw : ∀ ad, s_fv ad μ r k code = s_av ad w) (k : sG L mi d Q (pc + 3) al (w :: st) μ) : sG L mi d Q pc al (sR r :: st) μ := by
  intro l D tys ad cA p e R s m args below meth c A H locs cells slots Z ls hC hl hP hD hS hZ
  obtain ⟨C, T, N, ⟨c1, c2, c3, c4⟩, h1, h2, h3, h4, h5⟩ := hf
  have he : (s_W L.1 ad cA μ)[r]? = some (ad r, .inr (ci, fl.mapIdx (s_fv ad μ r))) := by rw [s_W_get hr, s_E_obj hr]
  have hv := s_fs_get (ad := ad) (μ := μ) (r := r) hk
  rw [hw ad] at hv
  rcases h5 with h5 | ⟨host, h5⟩
  · exact va_get hC.1 hC.2.1 hC.2.2.2.2.1 c2 hC.2.2.2.1 hC.2.2.2.2.2.2.1 hP r he c1 _ h1 (hC.2.2.2.2.1 _ h5) (fun x q => by rw [h2] at q; exact q) hv hd (k l D tys ad cA p e R s m args below meth c A H locs cells slots Z ls hC hl hP hD hS hZ)
  · exact va_getN hC.1 hC.2.1 hC.2.2.2.2.1 c2 hC.2.2.2.1 hC.2.2.2.2.2.2.1 hP r he c1 _ h1 (va_Nw.use rfl (hC.2.2.2.2.2.1 _ h5)) (fun x q => by rw [h2] at q; exact q) hv hd (k l D tys ad cA p e R s m args below meth c A H locs cells slots Z ls hC hl hP hD hS hZ)
theorem g_geti {L : sLy} {mi : sMI} {d : Nat} {Q : Option sAV → sM → Prop} {pc : Nat} {al : List (Option sAV)} {st : List sAV} {μ : sM} {r idx ci k : Nat} {fl : List Nat} {ty : FieldType} {fin : Bool} (hd : decode mi.2.1 pc = .ok (.getfield idx, 3)) (hf : s_FL mi.1.cls idx ci k ty fin) (hr : L.1[r]? = some (sO_ ci fl)) (hk : fl[k]? = some 0) (kk : sG L mi d Q (pc + 3) al (sI (μ.1 r k) :: st) μ) : sG L mi d Q pc al (sR r :: st) μ := g_get hd hf hr hk (fun _ => rfl) kk
theorem g_getl {L : sLy} {mi : sMI} {d : Nat} {Q : Option sAV → sM → Prop} {pc : Nat} {al : List (Option sAV)} {st : List sAV} {μ : sM} {r idx ci k : Nat} {fl : List Nat} {ty : FieldType} {fin : Bool} (hd : decode mi.2.1 pc = .ok (.getfield idx, 3)) (hf : s_FL mi.1.cls idx ci k ty fin) (hr : L.1[r]? = some (sO_ ci fl)) (hk : fl[k]? = some 1) (kk : sG L mi d Q (pc + 3) al (sL (μ.2 r k) :: st) μ) : sG L mi d Q pc al (sR r :: st) μ := g_get hd hf hr hk (fun _ => rfl) kk
theorem g_getr {L : sLy} {mi : sMI} {d : Nat} {Q : Option sAV → sM → Prop} {pc : Nat} {al : List (Option sAV)} {st : List sAV} {μ : sM} {r idx ci k r2 : Nat} {fl : List Nat} {ty : FieldType} {fin : Bool} (hd : decode mi.2.1 pc = .ok (.getfield idx, 3)) (hf : s_FL mi.1.cls idx ci k ty fin) (hr : L.1[r]? = some (sO_ ci fl)) (hk : fl[k]? = some (r2 + 2)) (kk : sG L mi d Q (pc + 3) al (sR r2 :: st) μ) : sG L mi d Q pc al (sR r :: st) μ := g_get hd hf hr hk (fun _ => rfl) kk
theorem g_puti {L : sLy} {mi : sMI} {d : Nat} {Q : Option sAV → sM → Prop} {pc : Nat} {al : List (Option sAV)} {st : List sAV} {μ : sM} {r idx ci k : Nat} {fl : List Nat} {ty : FieldType} {v : Int32} (hd : decode mi.2.1 pc = .ok (.putfield idx, 3)) (hf : s_FL mi.1.cls idx ci k ty false) (hr : L.1[r]? = some (sO_ ci fl)) (hk : fl[k]? = some 0) (hn : narrow ty (.int v) = .int v) (hfit : fits ty (.int v) = true) (kk : sG L mi d Q (pc + 3) al st (s_u μ r k v)) : sG L mi d Q pc al (sI v :: sR r :: st) μ := by
  intro l D tys ad cA p e R s m args below meth c A H locs cells slots Z ls hC hl hP hD hS hZ
  obtain ⟨C, T, N, ⟨c1, c2, ⟨ty0, c3⟩, c4⟩, h1, h2, h3, h4, h5⟩ := hf
  have he : (s_W L.1 ad cA μ)[r]? = some (ad r, .inr (ci, fl.mapIdx (s_fv ad μ r))) := by rw [s_W_get hr, s_E_obj hr]
  have e1 : (s_W L.1 ad cA μ).set r (ad r, .inr (ci, (fl.mapIdx (s_fv ad μ r)).set k (.int v))) = s_W L.1 ad cA (s_u μ r k v) := by
    rw [s_fs_set hk, ← s_E_obj (lay := L.1) (cA := cA) hr]
    exact s_W_set (fun j hj => s_E_u hj)
  have hlen : k < (fl.mapIdx (s_fv ad μ r)).length := by rw [List.length_mapIdx]; exact (List.getElem?_eq_some_iff.mp hk).1
  rcases h5 with h5 | ⟨host, h5⟩
  · exact va_put (v := .int v) hC.1 hC.2.1 hC.2.2.2.2.1 c2 ty0 c3 c4 hC.2.2.2.1 hC.2.2.2.2.2.2.1 hP hD hS r he c1 k h1 (hC.2.2.2.2.1 _ h5) (fun x q => by rw [h2] at q; exact q) h3 h4 hn hfit hlen hd (fun H locs hP hD hS => by rw [e1] at hP hD; exact kk l D tys ad cA p e R s m args below meth c A H locs cells slots Z ls hC hl hP hD hS hZ)
  · exact va_putN (v := .int v) hC.1 hC.2.1 hC.2.2.2.2.1 c2 ty0 c3 c4 hC.2.2.2.1 hC.2.2.2.2.2.2.1 hP hD hS r he c1 k h1 (va_Nw.use rfl (hC.2.2.2.2.2.1 _ h5)) (fun x q => by rw [h2] at q; exact q) h3 h4 hn hfit hlen hd (fun H locs hP hD hS => by rw [e1] at hP hD; exact kk l D tys ad cA p e R s m args below meth c A H locs cells slots Z ls hC hl hP hD hS hZ)
theorem g_putl {L : sLy} {mi : sMI} {d : Nat} {Q : Option sAV → sM → Prop} {pc : Nat} {al : List (Option sAV)} {st : List sAV} {μ : sM} {r idx ci k : Nat} {fl : List Nat} {ty : FieldType} {v : Int64} (hd : decode mi.2.1 pc = .ok (.putfield idx, 3)) (hf : s_FL mi.1.cls idx ci k ty false) (hr : L.1[r]? = some (sO_ ci fl)) (hk : fl[k]? = some 1) (hn : narrow ty (.long v) = .long v) (hfit : fits ty (.long v) = true) (kk : sG L mi d Q (pc + 3) al st (s_ul μ r k v)) : sG L mi d Q pc al (sL v :: sR r :: st) μ := by
  intro l D tys ad cA p e R s m args below meth c A H locs cells slots Z ls hC hl hP hD hS hZ
  obtain ⟨C, T, N, ⟨c1, c2, ⟨ty0, c3⟩, c4⟩, h1, h2, h3, h4, h5⟩ := hf
  have he : (s_W L.1 ad cA μ)[r]? = some (ad r, .inr (ci, fl.mapIdx (s_fv ad μ r))) := by rw [s_W_get hr, s_E_obj hr]
  have e1 : (s_W L.1 ad cA μ).set r (ad r, .inr (ci, (fl.mapIdx (s_fv ad μ r)).set k (.long v))) = s_W L.1 ad cA (s_ul μ r k v) := by
    rw [s_fs_setl hk, ← s_E_obj (lay := L.1) (cA := cA) hr]
    exact s_W_set (fun j hj => s_E_ul hj)
  have hlen : k < (fl.mapIdx (s_fv ad μ r)).length := by rw [List.length_mapIdx]; exact (List.getElem?_eq_some_iff.mp hk).1
  rcases h5 with h5 | ⟨host, h5⟩
  · exact va_put (v := .long v) hC.1 hC.2.1 hC.2.2.2.2.1 c2 ty0 c3 c4 hC.2.2.2.1 hC.2.2.2.2.2.2.1 hP hD hS r he c1 k h1 (hC.2.2.2.2.1 _ h5) (fun x q => by rw [h2] at q; exact q) h3 h4 hn hfit hlen hd (fun H locs hP hD hS => by rw [e1] at hP hD; exact kk l D tys ad cA p e R s m args below meth c A H locs cells slots Z ls hC hl hP hD hS hZ)
  · exact va_putN (v := .long v) hC.1 hC.2.1 hC.2.2.2.2.1 c2 ty0 c3 c4 hC.2.2.2.1 hC.2.2.2.2.2.2.1 hP hD hS r he c1 k h1 (va_Nw.use rfl (hC.2.2.2.2.2.1 _ h5)) (fun x q => by rw [h2] at q; exact q) h3 h4 hn hfit hlen hd (fun H locs hP hD hS => by rw [e1] at hP hD; exact kk l D tys ad cA p e R s m args below meth c A H locs cells slots Z ls hC hl hP hD hS hZ)
theorem g_iald {L : sLy} {mi : sMI} {d : Nat} {Q : Option sAV → sM → Prop} {pc : Nat} {al : List (Option sAV)} {st : List sAV} {μ : sM} {r n : Nat} {i : Int32} (hd : decode mi.2.1 pc = .ok (.iaload, 1)) (hr : L.1[r]? = some (sA_ n)) (ht : L.2 r = .int) (hi : vp_in i n) (k : sG L mi d Q (pc + 1) al (sI (μ.1 r i.toNatClampNeg) :: st) μ) : sG L mi d Q pc al (sI i :: sR r :: st) μ := by
  intro l D tys ad cA p e R s m args below meth c A H locs cells slots Z ls hC hl hP hD hS hZ
  have he : (s_W L.1 ad cA μ)[r]? = some (ad r, .inl (cA r, n, .inl (μ.1 r))) := by rw [s_W_get hr, s_E_arr hr]
  obtain ⟨t0, h0⟩ := List.getElem?_of_mem (hC.2.2.2.2.2.2.2.1 r _ hr (Or.inl ⟨n, rfl⟩))
  rw [ht] at h0
  exact va_iald hC.1 hC.2.1 hC.2.2.2.2.2.2.1 hP r t0 he h0 hi hd (k l D tys ad cA p e R s m args below meth c A H locs cells slots Z ls hC hl hP hD hS hZ)
theorem g_zald {L : sLy} {mi : sMI} {d : Nat} {Q : Option sAV → sM → Prop} {pc : Nat} {al : List (Option sAV)} {st : List sAV} {μ : sM} {r n : Nat} {i : Int32} (hd : decode mi.2.1 pc = .ok (.baload, 1)) (hr : L.1[r]? = some (sA_ n)) (ht : L.2 r = .boolean) (hi : vp_in i n) (k : sG L mi d Q (pc + 1) al (sI (μ.1 r i.toNatClampNeg) :: st) μ) : sG L mi d Q pc al (sI i :: sR r :: st) μ := by
  intro l D tys ad cA p e R s m args below meth c A H locs cells slots Z ls hC hl hP hD hS hZ
  have he : (s_W L.1 ad cA μ)[r]? = some (ad r, .inl (cA r, n, .inl (μ.1 r))) := by rw [s_W_get hr, s_E_arr hr]
  obtain ⟨t0, h0⟩ := List.getElem?_of_mem (hC.2.2.2.2.2.2.2.1 r _ hr (Or.inl ⟨n, rfl⟩))
  rw [ht] at h0
  exact va_zald hC.1 hC.2.1 hC.2.2.2.2.2.2.1 hP r t0 he h0 hi hd (k l D tys ad cA p e R s m args below meth c A H locs cells slots Z ls hC hl hP hD hS hZ)
theorem g_iast {L : sLy} {mi : sMI} {d : Nat} {Q : Option sAV → sM → Prop} {pc : Nat} {al : List (Option sAV)} {st : List sAV} {μ : sM} {r n : Nat} {i x : Int32} (hd : decode mi.2.1 pc = .ok (.iastore, 1)) (hr : L.1[r]? = some (sA_ n)) (ht : L.2 r = .int) (hi : vp_in i n) (k : sG L mi d Q (pc + 1) al st (s_u μ r i.toNatClampNeg x)) : sG L mi d Q pc al (sI x :: sI i :: sR r :: st) μ := by
  intro l D tys ad cA p e R s m args below meth c A H locs cells slots Z ls hC hl hP hD hS hZ
  have he : (s_W L.1 ad cA μ)[r]? = some (ad r, .inl (cA r, n, .inl (μ.1 r))) := by rw [s_W_get hr, s_E_arr hr]
  obtain ⟨t0, h0⟩ := List.getElem?_of_mem (hC.2.2.2.2.2.2.2.1 r _ hr (Or.inl ⟨n, rfl⟩))
  rw [ht] at h0
  have e0 : (s_u μ r i.toNatClampNeg x).1 r = upd (μ.1 r) i.toNatClampNeg x := by simp [s_u, va_up]
  have e1 : (s_W L.1 ad cA μ).set r (ad r, .inl (cA r, n, .inl (upd (μ.1 r) i.toNatClampNeg x))) = s_W L.1 ad cA (s_u μ r i.toNatClampNeg x) := by
    rw [← e0, ← s_E_arr (lay := L.1) (ad := ad) (cA := cA) hr]
    exact s_W_set (fun j hj => s_E_u hj)
  exact va_iast hC.1 hC.2.1 hC.2.2.2.2.2.2.1 hP hD hS r t0 he h0 hi hd (fun H locs hP hD hS => by rw [e1] at hP hD; exact k l D tys ad cA p e R s m args below meth c A H locs cells slots Z ls hC hl hP hD hS hZ)
theorem g_zast {L : sLy} {mi : sMI} {d : Nat} {Q : Option sAV → sM → Prop} {pc : Nat} {al : List (Option sAV)} {st : List sAV} {μ : sM} {r n : Nat} {i x : Int32} (hd : decode mi.2.1 pc = .ok (.bastore, 1)) (hr : L.1[r]? = some (sA_ n)) (ht : L.2 r = .boolean) (hi : vp_in i n) (k : sG L mi d Q (pc + 1) al st (s_u μ r i.toNatClampNeg (vp_nar .boolean x))) : sG L mi d Q pc al (sI x :: sI i :: sR r :: st) μ := by
  intro l D tys ad cA p e R s m args below meth c A H locs cells slots Z ls hC hl hP hD hS hZ
  have he : (s_W L.1 ad cA μ)[r]? = some (ad r, .inl (cA r, n, .inl (μ.1 r))) := by rw [s_W_get hr, s_E_arr hr]
  obtain ⟨t0, h0⟩ := List.getElem?_of_mem (hC.2.2.2.2.2.2.2.1 r _ hr (Or.inl ⟨n, rfl⟩))
  rw [ht] at h0
  have e0 : (s_u μ r i.toNatClampNeg (vp_nar .boolean x)).1 r = upd (μ.1 r) i.toNatClampNeg (vp_nar .boolean x) := by simp [s_u, va_up]
  have e1 : (s_W L.1 ad cA μ).set r (ad r, .inl (cA r, n, .inl (upd (μ.1 r) i.toNatClampNeg (vp_nar .boolean x)))) = s_W L.1 ad cA (s_u μ r i.toNatClampNeg (vp_nar .boolean x)) := by
    rw [← e0, ← s_E_arr (lay := L.1) (ad := ad) (cA := cA) hr]
    exact s_W_set (fun j hj => s_E_u hj)
  exact va_zast hC.1 hC.2.1 hC.2.2.2.2.2.2.1 hP hD hS r t0 he h0 hi hd (fun H locs hP hD hS => by rw [e1] at hP hD; exact k l D tys ad cA p e R s m args below meth c A H locs cells slots Z ls hC hl hP hD hS hZ)
theorem g_alen {L : sLy} {mi : sMI} {d : Nat} {Q : Option sAV → sM → Prop} {pc : Nat} {al : List (Option sAV)} {st : List sAV} {μ : sM} {r n : Nat} (hd : decode mi.2.1 pc = .ok (.arraylength, 1)) (hr : L.1[r]? = some (sA_ n)) (k : sG L mi d Q (pc + 1) al (sI (Int32.ofNat n) :: st) μ) : sG L mi d Q pc al (sR r :: st) μ := by
  intro l D tys ad cA p e R s m args below meth c A H locs cells slots Z ls hC hl hP hD hS hZ
  have he : (s_W L.1 ad cA μ)[r]? = some (ad r, .inl (cA r, n, .inl (μ.1 r))) := by rw [s_W_get hr, s_E_arr hr]
  obtain ⟨t0, h0⟩ := List.getElem?_of_mem (hC.2.2.2.2.2.2.2.1 r _ hr (Or.inl ⟨n, rfl⟩))
  exact va_alen hC.1 hC.2.1 hC.2.2.2.2.2.2.1 hP r t0 he h0 rfl hd (k l D tys ad cA p e R s m args below meth c A H locs cells slots Z ls hC hl hP hD hS hZ)
theorem g_aald {L : sLy} {mi : sMI} {d : Nat} {Q : Option sAV → sM → Prop} {pc : Nat} {al : List (Option sAV)} {st : List sAV} {μ : sM} {r n b : Nat} {i : Int32} (hd : decode mi.2.1 pc = .ok (.aaload, 1)) (hr : L.1[r]? = some (sQ_ n b)) (ht : (L.2 r).isReference = true) (hi : vp_in i n) (k : sG L mi d Q (pc + 1) al (sR (b + i.toNatClampNeg) :: st) μ) : sG L mi d Q pc al (sI i :: sR r :: st) μ := by
  intro l D tys ad cA p e R s m args below meth c A H locs cells slots Z ls hC hl hP hD hS hZ
  have he : (s_W L.1 ad cA μ)[r]? = some (ad r, .inl (cA r, n, .inr (.inr (.inr (.inr (fun i => if i < n then some (ad (b + i)) else none)))))) := by rw [s_W_get hr, s_E_rfs hr]
  obtain ⟨t0, h0⟩ := List.getElem?_of_mem (hC.2.2.2.2.2.2.2.1 r _ hr (Or.inr ⟨n, b, rfl⟩))
  have hlt : i.toNatClampNeg < n := Nat.not_le.mp fun q => hi (Or.inr q)
  refine W.aald (v := s_av ad (sR (b + i.toNatClampNeg))) (ty := L.2 r) hC.1 hC.2.1 (hP r _ he) ((hC.2.2.2.2.2.2.1.2 t0 _ h0).1 n (fun j => va_rf (if j < n then some (ad (b + j)) else none))) ht (fun q => by cases q) (by show ¬ (i < 0 ∨ (arrV _ _ _).slots.size ≤ _); rw [arrV_size]; exact hi) (by show (arrV _ _ _).slots[_]? = _; rw [arrV_read _ _ hlt]; show some (va_rf (if i.toNatClampNeg < n then some (ad (b + i.toNatClampNeg)) else none)) = _; rw [if_pos hlt]; rfl) rfl rfl hd ?_
  exact k l D tys ad cA p e R s m args below meth c A H locs cells slots Z ls hC hl hP hD hS hZ
theorem s_nfw : nativeFrameWords "java/lang/System" "arraycopy" 5 = 7 := by decide +kernel
theorem g_copy {L : sLy} {mi : sMI} {d : Nat} {Q : Option sAV → sM → Prop} {pc : Nat} {al : List (Option sAV)} {st : List sAV} {μ : sM} {r0 r1 n0 n1 idx : Nat} {sp dp n : Int32} (hd : decode mi.2.1 pc = .ok (.invokestatic idx, 3)) (hlk : Cond.methodLink mi.1.cls idx arraycopyName ∈ sT) (hr0 : L.1[r0]? = some (sA_ n0)) (hr1 : L.1[r1]? = some (sA_ n1)) (ht0 : L.2 r0 = .int) (ht1 : L.2 r1 = .int) (h1 : ¬ sp < 0) (h2 : ¬ dp < 0) (h3 : ¬ n < 0) (h4 : sp.toNatClampNeg + n.toNatClampNeg ≤ n0) (h5 : dp.toNatClampNeg + n.toNatClampNeg ≤ n1) (hst : st = [])
    (k : sG L mi (d + 1) Q (pc + 3) al st (va_up μ.1 r1 (va_cpy (μ.1 r0) (μ.1 r1) sp.toNatClampNeg dp.toNatClampNeg n.toNatClampNeg), μ.2)) : sG L mi (d + 1) Q pc al (sI n :: sI dp :: sR r1 :: sI sp :: sR r0 :: st) μ := by
  intro l D tys ad cA p e R s m args below meth c A H locs cells slots Z ls hC hl hP hD hS hZ
  subst hst
  have he0 : (s_W L.1 ad cA μ)[r0]? = some (ad r0, .inl (cA r0, n0, .inl (μ.1 r0))) := by rw [s_W_get hr0, s_E_arr hr0]
  have he1 : (s_W L.1 ad cA μ)[r1]? = some (ad r1, .inl (cA r1, n1, .inl (μ.1 r1))) := by rw [s_W_get hr1, s_E_arr hr1]
  obtain ⟨t0, g0⟩ := List.getElem?_of_mem (hC.2.2.2.2.2.2.2.1 r0 _ hr0 (Or.inl ⟨n0, rfl⟩))
  obtain ⟨t1, g1⟩ := List.getElem?_of_mem (hC.2.2.2.2.2.2.2.1 r1 _ hr1 (Or.inl ⟨n1, rfl⟩))
  rw [ht0] at g0
  rw [ht1] at g1
  generalize hM : ((va_up μ.1 r1 (va_cpy (μ.1 r0) (μ.1 r1) sp.toNatClampNeg dp.toNatClampNeg n.toNatClampNeg), μ.2) : sM) = M at k
  have e0 : M.1 r1 = va_cpy (μ.1 r0) (μ.1 r1) sp.toNatClampNeg dp.toNatClampNeg n.toNatClampNeg := by rw [← hM]; simp [va_up]
  have e9 : ∀ j, j ≠ r1 → s_E L.1 ad cA M j = s_E L.1 ad cA μ j := fun j hj => by
    have q1 : M.1 j = μ.1 j := by rw [← hM]; simp [va_up, hj]
    have q2 : M.2 = μ.2 := by rw [← hM]
    have q3 : s_fv ad M j = s_fv ad μ j := by
      funext k q
      unfold s_fv
      rw [q1, q2]
    unfold s_E
    rw [q1, q3]
  have e1 : (s_W L.1 ad cA μ).set r1 (ad r1, .inl (cA r1, n1, .inl (va_cpy (μ.1 r0) (μ.1 r1) sp.toNatClampNeg dp.toNatClampNeg n.toNatClampNeg))) = s_W L.1 ad cA M := by
    rw [← e0, ← s_E_arr (lay := L.1) (ad := ad) (cA := cA) hr1]
    exact s_W_set e9
  obtain ⟨q1, q2, q3, q4⟩ := hC.2.2.2.2.2.2.2.2.1
  exact va_copyi hC.1 hC.2.1 (hC.2.2.1.trans hl.1.symm) hC.2.2.2.1 (hC.2.2.2.2.1 _ hlk) (hC.2.2.2.2.1 _ s_acn) (hC.2.2.2.2.1 _ s_acs) (hC.2.2.2.2.1 _ s_aci) hC.2.2.2.2.2.2.1 hP hD hS r0 r1 t0 t1 he0 he1 g0 g1 rfl h1 h2 h3 h4 h5 (fun _ _ => rfl) (by omega) (by rw [s_nfw]; show 0 + (7 + 11) ≤ _; omega) hd (fun H locs hP hD hS => by rw [e1] at hP hD; exact k l D tys ad cA p e R s m args below meth c A H locs cells slots Z ls hC hl hP hD hS hZ)
def s_cat (v : sAV) : Nat := match v with
  | .inr (.inl _) => 2
  | _ => 1
theorem s_cat_av (ad : Nat → Nat) (v : sAV) : (s_av ad v).category = s_cat v := by
  match v with
  | .inl x => rfl
  | .inr (.inl x) => rfl
  | .inr (.inr x) => rfl
theorem s_catsum (ad : Nat → Nat) : ∀ st : List sAV, ((st.map (s_av ad)).map fun v => v.category).sum ≤ 2 * st.length
  | [] => Nat.le_refl _
  | v :: t => by
    have h := s_catsum ad t
    have h2 : (s_av ad v).category ≤ 2 := by
      match v with
      | .inl x => exact Nat.le_of_ble_eq_true rfl
      | .inr (.inl x) => exact Nat.le_of_ble_eq_true rfl
      | .inr (.inr x) => exact Nat.le_of_ble_eq_true rfl
    simp only [List.map_cons, List.sum_cons, List.length_cons]
    omega
theorem s_catsum_eq (ad : Nat → Nat) (st : List sAV) : ((st.map (s_av ad)).map fun v => v.category).sum = (st.map s_cat).sum := by
  rw [List.map_map]
  congr 1
  apply List.map_congr_left
  intro v _
  exact s_cat_av ad v
theorem g_mmax {L : sLy} {mi : sMI} {d : Nat} {Q : Option sAV → sM → Prop} {pc : Nat} {al : List (Option sAV)} {st : List sAV} {μ : sM} {idx : Nat} {x y : Int32} (hd : decode mi.2.1 pc = .ok (.invokestatic idx, 3)) (hlk : Cond.methodLink mi.1.cls idx Lib.Math.max.name ∈ sT) (hst : st.length ≤ 8) (k : sG L mi (d + 1) Q (pc + 3) al (sI (if x < y then y else x) :: st) μ) : sG L mi (d + 1) Q pc al (sI y :: sI x :: st) μ := by
  intro l D tys ad cA p e R s m args below meth c A H locs cells slots Z ls hC hl hP hD hS hZ
  obtain ⟨q1, q2, q3, q4⟩ := hC.2.2.2.2.2.2.2.2.1
  have hcs := s_catsum ad st
  exact va_mmax hC.1 hC.2.1 (hC.2.2.1.trans hl.1.symm) hC.2.2.2.1 (hC.2.2.2.2.1 _ hlk) (hC.2.2.2.2.1 _ s_mmax.1) (hC.2.2.2.2.1 _ s_mti) (hC.2.2.2.2.1 _ s_mmax.2) (by omega) (by omega) q3 q4 hd (k l D tys ad cA p e R s m args below meth c A H locs cells slots Z ls hC hl hP hD hS hZ)
theorem g_mmin {L : sLy} {mi : sMI} {d : Nat} {Q : Option sAV → sM → Prop} {pc : Nat} {al : List (Option sAV)} {st : List sAV} {μ : sM} {idx : Nat} {x y : Int32} (hd : decode mi.2.1 pc = .ok (.invokestatic idx, 3)) (hlk : Cond.methodLink mi.1.cls idx Lib.Math.min.name ∈ sT) (hst : st.length ≤ 8) (k : sG L mi (d + 1) Q (pc + 3) al (sI (if y < x then y else x) :: st) μ) : sG L mi (d + 1) Q pc al (sI y :: sI x :: st) μ := by
  intro l D tys ad cA p e R s m args below meth c A H locs cells slots Z ls hC hl hP hD hS hZ
  obtain ⟨q1, q2, q3, q4⟩ := hC.2.2.2.2.2.2.2.2.1
  have hcs := s_catsum ad st
  exact va_mmin hC.1 hC.2.1 (hC.2.2.1.trans hl.1.symm) hC.2.2.2.1 (hC.2.2.2.2.1 _ hlk) (hC.2.2.2.2.1 _ s_mmin.1) (hC.2.2.2.2.1 _ s_mti) (hC.2.2.2.2.1 _ s_mmin.2) (by omega) (by omega) q3 q4 hd (k l D tys ad cA p e R s m args below meth c A H locs cells slots Z ls hC hl hP hD hS hZ)
theorem g_mabs {L : sLy} {mi : sMI} {d : Nat} {Q : Option sAV → sM → Prop} {pc : Nat} {al : List (Option sAV)} {st : List sAV} {μ : sM} {idx : Nat} {x : Int32} (hd : decode mi.2.1 pc = .ok (.invokestatic idx, 3)) (hlk : Cond.methodLink mi.1.cls idx Lib.Math.abs.name ∈ sT) (hst : st.length ≤ 8) (k : sG L mi (d + 1) Q (pc + 3) al (sI (if 0 ≤ x then x else 0 - x) :: st) μ) : sG L mi (d + 1) Q pc al (sI x :: st) μ := by
  intro l D tys ad cA p e R s m args below meth c A H locs cells slots Z ls hC hl hP hD hS hZ
  obtain ⟨q1, q2, q3, q4⟩ := hC.2.2.2.2.2.2.2.2.1
  have hcs := s_catsum ad st
  exact va_mabs hC.1 hC.2.1 (hC.2.2.1.trans hl.1.symm) hC.2.2.2.1 (hC.2.2.2.2.1 _ hlk) (hC.2.2.2.2.1 _ s_mabs.1) (hC.2.2.2.2.1 _ s_mti) (hC.2.2.2.2.1 _ s_mabs.2) (by omega) (by omega) q3 q4 hd (k l D tys ad cA p e R s m args below meth c A H locs cells slots Z ls hC hl hP hD hS hZ)
theorem g_iret {L : sLy} {mi : sMI} {d : Nat} {Q : Option sAV → sM → Prop} {pc : Nat} {al : List (Option sAV)} {μ : sM} {x : Int32} {ty : FieldType} (hd : decode mi.2.1 pc = .ok (.ireturn, 1)) (hr : mi.2.2.2 = some ty) (hn : narrow ty (.int x) = .int x) (k : Q (some (sI x)) μ) : sG L mi d Q pc al [sI x] μ := by
  intro l D tys ad cA p e R s m args below meth c A H locs cells slots Z ls hC hl hP hD hS hZ
  exact hZ (some (sI x)) μ H locs ls pc k hP hD hS ⟨hd, ty, hr, hn⟩
theorem g_lret {L : sLy} {mi : sMI} {d : Nat} {Q : Option sAV → sM → Prop} {pc : Nat} {al : List (Option sAV)} {μ : sM} {x : Int64} (hd : decode mi.2.1 pc = .ok (.lreturn, 1)) (hr : mi.2.2.2 = some .long) (k : Q (some (sL x)) μ) : sG L mi d Q pc al [sL x] μ := by
  intro l D tys ad cA p e R s m args below meth c A H locs cells slots Z ls hC hl hP hD hS hZ
  exact hZ (some (sL x)) μ H locs ls pc k hP hD hS ⟨hd, hr⟩
theorem g_vret {L : sLy} {mi : sMI} {d : Nat} {Q : Option sAV → sM → Prop} {pc : Nat} {al : List (Option sAV)} {μ : sM} (hd : decode mi.2.1 pc = .ok (.return_, 1)) (hr : mi.2.2.2 = none) (k : Q none μ) : sG L mi d Q pc al [] μ := by
  intro l D tys ad cA p e R s m args below meth c A H locs cells slots Z ls hC hl hP hD hS hZ
  exact hZ none μ H locs ls pc k hP hD hS ⟨hd, hr⟩
