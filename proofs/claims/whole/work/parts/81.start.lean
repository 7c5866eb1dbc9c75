-- FROM THE LAW'S ENTRY TO ITS LOOP
def s_okB (B : Nat) : sKd → Bool
  | .inl _ => true
  | .inr (.inl q) => decide (q.2 + q.1 ≤ B)
  | .inr (.inr o) => o.2.all (fun c => decide (c < B + 2))
theorem s_fl_ext {ad ad2 : Nat → Nat} {μ μ2 : sM} {B r : Nat} (ha : ∀ r, r < B → ad r = ad2 r) (h1 : μ.1 r = μ2.1 r) (h2 : μ.2 r = μ2.2 r) : ∀ (fl : List Nat) (k : Nat), fl.all (fun c => decide (c < B + 2)) = true → s_fl ad μ r k fl = s_fl ad2 μ2 r k fl
  | [], k, _ => rfl
  | c :: t, k, h => by
    rw [List.all_cons, Bool.and_eq_true] at h
    have hc : c < B + 2 := of_decide_eq_true h.1
    show s_fv ad μ r k c :: s_fl ad μ r (k + 1) t = s_fv ad2 μ2 r k c :: s_fl ad2 μ2 r (k + 1) t
    rw [s_fl_ext ha h1 h2 t (k + 1) h.2]
    congr 1
    match c, hc with
    | 0, _ => exact congrArg Value.int (by rw [h1])
    | 1, _ => exact congrArg Value.long (by rw [h2])
    | q + 2, hc => exact congrArg Value.ref (ha q (by omega))
theorem s_Wl_ext {ad ad2 : Nat → Nat} {cA : Nat → ClassId} {μ μ2 : sM} {B : Nat} (ha : ∀ r, r < B → ad r = ad2 r) (h1 : ∀ r, r < B → μ.1 r = μ2.1 r) (h2 : ∀ r, r < B → μ.2 r = μ2.2 r) : ∀ (lay : List sKd) (i : Nat), i + lay.length ≤ B → lay.all (s_okB B) = true → s_Wl ad cA μ i lay = s_Wl ad2 cA μ2 i lay
  | [], i, _, _ => rfl
  | k :: t, i, hl, h => by
    rw [List.all_cons, Bool.and_eq_true] at h
    rw [List.length_cons] at hl
    show (ad i, s_Ek ad cA μ k i) :: s_Wl ad cA μ (i + 1) t = (ad2 i, s_Ek ad2 cA μ2 k i) :: s_Wl ad2 cA μ2 (i + 1) t
    rw [s_Wl_ext ha h1 h2 t (i + 1) (by omega) h.2, ha i (by omega)]
    congr 2
    match k, h.1 with
    | .inl n, _ =>
      show (.inl (cA i, n, .inl (μ.1 i)) : va_E) = .inl (cA i, n, .inl (μ2.1 i))
      rw [h1 i (by omega)]
    | .inr (.inl q), hq =>
      have hq : q.2 + q.1 ≤ B := of_decide_eq_true hq
      have e : (fun j => if j < q.1 then some (ad (q.2 + j)) else none) = fun j => if j < q.1 then some (ad2 (q.2 + j)) else none := by
        funext j
        by_cases c : j < q.1
        · rw [if_pos c, if_pos c, ha _ (by omega)]
        · rw [if_neg c, if_neg c]
      show (.inl (cA i, q.1, .inr (.inr (.inr (.inr (fun j => if j < q.1 then some (ad (q.2 + j)) else none))))) : va_E) = .inl (cA i, q.1, .inr (.inr (.inr (.inr (fun j => if j < q.1 then some (ad2 (q.2 + j)) else none)))))
      rw [e]
    | .inr (.inr o), ho =>
      show (.inr (o.1, s_fl ad μ i 0 o.2) : va_E) = .inr (o.1, s_fl ad2 μ2 i 0 o.2)
      rw [s_fl_ext ha (h1 i (by omega)) (h2 i (by omega)) o.2 0 ho]
/-- both worlds as one -/
def l_ad (ad1 ad2 : Nat → Nat) (b : Nat) : Nat → Nat := fun r => if r < 62 then ad1 r else if r < 86 then ad2 (r - 62) else b
def l_mu (μ1 μ2 : sM) : sM := (fun r => if r < 62 then μ1.1 r else μ2.1 (r - 62), fun r => if r < 62 then μ1.2 r else μ2.2 (r - 62))
set_option maxRecDepth 20000 in
theorem l_both {ad1 ad2 : Nat → Nat} {k4 : Nat → ClassId} {μ1 μ2 : sM} {b : Nat} : s_W sLay8 ad1 (bCA k4) μ1 ++ s_W sLM.1 ad2 (bCM k4) μ2 = s_W sLL.1 (l_ad ad1 ad2 b) (bCA k4) (l_mu μ1 μ2) := by
  have e1 : s_Wl ad1 (bCA k4) μ1 0 sLay8 = s_Wl (l_ad ad1 ad2 b) (bCA k4) (l_mu μ1 μ2) 0 sLay8 := s_Wl_ext (B := 62) (fun r h => (if_pos h).symm) (fun r h => (if_pos h).symm) (fun r h => (if_pos h).symm) sLay8 0 (by decide) (by decide +kernel)
  rw [s_W_l, s_W_l, s_W_l, e1]
  rfl
theorem l_init {mi mi2 : sMI} {n d ct1 sl1 idx q cells slots pc : Nat} {k4 : Nat → ClassId} {Q1 : va_W → Prop} {st : List Value} {X wc : va_W} {D : va_G} {l : Launch} {p : Program} {e : Env} {R : Room} {s : State} {m : MethodId} {args : Array Value} {below : List Frame} {meth : Method} {c : Code} {A : Nat → Prop} {H : Heap} {locs : List Loc} {Z : State → Prop} {ls : Array Slot} (as : List Value)
    (hx : p.tables.exec = Jvm.exec) (hb : c.code = mi.2.1) (hmx : c.maxLocals = mi.2.2.1) (hown : s.vm.findClass mi.1.cls = some m.cls) (hts : ∀ w ∈ sT, w.before args s = true) (hN : ∀ w ∈ sTn, va_Nw w s) (hO : b_O s) (hK : va_K D vwCl (bTy k4) s) (hRR : d + 1 ≤ R.frames ∧ 60 * (d + 1) ≤ R.locals) (hA : ∀ q, s.heap.size ≤ q → A q) (hf : cells + ct1 ≤ R.cells ∧ slots + sl1 ≤ R.slots) (hls : ls.size = mi.2.2.1) (hP : va_P D vwCl (X ++ wc) H) (hD : va_D A (X ++ wc)) (hS : va_S A s.heap H locs)
    (hd : decode mi.2.1 pc = .ok (.invokespecial idx, 3)) (hlk : s_ML mi.1.cls idx mi2.1) (hF : s_MF mi2 n) (hI : Cond.instanceMethod mi2.1 ∈ sT) (hnm : mi2.1.name = "<init>") (hret : mi2.2.2.2 = none) (hn : as.length = n) (hlen : (lg_sl (.ref q :: as)).length ≤ mi2.2.2.1) (hst : (st.map fun v => v.category).sum ≤ 8) (hml : mi2.2.2.1 ≤ 41)
    (body : bG mi2 d ct1 sl1 k4 Q1 0 (lv_args 0 (.ref q :: as)) [] wc) (k : ∀ (w1 : va_W) (H1 : Heap) (locs1 : List Loc), Q1 w1 → va_P D vwCl (X ++ w1) H1 → va_D A (X ++ w1) → va_S A s.heap H1 locs1 → W p l e R s m args below meth c H1 locs1 (cells + ct1) (slots + sl1) Z (F0 m (pc + 3) ls st)) :
    W p l e R s m args below meth c H locs cells slots Z (F0 m pc ls (as.reverse ++ .ref q :: st)) := by
  obtain ⟨q1, q2⟩ := hRR
  have hFc := b_free hD hS hA
  have hM := b_met (D := D) (sz := H.size) hF hnm hret l hlen body
  have hR : (b_rm d ct1 sl1).frames + 1 ≤ R.frames ∧ 8 + (mi2.2.2.1 + 11) + (b_rm d ct1 sl1).locals ≤ R.locals := ⟨by show d + 1 ≤ _; omega, by show 8 + (mi2.2.2.1 + 11) + 60 * d ≤ _; omega⟩
  have hp : PreS s H (b_Pc D k4 H.size (.ref q :: as) wc) (.ref q :: as) := ⟨b_blind, fun U hU hW => ⟨rfl, by rw [hU], by rw [hU]; exact b_tail hP, va_K.moved hW.alike hK, sTn_warm hW hN, hO.moved hW.alike, (b_tailD hD).weaken (fun _ _ _ _ => trivial)⟩⟩
  have hroom : 2 * (F0 m pc ls (as.reverse ++ .ref q :: st)).monitorRoom + (st.map fun v => v.category).sum ≤ 8 := lv_room hst
  obtain ⟨f1, f2, f3, f4, f5, f6⟩ := id hF
  have hrun : va_Run p l e R s m args below meth c H locs cells slots ct1 sl1 (F0 m pc ls (as.reverse ++ .ref q :: st)) st ((va_Qv Q1 (b_B D (va_A wc H.size)) (va_A wc H.size)) (Value.ref q :: as).toArray) (va_A wc H.size) := by
    rcases hlk with hlk | ⟨host, hlk⟩
    · exact va_runI ⟨hx, hb, hmx, hown, hts⟩ hM (cwI n hts (s_goodc hF) (by rw [hret]) rfl rfl (hts _ f2) (hts _ hlk) (hts _ hI) hnm ⟨f3, f4, f6⟩ hR) hp rfl hn hls rfl hroom hd hf
    · exact va_runIN ⟨hx, hb, hmx, hown, hts⟩ hM ⟨va_cnB n hts (s_goodc hF) (by rw [hret]) rfl rfl (hN _ hlk) (hts _ f2) ⟨f3, f4, f6⟩ hR, hnm, hts _ hI⟩ hp rfl hn hls rfl hroom hd hf
  refine va_callv hrun hS (fun q _ h => hFc q h) hFc (fun w1 t H1 locs1 ht hvm hw hB hz1 hk1 hS1 => ?_)
  obtain ⟨hP1, hD1⟩ := hB
  rw [ht] at hP1
  obtain ⟨hP2, hD2⟩ := b_join hP hD hk1 hFc hP1 hD1
  exact k w1 H1 locs1 hw hP2 hD2 hS1
/-- what the tables say of the four classes of arrays -/
theorem l_arrs {s : State} (hI : (Cond.arrayClass .int).before #[] s = true) (hZ : (Cond.arrayClass .boolean).before #[] s = true) (hO : b_O s) : ∃ k4 : Nat → ClassId, ∀ (k : Nat) (q : ClassId × FieldType), (bTy k4)[k]? = some q → ArrOfT s q.1 q.2 ∧ va_RA s q.1 q.2 := by
  obtain ⟨c0, kA0, m0, a1, a2, a3⟩ := Cond.arrayClass_spec hI
  obtain ⟨c1, kA1, m1, b1, b2, b3⟩ := Cond.arrayClass_spec hZ
  obtain ⟨m2, c2, kA2, d0, d1, d2, d3, d4⟩ := Cond.arrayOver_spec hO.1
  obtain ⟨m3, c3, kA3, e0, e1, e2, e3, e4⟩ := arrayOverA_spec hO.2
  refine ⟨fun k => [c0, c1, c2, c3].getD k 0, fun k q hq => ?_⟩
  match k, hq with
  | 0, hq => cases hq; exact ⟨fun n z => ⟨(fun k h => by cases h), kA0, a2, m0, a3⟩, a1⟩
  | 1, hq => cases hq; exact ⟨fun n z => ⟨(fun k h => by cases h), kA1, b2, m1, b3⟩, b1⟩
  | 2, hq => cases hq; exact ⟨fun n z => ⟨(fun k h => by cases h), kA2, d2, m2, d3⟩, kA2, m2, d2, d3, d0, d4⟩
  | 3, hq => cases hq; exact ⟨fun n z => ⟨(fun k h => by cases h), kA3, e2, m3, e3⟩, e4⟩
  | k + 4, hq => simp [bTy] at hq
theorem l_in {w : Cond} (h : w ∈ sT) : w ∈ lw_tbl := (List.mem_filter.mp h).1
theorem l_inN {w : Cond} (h : w ∈ sTn) : w ∈ lw_tbl := (List.mem_filter.mp h).1
theorem l_nest {w : Cond} {A : Array Value} {U : State} (hw : w ∈ sTn) (h : w.before A U = true) : va_Nw w U := by
  have h2 := (List.mem_filter.mp hw).2
  cases w <;> first | (cases h2; done) | exact va_Nw.of rfl h
