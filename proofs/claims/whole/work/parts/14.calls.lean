-- CALLS (printed by wip/whole/gen_calls.py)
theorem s_goodc {mi : sMI} {n : Nat} (hF : s_MF mi n) : GoodIn sT (Cond.code mi.1 mi.2.1 mi.2.2.1 mi.2.2.2 :: sT) := fun w hw => (List.mem_cons.mp hw).elim (fun e => by rw [e]; exact sT_good _ hF.1) (fun h => sT_good w h)
theorem s_free {L : sLy} {D : va_G} {ad : Nat → Nat} {cA : Nat → ClassId} {μ : sM} {A : Nat → Prop} {s : State} {H : Heap} {locs : List Loc} (hD : va_D A (s_W L.1 ad cA μ)) (hS : va_S A s.heap H locs) (hA : ∀ q, s.heap.size ≤ q → A q) : ∀ q, va_A (s_W L.1 ad cA μ) H.size q → A q := fun q h => by
  rcases h with ⟨k, e, h⟩ | h
  · exact hD.2 k _ h
  · exact hA q (Nat.le_trans hS.1 h)
theorem s_pre {L : sLy} {D : va_G} {tys : List (ClassId × FieldType)} {ad : Nat → Nat} {cA : Nat → ClassId} {as : List sAV} {μ : sM} {A : Nat → Prop} {s : State} {H : Heap} (hP : va_P D vwCl (s_W L.1 ad cA μ) H) (hD : va_D A (s_W L.1 ad cA μ)) (hK : va_K D vwCl tys s) (hN : ∀ w ∈ sTn, va_Nw w s) : ∀ U : State, U.heap = H → s.WarmedH U.vm → s_Pc L D tys ad cA H.size as μ (as.map (s_av ad)).toArray U :=
  fun U hU hW => ⟨rfl, by rw [hU], by rw [hU]; exact hP, va_K.moved hW.alike hK, sTn_warm hW hN, hD.weaken (fun _ _ _ _ => trivial)⟩
theorem s_runV {L : sLy} {mi mi2 : sMI} {n d idx ci r pc : Nat} {as st : List sAV} {al : List (Option sAV)} {μ : sM} {fl : List Nat} {T : u_T} {N : Nat} {l : Launch} {D : va_G} {tys : List (ClassId × FieldType)} {ad : Nat → Nat} {cA : Nat → ClassId} {p : Program} {e : Env} {R : Room} {s : State} {m : MethodId} {args : Array Value} {below : List Frame} {meth : Method} {c : Code} {A : Nat → Prop} {H : Heap} {locs : List Loc} {cells slots : Nat} {ls : Array Slot} {Qc : Array Value → State → Outcome → State → Prop}
    (hC : s_C L mi (d + 1) D tys cA p R s m args c A cells slots) (hl : lv_has ls mi.2.2.1 (s_ll ad 0 al)) (hP : va_P D vwCl (s_W L.1 ad cA μ) H) (hD : va_D A (s_W L.1 ad cA μ))
    (hd : decode mi.2.1 pc = .ok (.invokevirtual idx, 3)) (hlk : s_ML mi.1.cls idx mi2.1) (hF : s_MF mi2 n) (hV : s_MV mi2) (hr : L.1[r]? = some (sO_ ci fl)) (hc : vwCl[ci]? = some (mi2.1.cls, T, N)) (hn : as.length = n) (hst : (st.map s_cat).sum ≤ 8) (hml : mi2.2.2.1 ≤ 41)
    (hM : Met l mi2.1 (Cond.code mi2.1 mi2.2.1 mi2.2.2.1 mi2.2.2.2 :: sT) (s_rm d) (s_Pc L D tys ad cA H.size (sR r :: as) μ) Qc 0 0 (va_A (s_W L.1 ad cA μ) H.size)) :
    va_Run p l e R s m args below meth c H locs cells slots 0 0 (F0 m pc ls ((as.reverse ++ sR r :: st).map (s_av ad))) (st.map (s_av ad)) (Qc (Value.ref (ad r) :: as.map (s_av ad)).toArray) (va_A (s_W L.1 ad cA μ) H.size) := by
  obtain ⟨hx, hb, hmx, hown, hts, hN, hK, hT, ⟨q1, q2, q3, q4⟩, hA⟩ := hC
  have he : (s_W L.1 ad cA μ)[r]? = some (ad r, .inr (ci, fl.mapIdx (s_fv ad μ r))) := by rw [s_W_get hr, s_E_obj hr]
  have hR : (s_rm d).frames + 1 ≤ R.frames ∧ 8 + (mi2.2.2.1 + 11) + (s_rm d).locals ≤ R.locals := ⟨by show d + 1 ≤ _; omega, by show 8 + (mi2.2.2.1 + 11) + 60 * d ≤ _; omega⟩
  have hp : PreV s H mi2.1.cls (ad r) (s_Pc L D tys ad cA H.size (sR r :: as) μ) (as.map (s_av ad)) := ⟨s_blind, va_recv hK hP hc he, s_pre (as := sR r :: as) hP hD hK hN⟩
  have hsk : (as.reverse ++ sR r :: st).map (s_av ad) = (as.map (s_av ad)).reverse ++ .ref (ad r) :: st.map (s_av ad) := by
    rw [List.map_append, List.map_reverse, List.map_cons]
    rfl
  have hroom : 2 * (F0 m pc ls ((as.reverse ++ sR r :: st).map (s_av ad))).monitorRoom + ((st.map (s_av ad)).map fun v => v.category).sum ≤ 8 := lv_room (by rw [s_catsum_eq]; exact hst)
  obtain ⟨f1, f2, f3, f4, f5, f6⟩ := id hF
  rcases hlk with hlk | ⟨host, hlk⟩
  · exact va_runV ⟨hx, hb, hmx, hown, hts⟩ hM (cwV (C := mi2.1.cls) n hts (fun w hw => by
      rcases List.mem_append.mp hw with h | h
      · simp only [List.mem_cons, List.not_mem_nil, or_false] at h
        rcases h with rfl | rfl | rfl | rfl
        · exact sT_good _ hlk
        · exact sT_good _ hV.1
        · exact sT_good _ hV.2
        · exact sT_good _ f2
      · exact s_goodc hF w h) rfl rfl rfl ⟨rfl, f3, f4, f6⟩ hR) hp rfl (by rw [List.length_map]; exact hn) hl.1 hsk hroom hd ⟨q3, q4⟩
  · exact va_runVN ⟨hx, hb, hmx, hown, hts⟩ hM ⟨va_cnB n hts (s_goodc hF) rfl rfl rfl (hN _ hlk) (hts _ f2) ⟨f3, f4, f6⟩ hR, hts _ hV.1, hts _ hV.2⟩ hp rfl (by rw [List.length_map]; exact hn) hl.1 hsk hroom hd ⟨q3, q4⟩
theorem s_runS {L : sLy} {mi mi2 : sMI} {n d idx pc : Nat} {as st : List sAV} {al : List (Option sAV)} {μ : sM} {l : Launch} {D : va_G} {tys : List (ClassId × FieldType)} {ad : Nat → Nat} {cA : Nat → ClassId} {p : Program} {e : Env} {R : Room} {s : State} {m : MethodId} {args : Array Value} {below : List Frame} {meth : Method} {c : Code} {A : Nat → Prop} {H : Heap} {locs : List Loc} {cells slots : Nat} {ls : Array Slot} {Qc : Array Value → State → Outcome → State → Prop}
    (hC : s_C L mi (d + 1) D tys cA p R s m args c A cells slots) (hl : lv_has ls mi.2.2.1 (s_ll ad 0 al)) (hP : va_P D vwCl (s_W L.1 ad cA μ) H) (hD : va_D A (s_W L.1 ad cA μ))
    (hd : decode mi.2.1 pc = .ok (.invokestatic idx, 3)) (hlk : s_ML mi.1.cls idx mi2.1) (hF : s_MF mi2 n) (hV : s_MS mi2) (hn : as.length = n) (hst : (st.map s_cat).sum ≤ 8) (hml : mi2.2.2.1 ≤ 41)
    (hM : Met l mi2.1 (Cond.code mi2.1 mi2.2.1 mi2.2.2.1 mi2.2.2.2 :: sT) (s_rm d) (s_Pc L D tys ad cA H.size as μ) Qc 0 0 (va_A (s_W L.1 ad cA μ) H.size)) :
    va_Run p l e R s m args below meth c H locs cells slots 0 0 (F0 m pc ls ((as.reverse ++ st).map (s_av ad))) (st.map (s_av ad)) (Qc (as.map (s_av ad)).toArray) (va_A (s_W L.1 ad cA μ) H.size) := by
  obtain ⟨hx, hb, hmx, hown, hts, hN, hK, hT, ⟨q1, q2, q3, q4⟩, hA⟩ := hC
  have hR : (s_rm d).frames + 1 ≤ R.frames ∧ 8 + (mi2.2.2.1 + 11) + (s_rm d).locals ≤ R.locals := ⟨by show d + 1 ≤ _; omega, by show 8 + (mi2.2.2.1 + 11) + 60 * d ≤ _; omega⟩
  have hp : PreS s H (s_Pc L D tys ad cA H.size as μ) (as.map (s_av ad)) := ⟨s_blind, s_pre (as := as) hP hD hK hN⟩
  have hsk : (as.reverse ++ st).map (s_av ad) = (as.map (s_av ad)).reverse ++ st.map (s_av ad) := by rw [List.map_append, List.map_reverse]
  have hroom : 2 * (F0 m pc ls ((as.reverse ++ st).map (s_av ad))).monitorRoom + ((st.map (s_av ad)).map fun v => v.category).sum ≤ 8 := lv_room (by rw [s_catsum_eq]; exact hst)
  obtain ⟨f1, f2, f3, f4, f5, f6⟩ := id hF
  rcases hlk with hlk | ⟨host, hlk⟩
  · exact va_runS ⟨hx, hb, hmx, hown, hts⟩ hM (va_cwS n hts (fun w hw => by
      rcases List.mem_append.mp hw with h | h
      · simp only [List.mem_cons, List.not_mem_nil, or_false] at h
        rcases h with rfl | rfl | rfl
        · exact sT_good _ hlk
        · exact sT_good _ hV
        · exact sT_good _ f2
      · exact s_goodc hF w h) rfl rfl rfl ⟨f3, f4, f6⟩ hR) hp rfl (by rw [List.length_map]; exact hn) hl.1 hsk hroom hd ⟨q3, q4⟩
  · exact va_runSN ⟨hx, hb, hmx, hown, hts⟩ hM ⟨va_cnB n hts (s_goodc hF) rfl rfl rfl (hN _ hlk) (hts _ f2) ⟨f3, f4, f6⟩ hR, hts _ hV, trivial⟩ hp rfl (by rw [List.length_map]; exact hn) hl.1 hsk hroom hd ⟨q3, q4⟩
theorem g_callVi {L : sLy} {mi mi2 : sMI} {d n : Nat} {Q : Option sAV → sM → Prop} {pc : Nat} {al : List (Option sAV)} {st : List sAV} {μ : sM} {idx ci r : Nat} {fl : List Nat} {T : u_T} {N : Nat} {sk : List sAV} (as : List sAV) (hd : decode mi.2.1 pc = .ok (.invokevirtual idx, 3)) (hlk : s_ML mi.1.cls idx mi2.1) (hF : s_MF mi2 n) (hV : s_MV mi2) (hr : L.1[r]? = some (sO_ ci fl)) (hc : vwCl[ci]? = some (mi2.1.cls, T, N)) (hn : as.length = n) (hlen : (s_ent (sR r :: as)).length ≤ mi2.2.2.1) (hst : (st.map s_cat).sum ≤ 8) (hml : mi2.2.2.1 ≤ 41) (hs : sk = as.reverse ++ sR r :: st)
    (k : sCl L mi2 d (sR r :: as) μ (kI fun x μ2 => sG L mi (d + 1) Q (pc + 3) al (sI x :: st) μ2)) : sG L mi (d + 1) Q pc al sk μ := by
  intro l D tys ad cA p e R s m args below meth c A H locs cells slots Z ls hC hl hP hD hS hZ
  subst hs
  have hFc := s_free (D := D) hD hS hC.2.2.2.2.2.2.2.2.2
  have hM := s_metI (D := D) (tys := tys) (ad := ad) (cA := cA) (sz := H.size) hF l hC.2.2.2.2.2.2.2.1 hlen k
  refine va_calli (s_runV hC hl hP hD hd hlk hF hV hr hc hn hst hml hM) hS (fun q _ h => hFc q h) hFc (fun x u t H1 locs ht hvm hw hB hz1 hk1 hS => ?_)
  obtain ⟨hP1, hD1⟩ := hB
  rw [ht] at hP1
  exact hw l D tys ad cA p e R s m args below meth c A H1 locs cells slots Z ls hC hl hP1 (hD1.weaken (fun _ _ _ h => hFc _ h)) hS hZ
theorem g_callVl {L : sLy} {mi mi2 : sMI} {d n : Nat} {Q : Option sAV → sM → Prop} {pc : Nat} {al : List (Option sAV)} {st : List sAV} {μ : sM} {idx ci r : Nat} {fl : List Nat} {T : u_T} {N : Nat} {sk : List sAV} (as : List sAV) (hd : decode mi.2.1 pc = .ok (.invokevirtual idx, 3)) (hlk : s_ML mi.1.cls idx mi2.1) (hF : s_MF mi2 n) (hV : s_MV mi2) (hr : L.1[r]? = some (sO_ ci fl)) (hc : vwCl[ci]? = some (mi2.1.cls, T, N)) (hn : as.length = n) (hlen : (s_ent (sR r :: as)).length ≤ mi2.2.2.1) (hst : (st.map s_cat).sum ≤ 8) (hml : mi2.2.2.1 ≤ 41) (hs : sk = as.reverse ++ sR r :: st)
    (k : sCl L mi2 d (sR r :: as) μ (kL fun x μ2 => sG L mi (d + 1) Q (pc + 3) al (sL x :: st) μ2)) : sG L mi (d + 1) Q pc al sk μ := by
  intro l D tys ad cA p e R s m args below meth c A H locs cells slots Z ls hC hl hP hD hS hZ
  subst hs
  have hFc := s_free (D := D) hD hS hC.2.2.2.2.2.2.2.2.2
  have hM := s_metL (D := D) (tys := tys) (ad := ad) (cA := cA) (sz := H.size) hF l hC.2.2.2.2.2.2.2.1 hlen k
  refine va_calll (s_runV hC hl hP hD hd hlk hF hV hr hc hn hst hml hM) hS (fun q _ h => hFc q h) hFc (fun x u t H1 locs ht hvm hw hB hz1 hk1 hS => ?_)
  obtain ⟨hP1, hD1⟩ := hB
  rw [ht] at hP1
  exact hw l D tys ad cA p e R s m args below meth c A H1 locs cells slots Z ls hC hl hP1 (hD1.weaken (fun _ _ _ h => hFc _ h)) hS hZ
theorem g_callVv {L : sLy} {mi mi2 : sMI} {d n : Nat} {Q : Option sAV → sM → Prop} {pc : Nat} {al : List (Option sAV)} {st : List sAV} {μ : sM} {idx ci r : Nat} {fl : List Nat} {T : u_T} {N : Nat} {sk : List sAV} (as : List sAV) (hd : decode mi.2.1 pc = .ok (.invokevirtual idx, 3)) (hlk : s_ML mi.1.cls idx mi2.1) (hF : s_MF mi2 n) (hV : s_MV mi2) (hr : L.1[r]? = some (sO_ ci fl)) (hc : vwCl[ci]? = some (mi2.1.cls, T, N)) (hn : as.length = n) (hlen : (s_ent (sR r :: as)).length ≤ mi2.2.2.1) (hst : (st.map s_cat).sum ≤ 8) (hml : mi2.2.2.1 ≤ 41) (hs : sk = as.reverse ++ sR r :: st)
    (k : sCl L mi2 d (sR r :: as) μ (kV fun μ2 => sG L mi (d + 1) Q (pc + 3) al st μ2)) : sG L mi (d + 1) Q pc al sk μ := by
  intro l D tys ad cA p e R s m args below meth c A H locs cells slots Z ls hC hl hP hD hS hZ
  subst hs
  have hFc := s_free (D := D) hD hS hC.2.2.2.2.2.2.2.2.2
  have hM := s_metV (D := D) (tys := tys) (ad := ad) (cA := cA) (sz := H.size) hF l hC.2.2.2.2.2.2.2.1 hlen k
  refine va_callv (s_runV hC hl hP hD hd hlk hF hV hr hc hn hst hml hM) hS (fun q _ h => hFc q h) hFc (fun  u t H1 locs ht hvm hw hB hz1 hk1 hS => ?_)
  obtain ⟨hP1, hD1⟩ := hB
  rw [ht] at hP1
  exact hw l D tys ad cA p e R s m args below meth c A H1 locs cells slots Z ls hC hl hP1 (hD1.weaken (fun _ _ _ h => hFc _ h)) hS hZ
theorem g_callSi {L : sLy} {mi mi2 : sMI} {d n : Nat} {Q : Option sAV → sM → Prop} {pc : Nat} {al : List (Option sAV)} {st : List sAV} {μ : sM} {idx : Nat} {sk : List sAV} (as : List sAV) (hd : decode mi.2.1 pc = .ok (.invokestatic idx, 3)) (hlk : s_ML mi.1.cls idx mi2.1) (hF : s_MF mi2 n) (hV : s_MS mi2) (hn : as.length = n) (hlen : (s_ent as).length ≤ mi2.2.2.1) (hst : (st.map s_cat).sum ≤ 8) (hml : mi2.2.2.1 ≤ 41) (hs : sk = as.reverse ++ st)
    (k : sCl L mi2 d as μ (kI fun x μ2 => sG L mi (d + 1) Q (pc + 3) al (sI x :: st) μ2)) : sG L mi (d + 1) Q pc al sk μ := by
  intro l D tys ad cA p e R s m args below meth c A H locs cells slots Z ls hC hl hP hD hS hZ
  subst hs
  have hFc := s_free (D := D) hD hS hC.2.2.2.2.2.2.2.2.2
  have hM := s_metI (D := D) (tys := tys) (ad := ad) (cA := cA) (sz := H.size) hF l hC.2.2.2.2.2.2.2.1 hlen k
  refine va_calli (s_runS hC hl hP hD hd hlk hF hV hn hst hml hM) hS (fun q _ h => hFc q h) hFc (fun x u t H1 locs ht hvm hw hB hz1 hk1 hS => ?_)
  obtain ⟨hP1, hD1⟩ := hB
  rw [ht] at hP1
  exact hw l D tys ad cA p e R s m args below meth c A H1 locs cells slots Z ls hC hl hP1 (hD1.weaken (fun _ _ _ h => hFc _ h)) hS hZ
theorem g_callSl {L : sLy} {mi mi2 : sMI} {d n : Nat} {Q : Option sAV → sM → Prop} {pc : Nat} {al : List (Option sAV)} {st : List sAV} {μ : sM} {idx : Nat} {sk : List sAV} (as : List sAV) (hd : decode mi.2.1 pc = .ok (.invokestatic idx, 3)) (hlk : s_ML mi.1.cls idx mi2.1) (hF : s_MF mi2 n) (hV : s_MS mi2) (hn : as.length = n) (hlen : (s_ent as).length ≤ mi2.2.2.1) (hst : (st.map s_cat).sum ≤ 8) (hml : mi2.2.2.1 ≤ 41) (hs : sk = as.reverse ++ st)
    (k : sCl L mi2 d as μ (kL fun x μ2 => sG L mi (d + 1) Q (pc + 3) al (sL x :: st) μ2)) : sG L mi (d + 1) Q pc al sk μ := by
  intro l D tys ad cA p e R s m args below meth c A H locs cells slots Z ls hC hl hP hD hS hZ
  subst hs
  have hFc := s_free (D := D) hD hS hC.2.2.2.2.2.2.2.2.2
  have hM := s_metL (D := D) (tys := tys) (ad := ad) (cA := cA) (sz := H.size) hF l hC.2.2.2.2.2.2.2.1 hlen k
  refine va_calll (s_runS hC hl hP hD hd hlk hF hV hn hst hml hM) hS (fun q _ h => hFc q h) hFc (fun x u t H1 locs ht hvm hw hB hz1 hk1 hS => ?_)
  obtain ⟨hP1, hD1⟩ := hB
  rw [ht] at hP1
  exact hw l D tys ad cA p e R s m args below meth c A H1 locs cells slots Z ls hC hl hP1 (hD1.weaken (fun _ _ _ h => hFc _ h)) hS hZ
theorem g_callSv {L : sLy} {mi mi2 : sMI} {d n : Nat} {Q : Option sAV → sM → Prop} {pc : Nat} {al : List (Option sAV)} {st : List sAV} {μ : sM} {idx : Nat} {sk : List sAV} (as : List sAV) (hd : decode mi.2.1 pc = .ok (.invokestatic idx, 3)) (hlk : s_ML mi.1.cls idx mi2.1) (hF : s_MF mi2 n) (hV : s_MS mi2) (hn : as.length = n) (hlen : (s_ent as).length ≤ mi2.2.2.1) (hst : (st.map s_cat).sum ≤ 8) (hml : mi2.2.2.1 ≤ 41) (hs : sk = as.reverse ++ st)
    (k : sCl L mi2 d as μ (kV fun μ2 => sG L mi (d + 1) Q (pc + 3) al st μ2)) : sG L mi (d + 1) Q pc al sk μ := by
  intro l D tys ad cA p e R s m args below meth c A H locs cells slots Z ls hC hl hP hD hS hZ
  subst hs
  have hFc := s_free (D := D) hD hS hC.2.2.2.2.2.2.2.2.2
  have hM := s_metV (D := D) (tys := tys) (ad := ad) (cA := cA) (sz := H.size) hF l hC.2.2.2.2.2.2.2.1 hlen k
  refine va_callv (s_runS hC hl hP hD hd hlk hF hV hn hst hml hM) hS (fun q _ h => hFc q h) hFc (fun  u t H1 locs ht hvm hw hB hz1 hk1 hS => ?_)
  obtain ⟨hP1, hD1⟩ := hB
  rw [ht] at hP1
  exact hw l D tys ad cA p e R s m args below meth c A H1 locs cells slots Z ls hC hl hP1 (hD1.weaken (fun _ _ _ h => hFc _ h)) hS hZ
