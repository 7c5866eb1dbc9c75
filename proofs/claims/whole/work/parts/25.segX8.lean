-- SEGMENTS of X8 (printed by wip/whole/walker.py)
set_option maxRecDepth 20000 in
theorem eX8_things {d : Nat} {Q : Option sAV → sM → Prop} {μ : sM} {a1 : Int32} (h : ((a1 < 1 → Q (some (sI (-2))) μ) ∧ (¬ a1 < 1 → ((a1 ≤ 7 → sCl sLL mX6_asAtFirst d [sR 1, sI a1] μ (kV fun μ1 => Q (some (sI (μ.1 1 0))) μ1)) ∧ (¬ a1 ≤ 7 → Q (some (sI (-2))) μ))))) : sCl sLL mX8_things (d + 1) [sR 0, sI a1] μ Q := by
  refine sG.loc (al2 := [some (sR 0), some (sI a1), none]) (s_le_s (s_le_s (s_le_p s_le_0))) ?_
  refine g_iload_n dX8_things_0 rfl ?_
  refine g_iconst 1 dX8_things_1 (by decide) ?_
  refine g_icmp_lt 11 dX8_things_2 (by decide) (fun q => ?_) (fun q => ?_)
  · have h := h.1 q
    refine g_bipush (-2) dX8_things_11 (by decide) ?_
    exact g_iret dX8_things_13 rfl rfl h
  · have h := h.2 q
    refine g_iload_n dX8_things_5 rfl ?_
    refine g_bipush 7 dX8_things_6 (by decide) ?_
    refine g_icmp_le 14 dX8_things_8 (by decide) (fun q => ?_) (fun q => ?_)
    · have h := h.1 q
      refine g_aload_n dX8_things_14 rfl ?_
      refine g_getr (r2 := 1) dX8_things_15 fX8_10 rfl rfl ?_
      refine h_geti (μ.1 1 0) dX8_things_18 fX8_79 rfl rfl rfl ?_
      refine g_istore_n [some (sR 0), some (sI a1), some (sI (μ.1 1 0))] dX8_things_21 rfl (by decide) rfl ?_
      refine g_aload_n dX8_things_22 rfl ?_
      refine g_getr (r2 := 1) dX8_things_23 fX8_10 rfl rfl ?_
      refine g_iload_n dX8_things_26 rfl ?_
      refine g_callVv (mi2 := mX6_asAtFirst) (r := 1) (st := []) [sI a1] dX8_things_27 lX8_83 kX6_asAtFirst vX6_asAtFirst rfl rfl rfl (Nat.le_of_ble_eq_true rfl) (Nat.le_of_ble_eq_true rfl) (Nat.le_of_ble_eq_true rfl) rfl ?_
      refine sG.mono h (kV_mono fun μ1 h => ?_)
      refine g_iload_n dX8_things_30 rfl ?_
      exact g_iret dX8_things_31 rfl rfl h
    · have h := h.2 q
      refine g_bipush (-2) dX8_things_11 (by decide) ?_
      exact g_iret dX8_things_13 rfl rfl h
set_option maxRecDepth 20000 in
theorem eX8_thing {d : Nat} {Q : Option sAV → sM → Prop} {μ : sM} {a1 : Int32} {a2 : Int32} {a3 : Int32} (h : sCl sLL mX6_hasThing d [sR 1, sI a1] μ (kI fun r1 μ1 => ((¬ r1 = 0 → ((a2 < 0 → Q (some (sI (-2))) μ1) ∧ (¬ a2 < 0 → ((a2 ≤ 3 → ((a3 < 0 → Q (some (sI (-2))) μ1) ∧ (¬ a3 < 0 → ((¬ a2 = 2 → ((a3 ≤ 9 → ((¬ a2 = 3 → sCl sLL mX6_ofThing d [sR 1, sI a1, sI a2] μ1 (kI fun r2 μ2 => sCl sLL mX6_change d [sR 1, sI a1, sI a2, sI a3] μ2 (kV fun μ3 => Q (some (sI r2)) μ3))) ∧ (a2 = 3 → (vp_in a1 7 ∧ ((a3 ≤ (μ1.1 5 a1.toNatClampNeg) → sCl sLL mX6_ofThing d [sR 1, sI a1, sI a2] μ1 (kI fun r2 μ2 => sCl sLL mX6_change d [sR 1, sI a1, sI a2, sI a3] μ2 (kV fun μ3 => Q (some (sI r2)) μ3))) ∧ (¬ a3 ≤ (μ1.1 5 a1.toNatClampNeg) → Q (some (sI (-3))) μ1)))))) ∧ (¬ a3 ≤ 9 → Q (some (sI (-2))) μ1))) ∧ (a2 = 2 → ((a3 ≤ 1 → ((¬ a2 = 3 → sCl sLL mX6_ofThing d [sR 1, sI a1, sI a2] μ1 (kI fun r2 μ2 => sCl sLL mX6_change d [sR 1, sI a1, sI a2, sI a3] μ2 (kV fun μ3 => Q (some (sI r2)) μ3))) ∧ (a2 = 3 → (vp_in a1 7 ∧ ((a3 ≤ (μ1.1 5 a1.toNatClampNeg) → sCl sLL mX6_ofThing d [sR 1, sI a1, sI a2] μ1 (kI fun r2 μ2 => sCl sLL mX6_change d [sR 1, sI a1, sI a2, sI a3] μ2 (kV fun μ3 => Q (some (sI r2)) μ3))) ∧ (¬ a3 ≤ (μ1.1 5 a1.toNatClampNeg) → Q (some (sI (-3))) μ1)))))) ∧ (¬ a3 ≤ 1 → Q (some (sI (-2))) μ1))))))) ∧ (¬ a2 ≤ 3 → Q (some (sI (-2))) μ1))))) ∧ (r1 = 0 → Q (some (sI (-1))) μ1)))) : sCl sLL mX8_thing (d + 1) [sR 0, sI a1, sI a2, sI a3] μ Q := by
  refine sG.loc (al2 := [some (sR 0), some (sI a1), some (sI a2), some (sI a3), none]) (s_le_s (s_le_s (s_le_s (s_le_s (s_le_p s_le_0))))) ?_
  refine g_aload_n dX8_thing_0 rfl ?_
  refine g_getr (r2 := 1) dX8_thing_1 fX8_10 rfl rfl ?_
  refine g_iload_n dX8_thing_4 rfl ?_
  refine g_callVi (mi2 := mX6_hasThing) (r := 1) (st := []) [sI a1] dX8_thing_5 lX8_87 kX6_hasThing vX6_hasThing rfl rfl rfl (Nat.le_of_ble_eq_true rfl) (Nat.le_of_ble_eq_true rfl) (Nat.le_of_ble_eq_true rfl) rfl ?_
  refine sG.mono h (kI_mono fun r1 μ1 h => ?_)
  refine g_if_ne 13 dX8_thing_8 (by decide) (fun q => ?_) (fun q => ?_)
  · have h := h.1 q
    refine g_iload_n dX8_thing_13 rfl ?_
    refine g_if_lt 22 dX8_thing_14 (by decide) (fun q => ?_) (fun q => ?_)
    · have h := h.1 q
      refine g_bipush (-2) dX8_thing_22 (by decide) ?_
      exact g_iret dX8_thing_24 rfl rfl h
    · have h := h.2 q
      refine g_iload_n dX8_thing_17 rfl ?_
      refine g_iconst 3 dX8_thing_18 (by decide) ?_
      refine g_icmp_le 25 dX8_thing_19 (by decide) (fun q => ?_) (fun q => ?_)
      · have h := h.1 q
        refine g_iload_n dX8_thing_25 rfl ?_
        refine g_if_lt 44 dX8_thing_26 (by decide) (fun q => ?_) (fun q => ?_)
        · have h := h.1 q
          refine g_bipush (-2) dX8_thing_44 (by decide) ?_
          exact g_iret dX8_thing_46 rfl rfl h
        · have h := h.2 q
          refine g_iload_n dX8_thing_29 rfl ?_
          refine g_iload_n dX8_thing_30 rfl ?_
          refine g_iconst 2 dX8_thing_31 (by decide) ?_
          refine g_icmp_ne 39 dX8_thing_32 (by decide) (fun q => ?_) (fun q => ?_)
          · have h := h.1 q
            refine g_bipush 9 dX8_thing_39 (by decide) ?_
            refine g_icmp_le 47 dX8_thing_41 (by decide) (fun q => ?_) (fun q => ?_)
            · have h := h.1 q
              refine g_iload_n dX8_thing_47 rfl ?_
              refine g_iconst 3 dX8_thing_48 (by decide) ?_
              refine g_icmp_ne 68 dX8_thing_49 (by decide) (fun q => ?_) (fun q => ?_)
              · have h := h.1 q
                refine g_aload_n dX8_thing_68 rfl ?_
                refine g_getr (r2 := 1) dX8_thing_69 fX8_10 rfl rfl ?_
                refine g_iload_n dX8_thing_72 rfl ?_
                refine g_iload_n dX8_thing_73 rfl ?_
                refine g_callVi (mi2 := mX6_ofThing) (r := 1) (st := []) [sI a1, sI a2] dX8_thing_74 lX8_95 kX6_ofThing vX6_ofThing rfl rfl rfl (Nat.le_of_ble_eq_true rfl) (Nat.le_of_ble_eq_true rfl) (Nat.le_of_ble_eq_true rfl) rfl ?_
                refine sG.mono h (kI_mono fun r2 μ2 h => ?_)
                refine g_istore [some (sR 0), some (sI a1), some (sI a2), some (sI a3), some (sI r2)] dX8_thing_77 (by decide) rfl ?_
                refine g_aload_n dX8_thing_79 rfl ?_
                refine g_getr (r2 := 1) dX8_thing_80 fX8_10 rfl rfl ?_
                refine g_iload_n dX8_thing_83 rfl ?_
                refine g_iload_n dX8_thing_84 rfl ?_
                refine g_iload_n dX8_thing_85 rfl ?_
                refine g_callVv (mi2 := mX6_change) (r := 1) (st := []) [sI a1, sI a2, sI a3] dX8_thing_86 lX8_99 kX6_change vX6_change rfl rfl rfl (Nat.le_of_ble_eq_true rfl) (Nat.le_of_ble_eq_true rfl) (Nat.le_of_ble_eq_true rfl) rfl ?_
                refine sG.mono h (kV_mono fun μ3 h => ?_)
                refine g_iload dX8_thing_89 rfl ?_
                exact g_iret dX8_thing_91 rfl rfl h
              · have h := h.2 q
                refine g_iload_n dX8_thing_52 rfl ?_
                refine g_aload_n dX8_thing_53 rfl ?_
                refine g_getr (r2 := 1) dX8_thing_54 fX8_10 rfl rfl ?_
                refine g_getr (r2 := 5) dX8_thing_57 fX8_91 rfl rfl ?_
                refine g_iload_n dX8_thing_60 rfl ?_
                obtain ⟨v1, h⟩ := h
                refine h_iald (μ1.1 5 a1.toNatClampNeg) dX8_thing_61 rfl rfl v1 rfl ?_
                refine g_icmp_le 68 dX8_thing_62 (by decide) (fun q => ?_) (fun q => ?_)
                · have h := h.1 q
                  refine g_aload_n dX8_thing_68 rfl ?_
                  refine g_getr (r2 := 1) dX8_thing_69 fX8_10 rfl rfl ?_
                  refine g_iload_n dX8_thing_72 rfl ?_
                  refine g_iload_n dX8_thing_73 rfl ?_
                  refine g_callVi (mi2 := mX6_ofThing) (r := 1) (st := []) [sI a1, sI a2] dX8_thing_74 lX8_95 kX6_ofThing vX6_ofThing rfl rfl rfl (Nat.le_of_ble_eq_true rfl) (Nat.le_of_ble_eq_true rfl) (Nat.le_of_ble_eq_true rfl) rfl ?_
                  refine sG.mono h (kI_mono fun r2 μ2 h => ?_)
                  refine g_istore [some (sR 0), some (sI a1), some (sI a2), some (sI a3), some (sI r2)] dX8_thing_77 (by decide) rfl ?_
                  refine g_aload_n dX8_thing_79 rfl ?_
                  refine g_getr (r2 := 1) dX8_thing_80 fX8_10 rfl rfl ?_
                  refine g_iload_n dX8_thing_83 rfl ?_
                  refine g_iload_n dX8_thing_84 rfl ?_
                  refine g_iload_n dX8_thing_85 rfl ?_
                  refine g_callVv (mi2 := mX6_change) (r := 1) (st := []) [sI a1, sI a2, sI a3] dX8_thing_86 lX8_99 kX6_change vX6_change rfl rfl rfl (Nat.le_of_ble_eq_true rfl) (Nat.le_of_ble_eq_true rfl) (Nat.le_of_ble_eq_true rfl) rfl ?_
                  refine sG.mono h (kV_mono fun μ3 h => ?_)
                  refine g_iload dX8_thing_89 rfl ?_
                  exact g_iret dX8_thing_91 rfl rfl h
                · have h := h.2 q
                  refine g_bipush (-3) dX8_thing_65 (by decide) ?_
                  exact g_iret dX8_thing_67 rfl rfl h
            · have h := h.2 q
              refine g_bipush (-2) dX8_thing_44 (by decide) ?_
              exact g_iret dX8_thing_46 rfl rfl h
          · have h := h.2 q
            refine g_iconst 1 dX8_thing_35 (by decide) ?_
            refine g_goto 41 dX8_thing_36 (by decide) ?_
            refine g_icmp_le 47 dX8_thing_41 (by decide) (fun q => ?_) (fun q => ?_)
            · have h := h.1 q
              refine g_iload_n dX8_thing_47 rfl ?_
              refine g_iconst 3 dX8_thing_48 (by decide) ?_
              refine g_icmp_ne 68 dX8_thing_49 (by decide) (fun q => ?_) (fun q => ?_)
              · have h := h.1 q
                refine g_aload_n dX8_thing_68 rfl ?_
                refine g_getr (r2 := 1) dX8_thing_69 fX8_10 rfl rfl ?_
                refine g_iload_n dX8_thing_72 rfl ?_
                refine g_iload_n dX8_thing_73 rfl ?_
                refine g_callVi (mi2 := mX6_ofThing) (r := 1) (st := []) [sI a1, sI a2] dX8_thing_74 lX8_95 kX6_ofThing vX6_ofThing rfl rfl rfl (Nat.le_of_ble_eq_true rfl) (Nat.le_of_ble_eq_true rfl) (Nat.le_of_ble_eq_true rfl) rfl ?_
                refine sG.mono h (kI_mono fun r2 μ2 h => ?_)
                refine g_istore [some (sR 0), some (sI a1), some (sI a2), some (sI a3), some (sI r2)] dX8_thing_77 (by decide) rfl ?_
                refine g_aload_n dX8_thing_79 rfl ?_
                refine g_getr (r2 := 1) dX8_thing_80 fX8_10 rfl rfl ?_
                refine g_iload_n dX8_thing_83 rfl ?_
                refine g_iload_n dX8_thing_84 rfl ?_
                refine g_iload_n dX8_thing_85 rfl ?_
                refine g_callVv (mi2 := mX6_change) (r := 1) (st := []) [sI a1, sI a2, sI a3] dX8_thing_86 lX8_99 kX6_change vX6_change rfl rfl rfl (Nat.le_of_ble_eq_true rfl) (Nat.le_of_ble_eq_true rfl) (Nat.le_of_ble_eq_true rfl) rfl ?_
                refine sG.mono h (kV_mono fun μ3 h => ?_)
                refine g_iload dX8_thing_89 rfl ?_
                exact g_iret dX8_thing_91 rfl rfl h
              · have h := h.2 q
                refine g_iload_n dX8_thing_52 rfl ?_
                refine g_aload_n dX8_thing_53 rfl ?_
                refine g_getr (r2 := 1) dX8_thing_54 fX8_10 rfl rfl ?_
                refine g_getr (r2 := 5) dX8_thing_57 fX8_91 rfl rfl ?_
                refine g_iload_n dX8_thing_60 rfl ?_
                obtain ⟨v1, h⟩ := h
                refine h_iald (μ1.1 5 a1.toNatClampNeg) dX8_thing_61 rfl rfl v1 rfl ?_
                refine g_icmp_le 68 dX8_thing_62 (by decide) (fun q => ?_) (fun q => ?_)
                · have h := h.1 q
                  refine g_aload_n dX8_thing_68 rfl ?_
                  refine g_getr (r2 := 1) dX8_thing_69 fX8_10 rfl rfl ?_
                  refine g_iload_n dX8_thing_72 rfl ?_
                  refine g_iload_n dX8_thing_73 rfl ?_
                  refine g_callVi (mi2 := mX6_ofThing) (r := 1) (st := []) [sI a1, sI a2] dX8_thing_74 lX8_95 kX6_ofThing vX6_ofThing rfl rfl rfl (Nat.le_of_ble_eq_true rfl) (Nat.le_of_ble_eq_true rfl) (Nat.le_of_ble_eq_true rfl) rfl ?_
                  refine sG.mono h (kI_mono fun r2 μ2 h => ?_)
                  refine g_istore [some (sR 0), some (sI a1), some (sI a2), some (sI a3), some (sI r2)] dX8_thing_77 (by decide) rfl ?_
                  refine g_aload_n dX8_thing_79 rfl ?_
                  refine g_getr (r2 := 1) dX8_thing_80 fX8_10 rfl rfl ?_
                  refine g_iload_n dX8_thing_83 rfl ?_
                  refine g_iload_n dX8_thing_84 rfl ?_
                  refine g_iload_n dX8_thing_85 rfl ?_
                  refine g_callVv (mi2 := mX6_change) (r := 1) (st := []) [sI a1, sI a2, sI a3] dX8_thing_86 lX8_99 kX6_change vX6_change rfl rfl rfl (Nat.le_of_ble_eq_true rfl) (Nat.le_of_ble_eq_true rfl) (Nat.le_of_ble_eq_true rfl) rfl ?_
                  refine sG.mono h (kV_mono fun μ3 h => ?_)
                  refine g_iload dX8_thing_89 rfl ?_
                  exact g_iret dX8_thing_91 rfl rfl h
                · have h := h.2 q
                  refine g_bipush (-3) dX8_thing_65 (by decide) ?_
                  exact g_iret dX8_thing_67 rfl rfl h
            · have h := h.2 q
              refine g_bipush (-2) dX8_thing_44 (by decide) ?_
              exact g_iret dX8_thing_46 rfl rfl h
      · have h := h.2 q
        refine g_bipush (-2) dX8_thing_22 (by decide) ?_
        exact g_iret dX8_thing_24 rfl rfl h
  · have h := h.2 q
    refine g_iconst (-1) dX8_thing_11 (by decide) ?_
    exact g_iret dX8_thing_12 rfl rfl h
set_option maxRecDepth 20000 in
theorem eX8_guest {d : Nat} {Q : Option sAV → sM → Prop} {μ : sM} {a1 : Int32} {a2 : Int32} {a3 : Int32} {a4 : Int32} {a5 : Int32} (h : ((a1 < 0 → Q (some (sI (-1))) μ) ∧ (¬ a1 < 0 → ((a1 < 4 → ((a2 < 0 → Q (some (sI (-2))) μ) ∧ (¬ a2 < 0 → ((9 < a2 → Q (some (sI (-2))) μ) ∧ (¬ 9 < a2 → ((a3 < 1 → Q (some (sI (-2))) μ) ∧ (¬ a3 < 1 → ((a3 ≤ 9 → ((a4 < 0 → Q (some (sI (-2))) μ) ∧ (¬ a4 < 0 → ((3 < a4 → Q (some (sI (-2))) μ) ∧ (¬ 3 < a4 → ((a5 < 1 → Q (some (sI (-2))) μ) ∧ (¬ a5 < 1 → ((a5 ≤ 9 → sCl sLL mX6_welcome d [sR 1, sI a1, sI a2, sI a3, sI a4, sI a5] μ (kV fun μ1 => sCl sLL mJ6_bitCount_0f7a4 d [sI (μ1.1 1 2)] μ1 (kI fun r2 μ2 => Q (some (sI r2)) μ2))) ∧ (¬ a5 ≤ 9 → Q (some (sI (-2))) μ))))))))) ∧ (¬ a3 ≤ 9 → Q (some (sI (-2))) μ))))))))) ∧ (¬ a1 < 4 → Q (some (sI (-1))) μ))))) : sCl sLL mX8_guest (d + 1) [sR 0, sI a1, sI a2, sI a3, sI a4, sI a5] μ Q := by
  refine sG.loc (al2 := [some (sR 0), some (sI a1), some (sI a2), some (sI a3), some (sI a4), some (sI a5)]) (s_le_s (s_le_s (s_le_s (s_le_s (s_le_s (s_le_s s_le_0)))))) ?_
  refine g_iload_n dX8_guest_0 rfl ?_
  refine g_if_lt 9 dX8_guest_1 (by decide) (fun q => ?_) (fun q => ?_)
  · have h := h.1 q
    refine g_iconst (-1) dX8_guest_9 (by decide) ?_
    exact g_iret dX8_guest_10 rfl rfl h
  · have h := h.2 q
    refine g_iload_n dX8_guest_4 rfl ?_
    refine g_iconst 4 dX8_guest_5 (by decide) ?_
    refine g_icmp_lt 11 dX8_guest_6 (by decide) (fun q => ?_) (fun q => ?_)
    · have h := h.1 q
      refine g_iload_n dX8_guest_11 rfl ?_
      refine g_if_lt 32 dX8_guest_12 (by decide) (fun q => ?_) (fun q => ?_)
      · have h := h.1 q
        refine g_bipush (-2) dX8_guest_32 (by decide) ?_
        exact g_iret dX8_guest_34 rfl rfl h
      · have h := h.2 q
        refine g_iload_n dX8_guest_15 rfl ?_
        refine g_bipush 9 dX8_guest_16 (by decide) ?_
        refine g_icmp_gt 32 dX8_guest_18 (by decide) (fun q => ?_) (fun q => ?_)
        · have h := h.1 q
          refine g_bipush (-2) dX8_guest_32 (by decide) ?_
          exact g_iret dX8_guest_34 rfl rfl h
        · have h := h.2 q
          refine g_iload_n dX8_guest_21 rfl ?_
          refine g_iconst 1 dX8_guest_22 (by decide) ?_
          refine g_icmp_lt 32 dX8_guest_23 (by decide) (fun q => ?_) (fun q => ?_)
          · have h := h.1 q
            refine g_bipush (-2) dX8_guest_32 (by decide) ?_
            exact g_iret dX8_guest_34 rfl rfl h
          · have h := h.2 q
            refine g_iload_n dX8_guest_26 rfl ?_
            refine g_bipush 9 dX8_guest_27 (by decide) ?_
            refine g_icmp_le 35 dX8_guest_29 (by decide) (fun q => ?_) (fun q => ?_)
            · have h := h.1 q
              refine g_iload dX8_guest_35 rfl ?_
              refine g_if_lt 59 dX8_guest_37 (by decide) (fun q => ?_) (fun q => ?_)
              · have h := h.1 q
                refine g_bipush (-2) dX8_guest_59 (by decide) ?_
                exact g_iret dX8_guest_61 rfl rfl h
              · have h := h.2 q
                refine g_iload dX8_guest_40 rfl ?_
                refine g_iconst 3 dX8_guest_42 (by decide) ?_
                refine g_icmp_gt 59 dX8_guest_43 (by decide) (fun q => ?_) (fun q => ?_)
                · have h := h.1 q
                  refine g_bipush (-2) dX8_guest_59 (by decide) ?_
                  exact g_iret dX8_guest_61 rfl rfl h
                · have h := h.2 q
                  refine g_iload dX8_guest_46 rfl ?_
                  refine g_iconst 1 dX8_guest_48 (by decide) ?_
                  refine g_icmp_lt 59 dX8_guest_49 (by decide) (fun q => ?_) (fun q => ?_)
                  · have h := h.1 q
                    refine g_bipush (-2) dX8_guest_59 (by decide) ?_
                    exact g_iret dX8_guest_61 rfl rfl h
                  · have h := h.2 q
                    refine g_iload dX8_guest_52 rfl ?_
                    refine g_bipush 9 dX8_guest_54 (by decide) ?_
                    refine g_icmp_le 62 dX8_guest_56 (by decide) (fun q => ?_) (fun q => ?_)
                    · have h := h.1 q
                      refine g_aload_n dX8_guest_62 rfl ?_
                      refine g_getr (r2 := 1) dX8_guest_63 fX8_10 rfl rfl ?_
                      refine g_iload_n dX8_guest_66 rfl ?_
                      refine g_iload_n dX8_guest_67 rfl ?_
                      refine g_iload_n dX8_guest_68 rfl ?_
                      refine g_iload dX8_guest_69 rfl ?_
                      refine g_iload dX8_guest_71 rfl ?_
                      refine g_callVv (mi2 := mX6_welcome) (r := 1) (st := []) [sI a1, sI a2, sI a3, sI a4, sI a5] dX8_guest_73 lX8_103 kX6_welcome vX6_welcome rfl rfl rfl (Nat.le_of_ble_eq_true rfl) (Nat.le_of_ble_eq_true rfl) (Nat.le_of_ble_eq_true rfl) rfl ?_
                      refine sG.mono h (kV_mono fun μ1 h => ?_)
                      refine g_aload_n dX8_guest_76 rfl ?_
                      refine g_getr (r2 := 1) dX8_guest_77 fX8_10 rfl rfl ?_
                      refine h_geti (μ1.1 1 2) dX8_guest_80 fX8_107 rfl rfl rfl ?_
                      refine g_callSi (mi2 := mJ6_bitCount_0f7a4) (st := []) [sI (μ1.1 1 2)] dX8_guest_83 lX8_110 kJ6_bitCount_0f7a4 vJ6_bitCount_0f7a4 rfl (Nat.le_of_ble_eq_true rfl) (Nat.le_of_ble_eq_true rfl) (Nat.le_of_ble_eq_true rfl) rfl ?_
                      refine sG.mono h (kI_mono fun r2 μ2 h => ?_)
                      exact g_iret dX8_guest_86 rfl rfl h
                    · have h := h.2 q
                      refine g_bipush (-2) dX8_guest_59 (by decide) ?_
                      exact g_iret dX8_guest_61 rfl rfl h
            · have h := h.2 q
              refine g_bipush (-2) dX8_guest_32 (by decide) ?_
              exact g_iret dX8_guest_34 rfl rfl h
    · have h := h.2 q
      refine g_iconst (-1) dX8_guest_9 (by decide) ?_
      exact g_iret dX8_guest_10 rfl rfl h
set_option maxRecDepth 20000 in
theorem eX8_leave {d : Nat} {Q : Option sAV → sM → Prop} {μ : sM} {a1 : Int32} (h : sCl sLL mX6_hasGuest d [sR 1, sI a1] μ (kI fun r1 μ1 => ((¬ r1 = 0 → sCl sLL mJ6_bitCount_0f7a4 d [sI ((μ1.1 1 2) &&& (((1 : Int32) <<< (a1 &&& 31)) ^^^ (-1)))] (s_u μ1 1 2 ((μ1.1 1 2) &&& (((1 : Int32) <<< (a1 &&& 31)) ^^^ (-1)))) (kI fun r2 μ2 => Q (some (sI r2)) μ2)) ∧ (r1 = 0 → Q (some (sI (-1))) μ1)))) : sCl sLL mX8_leave (d + 1) [sR 0, sI a1] μ Q := by
  refine sG.loc (al2 := [some (sR 0), some (sI a1)]) (s_le_s (s_le_s s_le_0)) ?_
  refine g_aload_n dX8_leave_0 rfl ?_
  refine g_getr (r2 := 1) dX8_leave_1 fX8_10 rfl rfl ?_
  refine g_iload_n dX8_leave_4 rfl ?_
  refine g_callVi (mi2 := mX6_hasGuest) (r := 1) (st := []) [sI a1] dX8_leave_5 lX8_116 kX6_hasGuest vX6_hasGuest rfl rfl rfl (Nat.le_of_ble_eq_true rfl) (Nat.le_of_ble_eq_true rfl) (Nat.le_of_ble_eq_true rfl) rfl ?_
  refine sG.mono h (kI_mono fun r1 μ1 h => ?_)
  refine g_if_ne 13 dX8_leave_8 (by decide) (fun q => ?_) (fun q => ?_)
  · have h := h.1 q
    refine g_aload_n dX8_leave_13 rfl ?_
    refine g_getr (r2 := 1) dX8_leave_14 fX8_10 rfl rfl ?_
    refine g_dup_r dX8_leave_17 ?_
    refine h_geti (μ1.1 1 2) dX8_leave_18 fX8_107 rfl rfl rfl ?_
    refine g_iconst 1 dX8_leave_21 (by decide) ?_
    refine g_iload_n dX8_leave_22 rfl ?_
    refine g_ishl dX8_leave_23 ?_
    refine g_iconst (-1) dX8_leave_24 (by decide) ?_
    refine g_ixor dX8_leave_25 ?_
    refine g_iand dX8_leave_26 ?_
    refine g_puti dX8_leave_27 fX8_107 rfl rfl rfl rfl ?_
    refine g_aload_n dX8_leave_30 rfl ?_
    refine g_getr (r2 := 1) dX8_leave_31 fX8_10 rfl rfl ?_
    refine h_geti ((μ1.1 1 2) &&& (((1 : Int32) <<< (a1 &&& 31)) ^^^ (-1))) dX8_leave_34 fX8_107 rfl rfl rfl ?_
    refine g_callSi (mi2 := mJ6_bitCount_0f7a4) (st := []) [sI ((μ1.1 1 2) &&& (((1 : Int32) <<< (a1 &&& 31)) ^^^ (-1)))] dX8_leave_37 lX8_110 kJ6_bitCount_0f7a4 vJ6_bitCount_0f7a4 rfl (Nat.le_of_ble_eq_true rfl) (Nat.le_of_ble_eq_true rfl) (Nat.le_of_ble_eq_true rfl) rfl ?_
    refine sG.mono h (kI_mono fun r2 μ2 h => ?_)
    exact g_iret dX8_leave_40 rfl rfl h
  · have h := h.2 q
    refine g_iconst (-1) dX8_leave_11 (by decide) ?_
    exact g_iret dX8_leave_12 rfl rfl h
set_option maxRecDepth 20000 in
theorem eX8_say {d : Nat} {Q : Option sAV → sM → Prop} {μ : sM} {a1 : Int32} (h : ((a1 < 33 → Q (some (sI (-2))) μ) ∧ (¬ a1 < 33 → ((a1 ≤ 126 → sCl sLL mX4_add d [sR 33, sI a1] μ (kI fun r1 μ1 => Q (some (sI r1)) μ1)) ∧ (¬ a1 ≤ 126 → Q (some (sI (-2))) μ))))) : sCl sLL mX8_say (d + 1) [sR 0, sI a1] μ Q := by
  refine sG.loc (al2 := [some (sR 0), some (sI a1)]) (s_le_s (s_le_s s_le_0)) ?_
  refine g_iload_n dX8_say_0 rfl ?_
  refine g_bipush 33 dX8_say_1 (by decide) ?_
  refine g_icmp_lt 12 dX8_say_3 (by decide) (fun q => ?_) (fun q => ?_)
  · have h := h.1 q
    refine g_bipush (-2) dX8_say_12 (by decide) ?_
    exact g_iret dX8_say_14 rfl rfl h
  · have h := h.2 q
    refine g_iload_n dX8_say_6 rfl ?_
    refine g_bipush 126 dX8_say_7 (by decide) ?_
    refine g_icmp_le 15 dX8_say_9 (by decide) (fun q => ?_) (fun q => ?_)
    · have h := h.1 q
      refine g_aload_n dX8_say_15 rfl ?_
      refine g_getr (r2 := 33) dX8_say_16 fX8_27 rfl rfl ?_
      refine g_iload_n dX8_say_19 rfl ?_
      refine g_callVi (mi2 := mX4_add) (r := 33) (st := []) [sI a1] dX8_say_20 lX8_119 kX4_add vX4_add rfl rfl rfl (Nat.le_of_ble_eq_true rfl) (Nat.le_of_ble_eq_true rfl) (Nat.le_of_ble_eq_true rfl) rfl ?_
      refine sG.mono h (kI_mono fun r1 μ1 h => ?_)
      exact g_iret dX8_say_23 rfl rfl h
    · have h := h.2 q
      refine g_bipush (-2) dX8_say_12 (by decide) ?_
      exact g_iret dX8_say_14 rfl rfl h
set_option maxRecDepth 20000 in
theorem eX8_wipe {d : Nat} {Q : Option sAV → sM → Prop} {μ : sM} (h : Q (some (sI (μ.1 33 0))) (s_u μ 33 0 0)) : sCl sLL mX8_wipe d [sR 0] μ Q := by
  refine sG.loc (al2 := [some (sR 0), none]) (s_le_s (s_le_p s_le_0)) ?_
  refine g_aload_n dX8_wipe_0 rfl ?_
  refine g_getr (r2 := 33) dX8_wipe_1 fX8_27 rfl rfl ?_
  refine h_geti (μ.1 33 0) dX8_wipe_4 fX8_122 rfl rfl rfl ?_
  refine g_istore_n [some (sR 0), some (sI (μ.1 33 0))] dX8_wipe_7 rfl (by decide) rfl ?_
  refine g_aload_n dX8_wipe_8 rfl ?_
  refine g_getr (r2 := 33) dX8_wipe_9 fX8_27 rfl rfl ?_
  refine g_iconst 0 dX8_wipe_12 (by decide) ?_
  refine g_puti dX8_wipe_13 fX8_122 rfl rfl rfl rfl ?_
  refine g_iload_n dX8_wipe_16 rfl ?_
  exact g_iret dX8_wipe_17 rfl rfl h
set_option maxRecDepth 20000 in
theorem eX8_fault {d : Nat} {Q : Option sAV → sM → Prop} {μ : sM} (h : sCl sLL mX4_firstFault d [sR 33, sI (μ.1 1 0)] μ (kI fun r1 μ1 => Q (some (sI r1)) μ1)) : sCl sLL mX8_fault (d + 1) [sR 0] μ Q := by
  refine sG.loc (al2 := [some (sR 0)]) (s_le_s s_le_0) ?_
  refine g_aload_n dX8_fault_0 rfl ?_
  refine g_getr (r2 := 33) dX8_fault_1 fX8_27 rfl rfl ?_
  refine g_aload_n dX8_fault_4 rfl ?_
  refine g_getr (r2 := 1) dX8_fault_5 fX8_10 rfl rfl ?_
  refine h_geti (μ.1 1 0) dX8_fault_8 fX8_79 rfl rfl rfl ?_
  refine g_callVi (mi2 := mX4_firstFault) (r := 33) (st := []) [sI (μ.1 1 0)] dX8_fault_11 lX8_125 kX4_firstFault vX4_firstFault rfl rfl rfl (Nat.le_of_ble_eq_true rfl) (Nat.le_of_ble_eq_true rfl) (Nat.le_of_ble_eq_true rfl) rfl ?_
  refine sG.mono h (kI_mono fun r1 μ1 h => ?_)
  exact g_iret dX8_fault_14 rfl rfl h
set_option maxRecDepth 20000 in
theorem eX8_judge {d : Nat} {Q : Option sAV → sM → Prop} {μ : sM} {a1 : Int32} (h : ((a1 < 0 → Q (some (sI (-2))) μ) ∧ (¬ a1 < 0 → ((a1 ≤ 3 → sCl sLL mX8_runEvening d [sR 0] μ (kI fun r1 μ1 => ((r1 = (-5) → Q (some (sI r1)) μ1) ∧ (¬ r1 = (-5) → ((¬ r1 = (-3) → ((a1 = 0 → Q (some (sI (μ1.1 37 7))) μ1) ∧ (¬ a1 = 0 → ((a1 = 1 → Q (some (sI (μ1.1 37 8))) μ1) ∧ (¬ a1 = 1 → ((a1 = 2 → Q (some (sI (μ1.1 37 9))) μ1) ∧ (¬ a1 = 2 → Q (some (sI (μ1.1 37 10))) μ1))))))) ∧ (r1 = (-3) → ((a1 < 2 → ((a1 = 0 → Q (some (sI (μ1.1 37 7))) μ1) ∧ (¬ a1 = 0 → ((a1 = 1 → Q (some (sI (μ1.1 37 8))) μ1) ∧ (¬ a1 = 1 → ((a1 = 2 → Q (some (sI (μ1.1 37 9))) μ1) ∧ (¬ a1 = 2 → Q (some (sI (μ1.1 37 10))) μ1))))))) ∧ (¬ a1 < 2 → Q (some (sI r1)) μ1)))))))) ∧ (¬ a1 ≤ 3 → Q (some (sI (-2))) μ))))) : sCl sLL mX8_judge (d + 1) [sR 0, sI a1] μ Q := by
  refine sG.loc (al2 := [some (sR 0), some (sI a1), none]) (s_le_s (s_le_s (s_le_p s_le_0))) ?_
  refine g_iload_n dX8_judge_0 rfl ?_
  refine g_if_lt 9 dX8_judge_1 (by decide) (fun q => ?_) (fun q => ?_)
  · have h := h.1 q
    refine g_bipush (-2) dX8_judge_9 (by decide) ?_
    exact g_iret dX8_judge_11 rfl rfl h
  · have h := h.2 q
    refine g_iload_n dX8_judge_4 rfl ?_
    refine g_iconst 3 dX8_judge_5 (by decide) ?_
    refine g_icmp_le 12 dX8_judge_6 (by decide) (fun q => ?_) (fun q => ?_)
    · have h := h.1 q
      refine g_aload_n dX8_judge_12 rfl ?_
      refine g_callVi (mi2 := mX8_runEvening) (r := 0) (st := []) [] dX8_judge_13 lX8_128 kX8_runEvening vX8_runEvening rfl rfl rfl (Nat.le_of_ble_eq_true rfl) (Nat.le_of_ble_eq_true rfl) (Nat.le_of_ble_eq_true rfl) rfl ?_
      refine sG.mono h (kI_mono fun r1 μ1 h => ?_)
      refine g_istore_n [some (sR 0), some (sI a1), some (sI r1)] dX8_judge_16 rfl (by decide) rfl ?_
      refine g_iload_n dX8_judge_17 rfl ?_
      refine g_bipush (-5) dX8_judge_18 (by decide) ?_
      refine g_icmp_eq 34 dX8_judge_20 (by decide) (fun q => ?_) (fun q => ?_)
      · have h := h.1 q
        refine g_iload_n dX8_judge_34 rfl ?_
        exact g_iret dX8_judge_35 rfl rfl h
      · have h := h.2 q
        refine g_iload_n dX8_judge_23 rfl ?_
        refine g_bipush (-3) dX8_judge_24 (by decide) ?_
        refine g_icmp_ne 36 dX8_judge_26 (by decide) (fun q => ?_) (fun q => ?_)
        · have h := h.1 q
          refine g_iload_n dX8_judge_36 rfl ?_
          by_cases q0 : a1 = 0
          · have h := h.1 q0
            refine g_tin 64 0 dX8_judge_37 (by rw [q0]; decide) (by decide) rfl (by decide) ?_
            refine g_aload_n dX8_judge_64 rfl ?_
            refine g_getr (r2 := 37) dX8_judge_65 fX8_45 rfl rfl ?_
            refine h_geti (μ1.1 37 7) dX8_judge_68 fX8_132 rfl rfl rfl ?_
            exact g_iret dX8_judge_71 rfl rfl h
          · have h := h.2 q0
            by_cases q1 : a1 = 1
            · have h := h.1 q1
              refine g_tin 72 1 dX8_judge_37 (by rw [q1]; decide) (by decide) rfl (by decide) ?_
              refine g_aload_n dX8_judge_72 rfl ?_
              refine g_getr (r2 := 37) dX8_judge_73 fX8_45 rfl rfl ?_
              refine h_geti (μ1.1 37 8) dX8_judge_76 fX8_135 rfl rfl rfl ?_
              exact g_iret dX8_judge_79 rfl rfl h
            · have h := h.2 q1
              by_cases q2 : a1 = 2
              · have h := h.1 q2
                refine g_tin 80 2 dX8_judge_37 (by rw [q2]; decide) (by decide) rfl (by decide) ?_
                refine g_aload_n dX8_judge_80 rfl ?_
                refine g_getr (r2 := 37) dX8_judge_81 fX8_45 rfl rfl ?_
                refine h_geti (μ1.1 37 9) dX8_judge_84 fX8_138 rfl rfl rfl ?_
                exact g_iret dX8_judge_87 rfl rfl h
              · have h := h.2 q2
                have n0 := lv_neT (a := 0) q0 (by decide)
                have n1 := lv_neT (a := 1) q1 (by decide)
                have n2 := lv_neT (a := 2) q2 (by decide)
                refine g_tout 88 dX8_judge_37 (by omega) (by decide) ?_
                refine g_aload_n dX8_judge_88 rfl ?_
                refine g_getr (r2 := 37) dX8_judge_89 fX8_45 rfl rfl ?_
                refine h_geti (μ1.1 37 10) dX8_judge_92 fX8_141 rfl rfl rfl ?_
                exact g_iret dX8_judge_95 rfl rfl h
        · have h := h.2 q
          refine g_iload_n dX8_judge_29 rfl ?_
          refine g_iconst 2 dX8_judge_30 (by decide) ?_
          refine g_icmp_lt 36 dX8_judge_31 (by decide) (fun q => ?_) (fun q => ?_)
          · have h := h.1 q
            refine g_iload_n dX8_judge_36 rfl ?_
            by_cases q0 : a1 = 0
            · have h := h.1 q0
              refine g_tin 64 0 dX8_judge_37 (by rw [q0]; decide) (by decide) rfl (by decide) ?_
              refine g_aload_n dX8_judge_64 rfl ?_
              refine g_getr (r2 := 37) dX8_judge_65 fX8_45 rfl rfl ?_
              refine h_geti (μ1.1 37 7) dX8_judge_68 fX8_132 rfl rfl rfl ?_
              exact g_iret dX8_judge_71 rfl rfl h
            · have h := h.2 q0
              by_cases q1 : a1 = 1
              · have h := h.1 q1
                refine g_tin 72 1 dX8_judge_37 (by rw [q1]; decide) (by decide) rfl (by decide) ?_
                refine g_aload_n dX8_judge_72 rfl ?_
                refine g_getr (r2 := 37) dX8_judge_73 fX8_45 rfl rfl ?_
                refine h_geti (μ1.1 37 8) dX8_judge_76 fX8_135 rfl rfl rfl ?_
                exact g_iret dX8_judge_79 rfl rfl h
              · have h := h.2 q1
                by_cases q2 : a1 = 2
                · have h := h.1 q2
                  refine g_tin 80 2 dX8_judge_37 (by rw [q2]; decide) (by decide) rfl (by decide) ?_
                  refine g_aload_n dX8_judge_80 rfl ?_
                  refine g_getr (r2 := 37) dX8_judge_81 fX8_45 rfl rfl ?_
                  refine h_geti (μ1.1 37 9) dX8_judge_84 fX8_138 rfl rfl rfl ?_
                  exact g_iret dX8_judge_87 rfl rfl h
                · have h := h.2 q2
                  have n0 := lv_neT (a := 0) q0 (by decide)
                  have n1 := lv_neT (a := 1) q1 (by decide)
                  have n2 := lv_neT (a := 2) q2 (by decide)
                  refine g_tout 88 dX8_judge_37 (by omega) (by decide) ?_
                  refine g_aload_n dX8_judge_88 rfl ?_
                  refine g_getr (r2 := 37) dX8_judge_89 fX8_45 rfl rfl ?_
                  refine h_geti (μ1.1 37 10) dX8_judge_92 fX8_141 rfl rfl rfl ?_
                  exact g_iret dX8_judge_95 rfl rfl h
          · have h := h.2 q
            refine g_iload_n dX8_judge_34 rfl ?_
            exact g_iret dX8_judge_35 rfl rfl h
    · have h := h.2 q
      refine g_bipush (-2) dX8_judge_9 (by decide) ?_
      exact g_iret dX8_judge_11 rfl rfl h
set_option maxRecDepth 20000 in
theorem eX8_runEvening {d : Nat} {Q : Option sAV → sM → Prop} {μ : sM} (h : sCl sLL mX4_firstFault d [sR 33, sI (μ.1 1 0)] μ (kI fun r1 μ1 => ((r1 = (-6) → sCl sLL mX2_run d [sR 37, sR 33] μ1 (kV fun μ2 => ((¬ (μ2.1 37 7) = (-6) → Q (some (sI (-3))) μ2) ∧ ((μ2.1 37 7) = (-6) → Q (some (sI 0)) μ2)))) ∧ (¬ r1 = (-6) → Q (some (sI (-5))) μ1)))) : sCl sLL mX8_runEvening (d + 1) [sR 0] μ Q := by
  refine sG.loc (al2 := [some (sR 0)]) (s_le_s s_le_0) ?_
  refine g_aload_n dX8_runEvening_0 rfl ?_
  refine g_getr (r2 := 33) dX8_runEvening_1 fX8_27 rfl rfl ?_
  refine g_aload_n dX8_runEvening_4 rfl ?_
  refine g_getr (r2 := 1) dX8_runEvening_5 fX8_10 rfl rfl ?_
  refine h_geti (μ.1 1 0) dX8_runEvening_8 fX8_79 rfl rfl rfl ?_
  refine g_callVi (mi2 := mX4_firstFault) (r := 33) (st := []) [sI (μ.1 1 0)] dX8_runEvening_11 lX8_125 kX4_firstFault vX4_firstFault rfl rfl rfl (Nat.le_of_ble_eq_true rfl) (Nat.le_of_ble_eq_true rfl) (Nat.le_of_ble_eq_true rfl) rfl ?_
  refine sG.mono h (kI_mono fun r1 μ1 h => ?_)
  refine g_bipush (-6) dX8_runEvening_14 (by decide) ?_
  refine g_icmp_eq 22 dX8_runEvening_16 (by decide) (fun q => ?_) (fun q => ?_)
  · have h := h.1 q
    refine g_aload_n dX8_runEvening_22 rfl ?_
    refine g_getr (r2 := 37) dX8_runEvening_23 fX8_45 rfl rfl ?_
    refine g_aload_n dX8_runEvening_26 rfl ?_
    refine g_getr (r2 := 33) dX8_runEvening_27 fX8_27 rfl rfl ?_
    refine g_callVv (mi2 := mX2_run) (r := 37) (st := []) [sR 33] dX8_runEvening_30 lX8_263 kX2_run vX2_run rfl rfl rfl (Nat.le_of_ble_eq_true rfl) (Nat.le_of_ble_eq_true rfl) (Nat.le_of_ble_eq_true rfl) rfl ?_
    refine sG.mono h (kV_mono fun μ2 h => ?_)
    refine g_aload_n dX8_runEvening_33 rfl ?_
    refine g_getr (r2 := 37) dX8_runEvening_34 fX8_45 rfl rfl ?_
    refine h_geti (μ2.1 37 7) dX8_runEvening_37 fX8_132 rfl rfl rfl ?_
    refine g_bipush (-6) dX8_runEvening_40 (by decide) ?_
    refine g_icmp_ne 49 dX8_runEvening_42 (by decide) (fun q => ?_) (fun q => ?_)
    · have h := h.1 q
      refine g_bipush (-3) dX8_runEvening_49 (by decide) ?_
      exact g_iret dX8_runEvening_51 rfl rfl h
    · have h := h.2 q
      refine g_iconst 0 dX8_runEvening_45 (by decide) ?_
      refine g_goto 51 dX8_runEvening_46 (by decide) ?_
      exact g_iret dX8_runEvening_51 rfl rfl h
  · have h := h.2 q
    refine g_bipush (-5) dX8_runEvening_19 (by decide) ?_
    exact g_iret dX8_runEvening_21 rfl rfl h
set_option maxRecDepth 20000 in
theorem eX8_used {d : Nat} {Q : Option sAV → sM → Prop} {μ : sM} {a1 : Int32} (h : sCl sLL mX8_runEvening d [sR 0] μ (kI fun r1 μ1 => ((r1 = 0 → ((a1 < 0 → Q (some (sI (-2))) μ1) ∧ (¬ a1 < 0 → ((a1 < (μ1.1 33 0) → (vp_in a1 40 ∧ Q (some (sI (μ1.1 42 a1.toNatClampNeg))) μ1)) ∧ (¬ a1 < (μ1.1 33 0) → Q (some (sI (-2))) μ1))))) ∧ (¬ r1 = 0 → Q (some (sI r1)) μ1)))) : sCl sLL mX8_used (d + 1) [sR 0, sI a1] μ Q := by
  refine sG.loc (al2 := [some (sR 0), some (sI a1), none]) (s_le_s (s_le_s (s_le_p s_le_0))) ?_
  refine g_aload_n dX8_used_0 rfl ?_
  refine g_callVi (mi2 := mX8_runEvening) (r := 0) (st := []) [] dX8_used_1 lX8_128 kX8_runEvening vX8_runEvening rfl rfl rfl (Nat.le_of_ble_eq_true rfl) (Nat.le_of_ble_eq_true rfl) (Nat.le_of_ble_eq_true rfl) rfl ?_
  refine sG.mono h (kI_mono fun r1 μ1 h => ?_)
  refine g_istore_n [some (sR 0), some (sI a1), some (sI r1)] dX8_used_4 rfl (by decide) rfl ?_
  refine g_iload_n dX8_used_5 rfl ?_
  refine g_if_eq 11 dX8_used_6 (by decide) (fun q => ?_) (fun q => ?_)
  · have h := h.1 q
    refine g_iload_n dX8_used_11 rfl ?_
    refine g_if_lt 26 dX8_used_12 (by decide) (fun q => ?_) (fun q => ?_)
    · have h := h.1 q
      refine g_bipush (-2) dX8_used_26 (by decide) ?_
      exact g_iret dX8_used_28 rfl rfl h
    · have h := h.2 q
      refine g_iload_n dX8_used_15 rfl ?_
      refine g_aload_n dX8_used_16 rfl ?_
      refine g_getr (r2 := 33) dX8_used_17 fX8_27 rfl rfl ?_
      refine h_geti (μ1.1 33 0) dX8_used_20 fX8_122 rfl rfl rfl ?_
      refine g_icmp_lt 29 dX8_used_23 (by decide) (fun q => ?_) (fun q => ?_)
      · have h := h.1 q
        refine g_aload_n dX8_used_29 rfl ?_
        refine g_getr (r2 := 37) dX8_used_30 fX8_45 rfl rfl ?_
        refine g_getr (r2 := 42) dX8_used_33 fX8_144 rfl rfl ?_
        refine g_iload_n dX8_used_36 rfl ?_
        obtain ⟨v1, h⟩ := h
        refine h_iald (μ1.1 42 a1.toNatClampNeg) dX8_used_37 rfl rfl v1 rfl ?_
        exact g_iret dX8_used_38 rfl rfl h
      · have h := h.2 q
        refine g_bipush (-2) dX8_used_26 (by decide) ?_
        exact g_iret dX8_used_28 rfl rfl h
  · have h := h.2 q
    refine g_iload_n dX8_used_9 rfl ?_
    exact g_iret dX8_used_10 rfl rfl h
set_option maxRecDepth 20000 in
theorem eX8_behind {d : Nat} {Q : Option sAV → sM → Prop} {μ : sM} {a1 : Int32} {a2 : Int32} (h : sCl sLL mX6_hasThing d [sR 1, sI a1] μ (kI fun r1 μ1 => ((¬ r1 = 0 → ((a2 < 0 → Q (some (sI (-2))) μ1) ∧ (¬ a2 < 0 → ((a2 ≤ 3 → sCl sLL mX8_runEvening d [sR 0] μ1 (kI fun r2 μ2 => ((r2 = 0 → ((a2 = 0 → (vp_in a1 7 ∧ Q (some (sI (μ2.1 36 a1.toNatClampNeg))) μ2)) ∧ (¬ a2 = 0 → ((a2 = 1 → (vp_in a1 7 ∧ Q (some (sI (μ2.1 38 a1.toNatClampNeg))) μ2)) ∧ (¬ a2 = 1 → ((a2 = 2 → (vp_in a1 7 ∧ Q (some (sI (μ2.1 39 a1.toNatClampNeg))) μ2)) ∧ (¬ a2 = 2 → (vp_in a1 7 ∧ Q (some (sI (μ2.1 40 a1.toNatClampNeg))) μ2)))))))) ∧ (¬ r2 = 0 → Q (some (sI r2)) μ2)))) ∧ (¬ a2 ≤ 3 → Q (some (sI (-2))) μ1))))) ∧ (r1 = 0 → Q (some (sI (-1))) μ1)))) : sCl sLL mX8_behind (d + 1) [sR 0, sI a1, sI a2] μ Q := by
  refine sG.loc (al2 := [some (sR 0), some (sI a1), some (sI a2), none]) (s_le_s (s_le_s (s_le_s (s_le_p s_le_0)))) ?_
  refine g_aload_n dX8_behind_0 rfl ?_
  refine g_getr (r2 := 1) dX8_behind_1 fX8_10 rfl rfl ?_
  refine g_iload_n dX8_behind_4 rfl ?_
  refine g_callVi (mi2 := mX6_hasThing) (r := 1) (st := []) [sI a1] dX8_behind_5 lX8_87 kX6_hasThing vX6_hasThing rfl rfl rfl (Nat.le_of_ble_eq_true rfl) (Nat.le_of_ble_eq_true rfl) (Nat.le_of_ble_eq_true rfl) rfl ?_
  refine sG.mono h (kI_mono fun r1 μ1 h => ?_)
  refine g_if_ne 13 dX8_behind_8 (by decide) (fun q => ?_) (fun q => ?_)
  · have h := h.1 q
    refine g_iload_n dX8_behind_13 rfl ?_
    refine g_if_lt 22 dX8_behind_14 (by decide) (fun q => ?_) (fun q => ?_)
    · have h := h.1 q
      refine g_bipush (-2) dX8_behind_22 (by decide) ?_
      exact g_iret dX8_behind_24 rfl rfl h
    · have h := h.2 q
      refine g_iload_n dX8_behind_17 rfl ?_
      refine g_iconst 3 dX8_behind_18 (by decide) ?_
      refine g_icmp_le 25 dX8_behind_19 (by decide) (fun q => ?_) (fun q => ?_)
      · have h := h.1 q
        refine g_aload_n dX8_behind_25 rfl ?_
        refine g_callVi (mi2 := mX8_runEvening) (r := 0) (st := []) [] dX8_behind_26 lX8_128 kX8_runEvening vX8_runEvening rfl rfl rfl (Nat.le_of_ble_eq_true rfl) (Nat.le_of_ble_eq_true rfl) (Nat.le_of_ble_eq_true rfl) rfl ?_
        refine sG.mono h (kI_mono fun r2 μ2 h => ?_)
        refine g_istore_n [some (sR 0), some (sI a1), some (sI a2), some (sI r2)] dX8_behind_29 rfl (by decide) rfl ?_
        refine g_iload_n dX8_behind_30 rfl ?_
        refine g_if_eq 36 dX8_behind_31 (by decide) (fun q => ?_) (fun q => ?_)
        · have h := h.1 q
          refine g_iload_n dX8_behind_36 rfl ?_
          by_cases q0 : a2 = 0
          · have h := h.1 q0
            refine g_tin 64 0 dX8_behind_37 (by rw [q0]; decide) (by decide) rfl (by decide) ?_
            refine g_aload_n dX8_behind_64 rfl ?_
            refine g_getr (r2 := 35) dX8_behind_65 fX8_36 rfl rfl ?_
            refine g_getr (r2 := 36) dX8_behind_68 fX8_147 rfl rfl ?_
            refine g_iload_n dX8_behind_71 rfl ?_
            obtain ⟨v1, h⟩ := h
            refine h_iald (μ2.1 36 a1.toNatClampNeg) dX8_behind_72 rfl rfl v1 rfl ?_
            exact g_iret dX8_behind_73 rfl rfl h
          · have h := h.2 q0
            by_cases q1 : a2 = 1
            · have h := h.1 q1
              refine g_tin 74 1 dX8_behind_37 (by rw [q1]; decide) (by decide) rfl (by decide) ?_
              refine g_aload_n dX8_behind_74 rfl ?_
              refine g_getr (r2 := 37) dX8_behind_75 fX8_45 rfl rfl ?_
              refine g_getr (r2 := 38) dX8_behind_78 fX8_150 rfl rfl ?_
              refine g_iload_n dX8_behind_81 rfl ?_
              obtain ⟨v1, h⟩ := h
              refine h_iald (μ2.1 38 a1.toNatClampNeg) dX8_behind_82 rfl rfl v1 rfl ?_
              exact g_iret dX8_behind_83 rfl rfl h
            · have h := h.2 q1
              by_cases q2 : a2 = 2
              · have h := h.1 q2
                refine g_tin 84 2 dX8_behind_37 (by rw [q2]; decide) (by decide) rfl (by decide) ?_
                refine g_aload_n dX8_behind_84 rfl ?_
                refine g_getr (r2 := 37) dX8_behind_85 fX8_45 rfl rfl ?_
                refine g_getr (r2 := 39) dX8_behind_88 fX8_153 rfl rfl ?_
                refine g_iload_n dX8_behind_91 rfl ?_
                obtain ⟨v1, h⟩ := h
                refine h_iald (μ2.1 39 a1.toNatClampNeg) dX8_behind_92 rfl rfl v1 rfl ?_
                exact g_iret dX8_behind_93 rfl rfl h
              · have h := h.2 q2
                have n0 := lv_neT (a := 0) q0 (by decide)
                have n1 := lv_neT (a := 1) q1 (by decide)
                have n2 := lv_neT (a := 2) q2 (by decide)
                refine g_tout 94 dX8_behind_37 (by omega) (by decide) ?_
                refine g_aload_n dX8_behind_94 rfl ?_
                refine g_getr (r2 := 37) dX8_behind_95 fX8_45 rfl rfl ?_
                refine g_getr (r2 := 40) dX8_behind_98 fX8_156 rfl rfl ?_
                refine g_iload_n dX8_behind_101 rfl ?_
                obtain ⟨v1, h⟩ := h
                refine h_iald (μ2.1 40 a1.toNatClampNeg) dX8_behind_102 rfl rfl v1 rfl ?_
                exact g_iret dX8_behind_103 rfl rfl h
        · have h := h.2 q
          refine g_iload_n dX8_behind_34 rfl ?_
          exact g_iret dX8_behind_35 rfl rfl h
      · have h := h.2 q
        refine g_bipush (-2) dX8_behind_22 (by decide) ?_
        exact g_iret dX8_behind_24 rfl rfl h
  · have h := h.2 q
    refine g_iconst (-1) dX8_behind_11 (by decide) ?_
    exact g_iret dX8_behind_12 rfl rfl h
set_option maxRecDepth 20000 in
theorem eX8_done {d : Nat} {Q : Option sAV → sM → Prop} {μ : sM} (h : sCl sLL mX8_runEvening d [sR 0] μ (kI fun r1 μ1 => ((r1 = 0 → Q (some (sI (μ1.1 33 0))) (s_u (s_cp (s_cp μ1 36 6 7) 38 7 7) 33 0 0)) ∧ (¬ r1 = 0 → Q (some (sI r1)) μ1)))) : sCl sLL mX8_done (d + 1) [sR 0] μ Q := by
  refine sG.loc (al2 := [some (sR 0), none, none]) (s_le_s (s_le_p (s_le_p s_le_0))) ?_
  refine g_aload_n dX8_done_0 rfl ?_
  refine g_callVi (mi2 := mX8_runEvening) (r := 0) (st := []) [] dX8_done_1 lX8_128 kX8_runEvening vX8_runEvening rfl rfl rfl (Nat.le_of_ble_eq_true rfl) (Nat.le_of_ble_eq_true rfl) (Nat.le_of_ble_eq_true rfl) rfl ?_
  refine sG.mono h (kI_mono fun r1 μ1 h => ?_)
  refine g_istore_n [some (sR 0), some (sI r1), none] dX8_done_4 rfl (by decide) rfl ?_
  refine g_iload_n dX8_done_5 rfl ?_
  refine g_if_eq 11 dX8_done_6 (by decide) (fun q => ?_) (fun q => ?_)
  · have h := h.1 q
    refine g_aload_n dX8_done_11 rfl ?_
    refine g_getr (r2 := 35) dX8_done_12 fX8_36 rfl rfl ?_
    refine g_getr (r2 := 36) dX8_done_15 fX8_147 rfl rfl ?_
    refine g_iconst 0 dX8_done_18 (by decide) ?_
    refine g_aload_n dX8_done_19 rfl ?_
    refine g_getr (r2 := 1) dX8_done_20 fX8_10 rfl rfl ?_
    refine g_getr (r2 := 6) dX8_done_23 fX8_159 rfl rfl ?_
    refine g_iconst 0 dX8_done_26 (by decide) ?_
    refine g_bipush 7 dX8_done_27 (by decide) ?_
    refine h_copy dX8_done_29 lX8_160 rfl rfl rfl rfl (by decide) (Nat.le_of_ble_eq_true rfl) (Nat.le_of_ble_eq_true rfl) ?_
    refine g_aload_n dX8_done_32 rfl ?_
    refine g_getr (r2 := 37) dX8_done_33 fX8_45 rfl rfl ?_
    refine g_getr (r2 := 38) dX8_done_36 fX8_150 rfl rfl ?_
    refine g_iconst 0 dX8_done_39 (by decide) ?_
    refine g_aload_n dX8_done_40 rfl ?_
    refine g_getr (r2 := 1) dX8_done_41 fX8_10 rfl rfl ?_
    refine g_getr (r2 := 7) dX8_done_44 fX8_166 rfl rfl ?_
    refine g_iconst 0 dX8_done_47 (by decide) ?_
    refine g_bipush 7 dX8_done_48 (by decide) ?_
    refine h_copy dX8_done_50 lX8_160 rfl rfl rfl rfl (by decide) (Nat.le_of_ble_eq_true rfl) (Nat.le_of_ble_eq_true rfl) ?_
    refine g_aload_n dX8_done_53 rfl ?_
    refine g_getr (r2 := 33) dX8_done_54 fX8_27 rfl rfl ?_
    refine h_geti (μ1.1 33 0) dX8_done_57 fX8_122 rfl rfl rfl ?_
    refine g_istore_n [some (sR 0), some (sI r1), some (sI (μ1.1 33 0))] dX8_done_60 rfl (by decide) rfl ?_
    refine g_aload_n dX8_done_61 rfl ?_
    refine g_getr (r2 := 33) dX8_done_62 fX8_27 rfl rfl ?_
    refine g_iconst 0 dX8_done_65 (by decide) ?_
    refine g_puti dX8_done_66 fX8_122 rfl rfl rfl rfl ?_
    refine g_iload_n dX8_done_69 rfl ?_
    exact g_iret dX8_done_70 rfl rfl h
  · have h := h.2 q
    refine g_iload_n dX8_done_9 rfl ?_
    exact g_iret dX8_done_10 rfl rfl h
set_option maxRecDepth 20000 in
theorem eX8_state {d : Nat} {Q : Option sAV → sM → Prop} {μ : sM} {a1 : Int32} {a2 : Int32} (h : sCl sLL mX6_hasThing d [sR 1, sI a1] μ (kI fun r1 μ1 => ((¬ r1 = 0 → ((a2 < 0 → Q (some (sI (-2))) μ1) ∧ (¬ a2 < 0 → ((a2 ≤ 1 → ((¬ a2 = 0 → sCl sLL mX6_ofThing d [sR 1, sI a1, sI 4] μ1 (kI fun r2 μ2 => Q (some (sI r2)) μ2)) ∧ (a2 = 0 → sCl sLL mX6_ofThing d [sR 1, sI a1, sI 3] μ1 (kI fun r2 μ2 => Q (some (sI r2)) μ2)))) ∧ (¬ a2 ≤ 1 → Q (some (sI (-2))) μ1))))) ∧ (r1 = 0 → Q (some (sI (-1))) μ1)))) : sCl sLL mX8_state (d + 1) [sR 0, sI a1, sI a2] μ Q := by
  refine sG.loc (al2 := [some (sR 0), some (sI a1), some (sI a2)]) (s_le_s (s_le_s (s_le_s s_le_0))) ?_
  refine g_aload_n dX8_state_0 rfl ?_
  refine g_getr (r2 := 1) dX8_state_1 fX8_10 rfl rfl ?_
  refine g_iload_n dX8_state_4 rfl ?_
  refine g_callVi (mi2 := mX6_hasThing) (r := 1) (st := []) [sI a1] dX8_state_5 lX8_87 kX6_hasThing vX6_hasThing rfl rfl rfl (Nat.le_of_ble_eq_true rfl) (Nat.le_of_ble_eq_true rfl) (Nat.le_of_ble_eq_true rfl) rfl ?_
  refine sG.mono h (kI_mono fun r1 μ1 h => ?_)
  refine g_if_ne 13 dX8_state_8 (by decide) (fun q => ?_) (fun q => ?_)
  · have h := h.1 q
    refine g_iload_n dX8_state_13 rfl ?_
    refine g_if_lt 22 dX8_state_14 (by decide) (fun q => ?_) (fun q => ?_)
    · have h := h.1 q
      refine g_bipush (-2) dX8_state_22 (by decide) ?_
      exact g_iret dX8_state_24 rfl rfl h
    · have h := h.2 q
      refine g_iload_n dX8_state_17 rfl ?_
      refine g_iconst 1 dX8_state_18 (by decide) ?_
      refine g_icmp_le 25 dX8_state_19 (by decide) (fun q => ?_) (fun q => ?_)
      · have h := h.1 q
        refine g_aload_n dX8_state_25 rfl ?_
        refine g_getr (r2 := 1) dX8_state_26 fX8_10 rfl rfl ?_
        refine g_iload_n dX8_state_29 rfl ?_
        refine g_iload_n dX8_state_30 rfl ?_
        refine g_if_ne 38 dX8_state_31 (by decide) (fun q => ?_) (fun q => ?_)
        · have h := h.1 q
          refine g_iconst 4 dX8_state_38 (by decide) ?_
          refine g_callVi (mi2 := mX6_ofThing) (r := 1) (st := []) [sI a1, sI 4] dX8_state_39 lX8_95 kX6_ofThing vX6_ofThing rfl rfl rfl (Nat.le_of_ble_eq_true rfl) (Nat.le_of_ble_eq_true rfl) (Nat.le_of_ble_eq_true rfl) rfl ?_
          refine sG.mono h (kI_mono fun r2 μ2 h => ?_)
          exact g_iret dX8_state_42 rfl rfl h
        · have h := h.2 q
          refine g_iconst 3 dX8_state_34 (by decide) ?_
          refine g_goto 39 dX8_state_35 (by decide) ?_
          refine g_callVi (mi2 := mX6_ofThing) (r := 1) (st := []) [sI a1, sI 3] dX8_state_39 lX8_95 kX6_ofThing vX6_ofThing rfl rfl rfl (Nat.le_of_ble_eq_true rfl) (Nat.le_of_ble_eq_true rfl) (Nat.le_of_ble_eq_true rfl) rfl ?_
          refine sG.mono h (kI_mono fun r2 μ2 h => ?_)
          exact g_iret dX8_state_42 rfl rfl h
      · have h := h.2 q
        refine g_bipush (-2) dX8_state_22 (by decide) ?_
        exact g_iret dX8_state_24 rfl rfl h
  · have h := h.2 q
    refine g_iconst (-1) dX8_state_11 (by decide) ?_
    exact g_iret dX8_state_12 rfl rfl h
set_option maxRecDepth 20000 in
theorem eX8_eats {d : Nat} {Q : Option sAV → sM → Prop} {μ : sM} {a1 : Int32} (h : sCl sLL mX6_hasGuest d [sR 1, sI a1] μ (kI fun r1 μ1 => ((¬ r1 = 0 → sCl sLL mX1_begin d [sR 35] μ1 (kV fun μ2 => sCl sLL mX1_choice d [sR 35, sI a1] μ2 (kI fun r3 μ3 => Q (some (sI r3)) μ3))) ∧ (r1 = 0 → Q (some (sI (-1))) μ1)))) : sCl sLL mX8_eats (d + 1) [sR 0, sI a1] μ Q := by
  refine sG.loc (al2 := [some (sR 0), some (sI a1)]) (s_le_s (s_le_s s_le_0)) ?_
  refine g_aload_n dX8_eats_0 rfl ?_
  refine g_getr (r2 := 1) dX8_eats_1 fX8_10 rfl rfl ?_
  refine g_iload_n dX8_eats_4 rfl ?_
  refine g_callVi (mi2 := mX6_hasGuest) (r := 1) (st := []) [sI a1] dX8_eats_5 lX8_116 kX6_hasGuest vX6_hasGuest rfl rfl rfl (Nat.le_of_ble_eq_true rfl) (Nat.le_of_ble_eq_true rfl) (Nat.le_of_ble_eq_true rfl) rfl ?_
  refine sG.mono h (kI_mono fun r1 μ1 h => ?_)
  refine g_if_ne 13 dX8_eats_8 (by decide) (fun q => ?_) (fun q => ?_)
  · have h := h.1 q
    refine g_aload_n dX8_eats_13 rfl ?_
    refine g_getr (r2 := 35) dX8_eats_14 fX8_36 rfl rfl ?_
    refine g_callVv (mi2 := mX1_begin) (r := 35) (st := []) [] dX8_eats_17 lX8_167 kX1_begin vX1_begin rfl rfl rfl (Nat.le_of_ble_eq_true rfl) (Nat.le_of_ble_eq_true rfl) (Nat.le_of_ble_eq_true rfl) rfl ?_
    refine sG.mono h (kV_mono fun μ2 h => ?_)
    refine g_aload_n dX8_eats_20 rfl ?_
    refine g_getr (r2 := 35) dX8_eats_21 fX8_36 rfl rfl ?_
    refine g_iload_n dX8_eats_24 rfl ?_
    refine g_callVi (mi2 := mX1_choice) (r := 35) (st := []) [sI a1] dX8_eats_25 lX8_170 kX1_choice vX1_choice rfl rfl rfl (Nat.le_of_ble_eq_true rfl) (Nat.le_of_ble_eq_true rfl) (Nat.le_of_ble_eq_true rfl) rfl ?_
    refine sG.mono h (kI_mono fun r3 μ3 h => ?_)
    exact g_iret dX8_eats_28 rfl rfl h
  · have h := h.2 q
    refine g_iconst (-1) dX8_eats_11 (by decide) ?_
    exact g_iret dX8_eats_12 rfl rfl h
set_option maxRecDepth 20000 in
theorem eX8_seen {d : Nat} {Q : Option sAV → sM → Prop} {μ : sM} {a1 : Int32} {a2 : Int32} (h : sCl sLL mX6_hasThing d [sR 1, sI a1] μ (kI fun r1 μ1 => ((¬ r1 = 0 → ((a2 < 0 → Q (some (sI (-2))) μ1) ∧ (¬ a2 < 0 → ((a2 ≤ 9 → (vp_in a1 7 ∧ sCl sLL mX6_sightBits d [sR 1] (s_u μ1 8 (a1.toNatClampNeg) a2) (kI fun r2 μ2 => sCl sLL mJ6_bitCount_0f7a4 d [sI r2] μ2 (kI fun r3 μ3 => Q (some (sI r3)) μ3)))) ∧ (¬ a2 ≤ 9 → Q (some (sI (-2))) μ1))))) ∧ (r1 = 0 → Q (some (sI (-1))) μ1)))) : sCl sLL mX8_seen (d + 1) [sR 0, sI a1, sI a2] μ Q := by
  refine sG.loc (al2 := [some (sR 0), some (sI a1), some (sI a2)]) (s_le_s (s_le_s (s_le_s s_le_0))) ?_
  refine g_aload_n dX8_seen_0 rfl ?_
  refine g_getr (r2 := 1) dX8_seen_1 fX8_10 rfl rfl ?_
  refine g_iload_n dX8_seen_4 rfl ?_
  refine g_callVi (mi2 := mX6_hasThing) (r := 1) (st := []) [sI a1] dX8_seen_5 lX8_87 kX6_hasThing vX6_hasThing rfl rfl rfl (Nat.le_of_ble_eq_true rfl) (Nat.le_of_ble_eq_true rfl) (Nat.le_of_ble_eq_true rfl) rfl ?_
  refine sG.mono h (kI_mono fun r1 μ1 h => ?_)
  refine g_if_ne 13 dX8_seen_8 (by decide) (fun q => ?_) (fun q => ?_)
  · have h := h.1 q
    refine g_iload_n dX8_seen_13 rfl ?_
    refine g_if_lt 23 dX8_seen_14 (by decide) (fun q => ?_) (fun q => ?_)
    · have h := h.1 q
      refine g_bipush (-2) dX8_seen_23 (by decide) ?_
      exact g_iret dX8_seen_25 rfl rfl h
    · have h := h.2 q
      refine g_iload_n dX8_seen_17 rfl ?_
      refine g_bipush 9 dX8_seen_18 (by decide) ?_
      refine g_icmp_le 26 dX8_seen_20 (by decide) (fun q => ?_) (fun q => ?_)
      · have h := h.1 q
        refine g_aload_n dX8_seen_26 rfl ?_
        refine g_getr (r2 := 1) dX8_seen_27 fX8_10 rfl rfl ?_
        refine g_getr (r2 := 8) dX8_seen_30 fX8_173 rfl rfl ?_
        refine g_iload_n dX8_seen_33 rfl ?_
        refine g_iload_n dX8_seen_34 rfl ?_
        obtain ⟨v1, h⟩ := h
        refine h_iast (a1.toNatClampNeg) dX8_seen_35 rfl rfl v1 rfl ?_
        refine g_aload_n dX8_seen_36 rfl ?_
        refine g_getr (r2 := 1) dX8_seen_37 fX8_10 rfl rfl ?_
        refine g_callVi (mi2 := mX6_sightBits) (r := 1) (st := []) [] dX8_seen_40 lX8_176 kX6_sightBits vX6_sightBits rfl rfl rfl (Nat.le_of_ble_eq_true rfl) (Nat.le_of_ble_eq_true rfl) (Nat.le_of_ble_eq_true rfl) rfl ?_
        refine sG.mono h (kI_mono fun r2 μ2 h => ?_)
        refine g_callSi (mi2 := mJ6_bitCount_0f7a4) (st := []) [sI r2] dX8_seen_43 lX8_110 kJ6_bitCount_0f7a4 vJ6_bitCount_0f7a4 rfl (Nat.le_of_ble_eq_true rfl) (Nat.le_of_ble_eq_true rfl) (Nat.le_of_ble_eq_true rfl) rfl ?_
        refine sG.mono h (kI_mono fun r3 μ3 h => ?_)
        exact g_iret dX8_seen_46 rfl rfl h
      · have h := h.2 q
        refine g_bipush (-2) dX8_seen_23 (by decide) ?_
        exact g_iret dX8_seen_25 rfl rfl h
  · have h := h.2 q
    refine g_iconst (-1) dX8_seen_11 (by decide) ?_
    exact g_iret dX8_seen_12 rfl rfl h
set_option maxRecDepth 20000 in
theorem eX8_forget {d : Nat} {Q : Option sAV → sM → Prop} {μ : sM} (h : sCl sLL mX6_sightBits d [sR 1] μ (kI fun r1 μ1 => sCl sLL mJ6_bitCount_0f7a4 d [sI r1] μ1 (kI fun r2 μ2 => sCl sLL mJ7_fill_53178 d [sR 8, sI (-6)] μ2 (kV fun μ3 => Q (some (sI r2)) μ3)))) : sCl sLL mX8_forget (d + 1) [sR 0] μ Q := by
  refine sG.loc (al2 := [some (sR 0), none]) (s_le_s (s_le_p s_le_0)) ?_
  refine g_aload_n dX8_forget_0 rfl ?_
  refine g_getr (r2 := 1) dX8_forget_1 fX8_10 rfl rfl ?_
  refine g_callVi (mi2 := mX6_sightBits) (r := 1) (st := []) [] dX8_forget_4 lX8_176 kX6_sightBits vX6_sightBits rfl rfl rfl (Nat.le_of_ble_eq_true rfl) (Nat.le_of_ble_eq_true rfl) (Nat.le_of_ble_eq_true rfl) rfl ?_
  refine sG.mono h (kI_mono fun r1 μ1 h => ?_)
  refine g_callSi (mi2 := mJ6_bitCount_0f7a4) (st := []) [sI r1] dX8_forget_7 lX8_110 kJ6_bitCount_0f7a4 vJ6_bitCount_0f7a4 rfl (Nat.le_of_ble_eq_true rfl) (Nat.le_of_ble_eq_true rfl) (Nat.le_of_ble_eq_true rfl) rfl ?_
  refine sG.mono h (kI_mono fun r2 μ2 h => ?_)
  refine g_istore_n [some (sR 0), some (sI r2)] dX8_forget_10 rfl (by decide) rfl ?_
  refine g_aload_n dX8_forget_11 rfl ?_
  refine g_getr (r2 := 1) dX8_forget_12 fX8_10 rfl rfl ?_
  refine g_getr (r2 := 8) dX8_forget_15 fX8_173 rfl rfl ?_
  refine g_bipush (-6) dX8_forget_18 (by decide) ?_
  refine g_callSv (mi2 := mJ7_fill_53178) (st := []) [sR 8, sI (-6)] dX8_forget_20 lX8_179 kJ7_fill_53178 vJ7_fill_53178 rfl (Nat.le_of_ble_eq_true rfl) (Nat.le_of_ble_eq_true rfl) (Nat.le_of_ble_eq_true rfl) rfl ?_
  refine sG.mono h (kV_mono fun μ3 h => ?_)
  refine g_iload_n dX8_forget_23 rfl ?_
  exact g_iret dX8_forget_24 rfl rfl h
set_option maxRecDepth 20000 in
theorem eX8_rows {d : Nat} {Q : Option sAV → sM → Prop} {μ : sM} {a1 : Int32} {a2 : Int32} (h : sCl sLL mX8_isRowLength d [sI a1] μ (kI fun r1 μ1 => ((r1 = 0 → Q (some (sI (-2))) μ1) ∧ (¬ r1 = 0 → ((a2 < 0 → Q (some (sI (-2))) μ1) ∧ (¬ a2 < 0 → ((a2 ≤ 9 → sCl sLL mX5_gather d [sR 43, sR 8, sI a1] μ1 (kV fun μ2 => ((a2 = 0 → Q (some (sI (μ2.1 43 5))) μ2) ∧ (¬ a2 = 0 → ((a2 = 1 → Q (some (sI (μ2.1 43 6))) μ2) ∧ (¬ a2 = 1 → ((a2 = 2 → Q (some (sI (μ2.1 43 7))) μ2) ∧ (¬ a2 = 2 → ((a2 = 3 → Q (some (sI (μ2.1 43 8))) μ2) ∧ (¬ a2 = 3 → sCl sLL mX5_atPlace d [sR 43, sI (a2 - 4)] μ2 (kI fun r3 μ3 => Q (some (sI r3)) μ3))))))))))) ∧ (¬ a2 ≤ 9 → Q (some (sI (-2))) μ1)))))))) : sCl sLL mX8_rows (d + 1) [sR 0, sI a1, sI a2] μ Q := by
  refine sG.loc (al2 := [some (sR 0), some (sI a1), some (sI a2)]) (s_le_s (s_le_s (s_le_s s_le_0))) ?_
  refine g_iload_n dX8_rows_0 rfl ?_
  refine g_callSi (mi2 := mX8_isRowLength) (st := []) [sI a1] dX8_rows_1 lX8_185 kX8_isRowLength vX8_isRowLength rfl (Nat.le_of_ble_eq_true rfl) (Nat.le_of_ble_eq_true rfl) (Nat.le_of_ble_eq_true rfl) rfl ?_
  refine sG.mono h (kI_mono fun r1 μ1 h => ?_)
  refine g_if_eq 17 dX8_rows_4 (by decide) (fun q => ?_) (fun q => ?_)
  · have h := h.1 q
    refine g_bipush (-2) dX8_rows_17 (by decide) ?_
    exact g_iret dX8_rows_19 rfl rfl h
  · have h := h.2 q
    refine g_iload_n dX8_rows_7 rfl ?_
    refine g_if_lt 17 dX8_rows_8 (by decide) (fun q => ?_) (fun q => ?_)
    · have h := h.1 q
      refine g_bipush (-2) dX8_rows_17 (by decide) ?_
      exact g_iret dX8_rows_19 rfl rfl h
    · have h := h.2 q
      refine g_iload_n dX8_rows_11 rfl ?_
      refine g_bipush 9 dX8_rows_12 (by decide) ?_
      refine g_icmp_le 20 dX8_rows_14 (by decide) (fun q => ?_) (fun q => ?_)
      · have h := h.1 q
        refine g_aload_n dX8_rows_20 rfl ?_
        refine g_getr (r2 := 43) dX8_rows_21 fX8_52 rfl rfl ?_
        refine g_aload_n dX8_rows_24 rfl ?_
        refine g_getr (r2 := 1) dX8_rows_25 fX8_10 rfl rfl ?_
        refine g_getr (r2 := 8) dX8_rows_28 fX8_173 rfl rfl ?_
        refine g_iload_n dX8_rows_31 rfl ?_
        refine g_callVv (mi2 := mX5_gather) (r := 43) (st := []) [sR 8, sI a1] dX8_rows_32 lX8_188 kX5_gather vX5_gather rfl rfl rfl (Nat.le_of_ble_eq_true rfl) (Nat.le_of_ble_eq_true rfl) (Nat.le_of_ble_eq_true rfl) rfl ?_
        refine sG.mono h (kV_mono fun μ2 h => ?_)
        refine g_iload_n dX8_rows_35 rfl ?_
        by_cases q0 : a2 = 0
        · have h := h.1 q0
          refine g_tin 68 0 dX8_rows_36 (by rw [q0]; decide) (by decide) rfl (by decide) ?_
          refine g_aload_n dX8_rows_68 rfl ?_
          refine g_getr (r2 := 43) dX8_rows_69 fX8_52 rfl rfl ?_
          refine h_geti (μ2.1 43 5) dX8_rows_72 fX8_191 rfl rfl rfl ?_
          exact g_iret dX8_rows_75 rfl rfl h
        · have h := h.2 q0
          by_cases q1 : a2 = 1
          · have h := h.1 q1
            refine g_tin 76 1 dX8_rows_36 (by rw [q1]; decide) (by decide) rfl (by decide) ?_
            refine g_aload_n dX8_rows_76 rfl ?_
            refine g_getr (r2 := 43) dX8_rows_77 fX8_52 rfl rfl ?_
            refine h_geti (μ2.1 43 6) dX8_rows_80 fX8_192 rfl rfl rfl ?_
            exact g_iret dX8_rows_83 rfl rfl h
          · have h := h.2 q1
            by_cases q2 : a2 = 2
            · have h := h.1 q2
              refine g_tin 84 2 dX8_rows_36 (by rw [q2]; decide) (by decide) rfl (by decide) ?_
              refine g_aload_n dX8_rows_84 rfl ?_
              refine g_getr (r2 := 43) dX8_rows_85 fX8_52 rfl rfl ?_
              refine h_geti (μ2.1 43 7) dX8_rows_88 fX8_195 rfl rfl rfl ?_
              exact g_iret dX8_rows_91 rfl rfl h
            · have h := h.2 q2
              by_cases q3 : a2 = 3
              · have h := h.1 q3
                refine g_tin 92 3 dX8_rows_36 (by rw [q3]; decide) (by decide) rfl (by decide) ?_
                refine g_aload_n dX8_rows_92 rfl ?_
                refine g_getr (r2 := 43) dX8_rows_93 fX8_52 rfl rfl ?_
                refine h_geti (μ2.1 43 8) dX8_rows_96 fX8_198 rfl rfl rfl ?_
                exact g_iret dX8_rows_99 rfl rfl h
              · have h := h.2 q3
                have n0 := lv_neT (a := 0) q0 (by decide)
                have n1 := lv_neT (a := 1) q1 (by decide)
                have n2 := lv_neT (a := 2) q2 (by decide)
                have n3 := lv_neT (a := 3) q3 (by decide)
                refine g_tout 100 dX8_rows_36 (by omega) (by decide) ?_
                refine g_aload_n dX8_rows_100 rfl ?_
                refine g_getr (r2 := 43) dX8_rows_101 fX8_52 rfl rfl ?_
                refine g_iload_n dX8_rows_104 rfl ?_
                refine g_iconst 4 dX8_rows_105 (by decide) ?_
                refine g_isub dX8_rows_106 ?_
                refine g_callVi (mi2 := mX5_atPlace) (r := 43) (st := []) [sI (a2 - 4)] dX8_rows_107 lX8_201 kX5_atPlace vX5_atPlace rfl rfl rfl (Nat.le_of_ble_eq_true rfl) (Nat.le_of_ble_eq_true rfl) (Nat.le_of_ble_eq_true rfl) rfl ?_
                refine sG.mono h (kI_mono fun r3 μ3 h => ?_)
                exact g_iret dX8_rows_110 rfl rfl h
      · have h := h.2 q
        refine g_bipush (-2) dX8_rows_17 (by decide) ?_
        exact g_iret dX8_rows_19 rfl rfl h
set_option maxRecDepth 20000 in
theorem eX8_isRowLength {d : Nat} {Q : Option sAV → sM → Prop} {μ : sM} {a0 : Int32} (h : ((a0 < 0 → Q (some (sI 0)) μ) ∧ (¬ a0 < 0 → ((6 < a0 → Q (some (sI 0)) μ) ∧ (¬ 6 < a0 → Q (some (sI 1)) μ))))) : sCl sLL mX8_isRowLength d [sI a0] μ Q := by
  refine sG.loc (al2 := [some (sI a0)]) (s_le_s s_le_0) ?_
  refine g_iload_n dX8_isRowLength_0 rfl ?_
  refine g_if_lt 14 dX8_isRowLength_1 (by decide) (fun q => ?_) (fun q => ?_)
  · have h := h.1 q
    refine g_iconst 0 dX8_isRowLength_14 (by decide) ?_
    exact g_iret dX8_isRowLength_15 rfl (s_nb (Or.inl rfl)) h
  · have h := h.2 q
    refine g_iload_n dX8_isRowLength_4 rfl ?_
    refine g_bipush 6 dX8_isRowLength_5 (by decide) ?_
    refine g_icmp_gt 14 dX8_isRowLength_7 (by decide) (fun q => ?_) (fun q => ?_)
    · have h := h.1 q
      refine g_iconst 0 dX8_isRowLength_14 (by decide) ?_
      exact g_iret dX8_isRowLength_15 rfl (s_nb (Or.inl rfl)) h
    · have h := h.2 q
      refine g_iconst 1 dX8_isRowLength_10 (by decide) ?_
      refine g_goto 15 dX8_isRowLength_11 (by decide) ?_
      exact g_iret dX8_isRowLength_15 rfl (s_nb (Or.inr rfl)) h
set_option maxRecDepth 20000 in
theorem eX8_cup {d : Nat} {Q : Option sAV → sM → Prop} {μ : sM} {a1 : Int32} {a2 : Int32} (h : sCl sLL mX6_hasThing d [sR 1, sI a1] μ (kI fun r1 μ1 => ((¬ r1 = 0 → sCl sLL mX8_isRowLength d [sI a2] μ1 (kI fun r2 μ2 => ((¬ r2 = 0 → sCl sLL mX5_gather d [sR 43, sR 8, sI a2] μ2 (kV fun μ3 => (vp_in a1 7 ∧ Q (some (sI (μ3.1 48 a1.toNatClampNeg))) μ3))) ∧ (r2 = 0 → Q (some (sI (-2))) μ2)))) ∧ (r1 = 0 → Q (some (sI (-1))) μ1)))) : sCl sLL mX8_cup (d + 1) [sR 0, sI a1, sI a2] μ Q := by
  refine sG.loc (al2 := [some (sR 0), some (sI a1), some (sI a2)]) (s_le_s (s_le_s (s_le_s s_le_0))) ?_
  refine g_aload_n dX8_cup_0 rfl ?_
  refine g_getr (r2 := 1) dX8_cup_1 fX8_10 rfl rfl ?_
  refine g_iload_n dX8_cup_4 rfl ?_
  refine g_callVi (mi2 := mX6_hasThing) (r := 1) (st := []) [sI a1] dX8_cup_5 lX8_87 kX6_hasThing vX6_hasThing rfl rfl rfl (Nat.le_of_ble_eq_true rfl) (Nat.le_of_ble_eq_true rfl) (Nat.le_of_ble_eq_true rfl) rfl ?_
  refine sG.mono h (kI_mono fun r1 μ1 h => ?_)
  refine g_if_ne 13 dX8_cup_8 (by decide) (fun q => ?_) (fun q => ?_)
  · have h := h.1 q
    refine g_iload_n dX8_cup_13 rfl ?_
    refine g_callSi (mi2 := mX8_isRowLength) (st := []) [sI a2] dX8_cup_14 lX8_185 kX8_isRowLength vX8_isRowLength rfl (Nat.le_of_ble_eq_true rfl) (Nat.le_of_ble_eq_true rfl) (Nat.le_of_ble_eq_true rfl) rfl ?_
    refine sG.mono h (kI_mono fun r2 μ2 h => ?_)
    refine g_if_ne 23 dX8_cup_17 (by decide) (fun q => ?_) (fun q => ?_)
    · have h := h.1 q
      refine g_aload_n dX8_cup_23 rfl ?_
      refine g_getr (r2 := 43) dX8_cup_24 fX8_52 rfl rfl ?_
      refine g_aload_n dX8_cup_27 rfl ?_
      refine g_getr (r2 := 1) dX8_cup_28 fX8_10 rfl rfl ?_
      refine g_getr (r2 := 8) dX8_cup_31 fX8_173 rfl rfl ?_
      refine g_iload_n dX8_cup_34 rfl ?_
      refine g_callVv (mi2 := mX5_gather) (r := 43) (st := []) [sR 8, sI a2] dX8_cup_35 lX8_188 kX5_gather vX5_gather rfl rfl rfl (Nat.le_of_ble_eq_true rfl) (Nat.le_of_ble_eq_true rfl) (Nat.le_of_ble_eq_true rfl) rfl ?_
      refine sG.mono h (kV_mono fun μ3 h => ?_)
      refine g_aload_n dX8_cup_38 rfl ?_
      refine g_getr (r2 := 43) dX8_cup_39 fX8_52 rfl rfl ?_
      refine g_getr (r2 := 48) dX8_cup_42 fX8_204 rfl rfl ?_
      refine g_iload_n dX8_cup_45 rfl ?_
      obtain ⟨v1, h⟩ := h
      refine h_iald (μ3.1 48 a1.toNatClampNeg) dX8_cup_46 rfl rfl v1 rfl ?_
      exact g_iret dX8_cup_47 rfl rfl h
    · have h := h.2 q
      refine g_bipush (-2) dX8_cup_20 (by decide) ?_
      exact g_iret dX8_cup_22 rfl rfl h
  · have h := h.2 q
    refine g_iconst (-1) dX8_cup_11 (by decide) ?_
    exact g_iret dX8_cup_12 rfl rfl h
set_option maxRecDepth 20000 in
theorem eX8_look {d : Nat} {Q : Option sAV → sM → Prop} {μ : sM} {a1 : Int32} {a2 : Int32} (h : sCl sLL mX8_isRowLength d [sI a1] μ (kI fun r1 μ1 => ((r1 = 0 → Q (some (sI (-2))) μ1) ∧ (¬ r1 = 0 → ((a2 < 0 → Q (some (sI (-2))) μ1) ∧ (¬ a2 < 0 → ((a2 ≤ 1 → sCl sLL mX5_gather d [sR 43, sR 8, sI a1] μ1 (kV fun μ2 => sCl sLL mX5_bestToLookAt d [sR 43] μ2 (kI fun r3 μ3 => ((r3 = (-6) → Q (some (sI r3)) μ3) ∧ (¬ r3 = (-6) → ((¬ a2 = 0 → sCl sLL mX5_mostLeftOver d [sR 43, sI r3] μ3 (kI fun r4 μ4 => Q (some (sI r4)) μ4)) ∧ (a2 = 0 → Q (some (sI r3)) μ3))))))) ∧ (¬ a2 ≤ 1 → Q (some (sI (-2))) μ1)))))))) : sCl sLL mX8_look (d + 1) [sR 0, sI a1, sI a2] μ Q := by
  refine sG.loc (al2 := [some (sR 0), some (sI a1), some (sI a2), none]) (s_le_s (s_le_s (s_le_s (s_le_p s_le_0)))) ?_
  refine g_iload_n dX8_look_0 rfl ?_
  refine g_callSi (mi2 := mX8_isRowLength) (st := []) [sI a1] dX8_look_1 lX8_185 kX8_isRowLength vX8_isRowLength rfl (Nat.le_of_ble_eq_true rfl) (Nat.le_of_ble_eq_true rfl) (Nat.le_of_ble_eq_true rfl) rfl ?_
  refine sG.mono h (kI_mono fun r1 μ1 h => ?_)
  refine g_if_eq 16 dX8_look_4 (by decide) (fun q => ?_) (fun q => ?_)
  · have h := h.1 q
    refine g_bipush (-2) dX8_look_16 (by decide) ?_
    exact g_iret dX8_look_18 rfl rfl h
  · have h := h.2 q
    refine g_iload_n dX8_look_7 rfl ?_
    refine g_if_lt 16 dX8_look_8 (by decide) (fun q => ?_) (fun q => ?_)
    · have h := h.1 q
      refine g_bipush (-2) dX8_look_16 (by decide) ?_
      exact g_iret dX8_look_18 rfl rfl h
    · have h := h.2 q
      refine g_iload_n dX8_look_11 rfl ?_
      refine g_iconst 1 dX8_look_12 (by decide) ?_
      refine g_icmp_le 19 dX8_look_13 (by decide) (fun q => ?_) (fun q => ?_)
      · have h := h.1 q
        refine g_aload_n dX8_look_19 rfl ?_
        refine g_getr (r2 := 43) dX8_look_20 fX8_52 rfl rfl ?_
        refine g_aload_n dX8_look_23 rfl ?_
        refine g_getr (r2 := 1) dX8_look_24 fX8_10 rfl rfl ?_
        refine g_getr (r2 := 8) dX8_look_27 fX8_173 rfl rfl ?_
        refine g_iload_n dX8_look_30 rfl ?_
        refine g_callVv (mi2 := mX5_gather) (r := 43) (st := []) [sR 8, sI a1] dX8_look_31 lX8_188 kX5_gather vX5_gather rfl rfl rfl (Nat.le_of_ble_eq_true rfl) (Nat.le_of_ble_eq_true rfl) (Nat.le_of_ble_eq_true rfl) rfl ?_
        refine sG.mono h (kV_mono fun μ2 h => ?_)
        refine g_aload_n dX8_look_34 rfl ?_
        refine g_getr (r2 := 43) dX8_look_35 fX8_52 rfl rfl ?_
        refine g_callVi (mi2 := mX5_bestToLookAt) (r := 43) (st := []) [] dX8_look_38 lX8_207 kX5_bestToLookAt vX5_bestToLookAt rfl rfl rfl (Nat.le_of_ble_eq_true rfl) (Nat.le_of_ble_eq_true rfl) (Nat.le_of_ble_eq_true rfl) rfl ?_
        refine sG.mono h (kI_mono fun r3 μ3 h => ?_)
        refine g_istore_n [some (sR 0), some (sI a1), some (sI a2), some (sI r3)] dX8_look_41 rfl (by decide) rfl ?_
        refine g_iload_n dX8_look_42 rfl ?_
        refine g_bipush (-6) dX8_look_43 (by decide) ?_
        refine g_icmp_eq 52 dX8_look_45 (by decide) (fun q => ?_) (fun q => ?_)
        · have h := h.1 q
          refine g_iload_n dX8_look_52 rfl ?_
          exact g_iret dX8_look_53 rfl rfl h
        · have h := h.2 q
          refine g_iload_n dX8_look_48 rfl ?_
          refine g_if_ne 54 dX8_look_49 (by decide) (fun q => ?_) (fun q => ?_)
          · have h := h.1 q
            refine g_aload_n dX8_look_54 rfl ?_
            refine g_getr (r2 := 43) dX8_look_55 fX8_52 rfl rfl ?_
            refine g_iload_n dX8_look_58 rfl ?_
            refine g_callVi (mi2 := mX5_mostLeftOver) (r := 43) (st := []) [sI r3] dX8_look_59 lX8_210 kX5_mostLeftOver vX5_mostLeftOver rfl rfl rfl (Nat.le_of_ble_eq_true rfl) (Nat.le_of_ble_eq_true rfl) (Nat.le_of_ble_eq_true rfl) rfl ?_
            refine sG.mono h (kI_mono fun r4 μ4 h => ?_)
            exact g_iret dX8_look_62 rfl rfl h
          · have h := h.2 q
            refine g_iload_n dX8_look_52 rfl ?_
            exact g_iret dX8_look_53 rfl rfl h
      · have h := h.2 q
        refine g_bipush (-2) dX8_look_16 (by decide) ?_
        exact g_iret dX8_look_18 rfl rfl h
set_option maxRecDepth 20000 in
theorem eX8_belief {d : Nat} {Q : Option sAV → sM → Prop} {μ : sM} {a1 : Int32} {a2 : Int32} {a3 : Int32} (h : ((a2 = (-1) → sCl sLL mX8_isRowLength d [sI a1] μ (kI fun r1 μ1 => ((r1 = 0 → Q (some (sL (-1000000000000000002))) μ1) ∧ (¬ r1 = 0 → ((a3 < 0 → Q (some (sL (-1000000000000000002))) μ1) ∧ (¬ a3 < 0 → ((a3 ≤ 1 → ((¬ (μ1.1 1 2) = 0 → sCl sLL mX0_weigh d [sR 57, sI a1, sI a2] μ1 (kV fun μ2 => ((¬ a3 = 0 → Q (some (sL (μ2.2 57 3))) μ2) ∧ (a3 = 0 → Q (some (sL (μ2.2 57 2))) μ2)))) ∧ ((μ1.1 1 2) = 0 → Q (some (sL (-1000000000000000003))) μ1))) ∧ (¬ a3 ≤ 1 → Q (some (sL (-1000000000000000002))) μ1)))))))) ∧ (¬ a2 = (-1) → sCl sLL mX6_hasGuest d [sR 1, sI a2] μ (kI fun r1 μ1 => ((¬ r1 = 0 → sCl sLL mX8_isRowLength d [sI a1] μ1 (kI fun r2 μ2 => ((r2 = 0 → Q (some (sL (-1000000000000000002))) μ2) ∧ (¬ r2 = 0 → ((a3 < 0 → Q (some (sL (-1000000000000000002))) μ2) ∧ (¬ a3 < 0 → ((a3 ≤ 1 → ((¬ (μ2.1 1 2) = 0 → sCl sLL mX0_weigh d [sR 57, sI a1, sI a2] μ2 (kV fun μ3 => ((¬ a3 = 0 → Q (some (sL (μ3.2 57 3))) μ3) ∧ (a3 = 0 → Q (some (sL (μ3.2 57 2))) μ3)))) ∧ ((μ2.1 1 2) = 0 → Q (some (sL (-1000000000000000003))) μ2))) ∧ (¬ a3 ≤ 1 → Q (some (sL (-1000000000000000002))) μ2)))))))) ∧ (r1 = 0 → Q (some (sL (-1000000000000000001))) μ1)))))) : sCl sLL mX8_belief (d + 1) [sR 0, sI a1, sI a2, sI a3] μ Q := by
  refine sG.loc (al2 := [some (sR 0), some (sI a1), some (sI a2), some (sI a3)]) (s_le_s (s_le_s (s_le_s (s_le_s s_le_0)))) ?_
  refine g_iload_n dX8_belief_0 rfl ?_
  refine g_iconst (-1) dX8_belief_1 (by decide) ?_
  refine g_icmp_eq 20 dX8_belief_2 (by decide) (fun q => ?_) (fun q => ?_)
  · have h := h.1 q
    refine g_iload_n dX8_belief_20 rfl ?_
    refine g_callSi (mi2 := mX8_isRowLength) (st := []) [sI a1] dX8_belief_21 lX8_185 kX8_isRowLength vX8_isRowLength rfl (Nat.le_of_ble_eq_true rfl) (Nat.le_of_ble_eq_true rfl) (Nat.le_of_ble_eq_true rfl) rfl ?_
    refine sG.mono h (kI_mono fun r1 μ1 h => ?_)
    refine g_if_eq 36 dX8_belief_24 (by decide) (fun q => ?_) (fun q => ?_)
    · have h := h.1 q
      refine g_ldc2 dX8_belief_36 qX8_215 ?_
      exact g_lret dX8_belief_39 rfl h
    · have h := h.2 q
      refine g_iload_n dX8_belief_27 rfl ?_
      refine g_if_lt 36 dX8_belief_28 (by decide) (fun q => ?_) (fun q => ?_)
      · have h := h.1 q
        refine g_ldc2 dX8_belief_36 qX8_215 ?_
        exact g_lret dX8_belief_39 rfl h
      · have h := h.2 q
        refine g_iload_n dX8_belief_31 rfl ?_
        refine g_iconst 1 dX8_belief_32 (by decide) ?_
        refine g_icmp_le 40 dX8_belief_33 (by decide) (fun q => ?_) (fun q => ?_)
        · have h := h.1 q
          refine g_aload_n dX8_belief_40 rfl ?_
          refine g_getr (r2 := 1) dX8_belief_41 fX8_10 rfl rfl ?_
          refine h_geti (μ1.1 1 2) dX8_belief_44 fX8_107 rfl rfl rfl ?_
          refine g_if_ne 54 dX8_belief_47 (by decide) (fun q => ?_) (fun q => ?_)
          · have h := h.1 q
            refine g_aload_n dX8_belief_54 rfl ?_
            refine g_getr (r2 := 57) dX8_belief_55 fX8_59 rfl rfl ?_
            refine g_iload_n dX8_belief_58 rfl ?_
            refine g_iload_n dX8_belief_59 rfl ?_
            refine g_callVv (mi2 := mX0_weigh) (r := 57) (st := []) [sI a1, sI a2] dX8_belief_60 lX8_219 kX0_weigh vX0_weigh rfl rfl rfl (Nat.le_of_ble_eq_true rfl) (Nat.le_of_ble_eq_true rfl) (Nat.le_of_ble_eq_true rfl) rfl ?_
            refine sG.mono h (kV_mono fun μ2 h => ?_)
            refine g_iload_n dX8_belief_63 rfl ?_
            refine g_if_ne 77 dX8_belief_64 (by decide) (fun q => ?_) (fun q => ?_)
            · have h := h.1 q
              refine g_aload_n dX8_belief_77 rfl ?_
              refine g_getr (r2 := 57) dX8_belief_78 fX8_59 rfl rfl ?_
              refine h_getl (μ2.2 57 3) dX8_belief_81 fX8_227 rfl rfl rfl ?_
              exact g_lret dX8_belief_84 rfl h
            · have h := h.2 q
              refine g_aload_n dX8_belief_67 rfl ?_
              refine g_getr (r2 := 57) dX8_belief_68 fX8_59 rfl rfl ?_
              refine h_getl (μ2.2 57 2) dX8_belief_71 fX8_223 rfl rfl rfl ?_
              refine g_goto 84 dX8_belief_74 (by decide) ?_
              exact g_lret dX8_belief_84 rfl h
          · have h := h.2 q
            refine g_ldc2 dX8_belief_50 qX8_217 ?_
            exact g_lret dX8_belief_53 rfl h
        · have h := h.2 q
          refine g_ldc2 dX8_belief_36 qX8_215 ?_
          exact g_lret dX8_belief_39 rfl h
  · have h := h.2 q
    refine g_aload_n dX8_belief_5 rfl ?_
    refine g_getr (r2 := 1) dX8_belief_6 fX8_10 rfl rfl ?_
    refine g_iload_n dX8_belief_9 rfl ?_
    refine g_callVi (mi2 := mX6_hasGuest) (r := 1) (st := []) [sI a2] dX8_belief_10 lX8_116 kX6_hasGuest vX6_hasGuest rfl rfl rfl (Nat.le_of_ble_eq_true rfl) (Nat.le_of_ble_eq_true rfl) (Nat.le_of_ble_eq_true rfl) rfl ?_
    refine sG.mono h (kI_mono fun r1 μ1 h => ?_)
    refine g_if_ne 20 dX8_belief_13 (by decide) (fun q => ?_) (fun q => ?_)
    · have h := h.1 q
      refine g_iload_n dX8_belief_20 rfl ?_
      refine g_callSi (mi2 := mX8_isRowLength) (st := []) [sI a1] dX8_belief_21 lX8_185 kX8_isRowLength vX8_isRowLength rfl (Nat.le_of_ble_eq_true rfl) (Nat.le_of_ble_eq_true rfl) (Nat.le_of_ble_eq_true rfl) rfl ?_
      refine sG.mono h (kI_mono fun r2 μ2 h => ?_)
      refine g_if_eq 36 dX8_belief_24 (by decide) (fun q => ?_) (fun q => ?_)
      · have h := h.1 q
        refine g_ldc2 dX8_belief_36 qX8_215 ?_
        exact g_lret dX8_belief_39 rfl h
      · have h := h.2 q
        refine g_iload_n dX8_belief_27 rfl ?_
        refine g_if_lt 36 dX8_belief_28 (by decide) (fun q => ?_) (fun q => ?_)
        · have h := h.1 q
          refine g_ldc2 dX8_belief_36 qX8_215 ?_
          exact g_lret dX8_belief_39 rfl h
        · have h := h.2 q
          refine g_iload_n dX8_belief_31 rfl ?_
          refine g_iconst 1 dX8_belief_32 (by decide) ?_
          refine g_icmp_le 40 dX8_belief_33 (by decide) (fun q => ?_) (fun q => ?_)
          · have h := h.1 q
            refine g_aload_n dX8_belief_40 rfl ?_
            refine g_getr (r2 := 1) dX8_belief_41 fX8_10 rfl rfl ?_
            refine h_geti (μ2.1 1 2) dX8_belief_44 fX8_107 rfl rfl rfl ?_
            refine g_if_ne 54 dX8_belief_47 (by decide) (fun q => ?_) (fun q => ?_)
            · have h := h.1 q
              refine g_aload_n dX8_belief_54 rfl ?_
              refine g_getr (r2 := 57) dX8_belief_55 fX8_59 rfl rfl ?_
              refine g_iload_n dX8_belief_58 rfl ?_
              refine g_iload_n dX8_belief_59 rfl ?_
              refine g_callVv (mi2 := mX0_weigh) (r := 57) (st := []) [sI a1, sI a2] dX8_belief_60 lX8_219 kX0_weigh vX0_weigh rfl rfl rfl (Nat.le_of_ble_eq_true rfl) (Nat.le_of_ble_eq_true rfl) (Nat.le_of_ble_eq_true rfl) rfl ?_
              refine sG.mono h (kV_mono fun μ3 h => ?_)
              refine g_iload_n dX8_belief_63 rfl ?_
              refine g_if_ne 77 dX8_belief_64 (by decide) (fun q => ?_) (fun q => ?_)
              · have h := h.1 q
                refine g_aload_n dX8_belief_77 rfl ?_
                refine g_getr (r2 := 57) dX8_belief_78 fX8_59 rfl rfl ?_
                refine h_getl (μ3.2 57 3) dX8_belief_81 fX8_227 rfl rfl rfl ?_
                exact g_lret dX8_belief_84 rfl h
              · have h := h.2 q
                refine g_aload_n dX8_belief_67 rfl ?_
                refine g_getr (r2 := 57) dX8_belief_68 fX8_59 rfl rfl ?_
                refine h_getl (μ3.2 57 2) dX8_belief_71 fX8_223 rfl rfl rfl ?_
                refine g_goto 84 dX8_belief_74 (by decide) ?_
                exact g_lret dX8_belief_84 rfl h
            · have h := h.2 q
              refine g_ldc2 dX8_belief_50 qX8_217 ?_
              exact g_lret dX8_belief_53 rfl h
          · have h := h.2 q
            refine g_ldc2 dX8_belief_36 qX8_215 ?_
            exact g_lret dX8_belief_39 rfl h
    · have h := h.2 q
      refine g_ldc2 dX8_belief_16 qX8_213 ?_
      exact g_lret dX8_belief_19 rfl h
set_option maxRecDepth 20000 in
theorem eX8_alike {d : Nat} {Q : Option sAV → sM → Prop} {μ : sM} {a1 : Int32} (h : sCl sLL mX1_begin d [sR 35] μ (kV fun μ1 => ((¬ a1 = (-1) → sCl sLL mX7_atPlace d [sR 60, sI a1] μ1 (kI fun r2 μ2 => Q (some (sI r2)) μ2)) ∧ (a1 = (-1) → sCl sLL mX7_howMany d [sR 60] μ1 (kI fun r2 μ2 => Q (some (sI r2)) μ2))))) : sCl sLL mX8_alike (d + 1) [sR 0, sI a1] μ Q := by
  refine sG.loc (al2 := [some (sR 0), some (sI a1)]) (s_le_s (s_le_s s_le_0)) ?_
  refine g_aload_n dX8_alike_0 rfl ?_
  refine g_getr (r2 := 35) dX8_alike_1 fX8_36 rfl rfl ?_
  refine g_callVv (mi2 := mX1_begin) (r := 35) (st := []) [] dX8_alike_4 lX8_167 kX1_begin vX1_begin rfl rfl rfl (Nat.le_of_ble_eq_true rfl) (Nat.le_of_ble_eq_true rfl) (Nat.le_of_ble_eq_true rfl) rfl ?_
  refine sG.mono h (kV_mono fun μ1 h => ?_)
  refine g_iload_n dX8_alike_7 rfl ?_
  refine g_iconst (-1) dX8_alike_8 (by decide) ?_
  refine g_icmp_ne 22 dX8_alike_9 (by decide) (fun q => ?_) (fun q => ?_)
  · have h := h.1 q
    refine g_aload_n dX8_alike_22 rfl ?_
    refine g_getr (r2 := 60) dX8_alike_23 fX8_75 rfl rfl ?_
    refine g_iload_n dX8_alike_26 rfl ?_
    refine g_callVi (mi2 := mX7_atPlace) (r := 60) (st := []) [sI a1] dX8_alike_27 lX8_233 kX7_atPlace vX7_atPlace rfl rfl rfl (Nat.le_of_ble_eq_true rfl) (Nat.le_of_ble_eq_true rfl) (Nat.le_of_ble_eq_true rfl) rfl ?_
    refine sG.mono h (kI_mono fun r2 μ2 h => ?_)
    exact g_iret dX8_alike_30 rfl rfl h
  · have h := h.2 q
    refine g_aload_n dX8_alike_12 rfl ?_
    refine g_getr (r2 := 60) dX8_alike_13 fX8_75 rfl rfl ?_
    refine g_callVi (mi2 := mX7_howMany) (r := 60) (st := []) [] dX8_alike_16 lX8_230 kX7_howMany vX7_howMany rfl rfl rfl (Nat.le_of_ble_eq_true rfl) (Nat.le_of_ble_eq_true rfl) (Nat.le_of_ble_eq_true rfl) rfl ?_
    refine sG.mono h (kI_mono fun r2 μ2 h => ?_)
    refine g_goto 30 dX8_alike_19 (by decide) ?_
    exact g_iret dX8_alike_30 rfl rfl h
set_option maxRecDepth 20000 in
theorem eX8_lay {d : Nat} {Q : Option sAV → sM → Prop} {μ : sM} {a1 : Int32} (h : ((a1 < 0 → Q (some (sI (-2))) μ) ∧ (¬ a1 < 0 → ((a1 ≤ 1 → sCl sLL mX1_begin d [sR 35] μ (kV fun μ1 => sCl sLL mX7_fewestLaidAnew d [sR 60] μ1 (kI fun r2 μ2 => ((r2 = (-6) → Q (some (sI r2)) μ2) ∧ (¬ r2 = (-6) → ((¬ a1 = 1 → sCl sLL mJ6_bitCount_0f7a4 d [sI r2] μ2 (kI fun r3 μ3 => Q (some (sI r3)) μ3)) ∧ (a1 = 1 → Q (some (sI r2)) μ2))))))) ∧ (¬ a1 ≤ 1 → Q (some (sI (-2))) μ))))) : sCl sLL mX8_lay (d + 1) [sR 0, sI a1] μ Q := by
  refine sG.loc (al2 := [some (sR 0), some (sI a1), none]) (s_le_s (s_le_s (s_le_p s_le_0))) ?_
  refine g_iload_n dX8_lay_0 rfl ?_
  refine g_if_lt 9 dX8_lay_1 (by decide) (fun q => ?_) (fun q => ?_)
  · have h := h.1 q
    refine g_bipush (-2) dX8_lay_9 (by decide) ?_
    exact g_iret dX8_lay_11 rfl rfl h
  · have h := h.2 q
    refine g_iload_n dX8_lay_4 rfl ?_
    refine g_iconst 1 dX8_lay_5 (by decide) ?_
    refine g_icmp_le 12 dX8_lay_6 (by decide) (fun q => ?_) (fun q => ?_)
    · have h := h.1 q
      refine g_aload_n dX8_lay_12 rfl ?_
      refine g_getr (r2 := 35) dX8_lay_13 fX8_36 rfl rfl ?_
      refine g_callVv (mi2 := mX1_begin) (r := 35) (st := []) [] dX8_lay_16 lX8_167 kX1_begin vX1_begin rfl rfl rfl (Nat.le_of_ble_eq_true rfl) (Nat.le_of_ble_eq_true rfl) (Nat.le_of_ble_eq_true rfl) rfl ?_
      refine sG.mono h (kV_mono fun μ1 h => ?_)
      refine g_aload_n dX8_lay_19 rfl ?_
      refine g_getr (r2 := 60) dX8_lay_20 fX8_75 rfl rfl ?_
      refine g_callVi (mi2 := mX7_fewestLaidAnew) (r := 60) (st := []) [] dX8_lay_23 lX8_234 kX7_fewestLaidAnew vX7_fewestLaidAnew rfl rfl rfl (Nat.le_of_ble_eq_true rfl) (Nat.le_of_ble_eq_true rfl) (Nat.le_of_ble_eq_true rfl) rfl ?_
      refine sG.mono h (kI_mono fun r2 μ2 h => ?_)
      refine g_istore_n [some (sR 0), some (sI a1), some (sI r2)] dX8_lay_26 rfl (by decide) rfl ?_
      refine g_iload_n dX8_lay_27 rfl ?_
      refine g_bipush (-6) dX8_lay_28 (by decide) ?_
      refine g_icmp_eq 38 dX8_lay_30 (by decide) (fun q => ?_) (fun q => ?_)
      · have h := h.1 q
        refine g_iload_n dX8_lay_38 rfl ?_
        exact g_iret dX8_lay_39 rfl rfl h
      · have h := h.2 q
        refine g_iload_n dX8_lay_33 rfl ?_
        refine g_iconst 1 dX8_lay_34 (by decide) ?_
        refine g_icmp_ne 40 dX8_lay_35 (by decide) (fun q => ?_) (fun q => ?_)
        · have h := h.1 q
          refine g_iload_n dX8_lay_40 rfl ?_
          refine g_callSi (mi2 := mJ6_bitCount_0f7a4) (st := []) [sI r2] dX8_lay_41 lX8_110 kJ6_bitCount_0f7a4 vJ6_bitCount_0f7a4 rfl (Nat.le_of_ble_eq_true rfl) (Nat.le_of_ble_eq_true rfl) (Nat.le_of_ble_eq_true rfl) rfl ?_
          refine sG.mono h (kI_mono fun r3 μ3 h => ?_)
          exact g_iret dX8_lay_44 rfl rfl h
        · have h := h.2 q
          refine g_iload_n dX8_lay_38 rfl ?_
          exact g_iret dX8_lay_39 rfl rfl h
    · have h := h.2 q
      refine g_bipush (-2) dX8_lay_9 (by decide) ?_
      exact g_iret dX8_lay_11 rfl rfl h
set_option maxRecDepth 20000 in
theorem eX8_hide {d : Nat} {Q : Option sAV → sM → Prop} {μ : sM} (h : sCl sLL mX8_runEvening d [sR 0] μ (kI fun r1 μ1 => ((r1 = 0 → sG sLL mX8_hide (d + 1) Q 15 [some (sR 0), some (sI r1), some (sI 0), some (sI 0)] [] μ1) ∧ (¬ r1 = 0 → Q (some (sI r1)) μ1)))) : sCl sLL mX8_hide (d + 1) [sR 0] μ Q := by
  refine sG.loc (al2 := [some (sR 0), none, none, none]) (s_le_s (s_le_p (s_le_p (s_le_p s_le_0)))) ?_
  refine g_aload_n dX8_hide_0 rfl ?_
  refine g_callVi (mi2 := mX8_runEvening) (r := 0) (st := []) [] dX8_hide_1 lX8_128 kX8_runEvening vX8_runEvening rfl rfl rfl (Nat.le_of_ble_eq_true rfl) (Nat.le_of_ble_eq_true rfl) (Nat.le_of_ble_eq_true rfl) rfl ?_
  refine sG.mono h (kI_mono fun r1 μ1 h => ?_)
  refine g_istore_n [some (sR 0), some (sI r1), none, none] dX8_hide_4 rfl (by decide) rfl ?_
  refine g_iload_n dX8_hide_5 rfl ?_
  refine g_if_eq 11 dX8_hide_6 (by decide) (fun q => ?_) (fun q => ?_)
  · have h := h.1 q
    refine g_iconst 0 dX8_hide_11 (by decide) ?_
    refine g_istore_n [some (sR 0), some (sI r1), some (sI 0), none] dX8_hide_12 rfl (by decide) rfl ?_
    refine g_iconst 0 dX8_hide_13 (by decide) ?_
    refine g_istore_n [some (sR 0), some (sI r1), some (sI 0), some (sI 0)] dX8_hide_14 rfl (by decide) rfl ?_
    exact sG.loc (s_le_s (s_le_s (s_le_s (s_le_s s_le_0)))) h
  · have h := h.2 q
    refine g_iload_n dX8_hide_9 rfl ?_
    exact g_iret dX8_hide_10 rfl rfl h
set_option maxRecDepth 20000 in
theorem sX8_hide_15 {d : Nat} {Q : Option sAV → sM → Prop} {μ : sM} {x1 : Int32} {x2 : Int32} {x3 : Int32} (h : (((μ.1 1 0) ≤ x3 → Q (some (sI x2)) μ) ∧ (¬ (μ.1 1 0) ≤ x3 → (vp_in x3 7 ∧ (((μ.1 36 x3.toNatClampNeg) = (μ.1 6 x3.toNatClampNeg) → sG sLL mX8_hide (d + 1) Q 15 [some (sR 0), some (sI x1), some (sI x2), some (sI (x3 + 1))] [] μ) ∧ (¬ (μ.1 36 x3.toNatClampNeg) = (μ.1 6 x3.toNatClampNeg) → sG sLL mX8_hide (d + 1) Q 15 [some (sR 0), some (sI x1), some (sI (x2 ||| ((1 : Int32) <<< (x3 &&& 31)))), some (sI (x3 + 1))] [] μ)))))) : sG sLL mX8_hide (d + 1) Q 15 [some (sR 0), some (sI x1), some (sI x2), some (sI x3)] [] μ := by
  refine g_iload_n dX8_hide_15 rfl ?_
  refine g_aload_n dX8_hide_16 rfl ?_
  refine g_getr (r2 := 1) dX8_hide_17 fX8_10 rfl rfl ?_
  refine h_geti (μ.1 1 0) dX8_hide_20 fX8_79 rfl rfl rfl ?_
  refine g_icmp_ge 59 dX8_hide_23 (by decide) (fun q => ?_) (fun q => ?_)
  · have h := h.1 q
    refine g_iload_n dX8_hide_59 rfl ?_
    exact g_iret dX8_hide_60 rfl rfl h
  · have h := h.2 q
    refine g_aload_n dX8_hide_26 rfl ?_
    refine g_getr (r2 := 35) dX8_hide_27 fX8_36 rfl rfl ?_
    refine g_getr (r2 := 36) dX8_hide_30 fX8_147 rfl rfl ?_
    refine g_iload_n dX8_hide_33 rfl ?_
    obtain ⟨v1, h⟩ := h
    refine h_iald (μ.1 36 x3.toNatClampNeg) dX8_hide_34 rfl rfl v1 rfl ?_
    refine g_aload_n dX8_hide_35 rfl ?_
    refine g_getr (r2 := 1) dX8_hide_36 fX8_10 rfl rfl ?_
    refine g_getr (r2 := 6) dX8_hide_39 fX8_159 rfl rfl ?_
    refine g_iload_n dX8_hide_42 rfl ?_
    refine h_iald (μ.1 6 x3.toNatClampNeg) dX8_hide_43 rfl rfl v1 rfl ?_
    refine g_icmp_eq 53 dX8_hide_44 (by decide) (fun q => ?_) (fun q => ?_)
    · have h := h.1 q
      refine g_iinc (x3 + 1) [some (sR 0), some (sI x1), some (sI x2), some (sI (x3 + 1))] dX8_hide_53 rfl rfl (by decide) rfl ?_
      refine g_goto 15 dX8_hide_56 (by decide) ?_
      exact sG.loc (s_le_s (s_le_s (s_le_s (s_le_s s_le_0)))) h
    · have h := h.2 q
      refine g_iload_n dX8_hide_47 rfl ?_
      refine g_iconst 1 dX8_hide_48 (by decide) ?_
      refine g_iload_n dX8_hide_49 rfl ?_
      refine g_ishl dX8_hide_50 ?_
      refine g_ior dX8_hide_51 ?_
      refine g_istore_n [some (sR 0), some (sI x1), some (sI (x2 ||| ((1 : Int32) <<< (x3 &&& 31)))), some (sI x3)] dX8_hide_52 rfl (by decide) rfl ?_
      refine g_iinc (x3 + 1) [some (sR 0), some (sI x1), some (sI (x2 ||| ((1 : Int32) <<< (x3 &&& 31)))), some (sI (x3 + 1))] dX8_hide_53 rfl rfl (by decide) rfl ?_
      refine g_goto 15 dX8_hide_56 (by decide) ?_
      exact sG.loc (s_le_s (s_le_s (s_le_s (s_le_s s_le_0)))) h
set_option maxRecDepth 20000 in
theorem eX8_trace {d : Nat} {Q : Option sAV → sM → Prop} {μ : sM} (h : sCl sLL mX8_runEvening d [sR 0] μ (kI fun r1 μ1 => ((r1 = 0 → sCl sLL mJ7_fill_53178 d [sR 41, sI (-6)] μ1 (kV fun μ2 => (¬ (μ2.1 1 0) < 0 ∧ ((μ2.1 1 0).toNatClampNeg ≤ 7 ∧ ((μ2.1 1 0).toNatClampNeg ≤ 7 ∧ sCl sLL mX5_gather d [sR 43, sR 41, sI 6] (s_cp μ2 36 41 (μ2.1 1 0)) (kV fun μ3 => Q (some (sI (μ3.1 43 6))) μ3)))))) ∧ (¬ r1 = 0 → Q (some (sI r1)) μ1)))) : sCl sLL mX8_trace (d + 1) [sR 0] μ Q := by
  refine sG.loc (al2 := [some (sR 0), none]) (s_le_s (s_le_p s_le_0)) ?_
  refine g_aload_n dX8_trace_0 rfl ?_
  refine g_callVi (mi2 := mX8_runEvening) (r := 0) (st := []) [] dX8_trace_1 lX8_128 kX8_runEvening vX8_runEvening rfl rfl rfl (Nat.le_of_ble_eq_true rfl) (Nat.le_of_ble_eq_true rfl) (Nat.le_of_ble_eq_true rfl) rfl ?_
  refine sG.mono h (kI_mono fun r1 μ1 h => ?_)
  refine g_istore_n [some (sR 0), some (sI r1)] dX8_trace_4 rfl (by decide) rfl ?_
  refine g_iload_n dX8_trace_5 rfl ?_
  refine g_if_eq 11 dX8_trace_6 (by decide) (fun q => ?_) (fun q => ?_)
  · have h := h.1 q
    refine g_aload_n dX8_trace_11 rfl ?_
    refine g_getr (r2 := 37) dX8_trace_12 fX8_45 rfl rfl ?_
    refine g_getr (r2 := 41) dX8_trace_15 fX8_237 rfl rfl ?_
    refine g_bipush (-6) dX8_trace_18 (by decide) ?_
    refine g_callSv (mi2 := mJ7_fill_53178) (st := []) [sR 41, sI (-6)] dX8_trace_20 lX8_179 kJ7_fill_53178 vJ7_fill_53178 rfl (Nat.le_of_ble_eq_true rfl) (Nat.le_of_ble_eq_true rfl) (Nat.le_of_ble_eq_true rfl) rfl ?_
    refine sG.mono h (kV_mono fun μ2 h => ?_)
    refine g_aload_n dX8_trace_23 rfl ?_
    refine g_getr (r2 := 35) dX8_trace_24 fX8_36 rfl rfl ?_
    refine g_getr (r2 := 36) dX8_trace_27 fX8_147 rfl rfl ?_
    refine g_iconst 0 dX8_trace_30 (by decide) ?_
    refine g_aload_n dX8_trace_31 rfl ?_
    refine g_getr (r2 := 37) dX8_trace_32 fX8_45 rfl rfl ?_
    refine g_getr (r2 := 41) dX8_trace_35 fX8_237 rfl rfl ?_
    refine g_iconst 0 dX8_trace_38 (by decide) ?_
    refine g_aload_n dX8_trace_39 rfl ?_
    refine g_getr (r2 := 1) dX8_trace_40 fX8_10 rfl rfl ?_
    refine h_geti (μ2.1 1 0) dX8_trace_43 fX8_79 rfl rfl rfl ?_
    obtain ⟨c1, h⟩ := h
    obtain ⟨c2, h⟩ := h
    obtain ⟨c3, h⟩ := h
    refine h_copy dX8_trace_46 lX8_160 rfl rfl rfl rfl c1 c2 c3 ?_
    refine g_aload_n dX8_trace_49 rfl ?_
    refine g_getr (r2 := 43) dX8_trace_50 fX8_52 rfl rfl ?_
    refine g_aload_n dX8_trace_53 rfl ?_
    refine g_getr (r2 := 37) dX8_trace_54 fX8_45 rfl rfl ?_
    refine g_getr (r2 := 41) dX8_trace_57 fX8_237 rfl rfl ?_
    refine g_bipush 6 dX8_trace_60 (by decide) ?_
    refine g_callVv (mi2 := mX5_gather) (r := 43) (st := []) [sR 41, sI 6] dX8_trace_62 lX8_188 kX5_gather vX5_gather rfl rfl rfl (Nat.le_of_ble_eq_true rfl) (Nat.le_of_ble_eq_true rfl) (Nat.le_of_ble_eq_true rfl) rfl ?_
    refine sG.mono h (kV_mono fun μ3 h => ?_)
    refine g_aload_n dX8_trace_65 rfl ?_
    refine g_getr (r2 := 43) dX8_trace_66 fX8_52 rfl rfl ?_
    refine h_geti (μ3.1 43 6) dX8_trace_69 fX8_192 rfl rfl rfl ?_
    exact g_iret dX8_trace_72 rfl rfl h
  · have h := h.2 q
    refine g_iload_n dX8_trace_9 rfl ?_
    exact g_iret dX8_trace_10 rfl rfl h
set_option maxRecDepth 20000 in
theorem eX8_lock {d : Nat} {Q : Option sAV → sM → Prop} {μ : sM} {a1 : Int32} {a2 : Int32} (h : ((a1 = (-1) → ((a2 < 0 → Q (some (sI (-2))) μ) ∧ (¬ a2 < 0 → ((a2 ≤ 5 → sCl sLL mX1_begin d [sR 35] μ (kV fun μ1 => ((a1 < 0 → sCl sLL mX3_howMany d [sR 58, sI a2] μ1 (kI fun r2 μ2 => Q (some (sI r2)) μ2)) ∧ (¬ a1 < 0 → sCl sLL mX3_howMany d [sR 58, sI a2] (s_u μ1 35 2 ((μ1.1 35 2) ||| ((1 : Int32) <<< (a1 &&& 31)))) (kI fun r2 μ2 => Q (some (sI r2)) μ2))))) ∧ (¬ a2 ≤ 5 → Q (some (sI (-2))) μ))))) ∧ (¬ a1 = (-1) → sCl sLL mX6_hasThing d [sR 1, sI a1] μ (kI fun r1 μ1 => ((¬ r1 = 0 → ((a2 < 0 → Q (some (sI (-2))) μ1) ∧ (¬ a2 < 0 → ((a2 ≤ 5 → sCl sLL mX1_begin d [sR 35] μ1 (kV fun μ2 => ((a1 < 0 → sCl sLL mX3_howMany d [sR 58, sI a2] μ2 (kI fun r3 μ3 => Q (some (sI r3)) μ3)) ∧ (¬ a1 < 0 → sCl sLL mX3_howMany d [sR 58, sI a2] (s_u μ2 35 2 ((μ2.1 35 2) ||| ((1 : Int32) <<< (a1 &&& 31)))) (kI fun r3 μ3 => Q (some (sI r3)) μ3))))) ∧ (¬ a2 ≤ 5 → Q (some (sI (-2))) μ1))))) ∧ (r1 = 0 → Q (some (sI (-1))) μ1)))))) : sCl sLL mX8_lock (d + 1) [sR 0, sI a1, sI a2] μ Q := by
  refine sG.loc (al2 := [some (sR 0), some (sI a1), some (sI a2)]) (s_le_s (s_le_s (s_le_s s_le_0))) ?_
  refine g_iload_n dX8_lock_0 rfl ?_
  refine g_iconst (-1) dX8_lock_1 (by decide) ?_
  refine g_icmp_eq 18 dX8_lock_2 (by decide) (fun q => ?_) (fun q => ?_)
  · have h := h.1 q
    refine g_iload_n dX8_lock_18 rfl ?_
    refine g_if_lt 27 dX8_lock_19 (by decide) (fun q => ?_) (fun q => ?_)
    · have h := h.1 q
      refine g_bipush (-2) dX8_lock_27 (by decide) ?_
      exact g_iret dX8_lock_29 rfl rfl h
    · have h := h.2 q
      refine g_iload_n dX8_lock_22 rfl ?_
      refine g_iconst 5 dX8_lock_23 (by decide) ?_
      refine g_icmp_le 30 dX8_lock_24 (by decide) (fun q => ?_) (fun q => ?_)
      · have h := h.1 q
        refine g_aload_n dX8_lock_30 rfl ?_
        refine g_getr (r2 := 35) dX8_lock_31 fX8_36 rfl rfl ?_
        refine g_callVv (mi2 := mX1_begin) (r := 35) (st := []) [] dX8_lock_34 lX8_167 kX1_begin vX1_begin rfl rfl rfl (Nat.le_of_ble_eq_true rfl) (Nat.le_of_ble_eq_true rfl) (Nat.le_of_ble_eq_true rfl) rfl ?_
        refine sG.mono h (kV_mono fun μ1 h => ?_)
        refine g_iload_n dX8_lock_37 rfl ?_
        refine g_if_lt 56 dX8_lock_38 (by decide) (fun q => ?_) (fun q => ?_)
        · have h := h.1 q
          refine g_aload_n dX8_lock_56 rfl ?_
          refine g_getr (r2 := 58) dX8_lock_57 fX8_68 rfl rfl ?_
          refine g_iload_n dX8_lock_60 rfl ?_
          refine g_callVi (mi2 := mX3_howMany) (r := 58) (st := []) [sI a2] dX8_lock_61 lX8_243 kX3_howMany vX3_howMany rfl rfl rfl (Nat.le_of_ble_eq_true rfl) (Nat.le_of_ble_eq_true rfl) (Nat.le_of_ble_eq_true rfl) rfl ?_
          refine sG.mono h (kI_mono fun r2 μ2 h => ?_)
          exact g_iret dX8_lock_64 rfl rfl h
        · have h := h.2 q
          refine g_aload_n dX8_lock_41 rfl ?_
          refine g_getr (r2 := 35) dX8_lock_42 fX8_36 rfl rfl ?_
          refine g_dup_r dX8_lock_45 ?_
          refine h_geti (μ1.1 35 2) dX8_lock_46 fX8_240 rfl rfl rfl ?_
          refine g_iconst 1 dX8_lock_49 (by decide) ?_
          refine g_iload_n dX8_lock_50 rfl ?_
          refine g_ishl dX8_lock_51 ?_
          refine g_ior dX8_lock_52 ?_
          refine g_puti dX8_lock_53 fX8_240 rfl rfl rfl rfl ?_
          refine g_aload_n dX8_lock_56 rfl ?_
          refine g_getr (r2 := 58) dX8_lock_57 fX8_68 rfl rfl ?_
          refine g_iload_n dX8_lock_60 rfl ?_
          refine g_callVi (mi2 := mX3_howMany) (r := 58) (st := []) [sI a2] dX8_lock_61 lX8_243 kX3_howMany vX3_howMany rfl rfl rfl (Nat.le_of_ble_eq_true rfl) (Nat.le_of_ble_eq_true rfl) (Nat.le_of_ble_eq_true rfl) rfl ?_
          refine sG.mono h (kI_mono fun r2 μ2 h => ?_)
          exact g_iret dX8_lock_64 rfl rfl h
      · have h := h.2 q
        refine g_bipush (-2) dX8_lock_27 (by decide) ?_
        exact g_iret dX8_lock_29 rfl rfl h
  · have h := h.2 q
    refine g_aload_n dX8_lock_5 rfl ?_
    refine g_getr (r2 := 1) dX8_lock_6 fX8_10 rfl rfl ?_
    refine g_iload_n dX8_lock_9 rfl ?_
    refine g_callVi (mi2 := mX6_hasThing) (r := 1) (st := []) [sI a1] dX8_lock_10 lX8_87 kX6_hasThing vX6_hasThing rfl rfl rfl (Nat.le_of_ble_eq_true rfl) (Nat.le_of_ble_eq_true rfl) (Nat.le_of_ble_eq_true rfl) rfl ?_
    refine sG.mono h (kI_mono fun r1 μ1 h => ?_)
    refine g_if_ne 18 dX8_lock_13 (by decide) (fun q => ?_) (fun q => ?_)
    · have h := h.1 q
      refine g_iload_n dX8_lock_18 rfl ?_
      refine g_if_lt 27 dX8_lock_19 (by decide) (fun q => ?_) (fun q => ?_)
      · have h := h.1 q
        refine g_bipush (-2) dX8_lock_27 (by decide) ?_
        exact g_iret dX8_lock_29 rfl rfl h
      · have h := h.2 q
        refine g_iload_n dX8_lock_22 rfl ?_
        refine g_iconst 5 dX8_lock_23 (by decide) ?_
        refine g_icmp_le 30 dX8_lock_24 (by decide) (fun q => ?_) (fun q => ?_)
        · have h := h.1 q
          refine g_aload_n dX8_lock_30 rfl ?_
          refine g_getr (r2 := 35) dX8_lock_31 fX8_36 rfl rfl ?_
          refine g_callVv (mi2 := mX1_begin) (r := 35) (st := []) [] dX8_lock_34 lX8_167 kX1_begin vX1_begin rfl rfl rfl (Nat.le_of_ble_eq_true rfl) (Nat.le_of_ble_eq_true rfl) (Nat.le_of_ble_eq_true rfl) rfl ?_
          refine sG.mono h (kV_mono fun μ2 h => ?_)
          refine g_iload_n dX8_lock_37 rfl ?_
          refine g_if_lt 56 dX8_lock_38 (by decide) (fun q => ?_) (fun q => ?_)
          · have h := h.1 q
            refine g_aload_n dX8_lock_56 rfl ?_
            refine g_getr (r2 := 58) dX8_lock_57 fX8_68 rfl rfl ?_
            refine g_iload_n dX8_lock_60 rfl ?_
            refine g_callVi (mi2 := mX3_howMany) (r := 58) (st := []) [sI a2] dX8_lock_61 lX8_243 kX3_howMany vX3_howMany rfl rfl rfl (Nat.le_of_ble_eq_true rfl) (Nat.le_of_ble_eq_true rfl) (Nat.le_of_ble_eq_true rfl) rfl ?_
            refine sG.mono h (kI_mono fun r3 μ3 h => ?_)
            exact g_iret dX8_lock_64 rfl rfl h
          · have h := h.2 q
            refine g_aload_n dX8_lock_41 rfl ?_
            refine g_getr (r2 := 35) dX8_lock_42 fX8_36 rfl rfl ?_
            refine g_dup_r dX8_lock_45 ?_
            refine h_geti (μ2.1 35 2) dX8_lock_46 fX8_240 rfl rfl rfl ?_
            refine g_iconst 1 dX8_lock_49 (by decide) ?_
            refine g_iload_n dX8_lock_50 rfl ?_
            refine g_ishl dX8_lock_51 ?_
            refine g_ior dX8_lock_52 ?_
            refine g_puti dX8_lock_53 fX8_240 rfl rfl rfl rfl ?_
            refine g_aload_n dX8_lock_56 rfl ?_
            refine g_getr (r2 := 58) dX8_lock_57 fX8_68 rfl rfl ?_
            refine g_iload_n dX8_lock_60 rfl ?_
            refine g_callVi (mi2 := mX3_howMany) (r := 58) (st := []) [sI a2] dX8_lock_61 lX8_243 kX3_howMany vX3_howMany rfl rfl rfl (Nat.le_of_ble_eq_true rfl) (Nat.le_of_ble_eq_true rfl) (Nat.le_of_ble_eq_true rfl) rfl ?_
            refine sG.mono h (kI_mono fun r3 μ3 h => ?_)
            exact g_iret dX8_lock_64 rfl rfl h
        · have h := h.2 q
          refine g_bipush (-2) dX8_lock_27 (by decide) ?_
          exact g_iret dX8_lock_29 rfl rfl h
    · have h := h.2 q
      refine g_iconst (-1) dX8_lock_16 (by decide) ?_
      exact g_iret dX8_lock_17 rfl rfl h
set_option maxRecDepth 20000 in
theorem eX8_year {d : Nat} {Q : Option sAV → sM → Prop} {μ : sM} {a1 : Int32} {a2 : Int32} {a3 : Int32} (h : ((a1 < 0 → Q (some (sI (-2))) μ) ∧ (¬ a1 < 0 → ((9999 < a1 → Q (some (sI (-2))) μ) ∧ (¬ 9999 < a1 → ((a2 < 1 → Q (some (sI (-2))) μ) ∧ (¬ a2 < 1 → ((a2 ≤ 60 → ((a3 < 0 → Q (some (sI (-2))) μ) ∧ (¬ a3 < 0 → ((a3 ≤ 2 → sG sLL mX8_year (d + 1) Q 52 [some (sR 0), some (sI a1), some (sI a2), some (sI a3), some (sI a1), some (sI 0), some (sI 0), some (sI 0), some (sI 0), none, none, none] [] μ) ∧ (¬ a3 ≤ 2 → Q (some (sI (-2))) μ))))) ∧ (¬ a2 ≤ 60 → Q (some (sI (-2))) μ))))))))) : sCl sLL mX8_year (d + 1) [sR 0, sI a1, sI a2, sI a3] μ Q := by
  refine sG.loc (al2 := [some (sR 0), some (sI a1), some (sI a2), some (sI a3), none, none, none, none, none, none, none, none]) (s_le_s (s_le_s (s_le_s (s_le_s (s_le_p (s_le_p (s_le_p (s_le_p (s_le_p (s_le_p (s_le_p (s_le_p s_le_0)))))))))))) ?_
  refine g_iload_n dX8_year_0 rfl ?_
  refine g_if_lt 22 dX8_year_1 (by decide) (fun q => ?_) (fun q => ?_)
  · have h := h.1 q
    refine g_bipush (-2) dX8_year_22 (by decide) ?_
    exact g_iret dX8_year_24 rfl rfl h
  · have h := h.2 q
    refine g_iload_n dX8_year_4 rfl ?_
    refine g_sipush 9999 dX8_year_5 (by decide) ?_
    refine g_icmp_gt 22 dX8_year_8 (by decide) (fun q => ?_) (fun q => ?_)
    · have h := h.1 q
      refine g_bipush (-2) dX8_year_22 (by decide) ?_
      exact g_iret dX8_year_24 rfl rfl h
    · have h := h.2 q
      refine g_iload_n dX8_year_11 rfl ?_
      refine g_iconst 1 dX8_year_12 (by decide) ?_
      refine g_icmp_lt 22 dX8_year_13 (by decide) (fun q => ?_) (fun q => ?_)
      · have h := h.1 q
        refine g_bipush (-2) dX8_year_22 (by decide) ?_
        exact g_iret dX8_year_24 rfl rfl h
      · have h := h.2 q
        refine g_iload_n dX8_year_16 rfl ?_
        refine g_bipush 60 dX8_year_17 (by decide) ?_
        refine g_icmp_le 25 dX8_year_19 (by decide) (fun q => ?_) (fun q => ?_)
        · have h := h.1 q
          refine g_iload_n dX8_year_25 rfl ?_
          refine g_if_lt 34 dX8_year_26 (by decide) (fun q => ?_) (fun q => ?_)
          · have h := h.1 q
            refine g_bipush (-2) dX8_year_34 (by decide) ?_
            exact g_iret dX8_year_36 rfl rfl h
          · have h := h.2 q
            refine g_iload_n dX8_year_29 rfl ?_
            refine g_iconst 2 dX8_year_30 (by decide) ?_
            refine g_icmp_le 37 dX8_year_31 (by decide) (fun q => ?_) (fun q => ?_)
            · have h := h.1 q
              refine g_iload_n dX8_year_37 rfl ?_
              refine g_istore [some (sR 0), some (sI a1), some (sI a2), some (sI a3), some (sI a1), none, none, none, none, none, none, none] dX8_year_38 (by decide) rfl ?_
              refine g_iconst 0 dX8_year_40 (by decide) ?_
              refine g_istore [some (sR 0), some (sI a1), some (sI a2), some (sI a3), some (sI a1), some (sI 0), none, none, none, none, none, none] dX8_year_41 (by decide) rfl ?_
              refine g_iconst 0 dX8_year_43 (by decide) ?_
              refine g_istore [some (sR 0), some (sI a1), some (sI a2), some (sI a3), some (sI a1), some (sI 0), some (sI 0), none, none, none, none, none] dX8_year_44 (by decide) rfl ?_
              refine g_iconst 0 dX8_year_46 (by decide) ?_
              refine g_istore [some (sR 0), some (sI a1), some (sI a2), some (sI a3), some (sI a1), some (sI 0), some (sI 0), some (sI 0), none, none, none, none] dX8_year_47 (by decide) rfl ?_
              refine g_iconst 0 dX8_year_49 (by decide) ?_
              refine g_istore [some (sR 0), some (sI a1), some (sI a2), some (sI a3), some (sI a1), some (sI 0), some (sI 0), some (sI 0), some (sI 0), none, none, none] dX8_year_50 (by decide) rfl ?_
              exact sG.loc (s_le_s (s_le_s (s_le_s (s_le_s (s_le_s (s_le_s (s_le_s (s_le_s (s_le_s (s_le_n (s_le_n (s_le_n s_le_0)))))))))))) h
            · have h := h.2 q
              refine g_bipush (-2) dX8_year_34 (by decide) ?_
              exact g_iret dX8_year_36 rfl rfl h
        · have h := h.2 q
          refine g_bipush (-2) dX8_year_22 (by decide) ?_
          exact g_iret dX8_year_24 rfl rfl h
set_option maxRecDepth 20000 in
theorem sX8_year_52 {d : Nat} {Q : Option sAV → sM → Prop} {μ : sM} {x1 : Int32} {x2 : Int32} {x3 : Int32} {x4 : Int32} {x5 : Int32} {x6 : Int32} {x7 : Int32} {x8 : Int32} (h : ((x2 ≤ x8 → ((¬ x3 = 0 → ((¬ x3 = 1 → Q (some (sI x7)) μ) ∧ (x3 = 1 → Q (some (sI x6)) μ))) ∧ (x3 = 0 → Q (some (sI x5)) μ))) ∧ (¬ x2 ≤ x8 → sCl sLL mX1_begin d [sR 35] μ (kV fun μ1 => sG sLL mX8_year (d + 1) Q 72 [some (sR 0), some (sI x1), some (sI x2), some (sI x3), some (sI x4), some (sI x5), some (sI x6), some (sI x7), some (sI x8), some (sI x5), some (sI 0), none] [] μ1)))) : sG sLL mX8_year (d + 1) Q 52 [some (sR 0), some (sI x1), some (sI x2), some (sI x3), some (sI x4), some (sI x5), some (sI x6), some (sI x7), some (sI x8), none, none, none] [] μ := by
  refine g_iload dX8_year_52 rfl ?_
  refine g_iload_n dX8_year_54 rfl ?_
  refine g_icmp_ge 151 dX8_year_55 (by decide) (fun q => ?_) (fun q => ?_)
  · have h := h.1 q
    refine g_iload_n dX8_year_151 rfl ?_
    refine g_if_ne 160 dX8_year_152 (by decide) (fun q => ?_) (fun q => ?_)
    · have h := h.1 q
      refine g_iload_n dX8_year_160 rfl ?_
      refine g_iconst 1 dX8_year_161 (by decide) ?_
      refine g_icmp_ne 170 dX8_year_162 (by decide) (fun q => ?_) (fun q => ?_)
      · have h := h.1 q
        refine g_iload dX8_year_170 rfl ?_
        exact g_iret dX8_year_172 rfl rfl h
      · have h := h.2 q
        refine g_iload dX8_year_165 rfl ?_
        refine g_goto 172 dX8_year_167 (by decide) ?_
        exact g_iret dX8_year_172 rfl rfl h
    · have h := h.2 q
      refine g_iload dX8_year_155 rfl ?_
      refine g_goto 172 dX8_year_157 (by decide) ?_
      exact g_iret dX8_year_172 rfl rfl h
  · have h := h.2 q
    refine g_aload_n dX8_year_58 rfl ?_
    refine g_getr (r2 := 35) dX8_year_59 fX8_36 rfl rfl ?_
    refine g_callVv (mi2 := mX1_begin) (r := 35) (st := []) [] dX8_year_62 lX8_167 kX1_begin vX1_begin rfl rfl rfl (Nat.le_of_ble_eq_true rfl) (Nat.le_of_ble_eq_true rfl) (Nat.le_of_ble_eq_true rfl) rfl ?_
    refine sG.mono h (kV_mono fun μ1 h => ?_)
    refine g_iload dX8_year_65 rfl ?_
    refine g_istore [some (sR 0), some (sI x1), some (sI x2), some (sI x3), some (sI x4), some (sI x5), some (sI x6), some (sI x7), some (sI x8), some (sI x5), none, none] dX8_year_67 (by decide) rfl ?_
    refine g_iconst 0 dX8_year_69 (by decide) ?_
    refine g_istore [some (sR 0), some (sI x1), some (sI x2), some (sI x3), some (sI x4), some (sI x5), some (sI x6), some (sI x7), some (sI x8), some (sI x5), some (sI 0), none] dX8_year_70 (by decide) rfl ?_
    exact sG.loc (s_le_s (s_le_s (s_le_s (s_le_s (s_le_s (s_le_s (s_le_s (s_le_s (s_le_s (s_le_s (s_le_s (s_le_n s_le_0)))))))))))) h
set_option maxRecDepth 20000 in
theorem sX8_year_72 {d : Nat} {Q : Option sAV → sM → Prop} {μ : sM} {x1 : Int32} {x2 : Int32} {x3 : Int32} {x4 : Int32} {x5 : Int32} {x6 : Int32} {x7 : Int32} {x8 : Int32} {x9 : Int32} {x10 : Int32} (h : ((3 ≤ x10 → ((¬ x5 = x9 → sG sLL mX8_year (d + 1) Q 52 [some (sR 0), some (sI x1), some (sI x2), some (sI x3), some (sI x4), some (sI x5), some (sI x6), some (sI x7), some (sI (x8 + 1)), none, none, none] [] μ) ∧ (x5 = x9 → sG sLL mX8_year (d + 1) Q 52 [some (sR 0), some (sI x1), some (sI x2), some (sI x3), some (sI x4), some (sI x5), some (sI x6), some (sI (x7 + 1)), some (sI (x8 + 1)), none, none, none] [] μ))) ∧ (¬ 3 ≤ x10 → sCl sLL mX1_visit d [sR 35, sI (s_rem (s_rem ((75 * x4) + 74) 65537) 4)] μ (kI fun r1 μ1 => ((r1 ≤ 0 → sG sLL mX8_year (d + 1) Q 72 [some (sR 0), some (sI x1), some (sI x2), some (sI x3), some (sI (s_rem ((75 * x4) + 74) 65537)), some (sI (x5 + r1)), some (sI x6), some (sI x7), some (sI x8), some (sI x9), some (sI (x10 + 1)), none] [] μ1) ∧ (¬ r1 ≤ 0 → ((¬ (μ1.1 35 3) = 0 → sG sLL mX8_year (d + 1) Q 72 [some (sR 0), some (sI x1), some (sI x2), some (sI x3), some (sI (s_rem ((75 * x4) + 74) 65537)), some (sI (x5 + r1)), some (sI x6), some (sI x7), some (sI x8), some (sI x9), some (sI (x10 + 1)), none] [] μ1) ∧ ((μ1.1 35 3) = 0 → sG sLL mX8_year (d + 1) Q 72 [some (sR 0), some (sI x1), some (sI x2), some (sI x3), some (sI (s_rem ((75 * x4) + 74) 65537)), some (sI (x5 + r1)), some (sI (x6 + 1)), some (sI x7), some (sI x8), some (sI x9), some (sI (x10 + 1)), none] [] μ1)))))))) : sG sLL mX8_year (d + 1) Q 72 [some (sR 0), some (sI x1), some (sI x2), some (sI x3), some (sI x4), some (sI x5), some (sI x6), some (sI x7), some (sI x8), some (sI x9), some (sI x10), none] [] μ := by
  refine g_iload dX8_year_72 rfl ?_
  refine g_iconst 3 dX8_year_74 (by decide) ?_
  refine g_icmp_ge 135 dX8_year_75 (by decide) (fun q => ?_) (fun q => ?_)
  · have h := h.1 q
    refine g_iload dX8_year_135 rfl ?_
    refine g_iload dX8_year_137 rfl ?_
    refine g_icmp_ne 145 dX8_year_139 (by decide) (fun q => ?_) (fun q => ?_)
    · have h := h.1 q
      refine g_iinc (x8 + 1) [some (sR 0), some (sI x1), some (sI x2), some (sI x3), some (sI x4), some (sI x5), some (sI x6), some (sI x7), some (sI (x8 + 1)), some (sI x9), some (sI x10), none] dX8_year_145 rfl rfl (by decide) rfl ?_
      refine g_goto 52 dX8_year_148 (by decide) ?_
      exact sG.loc (s_le_s (s_le_s (s_le_s (s_le_s (s_le_s (s_le_s (s_le_s (s_le_s (s_le_s (s_le_n (s_le_n (s_le_n s_le_0)))))))))))) h
    · have h := h.2 q
      refine g_iinc (x7 + 1) [some (sR 0), some (sI x1), some (sI x2), some (sI x3), some (sI x4), some (sI x5), some (sI x6), some (sI (x7 + 1)), some (sI x8), some (sI x9), some (sI x10), none] dX8_year_142 rfl rfl (by decide) rfl ?_
      refine g_iinc (x8 + 1) [some (sR 0), some (sI x1), some (sI x2), some (sI x3), some (sI x4), some (sI x5), some (sI x6), some (sI (x7 + 1)), some (sI (x8 + 1)), some (sI x9), some (sI x10), none] dX8_year_145 rfl rfl (by decide) rfl ?_
      refine g_goto 52 dX8_year_148 (by decide) ?_
      exact sG.loc (s_le_s (s_le_s (s_le_s (s_le_s (s_le_s (s_le_s (s_le_s (s_le_s (s_le_s (s_le_n (s_le_n (s_le_n s_le_0)))))))))))) h
  · have h := h.2 q
    refine g_bipush 75 dX8_year_78 (by decide) ?_
    refine g_iload dX8_year_80 rfl ?_
    refine g_imul dX8_year_82 ?_
    refine g_bipush 74 dX8_year_83 (by decide) ?_
    refine g_iadd dX8_year_85 ?_
    refine g_ldc dX8_year_86 qX8_245 ?_
    refine h_irem dX8_year_88 (by decide) ?_
    refine g_istore [some (sR 0), some (sI x1), some (sI x2), some (sI x3), some (sI (s_rem ((75 * x4) + 74) 65537)), some (sI x5), some (sI x6), some (sI x7), some (sI x8), some (sI x9), some (sI x10), none] dX8_year_89 (by decide) rfl ?_
    refine g_aload_n dX8_year_91 rfl ?_
    refine g_getr (r2 := 35) dX8_year_92 fX8_36 rfl rfl ?_
    refine g_iload dX8_year_95 rfl ?_
    refine g_iconst 4 dX8_year_97 (by decide) ?_
    refine h_irem dX8_year_98 (by decide) ?_
    refine g_callVi (mi2 := mX1_visit) (r := 35) (st := []) [sI (s_rem (s_rem ((75 * x4) + 74) 65537) 4)] dX8_year_99 lX8_246 kX1_visit vX1_visit rfl rfl rfl (Nat.le_of_ble_eq_true rfl) (Nat.le_of_ble_eq_true rfl) (Nat.le_of_ble_eq_true rfl) rfl ?_
    refine sG.mono h (kI_mono fun r1 μ1 h => ?_)
    refine g_istore [some (sR 0), some (sI x1), some (sI x2), some (sI x3), some (sI (s_rem ((75 * x4) + 74) 65537)), some (sI x5), some (sI x6), some (sI x7), some (sI x8), some (sI x9), some (sI x10), some (sI r1)] dX8_year_102 (by decide) rfl ?_
    refine g_iload dX8_year_104 rfl ?_
    refine g_iload dX8_year_106 rfl ?_
    refine g_iadd dX8_year_108 ?_
    refine g_istore [some (sR 0), some (sI x1), some (sI x2), some (sI x3), some (sI (s_rem ((75 * x4) + 74) 65537)), some (sI (x5 + r1)), some (sI x6), some (sI x7), some (sI x8), some (sI x9), some (sI x10), some (sI r1)] dX8_year_109 (by decide) rfl ?_
    refine g_iload dX8_year_111 rfl ?_
    refine g_if_le 129 dX8_year_113 (by decide) (fun q => ?_) (fun q => ?_)
    · have h := h.1 q
      refine g_iinc (x10 + 1) [some (sR 0), some (sI x1), some (sI x2), some (sI x3), some (sI (s_rem ((75 * x4) + 74) 65537)), some (sI (x5 + r1)), some (sI x6), some (sI x7), some (sI x8), some (sI x9), some (sI (x10 + 1)), some (sI r1)] dX8_year_129 rfl rfl (by decide) rfl ?_
      refine g_goto 72 dX8_year_132 (by decide) ?_
      exact sG.loc (s_le_s (s_le_s (s_le_s (s_le_s (s_le_s (s_le_s (s_le_s (s_le_s (s_le_s (s_le_s (s_le_s (s_le_n s_le_0)))))))))))) h
    · have h := h.2 q
      refine g_aload_n dX8_year_116 rfl ?_
      refine g_getr (r2 := 35) dX8_year_117 fX8_36 rfl rfl ?_
      refine h_geti (μ1.1 35 3) dX8_year_120 fX8_249 rfl rfl rfl ?_
      refine g_if_ne 129 dX8_year_123 (by decide) (fun q => ?_) (fun q => ?_)
      · have h := h.1 q
        refine g_iinc (x10 + 1) [some (sR 0), some (sI x1), some (sI x2), some (sI x3), some (sI (s_rem ((75 * x4) + 74) 65537)), some (sI (x5 + r1)), some (sI x6), some (sI x7), some (sI x8), some (sI x9), some (sI (x10 + 1)), some (sI r1)] dX8_year_129 rfl rfl (by decide) rfl ?_
        refine g_goto 72 dX8_year_132 (by decide) ?_
        exact sG.loc (s_le_s (s_le_s (s_le_s (s_le_s (s_le_s (s_le_s (s_le_s (s_le_s (s_le_s (s_le_s (s_le_s (s_le_n s_le_0)))))))))))) h
      · have h := h.2 q
        refine g_iinc (x6 + 1) [some (sR 0), some (sI x1), some (sI x2), some (sI x3), some (sI (s_rem ((75 * x4) + 74) 65537)), some (sI (x5 + r1)), some (sI (x6 + 1)), some (sI x7), some (sI x8), some (sI x9), some (sI x10), some (sI r1)] dX8_year_126 rfl rfl (by decide) rfl ?_
        refine g_iinc (x10 + 1) [some (sR 0), some (sI x1), some (sI x2), some (sI x3), some (sI (s_rem ((75 * x4) + 74) 65537)), some (sI (x5 + r1)), some (sI (x6 + 1)), some (sI x7), some (sI x8), some (sI x9), some (sI (x10 + 1)), some (sI r1)] dX8_year_129 rfl rfl (by decide) rfl ?_
        refine g_goto 72 dX8_year_132 (by decide) ?_
        exact sG.loc (s_le_s (s_le_s (s_le_s (s_le_s (s_le_s (s_le_s (s_le_s (s_le_s (s_le_s (s_le_s (s_le_s (s_le_n s_le_0)))))))))))) h
set_option maxRecDepth 20000 in
theorem eX8_image {d : Nat} {Q : Option sAV → sM → Prop} {μ : sM} {a1 : Int32} (h : ((a1 < 0 → Q (some (sI (-2))) μ) ∧ (¬ a1 < 0 → ((a1 < 2 → (vp_in a1 2 ∧ ((a1 = 0 → sCl sLL mX6_copyFrom d [sR 2, sR 1] μ (kV fun μ1 => Q (some (sI 1)) (s_u μ1 32 (a1.toNatClampNeg) 1))) ∧ (¬ a1 = 0 → (a1 = 1 ∧ sCl sLL mX6_copyFrom d [sR 3, sR 1] μ (kV fun μ1 => Q (some (sI 1)) (s_u μ1 32 (a1.toNatClampNeg) 1))))))) ∧ (¬ a1 < 2 → Q (some (sI (-2))) μ))))) : sCl sLL mX8_image (d + 1) [sR 0, sI a1] μ Q := by
  refine sG.loc (al2 := [some (sR 0), some (sI a1)]) (s_le_s (s_le_s s_le_0)) ?_
  refine g_iload_n dX8_image_0 rfl ?_
  refine g_if_lt 9 dX8_image_1 (by decide) (fun q => ?_) (fun q => ?_)
  · have h := h.1 q
    refine g_bipush (-2) dX8_image_9 (by decide) ?_
    exact g_iret dX8_image_11 rfl rfl h
  · have h := h.2 q
    refine g_iload_n dX8_image_4 rfl ?_
    refine g_iconst 2 dX8_image_5 (by decide) ?_
    refine g_icmp_lt 12 dX8_image_6 (by decide) (fun q => ?_) (fun q => ?_)
    · have h := h.1 q
      refine g_aload_n dX8_image_12 rfl ?_
      refine g_getr (r2 := 31) dX8_image_13 fX8_16 rfl rfl ?_
      refine g_iload_n dX8_image_16 rfl ?_
      obtain ⟨v1, h⟩ := h
      by_cases q : a1 = 0
      · have h := h.1 q
        refine h_aald 2 dX8_image_17 rfl rfl v1 (by rw [q]; rfl) ?_
        refine g_aload_n dX8_image_18 rfl ?_
        refine g_getr (r2 := 1) dX8_image_19 fX8_10 rfl rfl ?_
        refine g_callVv (mi2 := mX6_copyFrom) (r := 2) (st := []) [sR 1] dX8_image_22 lX8_251 kX6_copyFrom vX6_copyFrom rfl rfl rfl (Nat.le_of_ble_eq_true rfl) (Nat.le_of_ble_eq_true rfl) (Nat.le_of_ble_eq_true rfl) rfl ?_
        refine sG.mono h (kV_mono fun μ1 h => ?_)
        refine g_aload_n dX8_image_25 rfl ?_
        refine g_getr (r2 := 32) dX8_image_26 fX8_20 rfl rfl ?_
        refine g_iload_n dX8_image_29 rfl ?_
        refine g_iconst 1 dX8_image_30 (by decide) ?_
        refine h_zast (a1.toNatClampNeg) 1 dX8_image_31 rfl rfl v1 rfl (by decide +kernel) ?_
        refine g_iconst 1 dX8_image_32 (by decide) ?_
        exact g_iret dX8_image_33 rfl rfl h
      · obtain ⟨q2, h⟩ := h.2 q
        refine h_aald 3 dX8_image_17 rfl rfl v1 (by rw [q2]; rfl) ?_
        refine g_aload_n dX8_image_18 rfl ?_
        refine g_getr (r2 := 1) dX8_image_19 fX8_10 rfl rfl ?_
        refine g_callVv (mi2 := mX6_copyFrom) (r := 3) (st := []) [sR 1] dX8_image_22 lX8_251 kX6_copyFrom vX6_copyFrom rfl rfl rfl (Nat.le_of_ble_eq_true rfl) (Nat.le_of_ble_eq_true rfl) (Nat.le_of_ble_eq_true rfl) rfl ?_
        refine sG.mono h (kV_mono fun μ1 h => ?_)
        refine g_aload_n dX8_image_25 rfl ?_
        refine g_getr (r2 := 32) dX8_image_26 fX8_20 rfl rfl ?_
        refine g_iload_n dX8_image_29 rfl ?_
        refine g_iconst 1 dX8_image_30 (by decide) ?_
        refine h_zast (a1.toNatClampNeg) 1 dX8_image_31 rfl rfl v1 rfl (by decide +kernel) ?_
        refine g_iconst 1 dX8_image_32 (by decide) ?_
        exact g_iret dX8_image_33 rfl rfl h
    · have h := h.2 q
      refine g_bipush (-2) dX8_image_9 (by decide) ?_
      exact g_iret dX8_image_11 rfl rfl h
set_option maxRecDepth 20000 in
theorem eX8_restore {d : Nat} {Q : Option sAV → sM → Prop} {μ : sM} {a1 : Int32} (h : ((a1 < 0 → Q (some (sI (-2))) μ) ∧ (¬ a1 < 0 → ((a1 < 2 → (vp_in a1 2 ∧ ((¬ (μ.1 32 a1.toNatClampNeg) = 0 → ((a1 = 0 → sCl sLL mX6_copyFrom d [sR 1, sR 2] μ (kV fun μ1 => Q (some (sI 1)) μ1)) ∧ (¬ a1 = 0 → (a1 = 1 ∧ sCl sLL mX6_copyFrom d [sR 1, sR 3] μ (kV fun μ1 => Q (some (sI 1)) μ1))))) ∧ ((μ.1 32 a1.toNatClampNeg) = 0 → Q (some (sI (-3))) μ)))) ∧ (¬ a1 < 2 → Q (some (sI (-2))) μ))))) : sCl sLL mX8_restore (d + 1) [sR 0, sI a1] μ Q := by
  refine sG.loc (al2 := [some (sR 0), some (sI a1)]) (s_le_s (s_le_s s_le_0)) ?_
  refine g_iload_n dX8_restore_0 rfl ?_
  refine g_if_lt 9 dX8_restore_1 (by decide) (fun q => ?_) (fun q => ?_)
  · have h := h.1 q
    refine g_bipush (-2) dX8_restore_9 (by decide) ?_
    exact g_iret dX8_restore_11 rfl rfl h
  · have h := h.2 q
    refine g_iload_n dX8_restore_4 rfl ?_
    refine g_iconst 2 dX8_restore_5 (by decide) ?_
    refine g_icmp_lt 12 dX8_restore_6 (by decide) (fun q => ?_) (fun q => ?_)
    · have h := h.1 q
      refine g_aload_n dX8_restore_12 rfl ?_
      refine g_getr (r2 := 32) dX8_restore_13 fX8_20 rfl rfl ?_
      refine g_iload_n dX8_restore_16 rfl ?_
      obtain ⟨v1, h⟩ := h
      refine h_zald (μ.1 32 a1.toNatClampNeg) dX8_restore_17 rfl rfl v1 rfl ?_
      refine g_if_ne 24 dX8_restore_18 (by decide) (fun q => ?_) (fun q => ?_)
      · have h := h.1 q
        refine g_aload_n dX8_restore_24 rfl ?_
        refine g_getr (r2 := 1) dX8_restore_25 fX8_10 rfl rfl ?_
        refine g_aload_n dX8_restore_28 rfl ?_
        refine g_getr (r2 := 31) dX8_restore_29 fX8_16 rfl rfl ?_
        refine g_iload_n dX8_restore_32 rfl ?_
        by_cases q : a1 = 0
        · have h := h.1 q
          refine h_aald 2 dX8_restore_33 rfl rfl v1 (by rw [q]; rfl) ?_
          refine g_callVv (mi2 := mX6_copyFrom) (r := 1) (st := []) [sR 2] dX8_restore_34 lX8_251 kX6_copyFrom vX6_copyFrom rfl rfl rfl (Nat.le_of_ble_eq_true rfl) (Nat.le_of_ble_eq_true rfl) (Nat.le_of_ble_eq_true rfl) rfl ?_
          refine sG.mono h (kV_mono fun μ1 h => ?_)
          refine g_iconst 1 dX8_restore_37 (by decide) ?_
          exact g_iret dX8_restore_38 rfl rfl h
        · obtain ⟨q2, h⟩ := h.2 q
          refine h_aald 3 dX8_restore_33 rfl rfl v1 (by rw [q2]; rfl) ?_
          refine g_callVv (mi2 := mX6_copyFrom) (r := 1) (st := []) [sR 3] dX8_restore_34 lX8_251 kX6_copyFrom vX6_copyFrom rfl rfl rfl (Nat.le_of_ble_eq_true rfl) (Nat.le_of_ble_eq_true rfl) (Nat.le_of_ble_eq_true rfl) rfl ?_
          refine sG.mono h (kV_mono fun μ1 h => ?_)
          refine g_iconst 1 dX8_restore_37 (by decide) ?_
          exact g_iret dX8_restore_38 rfl rfl h
      · have h := h.2 q
        refine g_bipush (-3) dX8_restore_21 (by decide) ?_
        exact g_iret dX8_restore_23 rfl rfl h
    · have h := h.2 q
      refine g_bipush (-2) dX8_restore_9 (by decide) ?_
      exact g_iret dX8_restore_11 rfl rfl h
set_option maxRecDepth 20000 in
theorem eX8_told {d : Nat} {Q : Option sAV → sM → Prop} {μ : sM} {a1 : Int32} (h : ((a1 = 0 → Q (some (sI (μ.1 33 0))) μ) ∧ (¬ a1 = 0 → ((a1 = 1 → Q (some (sI (μ.1 1 0))) μ) ∧ (¬ a1 = 1 → ((a1 = 2 → Q (some (sI (μ.1 1 2))) μ) ∧ (¬ a1 = 2 → ((a1 = 3 → sCl sLL mX6_sightBits d [sR 1] μ (kI fun r1 μ1 => Q (some (sI r1)) μ1)) ∧ (¬ a1 = 3 → ((a1 < 100 → ((a1 < 10 → Q (some (sI (-2))) μ) ∧ (¬ a1 < 10 → sCl sLL mX8_toldOfThing d [sR 0, sI ((a1 / 10) - 1), sI (s_rem a1 10)] μ (kI fun r1 μ1 => Q (some (sI r1)) μ1)))) ∧ (¬ a1 < 100 → sCl sLL mX8_toldOfGuest d [sR 0, sI ((a1 / 100) - 1), sI (s_rem a1 100)] μ (kI fun r1 μ1 => Q (some (sI r1)) μ1)))))))))))) : sCl sLL mX8_told (d + 1) [sR 0, sI a1] μ Q := by
  refine sG.loc (al2 := [some (sR 0), some (sI a1)]) (s_le_s (s_le_s s_le_0)) ?_
  refine g_iload_n dX8_told_0 rfl ?_
  by_cases q0 : a1 = 0
  · have h := h.1 q0
    refine g_tin 32 0 dX8_told_1 (by rw [q0]; decide) (by decide) rfl (by decide) ?_
    refine g_aload_n dX8_told_32 rfl ?_
    refine g_getr (r2 := 33) dX8_told_33 fX8_27 rfl rfl ?_
    refine h_geti (μ.1 33 0) dX8_told_36 fX8_122 rfl rfl rfl ?_
    exact g_iret dX8_told_39 rfl rfl h
  · have h := h.2 q0
    by_cases q1 : a1 = 1
    · have h := h.1 q1
      refine g_tin 40 1 dX8_told_1 (by rw [q1]; decide) (by decide) rfl (by decide) ?_
      refine g_aload_n dX8_told_40 rfl ?_
      refine g_getr (r2 := 1) dX8_told_41 fX8_10 rfl rfl ?_
      refine h_geti (μ.1 1 0) dX8_told_44 fX8_79 rfl rfl rfl ?_
      exact g_iret dX8_told_47 rfl rfl h
    · have h := h.2 q1
      by_cases q2 : a1 = 2
      · have h := h.1 q2
        refine g_tin 48 2 dX8_told_1 (by rw [q2]; decide) (by decide) rfl (by decide) ?_
        refine g_aload_n dX8_told_48 rfl ?_
        refine g_getr (r2 := 1) dX8_told_49 fX8_10 rfl rfl ?_
        refine h_geti (μ.1 1 2) dX8_told_52 fX8_107 rfl rfl rfl ?_
        exact g_iret dX8_told_55 rfl rfl h
      · have h := h.2 q2
        by_cases q3 : a1 = 3
        · have h := h.1 q3
          refine g_tin 56 3 dX8_told_1 (by rw [q3]; decide) (by decide) rfl (by decide) ?_
          refine g_aload_n dX8_told_56 rfl ?_
          refine g_getr (r2 := 1) dX8_told_57 fX8_10 rfl rfl ?_
          refine g_callVi (mi2 := mX6_sightBits) (r := 1) (st := []) [] dX8_told_60 lX8_176 kX6_sightBits vX6_sightBits rfl rfl rfl (Nat.le_of_ble_eq_true rfl) (Nat.le_of_ble_eq_true rfl) (Nat.le_of_ble_eq_true rfl) rfl ?_
          refine sG.mono h (kI_mono fun r1 μ1 h => ?_)
          exact g_iret dX8_told_63 rfl rfl h
        · have h := h.2 q3
          have n0 := lv_neT (a := 0) q0 (by decide)
          have n1 := lv_neT (a := 1) q1 (by decide)
          have n2 := lv_neT (a := 2) q2 (by decide)
          have n3 := lv_neT (a := 3) q3 (by decide)
          refine g_tout 64 dX8_told_1 (by omega) (by decide) ?_
          refine g_iload_n dX8_told_64 rfl ?_
          refine g_bipush 100 dX8_told_65 (by decide) ?_
          refine g_icmp_lt 85 dX8_told_67 (by decide) (fun q => ?_) (fun q => ?_)
          · have h := h.1 q
            refine g_iload_n dX8_told_85 rfl ?_
            refine g_bipush 10 dX8_told_86 (by decide) ?_
            refine g_icmp_lt 106 dX8_told_88 (by decide) (fun q => ?_) (fun q => ?_)
            · have h := h.1 q
              refine g_bipush (-2) dX8_told_106 (by decide) ?_
              exact g_iret dX8_told_108 rfl rfl h
            · have h := h.2 q
              refine g_aload_n dX8_told_91 rfl ?_
              refine g_iload_n dX8_told_92 rfl ?_
              refine g_bipush 10 dX8_told_93 (by decide) ?_
              refine g_idiv dX8_told_95 (by decide) ?_
              refine g_iconst 1 dX8_told_96 (by decide) ?_
              refine g_isub dX8_told_97 ?_
              refine g_iload_n dX8_told_98 rfl ?_
              refine g_bipush 10 dX8_told_99 (by decide) ?_
              refine h_irem dX8_told_101 (by decide) ?_
              refine g_callVi (mi2 := mX8_toldOfThing) (r := 0) (st := []) [sI ((a1 / 10) - 1), sI (s_rem a1 10)] dX8_told_102 lX8_257 kX8_toldOfThing vX8_toldOfThing rfl rfl rfl (Nat.le_of_ble_eq_true rfl) (Nat.le_of_ble_eq_true rfl) (Nat.le_of_ble_eq_true rfl) rfl ?_
              refine sG.mono h (kI_mono fun r1 μ1 h => ?_)
              exact g_iret dX8_told_105 rfl rfl h
          · have h := h.2 q
            refine g_aload_n dX8_told_70 rfl ?_
            refine g_iload_n dX8_told_71 rfl ?_
            refine g_bipush 100 dX8_told_72 (by decide) ?_
            refine g_idiv dX8_told_74 (by decide) ?_
            refine g_iconst 1 dX8_told_75 (by decide) ?_
            refine g_isub dX8_told_76 ?_
            refine g_iload_n dX8_told_77 rfl ?_
            refine g_bipush 100 dX8_told_78 (by decide) ?_
            refine h_irem dX8_told_80 (by decide) ?_
            refine g_callVi (mi2 := mX8_toldOfGuest) (r := 0) (st := []) [sI ((a1 / 100) - 1), sI (s_rem a1 100)] dX8_told_81 lX8_254 kX8_toldOfGuest vX8_toldOfGuest rfl rfl rfl (Nat.le_of_ble_eq_true rfl) (Nat.le_of_ble_eq_true rfl) (Nat.le_of_ble_eq_true rfl) rfl ?_
            refine sG.mono h (kI_mono fun r1 μ1 h => ?_)
            exact g_iret dX8_told_84 rfl rfl h
set_option maxRecDepth 20000 in
theorem eX8_toldOfGuest {d : Nat} {Q : Option sAV → sM → Prop} {μ : sM} {a1 : Int32} {a2 : Int32} (h : sCl sLL mX6_hasGuest d [sR 1, sI a1] μ (kI fun r1 μ1 => ((r1 = 0 → Q (some (sI (-2))) μ1) ∧ (¬ r1 = 0 → ((3 < a2 → Q (some (sI (-2))) μ1) ∧ (¬ 3 < a2 → sCl sLL mX6_ofGuest d [sR 1, sI a1, sI a2] μ1 (kI fun r2 μ2 => Q (some (sI r2)) μ2))))))) : sCl sLL mX8_toldOfGuest (d + 1) [sR 0, sI a1, sI a2] μ Q := by
  refine sG.loc (al2 := [some (sR 0), some (sI a1), some (sI a2)]) (s_le_s (s_le_s (s_le_s s_le_0))) ?_
  refine g_aload_n dX8_toldOfGuest_0 rfl ?_
  refine g_getr (r2 := 1) dX8_toldOfGuest_1 fX8_10 rfl rfl ?_
  refine g_iload_n dX8_toldOfGuest_4 rfl ?_
  refine g_callVi (mi2 := mX6_hasGuest) (r := 1) (st := []) [sI a1] dX8_toldOfGuest_5 lX8_116 kX6_hasGuest vX6_hasGuest rfl rfl rfl (Nat.le_of_ble_eq_true rfl) (Nat.le_of_ble_eq_true rfl) (Nat.le_of_ble_eq_true rfl) rfl ?_
  refine sG.mono h (kI_mono fun r1 μ1 h => ?_)
  refine g_if_eq 28 dX8_toldOfGuest_8 (by decide) (fun q => ?_) (fun q => ?_)
  · have h := h.1 q
    refine g_bipush (-2) dX8_toldOfGuest_28 (by decide) ?_
    exact g_iret dX8_toldOfGuest_30 rfl rfl h
  · have h := h.2 q
    refine g_iload_n dX8_toldOfGuest_11 rfl ?_
    refine g_iconst 3 dX8_toldOfGuest_12 (by decide) ?_
    refine g_icmp_gt 28 dX8_toldOfGuest_13 (by decide) (fun q => ?_) (fun q => ?_)
    · have h := h.1 q
      refine g_bipush (-2) dX8_toldOfGuest_28 (by decide) ?_
      exact g_iret dX8_toldOfGuest_30 rfl rfl h
    · have h := h.2 q
      refine g_aload_n dX8_toldOfGuest_16 rfl ?_
      refine g_getr (r2 := 1) dX8_toldOfGuest_17 fX8_10 rfl rfl ?_
      refine g_iload_n dX8_toldOfGuest_20 rfl ?_
      refine g_iload_n dX8_toldOfGuest_21 rfl ?_
      refine g_callVi (mi2 := mX6_ofGuest) (r := 1) (st := []) [sI a1, sI a2] dX8_toldOfGuest_22 lX8_260 kX6_ofGuest vX6_ofGuest rfl rfl rfl (Nat.le_of_ble_eq_true rfl) (Nat.le_of_ble_eq_true rfl) (Nat.le_of_ble_eq_true rfl) rfl ?_
      refine sG.mono h (kI_mono fun r2 μ2 h => ?_)
      refine g_goto 30 dX8_toldOfGuest_25 (by decide) ?_
      exact g_iret dX8_toldOfGuest_30 rfl rfl h
set_option maxRecDepth 20000 in
theorem eX8_toldOfThing {d : Nat} {Q : Option sAV → sM → Prop} {μ : sM} {a1 : Int32} {a2 : Int32} (h : sCl sLL mX6_hasThing d [sR 1, sI a1] μ (kI fun r1 μ1 => ((r1 = 0 → Q (some (sI (-2))) μ1) ∧ (¬ r1 = 0 → ((5 < a2 → Q (some (sI (-2))) μ1) ∧ (¬ 5 < a2 → sCl sLL mX6_ofThing d [sR 1, sI a1, sI a2] μ1 (kI fun r2 μ2 => Q (some (sI r2)) μ2))))))) : sCl sLL mX8_toldOfThing (d + 1) [sR 0, sI a1, sI a2] μ Q := by
  refine sG.loc (al2 := [some (sR 0), some (sI a1), some (sI a2)]) (s_le_s (s_le_s (s_le_s s_le_0))) ?_
  refine g_aload_n dX8_toldOfThing_0 rfl ?_
  refine g_getr (r2 := 1) dX8_toldOfThing_1 fX8_10 rfl rfl ?_
  refine g_iload_n dX8_toldOfThing_4 rfl ?_
  refine g_callVi (mi2 := mX6_hasThing) (r := 1) (st := []) [sI a1] dX8_toldOfThing_5 lX8_87 kX6_hasThing vX6_hasThing rfl rfl rfl (Nat.le_of_ble_eq_true rfl) (Nat.le_of_ble_eq_true rfl) (Nat.le_of_ble_eq_true rfl) rfl ?_
  refine sG.mono h (kI_mono fun r1 μ1 h => ?_)
  refine g_if_eq 28 dX8_toldOfThing_8 (by decide) (fun q => ?_) (fun q => ?_)
  · have h := h.1 q
    refine g_bipush (-2) dX8_toldOfThing_28 (by decide) ?_
    exact g_iret dX8_toldOfThing_30 rfl rfl h
  · have h := h.2 q
    refine g_iload_n dX8_toldOfThing_11 rfl ?_
    refine g_iconst 5 dX8_toldOfThing_12 (by decide) ?_
    refine g_icmp_gt 28 dX8_toldOfThing_13 (by decide) (fun q => ?_) (fun q => ?_)
    · have h := h.1 q
      refine g_bipush (-2) dX8_toldOfThing_28 (by decide) ?_
      exact g_iret dX8_toldOfThing_30 rfl rfl h
    · have h := h.2 q
      refine g_aload_n dX8_toldOfThing_16 rfl ?_
      refine g_getr (r2 := 1) dX8_toldOfThing_17 fX8_10 rfl rfl ?_
      refine g_iload_n dX8_toldOfThing_20 rfl ?_
      refine g_iload_n dX8_toldOfThing_21 rfl ?_
      refine g_callVi (mi2 := mX6_ofThing) (r := 1) (st := []) [sI a1, sI a2] dX8_toldOfThing_22 lX8_95 kX6_ofThing vX6_ofThing rfl rfl rfl (Nat.le_of_ble_eq_true rfl) (Nat.le_of_ble_eq_true rfl) (Nat.le_of_ble_eq_true rfl) rfl ?_
      refine sG.mono h (kI_mono fun r2 μ2 h => ?_)
      refine g_goto 30 dX8_toldOfThing_25 (by decide) ?_
      exact g_iret dX8_toldOfThing_30 rfl rfl h
