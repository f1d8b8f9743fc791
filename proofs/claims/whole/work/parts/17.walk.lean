set_option maxRecDepth 20000 in
theorem c_X3_markSpan (l : Launch) (E : uE) (a1 : Int32) (a2 : Int32) (a3 : Int32) (σ : uS) (σr : uS) (h : F_X3_markSpan a1 a2 a3 σ = some σr) : CtV l E yX3_markSpan cX3_markSpan 6 3 64 [.ref (E.2.1 44), .int a1, .int a2, .int a3] σ σr := by
  refine enterV 2 [some (.ref (E.2.1 44)), some (.int a1), some (.int a2), some (.int a3), none, none] (by decide +kernel) rfl (Nat.le_of_ble_eq_true rfl) (fun o K hnL hC hab hR => ?_)
  have hC : Cx E K RX3 cX3_markSpan none 3 64 := hC
  have hN : ∀ k, k < 6 → k < K.2.2.2.2.2 := fun k hk => hnL ▸ hk
  delta F_X3_markSpan at h
  refine g_iload_n (pc := 0) hC dX3_markSpan_0 rfl ?_
  refine g_istore (lv2 := [some (.ref (E.2.1 44)), some (.int a1), some (.int a2), some (.int a3), some (.int a2), none]) (pc := 1) hC dX3_markSpan_1 rfl (Or.inr rfl) (hN _ (by decide)) ?_
  refine g_iload_n (pc := 3) hC dX3_markSpan_3 rfl ?_
  refine g_istore (lv2 := [some (.ref (E.2.1 44)), some (.int a1), some (.int a2), some (.int a3), some (.int a2), some (.int a2)]) (pc := 4) hC dX3_markSpan_4 rfl (Or.inr rfl) (hN _ (by decide)) ?_
  have hL1 : ∀ (n : Nat) (w1 : Int32) (w2 : Int32) (z1 : Int32), iter n (fun z => B_X3_markSpan_2 a2 a3 σ z.1 z.2) (w1, w2) = some z1 → (∀ (v3 : Int32), z1 = v3 → Gd l E K 0 0 o σ 54 [some (.ref (E.2.1 44)), some (.int a1), some (.int a2), some (.int a3), some (.int v3), none] []) → Gd l E K 0 0 o σ 6 [some (.ref (E.2.1 44)), some (.int a1), some (.int a2), some (.int a3), some (.int w1), some (.int w2)] [] := by
    intro n
    induction n with
    | zero =>
      intro w1 w2 z1 hi
      exact (iter_0 hi).elim
    | succ n ih1 =>
      intro w1 w2 z1 hi1 kx1
      obtain ⟨r1, h, hi1⟩ := iter_s hi1
      replace h : B_X3_markSpan_2 a2 a3 σ w1 w2 = some r1 := h
      delta B_X3_markSpan_2 at h
      refine g_iload (pc := 6) hC dX3_markSpan_6 rfl ?_
      refine g_iload_n (pc := 8) hC dX3_markSpan_8 rfl ?_
      refine g_icmp_ge (tgt := 54) (pc := 9) hC dX3_markSpan_9 (by decide) (fun c4 => ?_) (fun c4 => ?_)
      · replace h := it_t c4 h
        refine g_mask [true, true, true, true, true, false] rfl ?_
        exact kx1 w1 (iter_r h hi1)
      · replace h := it_f c4 h
        refine g_iload (pc := 12) hC dX3_markSpan_12 rfl ?_
        refine g_iload_n (pc := 14) hC dX3_markSpan_14 rfl ?_
        refine g_aload_n (pc := 15) hC dX3_markSpan_15 rfl ?_
        refine fg_X3_30_44 (pc := 16) hC dX3_markSpan_16 ?_
        refine g_iload_n (pc := 19) hC dX3_markSpan_19 rfl ?_
        obtain ⟨v5, hc, h⟩ := cp_e h
        refine g_callVi (pc := 20) (As := [.int a2]) (rest := [.int a2, .int w2]) hC (c_X8_lagAtSample l E a2 σ v5 hc) mi_X8_lagAtSample mv_X8_lagAtSample ob_34 rfl rfl lk_X3_108 rfl rfl (Nat.le_of_ble_eq_true rfl) ⟨by decide, by decide⟩ hab dX3_markSpan_20 ?_
        refine g_iadd (pc := 23) hC dX3_markSpan_23 ?_
        refine g_icmp_ge (tgt := 54) (pc := 24) hC dX3_markSpan_24 (by decide) (fun c6 => ?_) (fun c6 => ?_)
        · replace h := it_t c6 h
          refine g_mask [true, true, true, true, true, false] rfl ?_
          exact kx1 w1 (iter_r h hi1)
        · replace h := it_f c6 h
          refine g_aload_n (pc := 27) hC dX3_markSpan_27 rfl ?_
          refine fg_X3_9_44 (pc := 28) hC dX3_markSpan_28 ?_
          refine g_iload (pc := 31) hC dX3_markSpan_31 rfl ?_
          obtain ⟨v7, ev7, nv7, h⟩ := rd_e h
          refine g_iald (pc := 33) hC 45 (by decide) (ar_45 _ _ _) nv7 dX3_markSpan_33 ?_
          refine g_top ev7 ?_
          refine g_aload_n (pc := 34) hC dX3_markSpan_34 rfl ?_
          refine fg_X3_9_44 (pc := 35) hC dX3_markSpan_35 ?_
          refine g_iload (pc := 38) hC dX3_markSpan_38 rfl ?_
          obtain ⟨v8, ev8, nv8, h⟩ := rd_e h
          refine g_iald (pc := 40) hC 45 (by decide) (ar_45 _ _ _) nv8 dX3_markSpan_40 ?_
          refine g_top ev8 ?_
          obtain ⟨v10, ev10, h⟩ := lt_e h
          have hJ48 : Gd l E K 0 0 o σ 48 [some (.ref (E.2.1 44)), some (.int a1), some (.int a2), some (.int a3), some (.int v10), some (.int w2)] [] := by
            obtain ⟨v11, ev11, h⟩ := lt_e h
            refine g_iinc (v := v11) (lv2 := [some (.ref (E.2.1 44)), some (.int a1), some (.int a2), some (.int a3), some (.int v10), some (.int v11)]) (pc := 48) hC dX3_markSpan_48 rfl ev11 rfl (Or.inr rfl) (hN _ (by decide)) ?_
            refine g_goto (tgt := 6) (pc := 51) hC dX3_markSpan_51 (by decide) ?_
            exact ih1 v10 v11 z1 (iter_l h hi1) kx1
          refine g_icmp_le (tgt := 48) (pc := 41) hC dX3_markSpan_41 (by decide) (fun c9 => ?_) (fun c9 => ?_)
          · have e9 := (iv_t c9 ev10)
            rw [e9] at hJ48
            exact hJ48
          · refine g_iload (pc := 44) hC dX3_markSpan_44 rfl ?_
            refine g_istore (lv2 := [some (.ref (E.2.1 44)), some (.int a1), some (.int a2), some (.int a3), some (.int w2), some (.int w2)]) (pc := 46) hC dX3_markSpan_46 rfl (Or.inr rfl) (hN _ (by decide)) ?_
            have e9 := (iv_f c9 ev10)
            rw [e9] at hJ48
            exact hJ48
  obtain ⟨z1, hz1, h⟩ := lp_e h
  refine hL1 FU a2 a2 z1 hz1 (fun v3 ez => ?_)
  replace h : C_X3_markSpan_6 a1 a2 a3 σ v3 = some σr := by rw [ez] at h; exact h
  delta C_X3_markSpan_6 at h
  refine g_aload_n (pc := 54) hC dX3_markSpan_54 rfl ?_
  refine fg_X3_27_44 (pc := 55) hC dX3_markSpan_55 ?_
  refine g_iload_n (pc := 58) hC dX3_markSpan_58 rfl ?_
  refine g_aload_n (pc := 59) hC dX3_markSpan_59 rfl ?_
  refine fg_X3_9_44 (pc := 60) hC dX3_markSpan_60 ?_
  refine g_iload (pc := 63) hC dX3_markSpan_63 rfl ?_
  obtain ⟨v12, ev12, nv12, h⟩ := rd_e h
  refine g_iald (pc := 65) hC 45 (by decide) (ar_45 _ _ _) nv12 dX3_markSpan_65 ?_
  refine g_top ev12 ?_
  obtain ⟨σ13, eσ13, nσ13, h⟩ := wr_e h
  refine g_iast (pc := 66) hC 50 (by decide) (ar_50 _ _) nσ13 dX3_markSpan_66 eσ13 ?_
  refine g_iload (pc := 67) hC dX3_markSpan_67 rfl ?_
  refine g_istore (lv2 := [some (.ref (E.2.1 44)), some (.int a1), some (.int a2), some (.int a3), some (.int v3), some (.int v3)]) (pc := 69) hC dX3_markSpan_69 rfl (Or.inr rfl) (hN _ (by decide)) ?_
  have hL3 : ∀ (n : Nat) (w14 : Int32) (σ15 : uS) (z3 : uS), iter n (fun z => B_X3_markSpan_4 a1 a2 a3 z.1 z.2) (w14, σ15) = some z3 → (∀ (σ16 : uS), z3 = σ16 → Gd l E K 0 0 o σ16 136 [none, none, none, none, none, none] []) → Gd l E K 0 0 o σ15 71 [some (.ref (E.2.1 44)), some (.int a1), some (.int a2), some (.int a3), none, some (.int w14)] [] := by
    intro n
    induction n with
    | zero =>
      intro w14 σ15 z3 hi
      exact (iter_0 hi).elim
    | succ n ih3 =>
      intro w14 σ15 z3 hi3 kx3
      obtain ⟨r3, h, hi3⟩ := iter_s hi3
      replace h : B_X3_markSpan_4 a1 a2 a3 w14 σ15 = some r3 := h
      delta B_X3_markSpan_4 at h
      refine g_iload (pc := 71) hC dX3_markSpan_71 rfl ?_
      refine g_iload_n (pc := 73) hC dX3_markSpan_73 rfl ?_
      refine g_icmp_lt (tgt := 136) (pc := 74) hC dX3_markSpan_74 (by decide) (fun c17 => ?_) (fun c17 => ?_)
      · replace h := it_t c17 h
        refine g_mask [false, false, false, false, false, false] rfl ?_
        exact kx3 σ15 (iter_r h hi3)
      · replace h := it_f c17 h
        refine g_iload (pc := 77) hC dX3_markSpan_77 rfl ?_
        refine g_iload_n (pc := 79) hC dX3_markSpan_79 rfl ?_
        refine g_icmp_ge (tgt := 136) (pc := 80) hC dX3_markSpan_80 (by decide) (fun c18 => ?_) (fun c18 => ?_)
        · replace h := it_t c18 h
          refine g_mask [false, false, false, false, false, false] rfl ?_
          exact kx3 σ15 (iter_r h hi3)
        · replace h := it_f c18 h
          refine g_aload_n (pc := 83) hC dX3_markSpan_83 rfl ?_
          refine fg_X3_42_44 (pc := 84) hC dX3_markSpan_84 ?_
          refine g_sipush (pc := 87) hC ks_800 dX3_markSpan_87 ?_
          refine g_icmp_ge (tgt := 136) (pc := 90) hC dX3_markSpan_90 (by decide) (fun c19 => ?_) (fun c19 => ?_)
          · replace h := it_t c19 h
            refine g_mask [false, false, false, false, false, false] rfl ?_
            exact kx3 σ15 (iter_r h hi3)
          · replace h := it_f c19 h
            refine g_aload_n (pc := 93) hC dX3_markSpan_93 rfl ?_
            refine fg_X3_18_44 (pc := 94) hC dX3_markSpan_94 ?_
            refine g_aload_n (pc := 97) hC dX3_markSpan_97 rfl ?_
            refine fg_X3_42_44 (pc := 98) hC dX3_markSpan_98 ?_
            refine g_iload (pc := 101) hC dX3_markSpan_101 rfl ?_
            obtain ⟨σ20, eσ20, nσ20, h⟩ := wr_e h
            refine g_iast (pc := 103) hC 47 (by decide) (ar_47 _ _) nσ20 dX3_markSpan_103 eσ20 ?_
            refine g_aload_n (pc := 104) hC dX3_markSpan_104 rfl ?_
            refine fg_X3_21_44 (pc := 105) hC dX3_markSpan_105 ?_
            refine g_aload_n (pc := 108) hC dX3_markSpan_108 rfl ?_
            refine fg_X3_42_44 (pc := 109) hC dX3_markSpan_109 ?_
            refine g_iload_n (pc := 112) hC dX3_markSpan_112 rfl ?_
            obtain ⟨σ21, eσ21, nσ21, h⟩ := wr_e h
            refine g_iast (pc := 113) hC 48 (by decide) (ar_48 _ _) nσ21 dX3_markSpan_113 eσ21 ?_
            refine g_aload_n (pc := 114) hC dX3_markSpan_114 rfl ?_
            refine g_dup (pc := 115) hC rfl dX3_markSpan_115 ?_
            refine fg_X3_42_44 (pc := 116) hC dX3_markSpan_116 ?_
            refine g_iconst (pc := 119) hC ki_1 dX3_markSpan_119 ?_
            refine g_iadd (pc := 120) hC dX3_markSpan_120 ?_
            obtain ⟨σ22, eσ22, h⟩ := pf_e h
            refine fp_X3_42_44 (pc := 121) hC dX3_markSpan_121 eσ22 ?_
            refine g_aload_n (pc := 124) hC dX3_markSpan_124 rfl ?_
            refine fg_X3_15_44 (pc := 125) hC dX3_markSpan_125 ?_
            refine g_iload (pc := 128) hC dX3_markSpan_128 rfl ?_
            obtain ⟨v23, ev23, nv23, h⟩ := rd_e h
            refine g_iald (pc := 130) hC 46 (by decide) (ar_46 _ _ _) nv23 dX3_markSpan_130 ?_
            refine g_top ev23 ?_
            refine g_istore (lv2 := [some (.ref (E.2.1 44)), some (.int a1), some (.int a2), some (.int a3), none, some (.int v23)]) (pc := 131) hC dX3_markSpan_131 rfl (Or.inr rfl) (hN _ (by decide)) ?_
            refine g_goto (tgt := 71) (pc := 133) hC dX3_markSpan_133 (by decide) ?_
            exact ih3 v23 σ22 z3 (iter_l h hi3) kx3
  obtain ⟨z3, hz3, h⟩ := lp_e h
  refine g_mask [true, true, true, true, false, true] rfl ?_
  refine hL3 FU v3 σ13 z3 hz3 (fun σ16 ez => ?_)
  replace h : C_X3_markSpan_5 σ16 = some σr := by rw [ez] at h; exact h
  delta C_X3_markSpan_5 at h
  exact g_retv (pc := 136) hC h hR dX3_markSpan_136
set_option maxRecDepth 20000 in
theorem c_X3_find (l : Launch) (E : uE) (σ : uS) (σr : uS) (h : F_X3_find σ = some σr) : CtV l E yX3_find cX3_find 2 4 93 [.ref (E.2.1 44)] σ σr := by
  refine enterV 1 [some (.ref (E.2.1 44)), none] (by decide +kernel) rfl (Nat.le_of_ble_eq_true rfl) (fun o K hnL hC hab hR => ?_)
  have hC : Cx E K RX3 cX3_find none 4 93 := hC
  have hN : ∀ k, k < 2 → k < K.2.2.2.2.2 := fun k hk => hnL ▸ hk
  delta F_X3_find at h
  refine g_aload_n (pc := 0) hC dX3_find_0 rfl ?_
  refine g_iconst (pc := 1) hC ki_0 dX3_find_1 ?_
  obtain ⟨σ1, eσ1, h⟩ := pf_e h
  refine fp_X3_42_44 (pc := 2) hC dX3_find_2 eσ1 ?_
  refine g_iconst (pc := 5) hC ki_0 dX3_find_5 ?_
  refine g_istore_n (lv2 := [some (.ref (E.2.1 44)), some (.int 0)]) (pc := 6) hC dX3_find_6 rfl (Or.inr rfl) (hN _ (by decide)) ?_
  have hL1 : ∀ (n : Nat) (w2 : Int32) (σ3 : uS) (z1 : uS), iter n (fun z => B_X3_find_3 z.1 z.2) (w2, σ3) = some z1 → (∀ (σ4 : uS), z1 = σ4 → Gd l E K 0 0 o σ4 93 [some (.ref (E.2.1 44)), none] []) → Gd l E K 0 0 o σ3 7 [some (.ref (E.2.1 44)), some (.int w2)] [] := by
    intro n
    induction n with
    | zero =>
      intro w2 σ3 z1 hi
      exact (iter_0 hi).elim
    | succ n ih1 =>
      intro w2 σ3 z1 hi1 kx1
      obtain ⟨r1, h, hi1⟩ := iter_s hi1
      replace h : B_X3_find_3 w2 σ3 = some r1 := h
      delta B_X3_find_3 at h
      refine g_iload_n (pc := 7) hC dX3_find_7 rfl ?_
      refine g_aload_n (pc := 8) hC dX3_find_8 rfl ?_
      refine fg_X3_30_44 (pc := 9) hC dX3_find_9 ?_
      obtain ⟨v5, hc, h⟩ := cp_e h
      refine g_callVi (pc := 12) (As := []) (rest := [.int w2]) hC (c_X8_size l E σ3 v5 hc) mi_X8_size mv_X8_size ob_34 rfl rfl lk_X3_46 rfl rfl (Nat.le_of_ble_eq_true rfl) ⟨by decide, by decide⟩ hab dX3_find_12 ?_
      refine g_icmp_ge (tgt := 93) (pc := 15) hC dX3_find_15 (by decide) (fun c6 => ?_) (fun c6 => ?_)
      · replace h := it_t c6 h
        refine g_mask [true, false] rfl ?_
        exact kx1 σ3 (iter_r h hi1)
      · replace h := it_f c6 h
        refine g_aload_n (pc := 18) hC dX3_find_18 rfl ?_
        refine fg_X3_24_44 (pc := 19) hC dX3_find_19 ?_
        refine g_iload_n (pc := 22) hC dX3_find_22 rfl ?_
        refine g_aload_n (pc := 23) hC dX3_find_23 rfl ?_
        refine fg_X3_42_44 (pc := 24) hC dX3_find_24 ?_
        obtain ⟨σ7, eσ7, nσ7, h⟩ := wr_e h
        refine g_iast (pc := 27) hC 49 (by decide) (ar_49 _ _) nσ7 dX3_find_27 eσ7 ?_
        refine g_aload_n (pc := 28) hC dX3_find_28 rfl ?_
        refine fg_X3_27_44 (pc := 29) hC dX3_find_29 ?_
        refine g_iload_n (pc := 32) hC dX3_find_32 rfl ?_
        refine g_iconst (pc := 33) hC ki_0 dX3_find_33 ?_
        obtain ⟨σ8, eσ8, nσ8, h⟩ := wr_e h
        refine g_iast (pc := 34) hC 50 (by decide) (ar_50 _ _) nσ8 dX3_find_34 eσ8 ?_
        refine g_aload_n (pc := 35) hC dX3_find_35 rfl ?_
        refine fg_X3_30_44 (pc := 36) hC dX3_find_36 ?_
        refine g_iload_n (pc := 39) hC dX3_find_39 rfl ?_
        obtain ⟨v9, hc, h⟩ := cp_e h
        refine g_callVi (pc := 40) (As := [.int w2]) (rest := []) hC (c_X8_isVoiced l E w2 σ8 v9 hc) mi_X8_isVoiced mv_X8_isVoiced ob_34 rfl rfl lk_X3_51 rfl rfl (Nat.le_of_ble_eq_true rfl) ⟨by decide, by decide⟩ hab dX3_find_40 ?_
        have hJ87 : ∀ (σ17 : uS), J_X3_find_2 w2 σ17 = some r1 → Gd l E K 0 0 o σ17 87 [some (.ref (E.2.1 44)), some (.int w2)] [] := by
          intro σ17 h
          delta J_X3_find_2 at h
          obtain ⟨v18, ev18, h⟩ := lt_e h
          refine g_iinc (v := v18) (lv2 := [some (.ref (E.2.1 44)), some (.int v18)]) (pc := 87) hC dX3_find_87 rfl ev18 rfl (Or.inr rfl) (hN _ (by decide)) ?_
          refine g_goto (tgt := 7) (pc := 90) hC dX3_find_90 (by decide) ?_
          exact ih1 v18 σ17 z1 (iter_l h hi1) kx1
        refine g_if_eq (tgt := 87) (pc := 43) hC dX3_find_43 (by decide) (fun c10 => ?_) (fun c10 => ?_)
        · replace h := it_t c10 h
          exact hJ87 σ8 h
        · replace h := it_f c10 h
          refine g_aload_n (pc := 46) hC dX3_find_46 rfl ?_
          refine g_aload_n (pc := 47) hC dX3_find_47 rfl ?_
          refine fg_X3_30_44 (pc := 48) hC dX3_find_48 ?_
          refine g_iload_n (pc := 51) hC dX3_find_51 rfl ?_
          obtain ⟨v11, hc, h⟩ := cp_e h
          refine g_callVi (pc := 52) (As := [.int w2]) (rest := [.ref (E.2.1 44)]) hC (c_X8_from l E w2 σ8 v11 hc) mi_X8_from mv_X8_from ob_34 rfl rfl lk_X3_55 rfl rfl (Nat.le_of_ble_eq_true rfl) ⟨by decide, by decide⟩ hab dX3_find_52 ?_
          refine g_aload_n (pc := 55) hC dX3_find_55 rfl ?_
          refine fg_X3_30_44 (pc := 56) hC dX3_find_56 ?_
          refine g_iload_n (pc := 59) hC dX3_find_59 rfl ?_
          obtain ⟨v12, hc, h⟩ := cp_e h
          refine g_callVi (pc := 60) (As := [.int w2]) (rest := [.int v11, .ref (E.2.1 44)]) hC (c_X8_to l E w2 σ8 v12 hc) mi_X8_to mv_X8_to ob_34 rfl rfl lk_X3_59 rfl rfl (Nat.le_of_ble_eq_true rfl) ⟨by decide, by decide⟩ hab dX3_find_60 ?_
          obtain ⟨σ13, hc, h⟩ := cp_e h
          refine g_callVv (pc := 63) (As := [.int v11, .int v12]) (rest := []) hC (c_X3_findWorths l E v11 v12 σ8 σ13 hc) mi_X3_findWorths mv_X3_findWorths ob_44 rfl rfl lk_X3_62 rfl rfl (Nat.le_of_ble_eq_true rfl) ⟨by decide, by decide⟩ hab dX3_find_63 ?_
          refine g_aload_n (pc := 66) hC dX3_find_66 rfl ?_
          refine g_iload_n (pc := 67) hC dX3_find_67 rfl ?_
          refine g_aload_n (pc := 68) hC dX3_find_68 rfl ?_
          refine fg_X3_30_44 (pc := 69) hC dX3_find_69 ?_
          refine g_iload_n (pc := 72) hC dX3_find_72 rfl ?_
          obtain ⟨v14, hc, h⟩ := cp_e h
          refine g_callVi (pc := 73) (As := [.int w2]) (rest := [.int w2, .ref (E.2.1 44)]) hC (c_X8_from l E w2 σ13 v14 hc) mi_X8_from mv_X8_from ob_34 rfl rfl lk_X3_55 rfl rfl (Nat.le_of_ble_eq_true rfl) ⟨by decide, by decide⟩ hab dX3_find_73 ?_
          refine g_aload_n (pc := 76) hC dX3_find_76 rfl ?_
          refine fg_X3_30_44 (pc := 77) hC dX3_find_77 ?_
          refine g_iload_n (pc := 80) hC dX3_find_80 rfl ?_
          obtain ⟨v15, hc, h⟩ := cp_e h
          refine g_callVi (pc := 81) (As := [.int w2]) (rest := [.int v14, .int w2, .ref (E.2.1 44)]) hC (c_X8_to l E w2 σ13 v15 hc) mi_X8_to mv_X8_to ob_34 rfl rfl lk_X3_59 rfl rfl (Nat.le_of_ble_eq_true rfl) ⟨by decide, by decide⟩ hab dX3_find_81 ?_
          obtain ⟨σ16, hc, h⟩ := cp_e h
          refine g_callVv (pc := 84) (As := [.int w2, .int v14, .int v15]) (rest := []) hC (c_X3_markSpan l E w2 v14 v15 σ13 σ16 hc) mi_X3_markSpan mv_X3_markSpan ob_44 rfl rfl lk_X3_66 rfl rfl (Nat.le_of_ble_eq_true rfl) ⟨by decide, by decide⟩ hab dX3_find_84 ?_
          exact hJ87 σ16 h
  obtain ⟨z1, hz1, h⟩ := lp_e h
  refine hL1 FU 0 σ1 z1 hz1 (fun σ4 ez => ?_)
  replace h : C_X3_find_4 σ4 = some σr := by rw [ez] at h; exact h
  delta C_X3_find_4 at h
  refine g_aload_n (pc := 93) hC dX3_find_93 rfl ?_
  refine fg_X3_24_44 (pc := 94) hC dX3_find_94 ?_
  refine g_aload_n (pc := 97) hC dX3_find_97 rfl ?_
  refine fg_X3_30_44 (pc := 98) hC dX3_find_98 ?_
  obtain ⟨v19, hc, h⟩ := cp_e h
  refine g_callVi (pc := 101) (As := []) (rest := [.ref (E.2.1 49)]) hC (c_X8_size l E σ4 v19 hc) mi_X8_size mv_X8_size ob_34 rfl rfl lk_X3_46 rfl rfl (Nat.le_of_ble_eq_true rfl) ⟨by decide, by decide⟩ hab dX3_find_101 ?_
  refine g_aload_n (pc := 104) hC dX3_find_104 rfl ?_
  refine fg_X3_42_44 (pc := 105) hC dX3_find_105 ?_
  obtain ⟨σ20, eσ20, nσ20, h⟩ := wr_e h
  refine g_iast (pc := 108) hC 49 (by decide) (ar_49 _ _) nσ20 dX3_find_108 eσ20 ?_
  exact g_retv (pc := 109) hC h hR dX3_find_109
set_option maxRecDepth 20000 in
theorem c_X3_size (l : Launch) (E : uE) (σ : uS) (r : Int32) (h : F_X3_size σ = some r) : CtI l E yX3_size cX3_size 1 (some .int) 0 0 [.ref (E.2.1 44)] σ r σ := by
  refine enterI 0 [some (.ref (E.2.1 44))] (by decide +kernel) rfl (Nat.le_of_ble_eq_true rfl) (fun o K hnL hC hab hR => ?_)
  have hC : Cx E K RX3 cX3_size (some .int) 0 0 := hC
  have hN : ∀ k, k < 1 → k < K.2.2.2.2.2 := fun k hk => hnL ▸ hk
  delta F_X3_size at h
  refine g_aload_n (pc := 0) hC dX3_size_0 rfl ?_
  refine fg_X3_42_44 (pc := 1) hC dX3_size_1 ?_
  exact g_retp (pc := 4) hC h hR dX3_size_4
set_option maxRecDepth 20000 in
theorem c_X3_has (l : Launch) (E : uE) (a1 : Int32) (σ : uS) (r : Int32) (h : F_X3_has a1 σ = some r) : CtI l E yX3_has cX3_has 2 (some .boolean) 0 0 [.ref (E.2.1 44), .int a1] σ r σ := by
  refine enterI 0 [some (.ref (E.2.1 44)), some (.int a1)] (by decide +kernel) rfl (Nat.le_of_ble_eq_true rfl) (fun o K hnL hC hab hR => ?_)
  have hC : Cx E K RX3 cX3_has (some .boolean) 0 0 := hC
  have hN : ∀ k, k < 2 → k < K.2.2.2.2.2 := fun k hk => hnL ▸ hk
  delta F_X3_has at h
  refine g_iload_n (pc := 0) hC dX3_has_0 rfl ?_
  have hJ17 : ∀ (v3 : Int32), J_X3_has_2 v3 = some r → Gd l E K 0 0 o σ 17 [none, none] [.int v3] := by
    intro v3 h
    delta J_X3_has_2 at h
    obtain ⟨h01, h⟩ := bz_e h
    exact g_retzp (pc := 17) hC h01 h hR dX3_has_17
  have hJ16 : J_X3_has_1 = some r → Gd l E K 0 0 o σ 16 [none, none] [] := by
    intro h
    delta J_X3_has_1 at h
    refine g_iconst (pc := 16) hC ki_0 dX3_has_16 ?_
    exact hJ17 0 h
  refine g_if_lt (tgt := 16) (pc := 1) hC dX3_has_1 (by decide) (fun c1 => ?_) (fun c1 => ?_)
  · replace h := it_t c1 h
    refine g_mask [false, false] rfl ?_
    exact hJ16 h
  · replace h := it_f c1 h
    refine g_iload_n (pc := 4) hC dX3_has_4 rfl ?_
    refine g_aload_n (pc := 5) hC dX3_has_5 rfl ?_
    refine fg_X3_42_44 (pc := 6) hC dX3_has_6 ?_
    refine g_icmp_ge (tgt := 16) (pc := 9) hC dX3_has_9 (by decide) (fun c2 => ?_) (fun c2 => ?_)
    · replace h := it_t c2 h
      refine g_mask [false, false] rfl ?_
      exact hJ16 h
    · replace h := it_f c2 h
      refine g_iconst (pc := 12) hC ki_1 dX3_has_12 ?_
      refine g_goto (tgt := 17) (pc := 13) hC dX3_has_13 (by decide) ?_
      refine g_mask [false, false] rfl ?_
      exact hJ17 1 h
set_option maxRecDepth 20000 in
theorem c_X3_at (l : Launch) (E : uE) (a1 : Int32) (σ : uS) (r : Int32) (h : F_X3_at a1 σ = some r) : CtI l E yX3_at cX3_at 2 (some .int) 1 21 [.ref (E.2.1 44), .int a1] σ r σ := by
  refine enterI 0 [some (.ref (E.2.1 44)), some (.int a1)] (by decide +kernel) rfl (Nat.le_of_ble_eq_true rfl) (fun o K hnL hC hab hR => ?_)
  have hC : Cx E K RX3 cX3_at (some .int) 1 21 := hC
  have hN : ∀ k, k < 2 → k < K.2.2.2.2.2 := fun k hk => hnL ▸ hk
  delta F_X3_at at h
  refine g_aload_n (pc := 0) hC dX3_at_0 rfl ?_
  refine g_iload_n (pc := 1) hC dX3_at_1 rfl ?_
  obtain ⟨v1, hc, h⟩ := cp_e h
  refine g_callVi (pc := 2) (As := [.int a1]) (rest := []) hC (c_X3_has l E a1 σ v1 hc) mi_X3_has mv_X3_has ob_44 rfl rfl lk_X3_70 rfl rfl (Nat.le_of_ble_eq_true rfl) ⟨by decide, by decide⟩ hab dX3_at_2 ?_
  have hJ18 : ∀ (v4 : Int32), J_X3_at_1 v4 = some r → Gd l E K 0 0 o σ 18 [none, none] [.int v4] := by
    intro v4 h
    delta J_X3_at_1 at h
    exact g_retp (pc := 18) hC h hR dX3_at_18
  refine g_if_eq (tgt := 17) (pc := 5) hC dX3_at_5 (by decide) (fun c2 => ?_) (fun c2 => ?_)
  · replace h := it_t c2 h
    refine g_iconst (pc := 17) hC ki_m1 dX3_at_17 ?_
    refine g_mask [false, false] rfl ?_
    exact hJ18 (-1) h
  · replace h := it_f c2 h
    refine g_aload_n (pc := 8) hC dX3_at_8 rfl ?_
    refine fg_X3_18_44 (pc := 9) hC dX3_at_9 ?_
    refine g_iload_n (pc := 12) hC dX3_at_12 rfl ?_
    obtain ⟨v3, ev3, nv3, h⟩ := rd_e h
    refine g_iald (pc := 13) hC 47 (by decide) (ar_47 _ _ _) nv3 dX3_at_13 ?_
    refine g_top ev3 ?_
    refine g_goto (tgt := 18) (pc := 14) hC dX3_at_14 (by decide) ?_
    refine g_mask [false, false] rfl ?_
    exact hJ18 v3 h
set_option maxRecDepth 20000 in
theorem c_X3_sizeIn (l : Launch) (E : uE) (a1 : Int32) (σ : uS) (r : Int32) (h : F_X3_sizeIn a1 σ = some r) : CtI l E yX3_sizeIn cX3_sizeIn 2 (some .int) 1 21 [.ref (E.2.1 44), .int a1] σ r σ := by
  refine enterI 0 [some (.ref (E.2.1 44)), some (.int a1)] (by decide +kernel) rfl (Nat.le_of_ble_eq_true rfl) (fun o K hnL hC hab hR => ?_)
  have hC : Cx E K RX3 cX3_sizeIn (some .int) 1 21 := hC
  have hN : ∀ k, k < 2 → k < K.2.2.2.2.2 := fun k hk => hnL ▸ hk
  delta F_X3_sizeIn at h
  refine g_aload_n (pc := 0) hC dX3_sizeIn_0 rfl ?_
  refine fg_X3_30_44 (pc := 1) hC dX3_sizeIn_1 ?_
  refine g_iload_n (pc := 4) hC dX3_sizeIn_4 rfl ?_
  obtain ⟨v1, hc, h⟩ := cp_e h
  refine g_callVi (pc := 5) (As := [.int a1]) (rest := []) hC (c_X8_has l E a1 σ v1 hc) mi_X8_has mv_X8_has ob_34 rfl rfl lk_X3_73 rfl rfl (Nat.le_of_ble_eq_true rfl) ⟨by decide, by decide⟩ hab dX3_sizeIn_5 ?_
  have hJ30 : ∀ (v5 : Int32), J_X3_sizeIn_1 v5 = some r → Gd l E K 0 0 o σ 30 [none, none] [.int v5] := by
    intro v5 h
    delta J_X3_sizeIn_1 at h
    exact g_retp (pc := 30) hC h hR dX3_sizeIn_30
  refine g_if_eq (tgt := 29) (pc := 8) hC dX3_sizeIn_8 (by decide) (fun c2 => ?_) (fun c2 => ?_)
  · replace h := it_t c2 h
    refine g_iconst (pc := 29) hC ki_0 dX3_sizeIn_29 ?_
    refine g_mask [false, false] rfl ?_
    exact hJ30 0 h
  · replace h := it_f c2 h
    refine g_aload_n (pc := 11) hC dX3_sizeIn_11 rfl ?_
    refine fg_X3_24_44 (pc := 12) hC dX3_sizeIn_12 ?_
    refine g_iload_n (pc := 15) hC dX3_sizeIn_15 rfl ?_
    refine g_iconst (pc := 16) hC ki_1 dX3_sizeIn_16 ?_
    refine g_iadd (pc := 17) hC dX3_sizeIn_17 ?_
    obtain ⟨v3, ev3, nv3, h⟩ := rd_e h
    refine g_iald (pc := 18) hC 49 (by decide) (ar_49 _ _ _) nv3 dX3_sizeIn_18 ?_
    refine g_top ev3 ?_
    refine g_aload_n (pc := 19) hC dX3_sizeIn_19 rfl ?_
    refine fg_X3_24_44 (pc := 20) hC dX3_sizeIn_20 ?_
    refine g_iload_n (pc := 23) hC dX3_sizeIn_23 rfl ?_
    obtain ⟨v4, ev4, nv4, h⟩ := rd_e h
    refine g_iald (pc := 24) hC 49 (by decide) (ar_49 _ _ _) nv4 dX3_sizeIn_24 ?_
    refine g_top ev4 ?_
    refine g_isub (pc := 25) hC dX3_sizeIn_25 ?_
    refine g_goto (tgt := 30) (pc := 26) hC dX3_sizeIn_26 (by decide) ?_
    refine g_mask [false, false] rfl ?_
    exact hJ30 (v3 - v4) h
set_option maxRecDepth 20000 in
theorem c_X3_worthIn (l : Launch) (E : uE) (a1 : Int32) (σ : uS) (r : Int32) (h : F_X3_worthIn a1 σ = some r) : CtI l E yX3_worthIn cX3_worthIn 2 (some .int) 1 21 [.ref (E.2.1 44), .int a1] σ r σ := by
  refine enterI 0 [some (.ref (E.2.1 44)), some (.int a1)] (by decide +kernel) rfl (Nat.le_of_ble_eq_true rfl) (fun o K hnL hC hab hR => ?_)
  have hC : Cx E K RX3 cX3_worthIn (some .int) 1 21 := hC
  have hN : ∀ k, k < 2 → k < K.2.2.2.2.2 := fun k hk => hnL ▸ hk
  delta F_X3_worthIn at h
  refine g_aload_n (pc := 0) hC dX3_worthIn_0 rfl ?_
  refine fg_X3_30_44 (pc := 1) hC dX3_worthIn_1 ?_
  refine g_iload_n (pc := 4) hC dX3_worthIn_4 rfl ?_
  obtain ⟨v1, hc, h⟩ := cp_e h
  refine g_callVi (pc := 5) (As := [.int a1]) (rest := []) hC (c_X8_has l E a1 σ v1 hc) mi_X8_has mv_X8_has ob_34 rfl rfl lk_X3_73 rfl rfl (Nat.le_of_ble_eq_true rfl) ⟨by decide, by decide⟩ hab dX3_worthIn_5 ?_
  have hJ21 : ∀ (v4 : Int32), J_X3_worthIn_1 v4 = some r → Gd l E K 0 0 o σ 21 [none, none] [.int v4] := by
    intro v4 h
    delta J_X3_worthIn_1 at h
    exact g_retp (pc := 21) hC h hR dX3_worthIn_21
  refine g_if_eq (tgt := 20) (pc := 8) hC dX3_worthIn_8 (by decide) (fun c2 => ?_) (fun c2 => ?_)
  · replace h := it_t c2 h
    refine g_iconst (pc := 20) hC ki_0 dX3_worthIn_20 ?_
    refine g_mask [false, false] rfl ?_
    exact hJ21 0 h
  · replace h := it_f c2 h
    refine g_aload_n (pc := 11) hC dX3_worthIn_11 rfl ?_
    refine fg_X3_27_44 (pc := 12) hC dX3_worthIn_12 ?_
    refine g_iload_n (pc := 15) hC dX3_worthIn_15 rfl ?_
    obtain ⟨v3, ev3, nv3, h⟩ := rd_e h
    refine g_iald (pc := 16) hC 50 (by decide) (ar_50 _ _ _) nv3 dX3_worthIn_16 ?_
    refine g_top ev3 ?_
    refine g_goto (tgt := 21) (pc := 17) hC dX3_worthIn_17 (by decide) ?_
    refine g_mask [false, false] rfl ?_
    exact hJ21 v3 h
set_option maxRecDepth 20000 in
theorem c_J9_abs_067f4 (l : Launch) (E : uE) (a1 : Int64) (σ : uS) (r : Int64) (h : F_J9_abs_067f4 a1 σ = some r) : CtL l E yJ9_abs_067f4 cJ9_abs_067f4 2 0 0 [.long a1] σ r σ := by
  refine enterL 0 [some (.long a1), none] (by decide +kernel) rfl (Nat.le_of_ble_eq_true rfl) (fun o K hnL hC hab hR => ?_)
  have hC : Cx E K RJ9 cJ9_abs_067f4 (some .long) 0 0 := hC
  have hN : ∀ k, k < 2 → k < K.2.2.2.2.2 := fun k hk => hnL ▸ hk
  delta F_J9_abs_067f4 at h
  refine g_lload_n (pc := 0) hC dJ9_abs_067f4_0 rfl ?_
  refine g_lconst (v := 0) (pc := 1) hC rfl dJ9_abs_067f4_1 ?_
  refine g_lcmp (pc := 2) hC dJ9_abs_067f4_2 ?_
  obtain ⟨v2, ev2, h⟩ := lt_e h
  have hJ12 : Gd l E K 0 0 o σ 12 [none, none] [.long v2] := by
    exact g_retlp (pc := 12) hC h hR dJ9_abs_067f4_12
  refine g_if_ge (tgt := 11) (pc := 3) hC dJ9_abs_067f4_3 (by decide) (fun c1 => ?_) (fun c1 => ?_)
  · refine g_lload_n (pc := 11) hC dJ9_abs_067f4_11 rfl ?_
    refine g_mask [false, false] rfl ?_
    exact g_topl (iv_t c1 ev2) hJ12
  · refine g_lload_n (pc := 6) hC dJ9_abs_067f4_6 rfl ?_
    refine g_lneg (pc := 7) hC dJ9_abs_067f4_7 ?_
    refine g_goto (tgt := 12) (pc := 8) hC dJ9_abs_067f4_8 (by decide) ?_
    refine g_mask [false, false] rfl ?_
    exact g_topl (iv_f c1 ev2) hJ12
set_option maxRecDepth 20000 in
theorem c_X3_nearest (l : Launch) (E : uE) (a1 : Int32) (a2 : Int32) (a3 : Int32) (σ : uS) (r : Int32) (h : F_X3_nearest a1 a2 a3 σ = some r) : CtI l E yX3_nearest cX3_nearest 10 (some .int) 2 42 [.ref (E.2.1 44), .int a1, .int a2, .int a3] σ r σ := by
  refine enterI 6 [some (.ref (E.2.1 44)), some (.int a1), some (.int a2), some (.int a3), none, none, none, none, none, none] (by decide +kernel) rfl (Nat.le_of_ble_eq_true rfl) (fun o K hnL hC hab hR => ?_)
  have hC : Cx E K RX3 cX3_nearest (some .int) 2 42 := hC
  have hN : ∀ k, k < 10 → k < K.2.2.2.2.2 := fun k hk => hnL ▸ hk
  delta F_X3_nearest at h
  refine g_iconst (pc := 0) hC ki_m1 dX3_nearest_0 ?_
  refine g_istore (lv2 := [some (.ref (E.2.1 44)), some (.int a1), some (.int a2), some (.int a3), some (.int (-1)), none, none, none, none, none]) (pc := 1) hC dX3_nearest_1 rfl (Or.inr rfl) (hN _ (by decide)) ?_
  refine g_lconst (v := 0) (pc := 3) hC rfl dX3_nearest_3 ?_
  obtain ⟨v1, ev1, h⟩ := lt_e h
  refine g_topl ev1 ?_
  refine g_lstore (lv2 := [some (.ref (E.2.1 44)), some (.int a1), some (.int a2), some (.int a3), some (.int (-1)), some (.long v1), none, none, none, none]) (pc := 4) hC dX3_nearest_4 rfl (Or.inr rfl) (hN _ (by decide)) ?_
  refine g_iload_n (pc := 6) hC dX3_nearest_6 rfl ?_
  refine g_istore (lv2 := [some (.ref (E.2.1 44)), some (.int a1), some (.int a2), some (.int a3), some (.int (-1)), some (.long v1), none, some (.int a2), none, none]) (pc := 7) hC dX3_nearest_7 rfl (Or.inr rfl) (hN _ (by decide)) ?_
  have hL1 : ∀ (n : Nat) (w2 : Int32) (w3 : Int64) (w4 : Int32) (z1 : Int32), iter n (fun z => B_X3_nearest_4 a1 a3 σ z.1 z.2.1 z.2.2) (w2, w3, w4) = some z1 → (∀ (v5 : Int32), z1 = v5 → Gd l E K 0 0 o σ 58 [none, none, none, none, some (.int v5), none, none, none, none, none] []) → Gd l E K 0 0 o σ 9 [some (.ref (E.2.1 44)), some (.int a1), none, some (.int a3), some (.int w2), some (.long w3), none, some (.int w4), none, none] [] := by
    intro n
    induction n with
    | zero =>
      intro w2 w3 w4 z1 hi
      exact (iter_0 hi).elim
    | succ n ih1 =>
      intro w2 w3 w4 z1 hi1 kx1
      obtain ⟨r1, h, hi1⟩ := iter_s hi1
      replace h : B_X3_nearest_4 a1 a3 σ w2 w3 w4 = some r1 := h
      delta B_X3_nearest_4 at h
      refine g_iload (pc := 9) hC dX3_nearest_9 rfl ?_
      refine g_iload_n (pc := 11) hC dX3_nearest_11 rfl ?_
      refine g_icmp_ge (tgt := 58) (pc := 12) hC dX3_nearest_12 (by decide) (fun c6 => ?_) (fun c6 => ?_)
      · replace h := it_t c6 h
        refine g_mask [false, false, false, false, true, false, false, false, false, false] rfl ?_
        exact kx1 w2 (iter_r h hi1)
      · replace h := it_f c6 h
        refine g_aload_n (pc := 15) hC dX3_nearest_15 rfl ?_
        refine g_iload (pc := 16) hC dX3_nearest_16 rfl ?_
        obtain ⟨v7, hc, h⟩ := cp_e h
        refine g_callVi (pc := 18) (As := [.int w4]) (rest := []) hC (c_X3_at l E w4 σ v7 hc) mi_X3_at mv_X3_at ob_44 rfl rfl lk_X3_74 rfl rfl (Nat.le_of_ble_eq_true rfl) ⟨by decide, by decide⟩ hab dX3_nearest_18 ?_
        refine g_i2l (pc := 21) hC dX3_nearest_21 ?_
        refine g_iload_n (pc := 22) hC dX3_nearest_22 rfl ?_
        refine g_i2l (pc := 23) hC dX3_nearest_23 ?_
        refine g_lsub (pc := 24) hC dX3_nearest_24 ?_
        obtain ⟨v8, hc, h⟩ := cp_e h
        refine g_callSl (pc := 25) (As := [.long ((Int32.toInt64 v7) - (Int32.toInt64 a1))]) (rest := []) hC (c_J9_abs_067f4 l E ((Int32.toInt64 v7) - (Int32.toInt64 a1)) σ v8 hc) mi_J9_abs_067f4 ms_J9_abs_067f4 lk_X3_77 rfl rfl (Nat.le_of_ble_eq_true rfl) ⟨by decide, by decide⟩ hab dX3_nearest_25 ?_
        refine g_lstore (lv2 := [some (.ref (E.2.1 44)), some (.int a1), none, some (.int a3), some (.int w2), some (.long w3), none, some (.int w4), some (.long v8), none]) (pc := 28) hC dX3_nearest_28 rfl (Or.inr rfl) (hN _ (by decide)) ?_
        refine g_iload (pc := 30) hC dX3_nearest_30 rfl ?_
        refine g_iconst (pc := 32) hC ki_m1 dX3_nearest_32 ?_
        have hJ52 : ∀ (v11 : Int32) (v12 : Int64), J_X3_nearest_3 w4 v11 v12 = some r1 → Gd l E K 0 0 o σ 52 [some (.ref (E.2.1 44)), some (.int a1), none, some (.int a3), some (.int v11), some (.long v12), none, some (.int w4), none, none] [] := by
          intro v11 v12 h
          delta J_X3_nearest_3 at h
          obtain ⟨v13, ev13, h⟩ := lt_e h
          refine g_iinc (v := v13) (lv2 := [some (.ref (E.2.1 44)), some (.int a1), none, some (.int a3), some (.int v11), some (.long v12), none, some (.int v13), none, none]) (pc := 52) hC dX3_nearest_52 rfl ev13 rfl (Or.inr rfl) (hN _ (by decide)) ?_
          refine g_goto (tgt := 9) (pc := 55) hC dX3_nearest_55 (by decide) ?_
          exact ih1 v11 v12 v13 z1 (iter_l h hi1) kx1
        have hJ44 : J_X3_nearest_2 v8 w4 = some r1 → Gd l E K 0 0 o σ 44 [some (.ref (E.2.1 44)), some (.int a1), none, some (.int a3), none, none, none, some (.int w4), some (.long v8), none] [] := by
          intro h
          delta J_X3_nearest_2 at h
          refine g_iload (pc := 44) hC dX3_nearest_44 rfl ?_
          refine g_istore (lv2 := [some (.ref (E.2.1 44)), some (.int a1), none, some (.int a3), some (.int w4), none, none, some (.int w4), some (.long v8), none]) (pc := 46) hC dX3_nearest_46 rfl (Or.inr rfl) (hN _ (by decide)) ?_
          refine g_lload (pc := 48) hC dX3_nearest_48 rfl ?_
          refine g_lstore (lv2 := [some (.ref (E.2.1 44)), some (.int a1), none, some (.int a3), some (.int w4), some (.long v8), none, some (.int w4), some (.long v8), none]) (pc := 50) hC dX3_nearest_50 rfl (Or.inr rfl) (hN _ (by decide)) ?_
          refine g_mask [true, true, false, true, true, true, false, true, false, false] rfl ?_
          exact hJ52 w4 v8 h
        refine g_icmp_eq (tgt := 44) (pc := 33) hC dX3_nearest_33 (by decide) (fun c9 => ?_) (fun c9 => ?_)
        · replace h := it_t c9 h
          refine g_mask [true, true, false, true, false, false, false, true, true, false] rfl ?_
          exact hJ44 h
        · replace h := it_f c9 h
          refine g_lload (pc := 36) hC dX3_nearest_36 rfl ?_
          refine g_lload (pc := 38) hC dX3_nearest_38 rfl ?_
          refine g_lcmp (pc := 40) hC dX3_nearest_40 ?_
          refine g_if_ge (tgt := 52) (pc := 41) hC dX3_nearest_41 (by decide) (fun c10 => ?_) (fun c10 => ?_)
          · replace h := it_t c10 h
            refine g_mask [true, true, false, true, true, true, false, true, false, false] rfl ?_
            exact hJ52 w2 w3 h
          · replace h := it_f c10 h
            refine g_mask [true, true, false, true, false, false, false, true, true, false] rfl ?_
            exact hJ44 h
  obtain ⟨z1, hz1, h⟩ := lp_e h
  refine g_mask [true, true, false, true, true, true, false, true, false, false] rfl ?_
  refine hL1 FU (-1) v1 a2 z1 hz1 (fun v5 ez => ?_)
  replace h : C_X3_nearest_5 v5 = some r := by rw [ez] at h; exact h
  delta C_X3_nearest_5 at h
  refine g_iload (pc := 58) hC dX3_nearest_58 rfl ?_
  exact g_retp (pc := 60) hC h hR dX3_nearest_60
set_option maxRecDepth 20000 in
theorem c_X3_gapBehind (l : Launch) (E : uE) (a1 : Int32) (σ : uS) (r : Int32) (h : F_X3_gapBehind a1 σ = some r) : CtI l E yX3_gapBehind cX3_gapBehind 2 (some .int) 1 21 [.ref (E.2.1 44), .int a1] σ r σ := by
  refine enterI 0 [some (.ref (E.2.1 44)), some (.int a1)] (by decide +kernel) rfl (Nat.le_of_ble_eq_true rfl) (fun o K hnL hC hab hR => ?_)
  have hC : Cx E K RX3 cX3_gapBehind (some .int) 1 21 := hC
  have hN : ∀ k, k < 2 → k < K.2.2.2.2.2 := fun k hk => hnL ▸ hk
  delta F_X3_gapBehind at h
  refine g_aload_n (pc := 0) hC dX3_gapBehind_0 rfl ?_
  refine g_iload_n (pc := 1) hC dX3_gapBehind_1 rfl ?_
  obtain ⟨v1, hc, h⟩ := cp_e h
  refine g_callVi (pc := 2) (As := [.int a1]) (rest := []) hC (c_X3_has l E a1 σ v1 hc) mi_X3_has mv_X3_has ob_44 rfl rfl lk_X3_70 rfl rfl (Nat.le_of_ble_eq_true rfl) ⟨by decide, by decide⟩ hab dX3_gapBehind_2 ?_
  have hJ54 : ∀ (v10 : Int32), J_X3_gapBehind_2 v10 = some r → Gd l E K 0 0 o σ 54 [none, none] [.int v10] := by
    intro v10 h
    delta J_X3_gapBehind_2 at h
    exact g_retp (pc := 54) hC h hR dX3_gapBehind_54
  have hJ53 : J_X3_gapBehind_1 = some r → Gd l E K 0 0 o σ 53 [none, none] [] := by
    intro h
    delta J_X3_gapBehind_1 at h
    refine g_iconst (pc := 53) hC ki_m1 dX3_gapBehind_53 ?_
    exact hJ54 (-1) h
  refine g_if_eq (tgt := 53) (pc := 5) hC dX3_gapBehind_5 (by decide) (fun c2 => ?_) (fun c2 => ?_)
  · replace h := it_t c2 h
    refine g_mask [false, false] rfl ?_
    exact hJ53 h
  · replace h := it_f c2 h
    refine g_aload_n (pc := 8) hC dX3_gapBehind_8 rfl ?_
    refine g_iload_n (pc := 9) hC dX3_gapBehind_9 rfl ?_
    refine g_iconst (pc := 10) hC ki_1 dX3_gapBehind_10 ?_
    refine g_iadd (pc := 11) hC dX3_gapBehind_11 ?_
    obtain ⟨v3, hc, h⟩ := cp_e h
    refine g_callVi (pc := 12) (As := [.int (a1 + 1)]) (rest := []) hC (c_X3_has l E (a1 + 1) σ v3 hc) mi_X3_has mv_X3_has ob_44 rfl rfl lk_X3_70 rfl rfl (Nat.le_of_ble_eq_true rfl) ⟨by decide, by decide⟩ hab dX3_gapBehind_12 ?_
    refine g_if_eq (tgt := 53) (pc := 15) hC dX3_gapBehind_15 (by decide) (fun c4 => ?_) (fun c4 => ?_)
    · replace h := it_t c4 h
      refine g_mask [false, false] rfl ?_
      exact hJ53 h
    · replace h := it_f c4 h
      refine g_aload_n (pc := 18) hC dX3_gapBehind_18 rfl ?_
      refine fg_X3_21_44 (pc := 19) hC dX3_gapBehind_19 ?_
      refine g_iload_n (pc := 22) hC dX3_gapBehind_22 rfl ?_
      obtain ⟨v5, ev5, nv5, h⟩ := rd_e h
      refine g_iald (pc := 23) hC 48 (by decide) (ar_48 _ _ _) nv5 dX3_gapBehind_23 ?_
      refine g_top ev5 ?_
      refine g_aload_n (pc := 24) hC dX3_gapBehind_24 rfl ?_
      refine fg_X3_21_44 (pc := 25) hC dX3_gapBehind_25 ?_
      refine g_iload_n (pc := 28) hC dX3_gapBehind_28 rfl ?_
      refine g_iconst (pc := 29) hC ki_1 dX3_gapBehind_29 ?_
      refine g_iadd (pc := 30) hC dX3_gapBehind_30 ?_
      obtain ⟨v6, ev6, nv6, h⟩ := rd_e h
      refine g_iald (pc := 31) hC 48 (by decide) (ar_48 _ _ _) nv6 dX3_gapBehind_31 ?_
      refine g_top ev6 ?_
      refine g_icmp_ne (tgt := 53) (pc := 32) hC dX3_gapBehind_32 (by decide) (fun c7 => ?_) (fun c7 => ?_)
      · replace h := it_f c7 h
        refine g_mask [false, false] rfl ?_
        exact hJ53 h
      · replace h := it_t c7 h
        refine g_aload_n (pc := 35) hC dX3_gapBehind_35 rfl ?_
        refine fg_X3_18_44 (pc := 36) hC dX3_gapBehind_36 ?_
        refine g_iload_n (pc := 39) hC dX3_gapBehind_39 rfl ?_
        refine g_iconst (pc := 40) hC ki_1 dX3_gapBehind_40 ?_
        refine g_iadd (pc := 41) hC dX3_gapBehind_41 ?_
        obtain ⟨v8, ev8, nv8, h⟩ := rd_e h
        refine g_iald (pc := 42) hC 47 (by decide) (ar_47 _ _ _) nv8 dX3_gapBehind_42 ?_
        refine g_top ev8 ?_
        refine g_aload_n (pc := 43) hC dX3_gapBehind_43 rfl ?_
        refine fg_X3_18_44 (pc := 44) hC dX3_gapBehind_44 ?_
        refine g_iload_n (pc := 47) hC dX3_gapBehind_47 rfl ?_
        obtain ⟨v9, ev9, nv9, h⟩ := rd_e h
        refine g_iald (pc := 48) hC 47 (by decide) (ar_47 _ _ _) nv9 dX3_gapBehind_48 ?_
        refine g_top ev9 ?_
        refine g_isub (pc := 49) hC dX3_gapBehind_49 ?_
        refine g_goto (tgt := 54) (pc := 50) hC dX3_gapBehind_50 (by decide) ?_
        refine g_mask [false, false] rfl ?_
        exact hJ54 (v8 - v9) h
set_option maxRecDepth 20000 in
theorem c_X3_gapCount (l : Launch) (E : uE) (σ : uS) (r : Int32) (h : F_X3_gapCount σ = some r) : CtI l E yX3_gapCount cX3_gapCount 3 (some .int) 2 42 [.ref (E.2.1 44)] σ r σ := by
  refine enterI 2 [some (.ref (E.2.1 44)), none, none] (by decide +kernel) rfl (Nat.le_of_ble_eq_true rfl) (fun o K hnL hC hab hR => ?_)
  have hC : Cx E K RX3 cX3_gapCount (some .int) 2 42 := hC
  have hN : ∀ k, k < 3 → k < K.2.2.2.2.2 := fun k hk => hnL ▸ hk
  delta F_X3_gapCount at h
  refine g_iconst (pc := 0) hC ki_0 dX3_gapCount_0 ?_
  refine g_istore_n (lv2 := [some (.ref (E.2.1 44)), some (.int 0), none]) (pc := 1) hC dX3_gapCount_1 rfl (Or.inr rfl) (hN _ (by decide)) ?_
  refine g_iconst (pc := 2) hC ki_0 dX3_gapCount_2 ?_
  refine g_istore_n (lv2 := [some (.ref (E.2.1 44)), some (.int 0), some (.int 0)]) (pc := 3) hC dX3_gapCount_3 rfl (Or.inr rfl) (hN _ (by decide)) ?_
  have hL1 : ∀ (n : Nat) (w1 : Int32) (w2 : Int32) (z1 : Int32), iter n (fun z => B_X3_gapCount_2 σ z.1 z.2) (w1, w2) = some z1 → (∀ (v3 : Int32), z1 = v3 → Gd l E K 0 0 o σ 35 [none, some (.int v3), none] []) → Gd l E K 0 0 o σ 4 [some (.ref (E.2.1 44)), some (.int w1), some (.int w2)] [] := by
    intro n
    induction n with
    | zero =>
      intro w1 w2 z1 hi
      exact (iter_0 hi).elim
    | succ n ih1 =>
      intro w1 w2 z1 hi1 kx1
      obtain ⟨r1, h, hi1⟩ := iter_s hi1
      replace h : B_X3_gapCount_2 σ w1 w2 = some r1 := h
      delta B_X3_gapCount_2 at h
      refine g_iload_n (pc := 4) hC dX3_gapCount_4 rfl ?_
      refine g_aload_n (pc := 5) hC dX3_gapCount_5 rfl ?_
      refine fg_X3_42_44 (pc := 6) hC dX3_gapCount_6 ?_
      refine g_icmp_ge (tgt := 35) (pc := 9) hC dX3_gapCount_9 (by decide) (fun c4 => ?_) (fun c4 => ?_)
      · replace h := it_t c4 h
        refine g_mask [false, true, false] rfl ?_
        exact kx1 w1 (iter_r h hi1)
      · replace h := it_f c4 h
        refine g_iload_n (pc := 12) hC dX3_gapCount_12 rfl ?_
        refine g_aload_n (pc := 13) hC dX3_gapCount_13 rfl ?_
        refine g_iload_n (pc := 14) hC dX3_gapCount_14 rfl ?_
        obtain ⟨v5, hc, h⟩ := cp_e h
        refine g_callVi (pc := 15) (As := [.int w2]) (rest := [.int w1]) hC (c_X3_gapBehind l E w2 σ v5 hc) mi_X3_gapBehind mv_X3_gapBehind ob_44 rfl rfl lk_X3_83 rfl rfl (Nat.le_of_ble_eq_true rfl) ⟨by decide, by decide⟩ hab dX3_gapCount_15 ?_
        refine g_iconst (pc := 18) hC ki_m1 dX3_gapCount_18 ?_
        obtain ⟨v7, ev7, h⟩ := lt_e h
        have hJ27 : Gd l E K 0 0 o σ 27 [some (.ref (E.2.1 44)), none, some (.int w2)] [.int v7, .int w1] := by
          refine g_iadd (pc := 27) hC dX3_gapCount_27 ?_
          obtain ⟨v8, ev8, h⟩ := lt_e h
          refine g_top ev8 ?_
          refine g_istore_n (lv2 := [some (.ref (E.2.1 44)), some (.int v8), some (.int w2)]) (pc := 28) hC dX3_gapCount_28 rfl (Or.inr rfl) (hN _ (by decide)) ?_
          obtain ⟨v9, ev9, h⟩ := lt_e h
          refine g_iinc (v := v9) (lv2 := [some (.ref (E.2.1 44)), some (.int v8), some (.int v9)]) (pc := 29) hC dX3_gapCount_29 rfl ev9 rfl (Or.inr rfl) (hN _ (by decide)) ?_
          refine g_goto (tgt := 4) (pc := 32) hC dX3_gapCount_32 (by decide) ?_
          exact ih1 v8 v9 z1 (iter_l h hi1) kx1
        refine g_icmp_ne (tgt := 26) (pc := 19) hC dX3_gapCount_19 (by decide) (fun c6 => ?_) (fun c6 => ?_)
        · refine g_iconst (pc := 26) hC ki_1 dX3_gapCount_26 ?_
          refine g_mask [true, false, true] rfl ?_
          exact g_top (iv_f c6 ev7) hJ27
        · refine g_iconst (pc := 22) hC ki_0 dX3_gapCount_22 ?_
          refine g_goto (tgt := 27) (pc := 23) hC dX3_gapCount_23 (by decide) ?_
          refine g_mask [true, false, true] rfl ?_
          exact g_top (iv_t c6 ev7) hJ27
  obtain ⟨z1, hz1, h⟩ := lp_e h
  refine hL1 FU 0 0 z1 hz1 (fun v3 ez => ?_)
  replace h : C_X3_gapCount_3 v3 = some r := by rw [ez] at h; exact h
  delta C_X3_gapCount_3 at h
  refine g_iload_n (pc := 35) hC dX3_gapCount_35 rfl ?_
  exact g_retp (pc := 36) hC h hR dX3_gapCount_36
set_option maxRecDepth 20000 in
theorem c_X3_gapSum (l : Launch) (E : uE) (σ : uS) (r : Int32) (h : F_X3_gapSum σ = some r) : CtI l E yX3_gapSum cX3_gapSum 3 (some .int) 2 42 [.ref (E.2.1 44)] σ r σ := by
  refine enterI 2 [some (.ref (E.2.1 44)), none, none] (by decide +kernel) rfl (Nat.le_of_ble_eq_true rfl) (fun o K hnL hC hab hR => ?_)
  have hC : Cx E K RX3 cX3_gapSum (some .int) 2 42 := hC
  have hN : ∀ k, k < 3 → k < K.2.2.2.2.2 := fun k hk => hnL ▸ hk
  delta F_X3_gapSum at h
  refine g_iconst (pc := 0) hC ki_0 dX3_gapSum_0 ?_
  refine g_istore_n (lv2 := [some (.ref (E.2.1 44)), some (.int 0), none]) (pc := 1) hC dX3_gapSum_1 rfl (Or.inr rfl) (hN _ (by decide)) ?_
  refine g_iconst (pc := 2) hC ki_0 dX3_gapSum_2 ?_
  refine g_istore_n (lv2 := [some (.ref (E.2.1 44)), some (.int 0), some (.int 0)]) (pc := 3) hC dX3_gapSum_3 rfl (Or.inr rfl) (hN _ (by decide)) ?_
  have hL1 : ∀ (n : Nat) (w1 : Int32) (w2 : Int32) (z1 : Int32), iter n (fun z => B_X3_gapSum_2 σ z.1 z.2) (w1, w2) = some z1 → (∀ (v3 : Int32), z1 = v3 → Gd l E K 0 0 o σ 30 [none, some (.int v3), none] []) → Gd l E K 0 0 o σ 4 [some (.ref (E.2.1 44)), some (.int w1), some (.int w2)] [] := by
    intro n
    induction n with
    | zero =>
      intro w1 w2 z1 hi
      exact (iter_0 hi).elim
    | succ n ih1 =>
      intro w1 w2 z1 hi1 kx1
      obtain ⟨r1, h, hi1⟩ := iter_s hi1
      replace h : B_X3_gapSum_2 σ w1 w2 = some r1 := h
      delta B_X3_gapSum_2 at h
      refine g_iload_n (pc := 4) hC dX3_gapSum_4 rfl ?_
      refine g_aload_n (pc := 5) hC dX3_gapSum_5 rfl ?_
      refine fg_X3_42_44 (pc := 6) hC dX3_gapSum_6 ?_
      refine g_icmp_ge (tgt := 30) (pc := 9) hC dX3_gapSum_9 (by decide) (fun c4 => ?_) (fun c4 => ?_)
      · replace h := it_t c4 h
        refine g_mask [false, true, false] rfl ?_
        exact kx1 w1 (iter_r h hi1)
      · replace h := it_f c4 h
        refine g_iload_n (pc := 12) hC dX3_gapSum_12 rfl ?_
        refine g_iconst (pc := 13) hC ki_0 dX3_gapSum_13 ?_
        refine g_aload_n (pc := 14) hC dX3_gapSum_14 rfl ?_
        refine g_iload_n (pc := 15) hC dX3_gapSum_15 rfl ?_
        obtain ⟨v5, hc, h⟩ := cp_e h
        refine g_callVi (pc := 16) (As := [.int w2]) (rest := [.int 0, .int w1]) hC (c_X3_gapBehind l E w2 σ v5 hc) mi_X3_gapBehind mv_X3_gapBehind ob_44 rfl rfl lk_X3_83 rfl rfl (Nat.le_of_ble_eq_true rfl) ⟨by decide, by decide⟩ hab dX3_gapSum_16 ?_
        obtain ⟨v6, hc, h⟩ := cp_e h
        refine g_callSi (pc := 19) (As := [.int 0, .int v5]) (rest := [.int w1]) hC (c_J9_max_7cf53 l E 0 v5 σ v6 hc) mi_J9_max_7cf53 ms_J9_max_7cf53 lk_X3_86 rfl rfl (Nat.le_of_ble_eq_true rfl) ⟨by decide, by decide⟩ hab dX3_gapSum_19 ?_
        refine g_iadd (pc := 22) hC dX3_gapSum_22 ?_
        obtain ⟨v7, ev7, h⟩ := lt_e h
        refine g_top ev7 ?_
        refine g_istore_n (lv2 := [some (.ref (E.2.1 44)), some (.int v7), some (.int w2)]) (pc := 23) hC dX3_gapSum_23 rfl (Or.inr rfl) (hN _ (by decide)) ?_
        obtain ⟨v8, ev8, h⟩ := lt_e h
        refine g_iinc (v := v8) (lv2 := [some (.ref (E.2.1 44)), some (.int v7), some (.int v8)]) (pc := 24) hC dX3_gapSum_24 rfl ev8 rfl (Or.inr rfl) (hN _ (by decide)) ?_
        refine g_goto (tgt := 4) (pc := 27) hC dX3_gapSum_27 (by decide) ?_
        exact ih1 v7 v8 z1 (iter_l h hi1) kx1
  obtain ⟨z1, hz1, h⟩ := lp_e h
  refine hL1 FU 0 0 z1 hz1 (fun v3 ez => ?_)
  replace h : C_X3_gapSum_3 v3 = some r := by rw [ez] at h; exact h
  delta C_X3_gapSum_3 at h
  refine g_iload_n (pc := 30) hC dX3_gapSum_30 rfl ?_
  exact g_retp (pc := 31) hC h hR dX3_gapSum_31
set_option maxRecDepth 20000 in
theorem c_X3_longestGap (l : Launch) (E : uE) (σ : uS) (r : Int32) (h : F_X3_longestGap σ = some r) : CtI l E yX3_longestGap cX3_longestGap 3 (some .int) 2 42 [.ref (E.2.1 44)] σ r σ := by
  refine enterI 2 [some (.ref (E.2.1 44)), none, none] (by decide +kernel) rfl (Nat.le_of_ble_eq_true rfl) (fun o K hnL hC hab hR => ?_)
  have hC : Cx E K RX3 cX3_longestGap (some .int) 2 42 := hC
  have hN : ∀ k, k < 3 → k < K.2.2.2.2.2 := fun k hk => hnL ▸ hk
  delta F_X3_longestGap at h
  refine g_iconst (pc := 0) hC ki_m1 dX3_longestGap_0 ?_
  refine g_istore_n (lv2 := [some (.ref (E.2.1 44)), some (.int (-1)), none]) (pc := 1) hC dX3_longestGap_1 rfl (Or.inr rfl) (hN _ (by decide)) ?_
  refine g_iconst (pc := 2) hC ki_0 dX3_longestGap_2 ?_
  refine g_istore_n (lv2 := [some (.ref (E.2.1 44)), some (.int (-1)), some (.int 0)]) (pc := 3) hC dX3_longestGap_3 rfl (Or.inr rfl) (hN _ (by decide)) ?_
  have hL1 : ∀ (n : Nat) (w1 : Int32) (w2 : Int32) (z1 : Int32), iter n (fun z => B_X3_longestGap_2 σ z.1 z.2) (w1, w2) = some z1 → (∀ (v3 : Int32), z1 = v3 → Gd l E K 0 0 o σ 28 [none, some (.int v3), none] []) → Gd l E K 0 0 o σ 4 [some (.ref (E.2.1 44)), some (.int w1), some (.int w2)] [] := by
    intro n
    induction n with
    | zero =>
      intro w1 w2 z1 hi
      exact (iter_0 hi).elim
    | succ n ih1 =>
      intro w1 w2 z1 hi1 kx1
      obtain ⟨r1, h, hi1⟩ := iter_s hi1
      replace h : B_X3_longestGap_2 σ w1 w2 = some r1 := h
      delta B_X3_longestGap_2 at h
      refine g_iload_n (pc := 4) hC dX3_longestGap_4 rfl ?_
      refine g_aload_n (pc := 5) hC dX3_longestGap_5 rfl ?_
      refine fg_X3_42_44 (pc := 6) hC dX3_longestGap_6 ?_
      refine g_icmp_ge (tgt := 28) (pc := 9) hC dX3_longestGap_9 (by decide) (fun c4 => ?_) (fun c4 => ?_)
      · replace h := it_t c4 h
        refine g_mask [false, true, false] rfl ?_
        exact kx1 w1 (iter_r h hi1)
      · replace h := it_f c4 h
        refine g_iload_n (pc := 12) hC dX3_longestGap_12 rfl ?_
        refine g_aload_n (pc := 13) hC dX3_longestGap_13 rfl ?_
        refine g_iload_n (pc := 14) hC dX3_longestGap_14 rfl ?_
        obtain ⟨v5, hc, h⟩ := cp_e h
        refine g_callVi (pc := 15) (As := [.int w2]) (rest := [.int w1]) hC (c_X3_gapBehind l E w2 σ v5 hc) mi_X3_gapBehind mv_X3_gapBehind ob_44 rfl rfl lk_X3_83 rfl rfl (Nat.le_of_ble_eq_true rfl) ⟨by decide, by decide⟩ hab dX3_longestGap_15 ?_
        obtain ⟨v6, hc, h⟩ := cp_e h
        refine g_callSi (pc := 18) (As := [.int w1, .int v5]) (rest := []) hC (c_J9_max_7cf53 l E w1 v5 σ v6 hc) mi_J9_max_7cf53 ms_J9_max_7cf53 lk_X3_86 rfl rfl (Nat.le_of_ble_eq_true rfl) ⟨by decide, by decide⟩ hab dX3_longestGap_18 ?_
        refine g_istore_n (lv2 := [some (.ref (E.2.1 44)), some (.int v6), some (.int w2)]) (pc := 21) hC dX3_longestGap_21 rfl (Or.inr rfl) (hN _ (by decide)) ?_
        obtain ⟨v7, ev7, h⟩ := lt_e h
        refine g_iinc (v := v7) (lv2 := [some (.ref (E.2.1 44)), some (.int v6), some (.int v7)]) (pc := 22) hC dX3_longestGap_22 rfl ev7 rfl (Or.inr rfl) (hN _ (by decide)) ?_
        refine g_goto (tgt := 4) (pc := 25) hC dX3_longestGap_25 (by decide) ?_
        exact ih1 v6 v7 z1 (iter_l h hi1) kx1
  obtain ⟨z1, hz1, h⟩ := lp_e h
  refine hL1 FU (-1) 0 z1 hz1 (fun v3 ez => ?_)
  replace h : C_X3_longestGap_3 v3 = some r := by rw [ez] at h; exact h
  delta C_X3_longestGap_3 at h
  refine g_iload_n (pc := 28) hC dX3_longestGap_28 rfl ?_
  exact g_retp (pc := 29) hC h hR dX3_longestGap_29
set_option maxRecDepth 20000 in
theorem c_X3_shortestGap (l : Launch) (E : uE) (σ : uS) (r : Int32) (h : F_X3_shortestGap σ = some r) : CtI l E yX3_shortestGap cX3_shortestGap 4 (some .int) 2 42 [.ref (E.2.1 44)] σ r σ := by
  refine enterI 3 [some (.ref (E.2.1 44)), none, none, none] (by decide +kernel) rfl (Nat.le_of_ble_eq_true rfl) (fun o K hnL hC hab hR => ?_)
  have hC : Cx E K RX3 cX3_shortestGap (some .int) 2 42 := hC
  have hN : ∀ k, k < 4 → k < K.2.2.2.2.2 := fun k hk => hnL ▸ hk
  delta F_X3_shortestGap at h
  refine g_iconst (pc := 0) hC ki_m1 dX3_shortestGap_0 ?_
  refine g_istore_n (lv2 := [some (.ref (E.2.1 44)), some (.int (-1)), none, none]) (pc := 1) hC dX3_shortestGap_1 rfl (Or.inr rfl) (hN _ (by decide)) ?_
  refine g_iconst (pc := 2) hC ki_0 dX3_shortestGap_2 ?_
  refine g_istore_n (lv2 := [some (.ref (E.2.1 44)), some (.int (-1)), some (.int 0), none]) (pc := 3) hC dX3_shortestGap_3 rfl (Or.inr rfl) (hN _ (by decide)) ?_
  have hL1 : ∀ (n : Nat) (w1 : Int32) (w2 : Int32) (z1 : Int32), iter n (fun z => B_X3_shortestGap_4 σ z.1 z.2) (w1, w2) = some z1 → (∀ (v3 : Int32), z1 = v3 → Gd l E K 0 0 o σ 41 [none, some (.int v3), none, none] []) → Gd l E K 0 0 o σ 4 [some (.ref (E.2.1 44)), some (.int w1), some (.int w2), none] [] := by
    intro n
    induction n with
    | zero =>
      intro w1 w2 z1 hi
      exact (iter_0 hi).elim
    | succ n ih1 =>
      intro w1 w2 z1 hi1 kx1
      obtain ⟨r1, h, hi1⟩ := iter_s hi1
      replace h : B_X3_shortestGap_4 σ w1 w2 = some r1 := h
      delta B_X3_shortestGap_4 at h
      refine g_iload_n (pc := 4) hC dX3_shortestGap_4 rfl ?_
      refine g_aload_n (pc := 5) hC dX3_shortestGap_5 rfl ?_
      refine fg_X3_42_44 (pc := 6) hC dX3_shortestGap_6 ?_
      refine g_icmp_ge (tgt := 41) (pc := 9) hC dX3_shortestGap_9 (by decide) (fun c4 => ?_) (fun c4 => ?_)
      · replace h := it_t c4 h
        refine g_mask [false, true, false, false] rfl ?_
        exact kx1 w1 (iter_r h hi1)
      · replace h := it_f c4 h
        refine g_aload_n (pc := 12) hC dX3_shortestGap_12 rfl ?_
        refine g_iload_n (pc := 13) hC dX3_shortestGap_13 rfl ?_
        obtain ⟨v5, hc, h⟩ := cp_e h
        refine g_callVi (pc := 14) (As := [.int w2]) (rest := []) hC (c_X3_gapBehind l E w2 σ v5 hc) mi_X3_gapBehind mv_X3_gapBehind ob_44 rfl rfl lk_X3_83 rfl rfl (Nat.le_of_ble_eq_true rfl) ⟨by decide, by decide⟩ hab dX3_shortestGap_14 ?_
        refine g_istore_n (lv2 := [some (.ref (E.2.1 44)), some (.int w1), some (.int w2), some (.int v5)]) (pc := 17) hC dX3_shortestGap_17 rfl (Or.inr rfl) (hN _ (by decide)) ?_
        refine g_iload_n (pc := 18) hC dX3_shortestGap_18 rfl ?_
        refine g_iconst (pc := 19) hC ki_m1 dX3_shortestGap_19 ?_
        have hJ35 : ∀ (v9 : Int32), J_X3_shortestGap_3 w2 v9 = some r1 → Gd l E K 0 0 o σ 35 [some (.ref (E.2.1 44)), some (.int v9), some (.int w2), none] [] := by
          intro v9 h
          delta J_X3_shortestGap_3 at h
          obtain ⟨v10, ev10, h⟩ := lt_e h
          refine g_iinc (v := v10) (lv2 := [some (.ref (E.2.1 44)), some (.int v9), some (.int v10), none]) (pc := 35) hC dX3_shortestGap_35 rfl ev10 rfl (Or.inr rfl) (hN _ (by decide)) ?_
          refine g_goto (tgt := 4) (pc := 38) hC dX3_shortestGap_38 (by decide) ?_
          exact ih1 v9 v10 z1 (iter_l h hi1) kx1
        refine g_icmp_eq (tgt := 35) (pc := 20) hC dX3_shortestGap_20 (by decide) (fun c6 => ?_) (fun c6 => ?_)
        · replace h := it_t c6 h
          refine g_mask [true, true, true, false] rfl ?_
          exact hJ35 w1 h
        · replace h := it_f c6 h
          refine g_iload_n (pc := 23) hC dX3_shortestGap_23 rfl ?_
          refine g_iconst (pc := 24) hC ki_m1 dX3_shortestGap_24 ?_
          have hJ33 : J_X3_shortestGap_2 v5 w2 = some r1 → Gd l E K 0 0 o σ 33 [some (.ref (E.2.1 44)), none, some (.int w2), some (.int v5)] [] := by
            intro h
            delta J_X3_shortestGap_2 at h
            refine g_iload_n (pc := 33) hC dX3_shortestGap_33 rfl ?_
            refine g_istore_n (lv2 := [some (.ref (E.2.1 44)), some (.int v5), some (.int w2), some (.int v5)]) (pc := 34) hC dX3_shortestGap_34 rfl (Or.inr rfl) (hN _ (by decide)) ?_
            refine g_mask [true, true, true, false] rfl ?_
            exact hJ35 v5 h
          refine g_icmp_eq (tgt := 33) (pc := 25) hC dX3_shortestGap_25 (by decide) (fun c7 => ?_) (fun c7 => ?_)
          · replace h := it_t c7 h
            refine g_mask [true, false, true, true] rfl ?_
            exact hJ33 h
          · replace h := it_f c7 h
            refine g_iload_n (pc := 28) hC dX3_shortestGap_28 rfl ?_
            refine g_iload_n (pc := 29) hC dX3_shortestGap_29 rfl ?_
            refine g_icmp_ge (tgt := 35) (pc := 30) hC dX3_shortestGap_30 (by decide) (fun c8 => ?_) (fun c8 => ?_)
            · replace h := it_t c8 h
              refine g_mask [true, true, true, false] rfl ?_
              exact hJ35 w1 h
            · replace h := it_f c8 h
              refine g_mask [true, false, true, true] rfl ?_
              exact hJ33 h
  obtain ⟨z1, hz1, h⟩ := lp_e h
  refine hL1 FU (-1) 0 z1 hz1 (fun v3 ez => ?_)
  replace h : C_X3_shortestGap_5 v3 = some r := by rw [ez] at h; exact h
  delta C_X3_shortestGap_5 at h
  refine g_iload_n (pc := 41) hC dX3_shortestGap_41 rfl ?_
  exact g_retp (pc := 42) hC h hR dX3_shortestGap_42
set_option maxRecDepth 20000 in
theorem c_X3_jitter (l : Launch) (E : uE) (σ : uS) (r : Int32) (h : F_X3_jitter σ = some r) : CtI l E yX3_jitter cX3_jitter 3 (some .int) 2 42 [.ref (E.2.1 44)] σ r σ := by
  refine enterI 2 [some (.ref (E.2.1 44)), none, none] (by decide +kernel) rfl (Nat.le_of_ble_eq_true rfl) (fun o K hnL hC hab hR => ?_)
  have hC : Cx E K RX3 cX3_jitter (some .int) 2 42 := hC
  have hN : ∀ k, k < 3 → k < K.2.2.2.2.2 := fun k hk => hnL ▸ hk
  delta F_X3_jitter at h
  refine g_iconst (pc := 0) hC ki_0 dX3_jitter_0 ?_
  refine g_istore_n (lv2 := [some (.ref (E.2.1 44)), some (.int 0), none]) (pc := 1) hC dX3_jitter_1 rfl (Or.inr rfl) (hN _ (by decide)) ?_
  refine g_iconst (pc := 2) hC ki_0 dX3_jitter_2 ?_
  refine g_istore_n (lv2 := [some (.ref (E.2.1 44)), some (.int 0), some (.int 0)]) (pc := 3) hC dX3_jitter_3 rfl (Or.inr rfl) (hN _ (by decide)) ?_
  have hL1 : ∀ (n : Nat) (w1 : Int32) (w2 : Int32) (z1 : Int32), iter n (fun z => B_X3_jitter_3 σ z.1 z.2) (w1, w2) = some z1 → (∀ (v3 : Int32), z1 = v3 → Gd l E K 0 0 o σ 57 [none, some (.int v3), none] []) → Gd l E K 0 0 o σ 4 [some (.ref (E.2.1 44)), some (.int w1), some (.int w2)] [] := by
    intro n
    induction n with
    | zero =>
      intro w1 w2 z1 hi
      exact (iter_0 hi).elim
    | succ n ih1 =>
      intro w1 w2 z1 hi1 kx1
      obtain ⟨r1, h, hi1⟩ := iter_s hi1
      replace h : B_X3_jitter_3 σ w1 w2 = some r1 := h
      delta B_X3_jitter_3 at h
      refine g_iload_n (pc := 4) hC dX3_jitter_4 rfl ?_
      refine g_aload_n (pc := 5) hC dX3_jitter_5 rfl ?_
      refine fg_X3_42_44 (pc := 6) hC dX3_jitter_6 ?_
      refine g_icmp_ge (tgt := 57) (pc := 9) hC dX3_jitter_9 (by decide) (fun c4 => ?_) (fun c4 => ?_)
      · replace h := it_t c4 h
        refine g_mask [false, true, false] rfl ?_
        exact kx1 w1 (iter_r h hi1)
      · replace h := it_f c4 h
        refine g_aload_n (pc := 12) hC dX3_jitter_12 rfl ?_
        refine g_iload_n (pc := 13) hC dX3_jitter_13 rfl ?_
        obtain ⟨v5, hc, h⟩ := cp_e h
        refine g_callVi (pc := 14) (As := [.int w2]) (rest := []) hC (c_X3_gapBehind l E w2 σ v5 hc) mi_X3_gapBehind mv_X3_gapBehind ob_44 rfl rfl lk_X3_83 rfl rfl (Nat.le_of_ble_eq_true rfl) ⟨by decide, by decide⟩ hab dX3_jitter_14 ?_
        refine g_iconst (pc := 17) hC ki_m1 dX3_jitter_17 ?_
        have hJ51 : ∀ (v13 : Int32), J_X3_jitter_2 w2 v13 = some r1 → Gd l E K 0 0 o σ 51 [some (.ref (E.2.1 44)), some (.int v13), some (.int w2)] [] := by
          intro v13 h
          delta J_X3_jitter_2 at h
          obtain ⟨v14, ev14, h⟩ := lt_e h
          refine g_iinc (v := v14) (lv2 := [some (.ref (E.2.1 44)), some (.int v13), some (.int v14)]) (pc := 51) hC dX3_jitter_51 rfl ev14 rfl (Or.inr rfl) (hN _ (by decide)) ?_
          refine g_goto (tgt := 4) (pc := 54) hC dX3_jitter_54 (by decide) ?_
          exact ih1 v13 v14 z1 (iter_l h hi1) kx1
        refine g_icmp_eq (tgt := 51) (pc := 18) hC dX3_jitter_18 (by decide) (fun c6 => ?_) (fun c6 => ?_)
        · replace h := it_t c6 h
          exact hJ51 w1 h
        · replace h := it_f c6 h
          refine g_aload_n (pc := 21) hC dX3_jitter_21 rfl ?_
          refine g_iload_n (pc := 22) hC dX3_jitter_22 rfl ?_
          refine g_iconst (pc := 23) hC ki_1 dX3_jitter_23 ?_
          refine g_iadd (pc := 24) hC dX3_jitter_24 ?_
          obtain ⟨v7, hc, h⟩ := cp_e h
          refine g_callVi (pc := 25) (As := [.int (w2 + 1)]) (rest := []) hC (c_X3_gapBehind l E (w2 + 1) σ v7 hc) mi_X3_gapBehind mv_X3_gapBehind ob_44 rfl rfl lk_X3_83 rfl rfl (Nat.le_of_ble_eq_true rfl) ⟨by decide, by decide⟩ hab dX3_jitter_25 ?_
          refine g_iconst (pc := 28) hC ki_m1 dX3_jitter_28 ?_
          refine g_icmp_eq (tgt := 51) (pc := 29) hC dX3_jitter_29 (by decide) (fun c8 => ?_) (fun c8 => ?_)
          · replace h := it_t c8 h
            exact hJ51 w1 h
          · replace h := it_f c8 h
            refine g_iload_n (pc := 32) hC dX3_jitter_32 rfl ?_
            refine g_aload_n (pc := 33) hC dX3_jitter_33 rfl ?_
            refine g_iload_n (pc := 34) hC dX3_jitter_34 rfl ?_
            refine g_iconst (pc := 35) hC ki_1 dX3_jitter_35 ?_
            refine g_iadd (pc := 36) hC dX3_jitter_36 ?_
            obtain ⟨v9, hc, h⟩ := cp_e h
            refine g_callVi (pc := 37) (As := [.int (w2 + 1)]) (rest := [.int w1]) hC (c_X3_gapBehind l E (w2 + 1) σ v9 hc) mi_X3_gapBehind mv_X3_gapBehind ob_44 rfl rfl lk_X3_83 rfl rfl (Nat.le_of_ble_eq_true rfl) ⟨by decide, by decide⟩ hab dX3_jitter_37 ?_
            refine g_aload_n (pc := 40) hC dX3_jitter_40 rfl ?_
            refine g_iload_n (pc := 41) hC dX3_jitter_41 rfl ?_
            obtain ⟨v10, hc, h⟩ := cp_e h
            refine g_callVi (pc := 42) (As := [.int w2]) (rest := [.int v9, .int w1]) hC (c_X3_gapBehind l E w2 σ v10 hc) mi_X3_gapBehind mv_X3_gapBehind ob_44 rfl rfl lk_X3_83 rfl rfl (Nat.le_of_ble_eq_true rfl) ⟨by decide, by decide⟩ hab dX3_jitter_42 ?_
            refine g_isub (pc := 45) hC dX3_jitter_45 ?_
            obtain ⟨v11, hc, h⟩ := cp_e h
            refine g_callSi (pc := 46) (As := [.int (v9 - v10)]) (rest := [.int w1]) hC (c_J9_abs_0f7a4 l E (v9 - v10) σ v11 hc) mi_J9_abs_0f7a4 ms_J9_abs_0f7a4 lk_X3_90 rfl rfl (Nat.le_of_ble_eq_true rfl) ⟨by decide, by decide⟩ hab dX3_jitter_46 ?_
            refine g_iadd (pc := 49) hC dX3_jitter_49 ?_
            obtain ⟨v12, ev12, h⟩ := lt_e h
            refine g_top ev12 ?_
            refine g_istore_n (lv2 := [some (.ref (E.2.1 44)), some (.int v12), some (.int w2)]) (pc := 50) hC dX3_jitter_50 rfl (Or.inr rfl) (hN _ (by decide)) ?_
            exact hJ51 v12 h
  obtain ⟨z1, hz1, h⟩ := lp_e h
  refine hL1 FU 0 0 z1 hz1 (fun v3 ez => ?_)
  replace h : C_X3_jitter_4 v3 = some r := by rw [ez] at h; exact h
  delta C_X3_jitter_4 at h
  refine g_iload_n (pc := 57) hC dX3_jitter_57 rfl ?_
  exact g_retp (pc := 58) hC h hR dX3_jitter_58
set_option maxRecDepth 20000 in
theorem c_X3_shimmer (l : Launch) (E : uE) (σ : uS) (r : Int32) (h : F_X3_shimmer σ = some r) : CtI l E yX3_shimmer cX3_shimmer 3 (some .int) 2 42 [.ref (E.2.1 44)] σ r σ := by
  refine enterI 2 [some (.ref (E.2.1 44)), none, none] (by decide +kernel) rfl (Nat.le_of_ble_eq_true rfl) (fun o K hnL hC hab hR => ?_)
  have hC : Cx E K RX3 cX3_shimmer (some .int) 2 42 := hC
  have hN : ∀ k, k < 3 → k < K.2.2.2.2.2 := fun k hk => hnL ▸ hk
  delta F_X3_shimmer at h
  refine g_iconst (pc := 0) hC ki_0 dX3_shimmer_0 ?_
  refine g_istore_n (lv2 := [some (.ref (E.2.1 44)), some (.int 0), none]) (pc := 1) hC dX3_shimmer_1 rfl (Or.inr rfl) (hN _ (by decide)) ?_
  refine g_iconst (pc := 2) hC ki_0 dX3_shimmer_2 ?_
  refine g_istore_n (lv2 := [some (.ref (E.2.1 44)), some (.int 0), some (.int 0)]) (pc := 3) hC dX3_shimmer_3 rfl (Or.inr rfl) (hN _ (by decide)) ?_
  have hL1 : ∀ (n : Nat) (w1 : Int32) (w2 : Int32) (z1 : Int32), iter n (fun z => B_X3_shimmer_3 σ z.1 z.2) (w1, w2) = some z1 → (∀ (v3 : Int32), z1 = v3 → Gd l E K 0 0 o σ 60 [none, some (.int v3), none] []) → Gd l E K 0 0 o σ 4 [some (.ref (E.2.1 44)), some (.int w1), some (.int w2)] [] := by
    intro n
    induction n with
    | zero =>
      intro w1 w2 z1 hi
      exact (iter_0 hi).elim
    | succ n ih1 =>
      intro w1 w2 z1 hi1 kx1
      obtain ⟨r1, h, hi1⟩ := iter_s hi1
      replace h : B_X3_shimmer_3 σ w1 w2 = some r1 := h
      delta B_X3_shimmer_3 at h
      refine g_iload_n (pc := 4) hC dX3_shimmer_4 rfl ?_
      refine g_aload_n (pc := 5) hC dX3_shimmer_5 rfl ?_
      refine fg_X3_42_44 (pc := 6) hC dX3_shimmer_6 ?_
      refine g_icmp_ge (tgt := 60) (pc := 9) hC dX3_shimmer_9 (by decide) (fun c4 => ?_) (fun c4 => ?_)
      · replace h := it_t c4 h
        refine g_mask [false, true, false] rfl ?_
        exact kx1 w1 (iter_r h hi1)
      · replace h := it_f c4 h
        refine g_aload_n (pc := 12) hC dX3_shimmer_12 rfl ?_
        refine g_iload_n (pc := 13) hC dX3_shimmer_13 rfl ?_
        obtain ⟨v5, hc, h⟩ := cp_e h
        refine g_callVi (pc := 14) (As := [.int w2]) (rest := []) hC (c_X3_gapBehind l E w2 σ v5 hc) mi_X3_gapBehind mv_X3_gapBehind ob_44 rfl rfl lk_X3_83 rfl rfl (Nat.le_of_ble_eq_true rfl) ⟨by decide, by decide⟩ hab dX3_shimmer_14 ?_
        refine g_iconst (pc := 17) hC ki_m1 dX3_shimmer_17 ?_
        have hJ54 : ∀ (v13 : Int32), J_X3_shimmer_2 w2 v13 = some r1 → Gd l E K 0 0 o σ 54 [some (.ref (E.2.1 44)), some (.int v13), some (.int w2)] [] := by
          intro v13 h
          delta J_X3_shimmer_2 at h
          obtain ⟨v14, ev14, h⟩ := lt_e h
          refine g_iinc (v := v14) (lv2 := [some (.ref (E.2.1 44)), some (.int v13), some (.int v14)]) (pc := 54) hC dX3_shimmer_54 rfl ev14 rfl (Or.inr rfl) (hN _ (by decide)) ?_
          refine g_goto (tgt := 4) (pc := 57) hC dX3_shimmer_57 (by decide) ?_
          exact ih1 v13 v14 z1 (iter_l h hi1) kx1
        refine g_icmp_eq (tgt := 54) (pc := 18) hC dX3_shimmer_18 (by decide) (fun c6 => ?_) (fun c6 => ?_)
        · replace h := it_t c6 h
          exact hJ54 w1 h
        · replace h := it_f c6 h
          refine g_iload_n (pc := 21) hC dX3_shimmer_21 rfl ?_
          refine g_aload_n (pc := 22) hC dX3_shimmer_22 rfl ?_
          refine fg_X3_34_44 (pc := 23) hC dX3_shimmer_23 ?_
          refine g_aload_n (pc := 26) hC dX3_shimmer_26 rfl ?_
          refine g_iload_n (pc := 27) hC dX3_shimmer_27 rfl ?_
          refine g_iconst (pc := 28) hC ki_1 dX3_shimmer_28 ?_
          refine g_iadd (pc := 29) hC dX3_shimmer_29 ?_
          obtain ⟨v7, hc, h⟩ := cp_e h
          refine g_callVi (pc := 30) (As := [.int (w2 + 1)]) (rest := [.ref (E.2.1 1), .int w1]) hC (c_X3_at l E (w2 + 1) σ v7 hc) mi_X3_at mv_X3_at ob_44 rfl rfl lk_X3_74 rfl rfl (Nat.le_of_ble_eq_true rfl) ⟨by decide, by decide⟩ hab dX3_shimmer_30 ?_
          obtain ⟨v8, hc, h⟩ := cp_e h
          refine g_callVi (pc := 33) (As := [.int v7]) (rest := [.int w1]) hC (c_X7_at l E v7 σ v8 hc) mi_X7_at mv_X7_at ob_1 rfl rfl lk_X3_92 rfl rfl (Nat.le_of_ble_eq_true rfl) ⟨by decide, by decide⟩ hab dX3_shimmer_33 ?_
          refine g_aload_n (pc := 36) hC dX3_shimmer_36 rfl ?_
          refine fg_X3_34_44 (pc := 37) hC dX3_shimmer_37 ?_
          refine g_aload_n (pc := 40) hC dX3_shimmer_40 rfl ?_
          refine g_iload_n (pc := 41) hC dX3_shimmer_41 rfl ?_
          obtain ⟨v9, hc, h⟩ := cp_e h
          refine g_callVi (pc := 42) (As := [.int w2]) (rest := [.ref (E.2.1 1), .int v8, .int w1]) hC (c_X3_at l E w2 σ v9 hc) mi_X3_at mv_X3_at ob_44 rfl rfl lk_X3_74 rfl rfl (Nat.le_of_ble_eq_true rfl) ⟨by decide, by decide⟩ hab dX3_shimmer_42 ?_
          obtain ⟨v10, hc, h⟩ := cp_e h
          refine g_callVi (pc := 45) (As := [.int v9]) (rest := [.int v8, .int w1]) hC (c_X7_at l E v9 σ v10 hc) mi_X7_at mv_X7_at ob_1 rfl rfl lk_X3_92 rfl rfl (Nat.le_of_ble_eq_true rfl) ⟨by decide, by decide⟩ hab dX3_shimmer_45 ?_
          refine g_isub (pc := 48) hC dX3_shimmer_48 ?_
          obtain ⟨v11, hc, h⟩ := cp_e h
          refine g_callSi (pc := 49) (As := [.int (v8 - v10)]) (rest := [.int w1]) hC (c_J9_abs_0f7a4 l E (v8 - v10) σ v11 hc) mi_J9_abs_0f7a4 ms_J9_abs_0f7a4 lk_X3_90 rfl rfl (Nat.le_of_ble_eq_true rfl) ⟨by decide, by decide⟩ hab dX3_shimmer_49 ?_
          refine g_iadd (pc := 52) hC dX3_shimmer_52 ?_
          obtain ⟨v12, ev12, h⟩ := lt_e h
          refine g_top ev12 ?_
          refine g_istore_n (lv2 := [some (.ref (E.2.1 44)), some (.int v12), some (.int w2)]) (pc := 53) hC dX3_shimmer_53 rfl (Or.inr rfl) (hN _ (by decide)) ?_
          exact hJ54 v12 h
  obtain ⟨z1, hz1, h⟩ := lp_e h
  refine hL1 FU 0 0 z1 hz1 (fun v3 ez => ?_)
  replace h : C_X3_shimmer_4 v3 = some r := by rw [ez] at h; exact h
  delta C_X3_shimmer_4 at h
  refine g_iload_n (pc := 60) hC dX3_shimmer_60 rfl ?_
  exact g_retp (pc := 61) hC h hR dX3_shimmer_61
set_option maxRecDepth 20000 in
theorem c_X3_roughness (l : Launch) (E : uE) (a1 : Int32) (σ : uS) (r : Int32) (h : F_X3_roughness a1 σ = some r) : CtI l E yX3_roughness cX3_roughness 5 (some .int) 2 42 [.ref (E.2.1 44), .int a1] σ r σ := by
  refine enterI 3 [some (.ref (E.2.1 44)), some (.int a1), none, none, none] (by decide +kernel) rfl (Nat.le_of_ble_eq_true rfl) (fun o K hnL hC hab hR => ?_)
  have hC : Cx E K RX3 cX3_roughness (some .int) 2 42 := hC
  have hN : ∀ k, k < 5 → k < K.2.2.2.2.2 := fun k hk => hnL ▸ hk
  delta F_X3_roughness at h
  refine g_aload_n (pc := 0) hC dX3_roughness_0 rfl ?_
  refine g_iload_n (pc := 1) hC dX3_roughness_1 rfl ?_
  obtain ⟨v1, hc, h⟩ := cp_e h
  refine g_callVi (pc := 2) (As := [.int a1]) (rest := []) hC (c_X3_gapBehind l E a1 σ v1 hc) mi_X3_gapBehind mv_X3_gapBehind ob_44 rfl rfl lk_X3_83 rfl rfl (Nat.le_of_ble_eq_true rfl) ⟨by decide, by decide⟩ hab dX3_roughness_2 ?_
  refine g_istore_n (lv2 := [some (.ref (E.2.1 44)), some (.int a1), some (.int v1), none, none]) (pc := 5) hC dX3_roughness_5 rfl (Or.inr rfl) (hN _ (by decide)) ?_
  refine g_iconst (pc := 6) hC ki_0 dX3_roughness_6 ?_
  refine g_istore_n (lv2 := [some (.ref (E.2.1 44)), some (.int a1), some (.int v1), some (.int 0), none]) (pc := 7) hC dX3_roughness_7 rfl (Or.inr rfl) (hN _ (by decide)) ?_
  refine g_iconst (pc := 8) hC ki_0 dX3_roughness_8 ?_
  refine g_istore (lv2 := [some (.ref (E.2.1 44)), some (.int a1), some (.int v1), some (.int 0), some (.int 0)]) (pc := 9) hC dX3_roughness_9 rfl (Or.inr rfl) (hN _ (by decide)) ?_
  have hL1 : ∀ (n : Nat) (w2 : Int32) (w3 : Int32) (z1 : Int32), iter n (fun z => B_X3_roughness_2 a1 v1 σ z.1 z.2) (w2, w3) = some z1 → (∀ (v4 : Int32), z1 = v4 → Gd l E K 0 0 o σ 62 [none, none, some (.int v1), some (.int v4), none] []) → Gd l E K 0 0 o σ 11 [some (.ref (E.2.1 44)), some (.int a1), some (.int v1), some (.int w2), some (.int w3)] [] := by
    intro n
    induction n with
    | zero =>
      intro w2 w3 z1 hi
      exact (iter_0 hi).elim
    | succ n ih1 =>
      intro w2 w3 z1 hi1 kx1
      obtain ⟨r1, h, hi1⟩ := iter_s hi1
      replace h : B_X3_roughness_2 a1 v1 σ w2 w3 = some r1 := h
      delta B_X3_roughness_2 at h
      refine g_iload (pc := 11) hC dX3_roughness_11 rfl ?_
      refine g_iload_n (pc := 13) hC dX3_roughness_13 rfl ?_
      refine g_icmp_ge (tgt := 62) (pc := 14) hC dX3_roughness_14 (by decide) (fun c5 => ?_) (fun c5 => ?_)
      · replace h := it_t c5 h
        refine g_mask [false, false, true, true, false] rfl ?_
        exact kx1 w2 (iter_r h hi1)
      · replace h := it_f c5 h
        refine g_iload_n (pc := 17) hC dX3_roughness_17 rfl ?_
        refine g_aload_n (pc := 18) hC dX3_roughness_18 rfl ?_
        refine fg_X3_34_44 (pc := 19) hC dX3_roughness_19 ?_
        refine g_aload_n (pc := 22) hC dX3_roughness_22 rfl ?_
        refine g_iload_n (pc := 23) hC dX3_roughness_23 rfl ?_
        obtain ⟨v6, hc, h⟩ := cp_e h
        refine g_callVi (pc := 24) (As := [.int a1]) (rest := [.ref (E.2.1 1), .int w2]) hC (c_X3_at l E a1 σ v6 hc) mi_X3_at mv_X3_at ob_44 rfl rfl lk_X3_74 rfl rfl (Nat.le_of_ble_eq_true rfl) ⟨by decide, by decide⟩ hab dX3_roughness_24 ?_
        refine g_iload (pc := 27) hC dX3_roughness_27 rfl ?_
        refine g_iadd (pc := 29) hC dX3_roughness_29 ?_
        obtain ⟨v7, hc, h⟩ := cp_e h
        refine g_callVi (pc := 30) (As := [.int (v6 + w3)]) (rest := [.int w2]) hC (c_X7_at l E (v6 + w3) σ v7 hc) mi_X7_at mv_X7_at ob_1 rfl rfl lk_X3_92 rfl rfl (Nat.le_of_ble_eq_true rfl) ⟨by decide, by decide⟩ hab dX3_roughness_30 ?_
        refine g_aload_n (pc := 33) hC dX3_roughness_33 rfl ?_
        refine fg_X3_34_44 (pc := 34) hC dX3_roughness_34 ?_
        refine g_aload_n (pc := 37) hC dX3_roughness_37 rfl ?_
        refine g_iload_n (pc := 38) hC dX3_roughness_38 rfl ?_
        refine g_iconst (pc := 39) hC ki_1 dX3_roughness_39 ?_
        refine g_iadd (pc := 40) hC dX3_roughness_40 ?_
        obtain ⟨v8, hc, h⟩ := cp_e h
        refine g_callVi (pc := 41) (As := [.int (a1 + 1)]) (rest := [.ref (E.2.1 1), .int v7, .int w2]) hC (c_X3_at l E (a1 + 1) σ v8 hc) mi_X3_at mv_X3_at ob_44 rfl rfl lk_X3_74 rfl rfl (Nat.le_of_ble_eq_true rfl) ⟨by decide, by decide⟩ hab dX3_roughness_41 ?_
        refine g_iload (pc := 44) hC dX3_roughness_44 rfl ?_
        refine g_iadd (pc := 46) hC dX3_roughness_46 ?_
        obtain ⟨v9, hc, h⟩ := cp_e h
        refine g_callVi (pc := 47) (As := [.int (v8 + w3)]) (rest := [.int v7, .int w2]) hC (c_X7_at l E (v8 + w3) σ v9 hc) mi_X7_at mv_X7_at ob_1 rfl rfl lk_X3_92 rfl rfl (Nat.le_of_ble_eq_true rfl) ⟨by decide, by decide⟩ hab dX3_roughness_47 ?_
        refine g_isub (pc := 50) hC dX3_roughness_50 ?_
        obtain ⟨v10, hc, h⟩ := cp_e h
        refine g_callSi (pc := 51) (As := [.int (v7 - v9)]) (rest := [.int w2]) hC (c_J9_abs_0f7a4 l E (v7 - v9) σ v10 hc) mi_J9_abs_0f7a4 ms_J9_abs_0f7a4 lk_X3_90 rfl rfl (Nat.le_of_ble_eq_true rfl) ⟨by decide, by decide⟩ hab dX3_roughness_51 ?_
        refine g_iadd (pc := 54) hC dX3_roughness_54 ?_
        obtain ⟨v11, ev11, h⟩ := lt_e h
        refine g_top ev11 ?_
        refine g_istore_n (lv2 := [some (.ref (E.2.1 44)), some (.int a1), some (.int v1), some (.int v11), some (.int w3)]) (pc := 55) hC dX3_roughness_55 rfl (Or.inr rfl) (hN _ (by decide)) ?_
        obtain ⟨v12, ev12, h⟩ := lt_e h
        refine g_iinc (v := v12) (lv2 := [some (.ref (E.2.1 44)), some (.int a1), some (.int v1), some (.int v11), some (.int v12)]) (pc := 56) hC dX3_roughness_56 rfl ev12 rfl (Or.inr rfl) (hN _ (by decide)) ?_
        refine g_goto (tgt := 11) (pc := 59) hC dX3_roughness_59 (by decide) ?_
        exact ih1 v11 v12 z1 (iter_l h hi1) kx1
  obtain ⟨z1, hz1, h⟩ := lp_e h
  refine hL1 FU 0 0 z1 hz1 (fun v4 ez => ?_)
  replace h : C_X3_roughness_3 v1 v4 = some r := by rw [ez] at h; exact h
  delta C_X3_roughness_3 at h
  refine g_iload_n (pc := 62) hC dX3_roughness_62 rfl ?_
  refine g_iconst (pc := 63) hC ki_m1 dX3_roughness_63 ?_
  obtain ⟨v14, ev14, h⟩ := lt_e h
  have hJ72 : Gd l E K 0 0 o σ 72 [none, none, none, none, none] [.int v14] := by
    exact g_retp (pc := 72) hC h hR dX3_roughness_72
  refine g_icmp_ne (tgt := 71) (pc := 64) hC dX3_roughness_64 (by decide) (fun c13 => ?_) (fun c13 => ?_)
  · refine g_iload_n (pc := 71) hC dX3_roughness_71 rfl ?_
    refine g_mask [false, false, false, false, false] rfl ?_
    exact g_top (iv_f c13 ev14) hJ72
  · refine g_iconst (pc := 67) hC ki_m1 dX3_roughness_67 ?_
    refine g_goto (tgt := 72) (pc := 68) hC dX3_roughness_68 (by decide) ?_
    refine g_mask [false, false, false, false, false] rfl ?_
    exact g_top (iv_t c13 ev14) hJ72
set_option maxRecDepth 20000 in
theorem c_X3_grasp (l : Launch) (E : uE) (a1 : Int32) (σ : uS) (r : Int32) (h : F_X3_grasp a1 σ = some r) : CtI l E yX3_grasp cX3_grasp 2 (some .int) 3 64 [.ref (E.2.1 44), .int a1] σ r σ := by
  refine enterI 0 [some (.ref (E.2.1 44)), some (.int a1)] (by decide +kernel) rfl (Nat.le_of_ble_eq_true rfl) (fun o K hnL hC hab hR => ?_)
  have hC : Cx E K RX3 cX3_grasp (some .int) 3 64 := hC
  have hN : ∀ k, k < 2 → k < K.2.2.2.2.2 := fun k hk => hnL ▸ hk
  delta F_X3_grasp at h
  refine g_aload_n (pc := 0) hC dX3_grasp_0 rfl ?_
  refine g_iload_n (pc := 1) hC dX3_grasp_1 rfl ?_
  obtain ⟨v1, hc, h⟩ := cp_e h
  refine g_callVi (pc := 2) (As := [.int a1]) (rest := []) hC (c_X3_gapBehind l E a1 σ v1 hc) mi_X3_gapBehind mv_X3_gapBehind ob_44 rfl rfl lk_X3_83 rfl rfl (Nat.le_of_ble_eq_true rfl) ⟨by decide, by decide⟩ hab dX3_grasp_2 ?_
  refine g_iconst (pc := 5) hC ki_m1 dX3_grasp_5 ?_
  refine g_icmp_eq (tgt := 15) (pc := 6) hC dX3_grasp_6 (by decide) (fun c2 => ?_) (fun c2 => ?_)
  · replace h := it_t c2 h
    refine g_aload_n (pc := 15) hC dX3_grasp_15 rfl ?_
    refine g_iload_n (pc := 16) hC dX3_grasp_16 rfl ?_
    refine g_iconst (pc := 17) hC ki_1 dX3_grasp_17 ?_
    refine g_isub (pc := 18) hC dX3_grasp_18 ?_
    obtain ⟨v3, hc, h⟩ := cp_e h
    refine g_callVi (pc := 19) (As := [.int (a1 - 1)]) (rest := []) hC (c_X3_gapBehind l E (a1 - 1) σ v3 hc) mi_X3_gapBehind mv_X3_gapBehind ob_44 rfl rfl lk_X3_83 rfl rfl (Nat.le_of_ble_eq_true rfl) ⟨by decide, by decide⟩ hab dX3_grasp_19 ?_
    refine g_iconst (pc := 22) hC ki_m1 dX3_grasp_22 ?_
    have hJ48 : ∀ (v8 : Int32), J_X3_grasp_1 v8 = some r → Gd l E K 0 0 o σ 48 [none, none] [.int v8] := by
      intro v8 h
      delta J_X3_grasp_1 at h
      exact g_retp (pc := 48) hC h hR dX3_grasp_48
    refine g_icmp_eq (tgt := 36) (pc := 23) hC dX3_grasp_23 (by decide) (fun c4 => ?_) (fun c4 => ?_)
    · replace h := it_t c4 h
      refine g_aload_n (pc := 36) hC dX3_grasp_36 rfl ?_
      refine fg_X3_30_44 (pc := 37) hC dX3_grasp_37 ?_
      refine g_aload_n (pc := 40) hC dX3_grasp_40 rfl ?_
      refine g_iload_n (pc := 41) hC dX3_grasp_41 rfl ?_
      obtain ⟨v5, hc, h⟩ := cp_e h
      refine g_callVi (pc := 42) (As := [.int a1]) (rest := [.ref (E.2.1 34)]) hC (c_X3_at l E a1 σ v5 hc) mi_X3_at mv_X3_at ob_44 rfl rfl lk_X3_74 rfl rfl (Nat.le_of_ble_eq_true rfl) ⟨by decide, by decide⟩ hab dX3_grasp_42 ?_
      obtain ⟨v6, hc, h⟩ := cp_e h
      refine g_callVi (pc := 45) (As := [.int v5]) (rest := []) hC (c_X8_lagAtSample l E v5 σ v6 hc) mi_X8_lagAtSample mv_X8_lagAtSample ob_34 rfl rfl lk_X3_108 rfl rfl (Nat.le_of_ble_eq_true rfl) ⟨by decide, by decide⟩ hab dX3_grasp_45 ?_
      refine g_mask [false, false] rfl ?_
      exact hJ48 v6 h
    · replace h := it_f c4 h
      refine g_aload_n (pc := 26) hC dX3_grasp_26 rfl ?_
      refine g_iload_n (pc := 27) hC dX3_grasp_27 rfl ?_
      refine g_iconst (pc := 28) hC ki_1 dX3_grasp_28 ?_
      refine g_isub (pc := 29) hC dX3_grasp_29 ?_
      obtain ⟨v7, hc, h⟩ := cp_e h
      refine g_callVi (pc := 30) (As := [.int (a1 - 1)]) (rest := []) hC (c_X3_gapBehind l E (a1 - 1) σ v7 hc) mi_X3_gapBehind mv_X3_gapBehind ob_44 rfl rfl lk_X3_83 rfl rfl (Nat.le_of_ble_eq_true rfl) ⟨by decide, by decide⟩ hab dX3_grasp_30 ?_
      refine g_goto (tgt := 48) (pc := 33) hC dX3_grasp_33 (by decide) ?_
      refine g_mask [false, false] rfl ?_
      exact hJ48 v7 h
  · replace h := it_f c2 h
    refine g_aload_n (pc := 9) hC dX3_grasp_9 rfl ?_
    refine g_iload_n (pc := 10) hC dX3_grasp_10 rfl ?_
    obtain ⟨v9, hc, h⟩ := cp_e h
    refine g_callVi (pc := 11) (As := [.int a1]) (rest := []) hC (c_X3_gapBehind l E a1 σ v9 hc) mi_X3_gapBehind mv_X3_gapBehind ob_44 rfl rfl lk_X3_83 rfl rfl (Nat.le_of_ble_eq_true rfl) ⟨by decide, by decide⟩ hab dX3_grasp_11 ?_
    exact g_retp (pc := 14) hC h hR dX3_grasp_14
set_option maxRecDepth 20000 in
theorem c_X3_renewed (l : Launch) (E : uE) (a1 : Int32) (a2 : Int32) (a3 : Int32) (σ : uS) (r : Int32) (h : F_X3_renewed a1 a2 a3 σ = some r) : CtI l E yX3_renewed cX3_renewed 14 (some .int) 4 85 [.ref (E.2.1 44), .int a1, .int a2, .int a3] σ r σ := by
  refine enterI 10 [some (.ref (E.2.1 44)), some (.int a1), some (.int a2), some (.int a3), none, none, none, none, none, none, none, none, none, none] (by decide +kernel) rfl (Nat.le_of_ble_eq_true rfl) (fun o K hnL hC hab hR => ?_)
  have hC : Cx E K RX3 cX3_renewed (some .int) 4 85 := hC
  have hN : ∀ k, k < 14 → k < K.2.2.2.2.2 := fun k hk => hnL ▸ hk
  delta F_X3_renewed at h
  refine g_aload_n (pc := 0) hC dX3_renewed_0 rfl ?_
  refine fg_X3_30_44 (pc := 1) hC dX3_renewed_1 ?_
  refine g_iload_n (pc := 4) hC dX3_renewed_4 rfl ?_
  obtain ⟨v1, hc, h⟩ := cp_e h
  refine g_callVi (pc := 5) (As := [.int a3]) (rest := []) hC (c_X8_ofSample l E a3 σ v1 hc) mi_X8_ofSample mv_X8_ofSample ob_34 rfl rfl lk_X3_95 rfl rfl (Nat.le_of_ble_eq_true rfl) ⟨by decide, by decide⟩ hab dX3_renewed_5 ?_
  refine g_istore (lv2 := [some (.ref (E.2.1 44)), some (.int a1), some (.int a2), some (.int a3), some (.int v1), none, none, none, none, none, none, none, none, none]) (pc := 8) hC dX3_renewed_8 rfl (Or.inr rfl) (hN _ (by decide)) ?_
  refine g_aload_n (pc := 10) hC dX3_renewed_10 rfl ?_
  refine fg_X3_30_44 (pc := 11) hC dX3_renewed_11 ?_
  refine g_iload (pc := 14) hC dX3_renewed_14 rfl ?_
  obtain ⟨v2, hc, h⟩ := cp_e h
  refine g_callVi (pc := 16) (As := [.int v1]) (rest := []) hC (c_X8_isVoiced l E v1 σ v2 hc) mi_X8_isVoiced mv_X8_isVoiced ob_34 rfl rfl lk_X3_51 rfl rfl (Nat.le_of_ble_eq_true rfl) ⟨by decide, by decide⟩ hab dX3_renewed_16 ?_
  refine g_if_ne (tgt := 31) (pc := 19) hC dX3_renewed_19 (by decide) (fun c3 => ?_) (fun c3 => ?_)
  · replace h := it_f c3 h
    refine g_aload_n (pc := 31) hC dX3_renewed_31 rfl ?_
    refine fg_X3_24_44 (pc := 32) hC dX3_renewed_32 ?_
    refine g_iload (pc := 35) hC dX3_renewed_35 rfl ?_
    obtain ⟨v4, ev4, nv4, h⟩ := rd_e h
    refine g_iald (pc := 37) hC 49 (by decide) (ar_49 _ _ _) nv4 dX3_renewed_37 ?_
    refine g_top ev4 ?_
    refine g_istore (lv2 := [some (.ref (E.2.1 44)), some (.int a1), some (.int a2), some (.int a3), some (.int v1), some (.int v4), none, none, none, none, none, none, none, none]) (pc := 38) hC dX3_renewed_38 rfl (Or.inr rfl) (hN _ (by decide)) ?_
    refine g_aload_n (pc := 40) hC dX3_renewed_40 rfl ?_
    refine fg_X3_24_44 (pc := 41) hC dX3_renewed_41 ?_
    refine g_iload (pc := 44) hC dX3_renewed_44 rfl ?_
    refine g_iconst (pc := 46) hC ki_1 dX3_renewed_46 ?_
    refine g_iadd (pc := 47) hC dX3_renewed_47 ?_
    obtain ⟨v5, ev5, nv5, h⟩ := rd_e h
    refine g_iald (pc := 48) hC 49 (by decide) (ar_49 _ _ _) nv5 dX3_renewed_48 ?_
    refine g_top ev5 ?_
    refine g_istore (lv2 := [some (.ref (E.2.1 44)), some (.int a1), some (.int a2), some (.int a3), some (.int v1), some (.int v4), some (.int v5), none, none, none, none, none, none, none]) (pc := 49) hC dX3_renewed_49 rfl (Or.inr rfl) (hN _ (by decide)) ?_
    refine g_aload_n (pc := 51) hC dX3_renewed_51 rfl ?_
    refine fg_X3_30_44 (pc := 52) hC dX3_renewed_52 ?_
    refine g_iload (pc := 55) hC dX3_renewed_55 rfl ?_
    obtain ⟨v6, hc, h⟩ := cp_e h
    refine g_callVi (pc := 57) (As := [.int v1]) (rest := []) hC (c_X8_to l E v1 σ v6 hc) mi_X8_to mv_X8_to ob_34 rfl rfl lk_X3_59 rfl rfl (Nat.le_of_ble_eq_true rfl) ⟨by decide, by decide⟩ hab dX3_renewed_57 ?_
    refine g_istore (lv2 := [some (.ref (E.2.1 44)), some (.int a1), some (.int a2), some (.int a3), some (.int v1), some (.int v4), some (.int v5), some (.int v6), none, none, none, none, none, none]) (pc := 60) hC dX3_renewed_60 rfl (Or.inr rfl) (hN _ (by decide)) ?_
    refine g_iconst (pc := 62) hC ki_0 dX3_renewed_62 ?_
    refine g_istore (lv2 := [some (.ref (E.2.1 44)), some (.int a1), some (.int a2), some (.int a3), some (.int v1), some (.int v4), some (.int v5), some (.int v6), some (.int 0), none, none, none, none, none]) (pc := 63) hC dX3_renewed_63 rfl (Or.inr rfl) (hN _ (by decide)) ?_
    refine g_aload_n (pc := 65) hC dX3_renewed_65 rfl ?_
    refine g_iload (pc := 66) hC dX3_renewed_66 rfl ?_
    obtain ⟨v7, hc, h⟩ := cp_e h
    refine g_callVi (pc := 68) (As := [.int v4]) (rest := []) hC (c_X3_at l E v4 σ v7 hc) mi_X3_at mv_X3_at ob_44 rfl rfl lk_X3_74 rfl rfl (Nat.le_of_ble_eq_true rfl) ⟨by decide, by decide⟩ hab dX3_renewed_68 ?_
    refine g_istore (lv2 := [some (.ref (E.2.1 44)), some (.int a1), some (.int a2), some (.int a3), some (.int v1), some (.int v4), some (.int v5), some (.int v6), some (.int 0), some (.int v7), none, none, none, none]) (pc := 71) hC dX3_renewed_71 rfl (Or.inr rfl) (hN _ (by decide)) ?_
    refine g_iconst (pc := 73) hC ki_0 dX3_renewed_73 ?_
    refine g_istore (lv2 := [some (.ref (E.2.1 44)), some (.int a1), some (.int a2), some (.int a3), some (.int v1), some (.int v4), some (.int v5), some (.int v6), some (.int 0), some (.int v7), some (.int 0), none, none, none]) (pc := 74) hC dX3_renewed_74 rfl (Or.inr rfl) (hN _ (by decide)) ?_
    have hL1 : ∀ (n : Nat) (w8 : Int32) (w9 : Int32) (w10 : Int32) (z1 : Int32), iter n (fun z => B_X3_renewed_3 a1 a2 a3 v4 v5 v6 σ z.1 z.2.1 z.2.2) (w8, w9, w10) = some z1 → (∀ (v11 : Int32), z1 = v11 → Gd l E K 0 0 o σ 184 [none, none, none, none, none, none, none, none, some (.int v11), none, none, none, none, none] []) → Gd l E K 0 0 o σ 76 [some (.ref (E.2.1 44)), some (.int a1), some (.int a2), some (.int a3), none, some (.int v4), some (.int v5), some (.int v6), some (.int w8), some (.int w9), some (.int w10), none, none, none] [] := by
      intro n
      induction n with
      | zero =>
        intro w8 w9 w10 z1 hi
        exact (iter_0 hi).elim
      | succ n ih1 =>
        intro w8 w9 w10 z1 hi1 kx1
        obtain ⟨r1, h, hi1⟩ := iter_s hi1
        replace h : B_X3_renewed_3 a1 a2 a3 v4 v5 v6 σ w8 w9 w10 = some r1 := h
        delta B_X3_renewed_3 at h
        refine g_iload (pc := 76) hC dX3_renewed_76 rfl ?_
        refine g_sipush (pc := 78) hC ks_800 dX3_renewed_78 ?_
        refine g_icmp_ge (tgt := 184) (pc := 81) hC dX3_renewed_81 (by decide) (fun c12 => ?_) (fun c12 => ?_)
        · replace h := it_t c12 h
          refine g_mask [false, false, false, false, false, false, false, false, true, false, false, false, false, false] rfl ?_
          exact kx1 w8 (iter_r h hi1)
        · replace h := it_f c12 h
          refine g_iload (pc := 84) hC dX3_renewed_84 rfl ?_
          refine g_iload (pc := 86) hC dX3_renewed_86 rfl ?_
          refine g_icmp_ge (tgt := 184) (pc := 88) hC dX3_renewed_88 (by decide) (fun c13 => ?_) (fun c13 => ?_)
          · replace h := it_t c13 h
            refine g_mask [false, false, false, false, false, false, false, false, true, false, false, false, false, false] rfl ?_
            exact kx1 w8 (iter_r h hi1)
          · replace h := it_f c13 h
            refine g_aload_n (pc := 91) hC dX3_renewed_91 rfl ?_
            refine g_iload (pc := 92) hC dX3_renewed_92 rfl ?_
            refine g_iload (pc := 94) hC dX3_renewed_94 rfl ?_
            refine g_iload (pc := 96) hC dX3_renewed_96 rfl ?_
            obtain ⟨v14, hc, h⟩ := cp_e h
            refine g_callVi (pc := 98) (As := [.int w9, .int v4, .int v5]) (rest := []) hC (c_X3_nearest l E w9 v4 v5 σ v14 hc) mi_X3_nearest mv_X3_nearest ob_44 rfl rfl lk_X3_98 rfl rfl (Nat.le_of_ble_eq_true rfl) ⟨by decide, by decide⟩ hab dX3_renewed_98 ?_
            refine g_istore (lv2 := [some (.ref (E.2.1 44)), some (.int a1), some (.int a2), some (.int a3), none, some (.int v4), some (.int v5), some (.int v6), some (.int w8), some (.int w9), some (.int w10), some (.int v14), none, none]) (pc := 101) hC dX3_renewed_101 rfl (Or.inr rfl) (hN _ (by decide)) ?_
            refine g_aload_n (pc := 103) hC dX3_renewed_103 rfl ?_
            refine g_iload (pc := 104) hC dX3_renewed_104 rfl ?_
            obtain ⟨v15, hc, h⟩ := cp_e h
            refine g_callVi (pc := 106) (As := [.int v14]) (rest := []) hC (c_X3_grasp l E v14 σ v15 hc) mi_X3_grasp mv_X3_grasp ob_44 rfl rfl lk_X3_102 rfl rfl (Nat.le_of_ble_eq_true rfl) ⟨by decide, by decide⟩ hab dX3_renewed_106 ?_
            refine g_istore (lv2 := [some (.ref (E.2.1 44)), some (.int a1), some (.int a2), some (.int a3), none, some (.int v4), some (.int v5), some (.int v6), some (.int w8), some (.int w9), some (.int w10), some (.int v14), some (.int v15), none]) (pc := 109) hC dX3_renewed_109 rfl (Or.inr rfl) (hN _ (by decide)) ?_
            refine g_iload (pc := 111) hC dX3_renewed_111 rfl ?_
            refine g_iload_n (pc := 113) hC dX3_renewed_113 rfl ?_
            refine g_isub (pc := 114) hC dX3_renewed_114 ?_
            obtain ⟨v16, hc, h⟩ := cp_e h
            refine g_callSi (pc := 115) (As := [.int (w9 - a3)]) (rest := []) hC (c_J9_abs_0f7a4 l E (w9 - a3) σ v16 hc) mi_J9_abs_0f7a4 ms_J9_abs_0f7a4 lk_X3_90 rfl rfl (Nat.le_of_ble_eq_true rfl) ⟨by decide, by decide⟩ hab dX3_renewed_115 ?_
            refine g_istore (lv2 := [some (.ref (E.2.1 44)), some (.int a1), some (.int a2), some (.int a3), none, some (.int v4), some (.int v5), some (.int v6), some (.int w8), some (.int w9), some (.int w10), some (.int v14), some (.int v15), some (.int v16)]) (pc := 118) hC dX3_renewed_118 rfl (Or.inr rfl) (hN _ (by decide)) ?_
            refine g_iload (pc := 120) hC dX3_renewed_120 rfl ?_
            refine g_iload (pc := 122) hC dX3_renewed_122 rfl ?_
            have hJ161 : ∀ (v22 : Int32), J_X3_renewed_2 a1 a2 v15 w9 w10 σ v22 = some r1 → Gd l E K 0 0 o σ 161 [some (.ref (E.2.1 44)), some (.int a1), some (.int a2), some (.int a3), none, some (.int v4), some (.int v5), some (.int v6), some (.int v22), some (.int w9), some (.int w10), none, some (.int v15), none] [] := by
              intro v22 h
              delta J_X3_renewed_2 at h
              refine g_iload (pc := 161) hC dX3_renewed_161 rfl ?_
              refine g_iconst (pc := 163) hC ki_1 dX3_renewed_163 ?_
              refine g_iload (pc := 164) hC dX3_renewed_164 rfl ?_
              refine g_iload_n (pc := 166) hC dX3_renewed_166 rfl ?_
              refine g_imul (pc := 167) hC dX3_renewed_167 ?_
              refine g_iload_n (pc := 168) hC dX3_renewed_168 rfl ?_
              obtain ⟨v23, hc, h⟩ := cp_e h
              refine g_callNi (pc := 169) (As := [.int (v15 * a1), .int a2]) (rest := [.int 1, .int w9]) hC (c_X11_quotient l E (v15 * a1) a2 σ v23 hc) mi_X11_quotient ms_X11_quotient lk_X3_105 rfl rfl (Nat.le_of_ble_eq_true rfl) ⟨by decide, by decide⟩ hab dX3_renewed_169 ?_
              obtain ⟨v24, hc, h⟩ := cp_e h
              refine g_callSi (pc := 172) (As := [.int 1, .int v23]) (rest := [.int w9]) hC (c_J9_max_7cf53 l E 1 v23 σ v24 hc) mi_J9_max_7cf53 ms_J9_max_7cf53 lk_X3_86 rfl rfl (Nat.le_of_ble_eq_true rfl) ⟨by decide, by decide⟩ hab dX3_renewed_172 ?_
              refine g_iadd (pc := 175) hC dX3_renewed_175 ?_
              obtain ⟨v25, ev25, h⟩ := lt_e h
              refine g_top ev25 ?_
              refine g_istore (lv2 := [some (.ref (E.2.1 44)), some (.int a1), some (.int a2), some (.int a3), none, some (.int v4), some (.int v5), some (.int v6), some (.int v22), some (.int v25), some (.int w10), none, some (.int v15), none]) (pc := 176) hC dX3_renewed_176 rfl (Or.inr rfl) (hN _ (by decide)) ?_
              obtain ⟨v26, ev26, h⟩ := lt_e h
              refine g_iinc (v := v26) (lv2 := [some (.ref (E.2.1 44)), some (.int a1), some (.int a2), some (.int a3), none, some (.int v4), some (.int v5), some (.int v6), some (.int v22), some (.int v25), some (.int v26), none, some (.int v15), none]) (pc := 178) hC dX3_renewed_178 rfl ev26 rfl (Or.inr rfl) (hN _ (by decide)) ?_
              refine g_goto (tgt := 76) (pc := 181) hC dX3_renewed_181 (by decide) ?_
              refine g_mask [true, true, true, true, false, true, true, true, true, true, true, false, false, false] rfl ?_
              exact ih1 v22 v25 v26 z1 (iter_l h hi1) kx1
            refine g_icmp_ge (tgt := 161) (pc := 124) hC dX3_renewed_124 (by decide) (fun c17 => ?_) (fun c17 => ?_)
            · replace h := it_t c17 h
              refine g_mask [true, true, true, true, false, true, true, true, true, true, true, false, true, false] rfl ?_
              exact hJ161 w8 h
            · replace h := it_f c17 h
              refine g_iload (pc := 127) hC dX3_renewed_127 rfl ?_
              refine g_aload_n (pc := 129) hC dX3_renewed_129 rfl ?_
              refine fg_X3_34_44 (pc := 130) hC dX3_renewed_130 ?_
              refine g_aload_n (pc := 133) hC dX3_renewed_133 rfl ?_
              refine g_iload (pc := 134) hC dX3_renewed_134 rfl ?_
              obtain ⟨v18, hc, h⟩ := cp_e h
              refine g_callVi (pc := 136) (As := [.int v14]) (rest := [.ref (E.2.1 1), .int w8]) hC (c_X3_at l E v14 σ v18 hc) mi_X3_at mv_X3_at ob_44 rfl rfl lk_X3_74 rfl rfl (Nat.le_of_ble_eq_true rfl) ⟨by decide, by decide⟩ hab dX3_renewed_136 ?_
              refine g_iload_n (pc := 139) hC dX3_renewed_139 rfl ?_
              refine g_iadd (pc := 140) hC dX3_renewed_140 ?_
              refine g_iload (pc := 141) hC dX3_renewed_141 rfl ?_
              refine g_isub (pc := 143) hC dX3_renewed_143 ?_
              obtain ⟨v19, hc, h⟩ := cp_e h
              refine g_callVi (pc := 144) (As := [.int ((v18 + a3) - w9)]) (rest := [.int w8]) hC (c_X7_at l E ((v18 + a3) - w9) σ v19 hc) mi_X7_at mv_X7_at ob_1 rfl rfl lk_X3_92 rfl rfl (Nat.le_of_ble_eq_true rfl) ⟨by decide, by decide⟩ hab dX3_renewed_144 ?_
              refine g_iload (pc := 147) hC dX3_renewed_147 rfl ?_
              refine g_iload (pc := 149) hC dX3_renewed_149 rfl ?_
              refine g_isub (pc := 151) hC dX3_renewed_151 ?_
              refine g_imul (pc := 152) hC dX3_renewed_152 ?_
              refine g_iload (pc := 153) hC dX3_renewed_153 rfl ?_
              obtain ⟨v20, hc, h⟩ := cp_e h
              refine g_callNi (pc := 155) (As := [.int (v19 * (v15 - v16)), .int v15]) (rest := [.int w8]) hC (c_X11_quotient l E (v19 * (v15 - v16)) v15 σ v20 hc) mi_X11_quotient ms_X11_quotient lk_X3_105 rfl rfl (Nat.le_of_ble_eq_true rfl) ⟨by decide, by decide⟩ hab dX3_renewed_155 ?_
              refine g_iadd (pc := 158) hC dX3_renewed_158 ?_
              obtain ⟨v21, ev21, h⟩ := lt_e h
              refine g_top ev21 ?_
              refine g_istore (lv2 := [some (.ref (E.2.1 44)), some (.int a1), some (.int a2), some (.int a3), none, some (.int v4), some (.int v5), some (.int v6), some (.int v21), some (.int w9), some (.int w10), some (.int v14), some (.int v15), some (.int v16)]) (pc := 159) hC dX3_renewed_159 rfl (Or.inr rfl) (hN _ (by decide)) ?_
              refine g_mask [true, true, true, true, false, true, true, true, true, true, true, false, true, false] rfl ?_
              exact hJ161 v21 h
    obtain ⟨z1, hz1, h⟩ := lp_e h
    refine g_mask [true, true, true, true, false, true, true, true, true, true, true, false, false, false] rfl ?_
    refine hL1 FU 0 v7 0 z1 hz1 (fun v11 ez => ?_)
    replace h : C_X3_renewed_4 v11 = some r := by rw [ez] at h; exact h
    delta C_X3_renewed_4 at h
    refine g_iload (pc := 184) hC dX3_renewed_184 rfl ?_
    exact g_retp (pc := 186) hC h hR dX3_renewed_186
  · replace h := it_t c3 h
    refine g_aload_n (pc := 22) hC dX3_renewed_22 rfl ?_
    refine fg_X3_34_44 (pc := 23) hC dX3_renewed_23 ?_
    refine g_iload_n (pc := 26) hC dX3_renewed_26 rfl ?_
    obtain ⟨v27, hc, h⟩ := cp_e h
    refine g_callVi (pc := 27) (As := [.int a3]) (rest := []) hC (c_X7_at l E a3 σ v27 hc) mi_X7_at mv_X7_at ob_1 rfl rfl lk_X3_92 rfl rfl (Nat.le_of_ble_eq_true rfl) ⟨by decide, by decide⟩ hab dX3_renewed_27 ?_
    exact g_retp (pc := 30) hC h hR dX3_renewed_30
set_option maxRecDepth 20000 in
theorem c_X10_size (l : Launch) (E : uE) (σ : uS) (r : Int32) (h : F_X10_size σ = some r) : CtI l E yX10_size cX10_size 1 (some .int) 0 0 [.ref (E.2.1 51)] σ r σ := by
  refine enterI 0 [some (.ref (E.2.1 51))] (by decide +kernel) rfl (Nat.le_of_ble_eq_true rfl) (fun o K hnL hC hab hR => ?_)
  have hC : Cx E K RX10 cX10_size (some .int) 0 0 := hC
  have hN : ∀ k, k < 1 → k < K.2.2.2.2.2 := fun k hk => hnL ▸ hk
  delta F_X10_size at h
  refine g_aload_n (pc := 0) hC dX10_size_0 rfl ?_
  refine fg_X10_29_51 (pc := 1) hC dX10_size_1 ?_
  exact g_retp (pc := 4) hC h hR dX10_size_4
set_option maxRecDepth 20000 in
theorem c_X10_hasRoom (l : Launch) (E : uE) (σ : uS) (r : Int32) (h : F_X10_hasRoom σ = some r) : CtI l E yX10_hasRoom cX10_hasRoom 1 (some .boolean) 0 0 [.ref (E.2.1 51)] σ r σ := by
  refine enterI 0 [some (.ref (E.2.1 51))] (by decide +kernel) rfl (Nat.le_of_ble_eq_true rfl) (fun o K hnL hC hab hR => ?_)
  have hC : Cx E K RX10 cX10_hasRoom (some .boolean) 0 0 := hC
  have hN : ∀ k, k < 1 → k < K.2.2.2.2.2 := fun k hk => hnL ▸ hk
  delta F_X10_hasRoom at h
  refine g_aload_n (pc := 0) hC dX10_hasRoom_0 rfl ?_
  refine fg_X10_29_51 (pc := 1) hC dX10_hasRoom_1 ?_
  refine g_bipush (pc := 4) hC kb_12 dX10_hasRoom_4 ?_
  obtain ⟨v2, ev2, h⟩ := lt_e h
  have hJ14 : Gd l E K 0 0 o σ 14 [none] [.int v2] := by
    obtain ⟨h01, h⟩ := bz_e h
    exact g_retzp (pc := 14) hC h01 h hR dX10_hasRoom_14
  refine g_icmp_ge (tgt := 13) (pc := 6) hC dX10_hasRoom_6 (by decide) (fun c1 => ?_) (fun c1 => ?_)
  · refine g_iconst (pc := 13) hC ki_0 dX10_hasRoom_13 ?_
    refine g_mask [false] rfl ?_
    exact g_top (iv_t c1 ev2) hJ14
  · refine g_iconst (pc := 9) hC ki_1 dX10_hasRoom_9 ?_
    refine g_goto (tgt := 14) (pc := 10) hC dX10_hasRoom_10 (by decide) ?_
    refine g_mask [false] rfl ?_
    exact g_top (iv_f c1 ev2) hJ14
set_option maxRecDepth 20000 in
theorem c_X10_add (l : Launch) (E : uE) (a1 : Int32) (σ : uS) (σr : uS) (h : F_X10_add a1 σ = some σr) : CtV l E yX10_add cX10_add 2 1 20 [.ref (E.2.1 51), .int a1] σ σr := by
  refine enterV 0 [some (.ref (E.2.1 51)), some (.int a1)] (by decide +kernel) rfl (Nat.le_of_ble_eq_true rfl) (fun o K hnL hC hab hR => ?_)
  have hC : Cx E K RX10 cX10_add none 1 20 := hC
  have hN : ∀ k, k < 2 → k < K.2.2.2.2.2 := fun k hk => hnL ▸ hk
  delta F_X10_add at h
  refine g_aload_n (pc := 0) hC dX10_add_0 rfl ?_
  obtain ⟨v1, hc, h⟩ := cp_e h
  refine g_callVi (pc := 1) (As := []) (rest := []) hC (c_X10_hasRoom l E σ v1 hc) mi_X10_hasRoom mv_X10_hasRoom ob_51 rfl rfl lk_X10_33 rfl rfl (Nat.le_of_ble_eq_true rfl) ⟨by decide, by decide⟩ hab dX10_add_1 ?_
  have hJ27 : ∀ (σ5 : uS), J_X10_add_1 σ5 = some σr → Gd l E K 0 0 o σ5 27 [none, none] [] := by
    intro σ5 h
    delta J_X10_add_1 at h
    exact g_retv (pc := 27) hC h hR dX10_add_27
  refine g_if_eq (tgt := 27) (pc := 4) hC dX10_add_4 (by decide) (fun c2 => ?_) (fun c2 => ?_)
  · replace h := it_t c2 h
    refine g_mask [false, false] rfl ?_
    exact hJ27 σ h
  · replace h := it_f c2 h
    refine g_aload_n (pc := 7) hC dX10_add_7 rfl ?_
    refine fg_X10_9_51 (pc := 8) hC dX10_add_8 ?_
    refine g_aload_n (pc := 11) hC dX10_add_11 rfl ?_
    refine fg_X10_29_51 (pc := 12) hC dX10_add_12 ?_
    refine g_iload_n (pc := 15) hC dX10_add_15 rfl ?_
    obtain ⟨σ3, eσ3, nσ3, h⟩ := wr_e h
    refine g_iast (pc := 16) hC 52 (by decide) (ar_52 _ _) nσ3 dX10_add_16 eσ3 ?_
    refine g_aload_n (pc := 17) hC dX10_add_17 rfl ?_
    refine g_dup (pc := 18) hC rfl dX10_add_18 ?_
    refine fg_X10_29_51 (pc := 19) hC dX10_add_19 ?_
    refine g_iconst (pc := 22) hC ki_1 dX10_add_22 ?_
    refine g_iadd (pc := 23) hC dX10_add_23 ?_
    obtain ⟨σ4, eσ4, h⟩ := pf_e h
    refine fp_X10_29_51 (pc := 24) hC dX10_add_24 eσ4 ?_
    refine g_mask [false, false] rfl ?_
    exact hJ27 σ4 h
set_option maxRecDepth 20000 in
theorem c_X10_clear (l : Launch) (E : uE) (σ : uS) (σr : uS) (h : F_X10_clear σ = some σr) : CtV l E yX10_clear cX10_clear 1 0 0 [.ref (E.2.1 51)] σ σr := by
  refine enterV 0 [some (.ref (E.2.1 51))] (by decide +kernel) rfl (Nat.le_of_ble_eq_true rfl) (fun o K hnL hC hab hR => ?_)
  have hC : Cx E K RX10 cX10_clear none 0 0 := hC
  have hN : ∀ k, k < 1 → k < K.2.2.2.2.2 := fun k hk => hnL ▸ hk
  delta F_X10_clear at h
  refine g_aload_n (pc := 0) hC dX10_clear_0 rfl ?_
  refine g_iconst (pc := 1) hC ki_0 dX10_clear_1 ?_
  obtain ⟨σ1, eσ1, h⟩ := pf_e h
  refine fp_X10_29_51 (pc := 2) hC dX10_clear_2 eσ1 ?_
  exact g_retv (pc := 5) hC h hR dX10_clear_5
set_option maxRecDepth 20000 in
theorem c_X10_price (l : Launch) (E : uE) (σ : uS) (r : Int32) (h : F_X10_price σ = some r) : CtI l E yX10_price cX10_price 1 (some .int) 0 0 [.ref (E.2.1 51)] σ r σ := by
  refine enterI 0 [some (.ref (E.2.1 51))] (by decide +kernel) rfl (Nat.le_of_ble_eq_true rfl) (fun o K hnL hC hab hR => ?_)
  have hC : Cx E K RX10 cX10_price (some .int) 0 0 := hC
  have hN : ∀ k, k < 1 → k < K.2.2.2.2.2 := fun k hk => hnL ▸ hk
  delta F_X10_price at h
  refine g_aload_n (pc := 0) hC dX10_price_0 rfl ?_
  refine fg_X10_18_51 (pc := 1) hC dX10_price_1 ?_
  refine g_iconst (pc := 4) hC ki_0 dX10_price_4 ?_
  obtain ⟨v1, ev1, nv1, h⟩ := rd_e h
  refine g_iald (pc := 5) hC 54 (by decide) (ar_54 _ _ _) nv1 dX10_price_5 ?_
  refine g_top ev1 ?_
  exact g_retp (pc := 6) hC h hR dX10_price_6
set_option maxRecDepth 20000 in
theorem c_X10_pairs (l : Launch) (E : uE) (σ : uS) (r : Int32) (h : F_X10_pairs σ = some r) : CtI l E yX10_pairs cX10_pairs 3 (some .int) 0 0 [.ref (E.2.1 51)] σ r σ := by
  refine enterI 2 [some (.ref (E.2.1 51)), none, none] (by decide +kernel) rfl (Nat.le_of_ble_eq_true rfl) (fun o K hnL hC hab hR => ?_)
  have hC : Cx E K RX10 cX10_pairs (some .int) 0 0 := hC
  have hN : ∀ k, k < 3 → k < K.2.2.2.2.2 := fun k hk => hnL ▸ hk
  delta F_X10_pairs at h
  refine g_iconst (pc := 0) hC ki_0 dX10_pairs_0 ?_
  refine g_istore_n (lv2 := [some (.ref (E.2.1 51)), some (.int 0), none]) (pc := 1) hC dX10_pairs_1 rfl (Or.inr rfl) (hN _ (by decide)) ?_
  refine g_iconst (pc := 2) hC ki_0 dX10_pairs_2 ?_
  refine g_istore_n (lv2 := [some (.ref (E.2.1 51)), some (.int 0), some (.int 0)]) (pc := 3) hC dX10_pairs_3 rfl (Or.inr rfl) (hN _ (by decide)) ?_
  have hL1 : ∀ (n : Nat) (w1 : Int32) (w2 : Int32) (z1 : Int32), iter n (fun z => B_X10_pairs_2 σ z.1 z.2) (w1, w2) = some z1 → (∀ (v3 : Int32), z1 = v3 → Gd l E K 0 0 o σ 36 [none, some (.int v3), none] []) → Gd l E K 0 0 o σ 4 [some (.ref (E.2.1 51)), some (.int w1), some (.int w2)] [] := by
    intro n
    induction n with
    | zero =>
      intro w1 w2 z1 hi
      exact (iter_0 hi).elim
    | succ n ih1 =>
      intro w1 w2 z1 hi1 kx1
      obtain ⟨r1, h, hi1⟩ := iter_s hi1
      replace h : B_X10_pairs_2 σ w1 w2 = some r1 := h
      delta B_X10_pairs_2 at h
      refine g_iload_n (pc := 4) hC dX10_pairs_4 rfl ?_
      refine g_aload_n (pc := 5) hC dX10_pairs_5 rfl ?_
      refine fg_X10_29_51 (pc := 6) hC dX10_pairs_6 ?_
      refine g_icmp_ge (tgt := 36) (pc := 9) hC dX10_pairs_9 (by decide) (fun c4 => ?_) (fun c4 => ?_)
      · replace h := it_t c4 h
        refine g_mask [false, true, false] rfl ?_
        exact kx1 w1 (iter_r h hi1)
      · replace h := it_f c4 h
        refine g_iload_n (pc := 12) hC dX10_pairs_12 rfl ?_
        refine g_aload_n (pc := 13) hC dX10_pairs_13 rfl ?_
        refine fg_X10_15_51 (pc := 14) hC dX10_pairs_14 ?_
        refine g_iload_n (pc := 17) hC dX10_pairs_17 rfl ?_
        obtain ⟨v5, ev5, nv5, h⟩ := rd_e h
        refine g_iald (pc := 18) hC 53 (by decide) (ar_53 _ _ _) nv5 dX10_pairs_18 ?_
        refine g_top ev5 ?_
        refine g_iconst (pc := 19) hC ki_m1 dX10_pairs_19 ?_
        obtain ⟨v7, ev7, h⟩ := lt_e h
        have hJ28 : Gd l E K 0 0 o σ 28 [some (.ref (E.2.1 51)), none, some (.int w2)] [.int v7, .int w1] := by
          refine g_iadd (pc := 28) hC dX10_pairs_28 ?_
          obtain ⟨v8, ev8, h⟩ := lt_e h
          refine g_top ev8 ?_
          refine g_istore_n (lv2 := [some (.ref (E.2.1 51)), some (.int v8), some (.int w2)]) (pc := 29) hC dX10_pairs_29 rfl (Or.inr rfl) (hN _ (by decide)) ?_
          obtain ⟨v9, ev9, h⟩ := lt_e h
          refine g_iinc (v := v9) (lv2 := [some (.ref (E.2.1 51)), some (.int v8), some (.int v9)]) (pc := 30) hC dX10_pairs_30 rfl ev9 rfl (Or.inr rfl) (hN _ (by decide)) ?_
          refine g_goto (tgt := 4) (pc := 33) hC dX10_pairs_33 (by decide) ?_
          exact ih1 v8 v9 z1 (iter_l h hi1) kx1
        refine g_icmp_ne (tgt := 27) (pc := 20) hC dX10_pairs_20 (by decide) (fun c6 => ?_) (fun c6 => ?_)
        · refine g_iconst (pc := 27) hC ki_1 dX10_pairs_27 ?_
          refine g_mask [true, false, true] rfl ?_
          exact g_top (iv_f c6 ev7) hJ28
        · refine g_iconst (pc := 23) hC ki_0 dX10_pairs_23 ?_
          refine g_goto (tgt := 28) (pc := 24) hC dX10_pairs_24 (by decide) ?_
          refine g_mask [true, false, true] rfl ?_
          exact g_top (iv_t c6 ev7) hJ28
  obtain ⟨z1, hz1, h⟩ := lp_e h
  refine hL1 FU 0 0 z1 hz1 (fun v3 ez => ?_)
  replace h : C_X10_pairs_3 v3 = some r := by rw [ez] at h; exact h
  delta C_X10_pairs_3 at h
  refine g_iload_n (pc := 36) hC dX10_pairs_36 rfl ?_
  exact g_retp (pc := 37) hC h hR dX10_pairs_37
set_option maxRecDepth 20000 in
theorem c_X10_pairOf (l : Launch) (E : uE) (a1 : Int32) (σ : uS) (r : Int32) (h : F_X10_pairOf a1 σ = some r) : CtI l E yX10_pairOf cX10_pairOf 2 (some .int) 0 0 [.ref (E.2.1 51), .int a1] σ r σ := by
  refine enterI 0 [some (.ref (E.2.1 51)), some (.int a1)] (by decide +kernel) rfl (Nat.le_of_ble_eq_true rfl) (fun o K hnL hC hab hR => ?_)
  have hC : Cx E K RX10 cX10_pairOf (some .int) 0 0 := hC
  have hN : ∀ k, k < 2 → k < K.2.2.2.2.2 := fun k hk => hnL ▸ hk
  delta F_X10_pairOf at h
  refine g_iload_n (pc := 0) hC dX10_pairOf_0 rfl ?_
  have hJ22 : ∀ (v4 : Int32), J_X10_pairOf_2 v4 = some r → Gd l E K 0 0 o σ 22 [none, none] [.int v4] := by
    intro v4 h
    delta J_X10_pairOf_2 at h
    exact g_retp (pc := 22) hC h hR dX10_pairOf_22
  have hJ12 : J_X10_pairOf_1 = some r → Gd l E K 0 0 o σ 12 [none, none] [] := by
    intro h
    delta J_X10_pairOf_1 at h
    refine g_iconst (pc := 12) hC ki_m1 dX10_pairOf_12 ?_
    refine g_goto (tgt := 22) (pc := 13) hC dX10_pairOf_13 (by decide) ?_
    exact hJ22 (-1) h
  refine g_if_lt (tgt := 12) (pc := 1) hC dX10_pairOf_1 (by decide) (fun c1 => ?_) (fun c1 => ?_)
  · replace h := it_t c1 h
    refine g_mask [false, false] rfl ?_
    exact hJ12 h
  · replace h := it_f c1 h
    refine g_iload_n (pc := 4) hC dX10_pairOf_4 rfl ?_
    refine g_aload_n (pc := 5) hC dX10_pairOf_5 rfl ?_
    refine fg_X10_29_51 (pc := 6) hC dX10_pairOf_6 ?_
    refine g_icmp_lt (tgt := 16) (pc := 9) hC dX10_pairOf_9 (by decide) (fun c2 => ?_) (fun c2 => ?_)
    · replace h := it_t c2 h
      refine g_aload_n (pc := 16) hC dX10_pairOf_16 rfl ?_
      refine fg_X10_15_51 (pc := 17) hC dX10_pairOf_17 ?_
      refine g_iload_n (pc := 20) hC dX10_pairOf_20 rfl ?_
      obtain ⟨v3, ev3, nv3, h⟩ := rd_e h
      refine g_iald (pc := 21) hC 53 (by decide) (ar_53 _ _ _) nv3 dX10_pairOf_21 ?_
      refine g_top ev3 ?_
      refine g_mask [false, false] rfl ?_
      exact hJ22 v3 h
    · replace h := it_f c2 h
      refine g_mask [false, false] rfl ?_
      exact hJ12 h
set_option maxRecDepth 20000 in
theorem c_X10_pairPrice (l : Launch) (E : uE) (a1 : Int32) (a2 : Int32) (σ : uS) (r : Int32) (h : F_X10_pairPrice a1 a2 σ = some r) : CtI l E yX10_pairPrice cX10_pairPrice 3 (some .int) 2 42 [.ref (E.2.1 51), .int a1, .int a2] σ r σ := by
  refine enterI 0 [some (.ref (E.2.1 51)), some (.int a1), some (.int a2)] (by decide +kernel) rfl (Nat.le_of_ble_eq_true rfl) (fun o K hnL hC hab hR => ?_)
  have hC : Cx E K RX10 cX10_pairPrice (some .int) 2 42 := hC
  have hN : ∀ k, k < 3 → k < K.2.2.2.2.2 := fun k hk => hnL ▸ hk
  delta F_X10_pairPrice at h
  refine g_bipush (pc := 0) hC kb_10 dX10_pairPrice_0 ?_
  refine g_aload_n (pc := 2) hC dX10_pairPrice_2 rfl ?_
  refine fg_X10_9_51 (pc := 3) hC dX10_pairPrice_3 ?_
  refine g_iload_n (pc := 6) hC dX10_pairPrice_6 rfl ?_
  obtain ⟨v1, ev1, nv1, h⟩ := rd_e h
  refine g_iald (pc := 7) hC 52 (by decide) (ar_52 _ _ _) nv1 dX10_pairPrice_7 ?_
  refine g_top ev1 ?_
  refine g_aload_n (pc := 8) hC dX10_pairPrice_8 rfl ?_
  refine fg_X10_21_51 (pc := 9) hC dX10_pairPrice_9 ?_
  refine g_iload_n (pc := 12) hC dX10_pairPrice_12 rfl ?_
  obtain ⟨v2, hc, h⟩ := cp_e h
  refine g_callVi (pc := 13) (As := [.int a2]) (rest := [.int v1, .int 10]) hC (c_X4_lagOf l E a2 σ v2 hc) mi_X4_lagOf mv_X4_lagOf ob_38 rfl rfl lk_X10_63 rfl rfl (Nat.le_of_ble_eq_true rfl) ⟨by decide, by decide⟩ hab dX10_pairPrice_13 ?_
  refine g_isub (pc := 16) hC dX10_pairPrice_16 ?_
  obtain ⟨v3, hc, h⟩ := cp_e h
  refine g_callSi (pc := 17) (As := [.int (v1 - v2)]) (rest := [.int 10]) hC (c_J9_abs_0f7a4 l E (v1 - v2) σ v3 hc) mi_J9_abs_0f7a4 ms_J9_abs_0f7a4 lk_X10_66 rfl rfl (Nat.le_of_ble_eq_true rfl) ⟨by decide, by decide⟩ hab dX10_pairPrice_17 ?_
  refine g_imul (pc := 20) hC dX10_pairPrice_20 ?_
  exact g_retp (pc := 21) hC h hR dX10_pairPrice_21
