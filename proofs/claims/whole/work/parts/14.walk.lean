set_option maxRecDepth 20000 in
theorem c_X5_findTails (l : Launch) (E : uE) (a1 : Int32) (σ : uS) (σr : uS) (h : F_X5_findTails a1 σ = some σr) : CtV l E yX5_findTails cX5_findTails 7 2 44 [.ref (E.2.1 16), .int a1] σ σr := by
  refine enterV 5 [some (.ref (E.2.1 16)), some (.int a1), none, none, none, none, none] (by decide +kernel) rfl (Nat.le_of_ble_eq_true rfl) (fun o K hnL hC hab hR => ?_)
  have hC : Cx E K RX5 cX5_findTails none 2 44 := hC
  have hN : ∀ k, k < 7 → k < K.2.2.2.2.2 := fun k hk => hnL ▸ hk
  delta F_X5_findTails at h
  refine g_iconst (pc := 0) hC ki_0 dX5_findTails_0 ?_
  refine g_istore_n (lv2 := [some (.ref (E.2.1 16)), some (.int a1), some (.int 0), none, none, none, none]) (pc := 1) hC dX5_findTails_1 rfl (Or.inr rfl) (hN _ (by decide)) ?_
  have hL1 : ∀ (n : Nat) (w1 : Int32) (σ2 : uS) (z1 : uS), iter n (fun z => B_X5_findTails_5 a1 z.1 z.2) (w1, σ2) = some z1 → (∀ (σ3 : uS), z1 = σ3 → Gd l E K 0 0 o σ3 149 [none, none, none, none, none, none, none] []) → Gd l E K 0 0 o σ2 2 [some (.ref (E.2.1 16)), some (.int a1), some (.int w1), none, none, none, none] [] := by
    intro n
    induction n with
    | zero =>
      intro w1 σ2 z1 hi
      exact (iter_0 hi).elim
    | succ n ih1 =>
      intro w1 σ2 z1 hi1 kx1
      obtain ⟨r1, h, hi1⟩ := iter_s hi1
      replace h : B_X5_findTails_5 a1 w1 σ2 = some r1 := h
      delta B_X5_findTails_5 at h
      refine g_iload_n (pc := 2) hC dX5_findTails_2 rfl ?_
      refine g_aload_n (pc := 3) hC dX5_findTails_3 rfl ?_
      refine fg_X5_46_16 (pc := 4) hC dX5_findTails_4 ?_
      refine g_iload_n (pc := 7) hC dX5_findTails_7 rfl ?_
      obtain ⟨v4, hc, h⟩ := cp_e h
      refine g_callVi (pc := 8) (As := [.int a1]) (rest := [.int w1]) hC (c_X1_sizeOf l E a1 σ2 v4 hc) mi_X1_sizeOf mv_X1_sizeOf ob_11 rfl rfl lk_X5_114 rfl rfl (Nat.le_of_ble_eq_true rfl) ⟨by decide, by decide⟩ hab dX5_findTails_8 ?_
      refine g_icmp_ge (tgt := 149) (pc := 11) hC dX5_findTails_11 (by decide) (fun c5 => ?_) (fun c5 => ?_)
      · replace h := it_t c5 h
        refine g_mask [false, false, false, false, false, false, false] rfl ?_
        exact kx1 σ2 (iter_r h hi1)
      · replace h := it_f c5 h
        refine g_aload_n (pc := 14) hC dX5_findTails_14 rfl ?_
        refine fg_X5_46_16 (pc := 15) hC dX5_findTails_15 ?_
        refine g_iload_n (pc := 18) hC dX5_findTails_18 rfl ?_
        refine g_iload_n (pc := 19) hC dX5_findTails_19 rfl ?_
        obtain ⟨v6, hc, h⟩ := cp_e h
        refine g_callVi (pc := 20) (As := [.int a1, .int w1]) (rest := []) hC (c_X1_lagOf l E a1 w1 σ2 v6 hc) mi_X1_lagOf mv_X1_lagOf ob_11 rfl rfl lk_X5_82 rfl rfl (Nat.le_of_ble_eq_true rfl) ⟨by decide, by decide⟩ hab dX5_findTails_20 ?_
        refine g_istore_n (lv2 := [some (.ref (E.2.1 16)), some (.int a1), some (.int w1), some (.int v6), none, none, none]) (pc := 23) hC dX5_findTails_23 rfl (Or.inr rfl) (hN _ (by decide)) ?_
        refine g_iload_n (pc := 24) hC dX5_findTails_24 rfl ?_
        refine g_iconst (pc := 25) hC ki_1 dX5_findTails_25 ?_
        refine g_iadd (pc := 26) hC dX5_findTails_26 ?_
        refine g_aload_n (pc := 27) hC dX5_findTails_27 rfl ?_
        refine fg_X5_60_16 (pc := 28) hC dX5_findTails_28 ?_
        obtain ⟨v8, ev8, h⟩ := lt_e h
        have hJ40 : Gd l E K 0 0 o σ2 40 [some (.ref (E.2.1 16)), some (.int a1), some (.int w1), some (.int v6), none, none, none] [.int v8] := by
          refine g_istore (lv2 := [some (.ref (E.2.1 16)), some (.int a1), some (.int w1), some (.int v6), some (.int v8), none, none]) (pc := 40) hC dX5_findTails_40 rfl (Or.inr rfl) (hN _ (by decide)) ?_
          refine g_iconst (pc := 42) hC ki_0 dX5_findTails_42 ?_
          refine g_istore (lv2 := [some (.ref (E.2.1 16)), some (.int a1), some (.int w1), some (.int v6), some (.int v8), some (.int 0), none]) (pc := 43) hC dX5_findTails_43 rfl (Or.inr rfl) (hN _ (by decide)) ?_
          have hL2 : ∀ (n : Nat) (w9 : Int32) (w10 : Int32) (z2 : Int32), iter n (fun z => B_X5_findTails_3 a1 v6 σ2 z.1 z.2) (w9, w10) = some z2 → (∀ (v11 : Int32), z2 = v11 → Gd l E K 0 0 o σ2 121 [some (.ref (E.2.1 16)), some (.int a1), some (.int w1), none, some (.int v11), none, none] []) → Gd l E K 0 0 o σ2 45 [some (.ref (E.2.1 16)), some (.int a1), some (.int w1), some (.int v6), some (.int w9), some (.int w10), none] [] := by
            intro n
            induction n with
            | zero =>
              intro w9 w10 z2 hi
              exact (iter_0 hi).elim
            | succ n ih2 =>
              intro w9 w10 z2 hi2 kx2
              obtain ⟨r2, h, hi2⟩ := iter_s hi2
              replace h : B_X5_findTails_3 a1 v6 σ2 w9 w10 = some r2 := h
              delta B_X5_findTails_3 at h
              refine g_iload_n (pc := 45) hC dX5_findTails_45 rfl ?_
              refine g_iconst (pc := 46) hC ki_1 dX5_findTails_46 ?_
              refine g_iadd (pc := 47) hC dX5_findTails_47 ?_
              refine g_aload_n (pc := 48) hC dX5_findTails_48 rfl ?_
              refine fg_X5_60_16 (pc := 49) hC dX5_findTails_49 ?_
              refine g_icmp_ge (tgt := 121) (pc := 52) hC dX5_findTails_52 (by decide) (fun c12 => ?_) (fun c12 => ?_)
              · replace h := it_t c12 h
                refine g_mask [true, true, true, false, true, false, false] rfl ?_
                exact kx2 w9 (iter_r h hi2)
              · replace h := it_f c12 h
                refine g_iload (pc := 55) hC dX5_findTails_55 rfl ?_
                refine g_aload_n (pc := 57) hC dX5_findTails_57 rfl ?_
                refine fg_X5_46_16 (pc := 58) hC dX5_findTails_58 ?_
                refine g_iload_n (pc := 61) hC dX5_findTails_61 rfl ?_
                refine g_iconst (pc := 62) hC ki_1 dX5_findTails_62 ?_
                refine g_iadd (pc := 63) hC dX5_findTails_63 ?_
                obtain ⟨v13, hc, h⟩ := cp_e h
                refine g_callVi (pc := 64) (As := [.int (a1 + 1)]) (rest := [.int w10]) hC (c_X1_sizeOf l E (a1 + 1) σ2 v13 hc) mi_X1_sizeOf mv_X1_sizeOf ob_11 rfl rfl lk_X5_114 rfl rfl (Nat.le_of_ble_eq_true rfl) ⟨by decide, by decide⟩ hab dX5_findTails_64 ?_
                refine g_icmp_ge (tgt := 121) (pc := 67) hC dX5_findTails_67 (by decide) (fun c14 => ?_) (fun c14 => ?_)
                · replace h := it_t c14 h
                  refine g_mask [true, true, true, false, true, false, false] rfl ?_
                  exact kx2 w9 (iter_r h hi2)
                · replace h := it_f c14 h
                  refine g_aload_n (pc := 70) hC dX5_findTails_70 rfl ?_
                  refine fg_X5_31_16 (pc := 71) hC dX5_findTails_71 ?_
                  refine g_iload_n (pc := 74) hC dX5_findTails_74 rfl ?_
                  refine g_iconst (pc := 75) hC ki_1 dX5_findTails_75 ?_
                  refine g_iadd (pc := 76) hC dX5_findTails_76 ?_
                  refine g_iload (pc := 77) hC dX5_findTails_77 rfl ?_
                  obtain ⟨v15, hc, h⟩ := cp_e h
                  refine g_callNi (pc := 79) (As := [.int (a1 + 1), .int w10]) (rest := [.ref (E.2.1 22)]) hC (c_X11_cell l E (a1 + 1) w10 σ2 v15 hc) mi_X11_cell ms_X11_cell lk_X5_108 rfl rfl (Nat.le_of_ble_eq_true rfl) ⟨by decide, by decide⟩ hab dX5_findTails_79 ?_
                  obtain ⟨v16, ev16, nv16, h⟩ := rd_e h
                  refine g_iald (pc := 82) hC 22 (by decide) (ar_22 _ _ _) nv16 dX5_findTails_82 ?_
                  refine g_top ev16 ?_
                  refine g_aload_n (pc := 83) hC dX5_findTails_83 rfl ?_
                  refine fg_X5_12_16 (pc := 84) hC dX5_findTails_84 ?_
                  refine g_iload_n (pc := 87) hC dX5_findTails_87 rfl ?_
                  refine g_aload_n (pc := 88) hC dX5_findTails_88 rfl ?_
                  refine fg_X5_46_16 (pc := 89) hC dX5_findTails_89 ?_
                  refine g_iload_n (pc := 92) hC dX5_findTails_92 rfl ?_
                  refine g_iconst (pc := 93) hC ki_1 dX5_findTails_93 ?_
                  refine g_iadd (pc := 94) hC dX5_findTails_94 ?_
                  refine g_iload (pc := 95) hC dX5_findTails_95 rfl ?_
                  obtain ⟨v17, hc, h⟩ := cp_e h
                  refine g_callVi (pc := 97) (As := [.int (a1 + 1), .int w10]) (rest := [.int v6, .ref (E.2.1 17), .int v16]) hC (c_X1_lagOf l E (a1 + 1) w10 σ2 v17 hc) mi_X1_lagOf mv_X1_lagOf ob_11 rfl rfl lk_X5_82 rfl rfl (Nat.le_of_ble_eq_true rfl) ⟨by decide, by decide⟩ hab dX5_findTails_97 ?_
                  obtain ⟨v18, hc, h⟩ := cp_e h
                  refine g_callVi (pc := 100) (As := [.int v6, .int v17]) (rest := [.int v16]) hC (c_X9_price_17 l E v6 v17 σ2 v18 hc) mi_X9_price mv_X9_price ob_17 rfl rfl lk_X5_135 rfl rfl (Nat.le_of_ble_eq_true rfl) ⟨by decide, by decide⟩ hab dX5_findTails_100 ?_
                  refine g_iadd (pc := 103) hC dX5_findTails_103 ?_
                  obtain ⟨v19, ev19, h⟩ := lt_e h
                  refine g_top ev19 ?_
                  refine g_istore (lv2 := [some (.ref (E.2.1 16)), some (.int a1), some (.int w1), some (.int v6), some (.int w9), some (.int w10), some (.int v19)]) (pc := 104) hC dX5_findTails_104 rfl (Or.inr rfl) (hN _ (by decide)) ?_
                  refine g_iload (pc := 106) hC dX5_findTails_106 rfl ?_
                  refine g_iload (pc := 108) hC dX5_findTails_108 rfl ?_
                  obtain ⟨v20, hc, h⟩ := cp_e h
                  refine g_callSi (pc := 110) (As := [.int w9, .int v19]) (rest := []) hC (c_J9_min_7cf53 l E w9 v19 σ2 v20 hc) mi_J9_min_7cf53 ms_J9_min_7cf53 lk_X5_130 rfl rfl (Nat.le_of_ble_eq_true rfl) ⟨by decide, by decide⟩ hab dX5_findTails_110 ?_
                  refine g_istore (lv2 := [some (.ref (E.2.1 16)), some (.int a1), some (.int w1), some (.int v6), some (.int v20), some (.int w10), some (.int v19)]) (pc := 113) hC dX5_findTails_113 rfl (Or.inr rfl) (hN _ (by decide)) ?_
                  obtain ⟨v21, ev21, h⟩ := lt_e h
                  refine g_iinc (v := v21) (lv2 := [some (.ref (E.2.1 16)), some (.int a1), some (.int w1), some (.int v6), some (.int v20), some (.int v21), some (.int v19)]) (pc := 115) hC dX5_findTails_115 rfl ev21 rfl (Or.inr rfl) (hN _ (by decide)) ?_
                  refine g_goto (tgt := 45) (pc := 118) hC dX5_findTails_118 (by decide) ?_
                  refine g_mask [true, true, true, true, true, true, false] rfl ?_
                  exact ih2 v20 v21 z2 (iter_l h hi2) kx2
          obtain ⟨z2, hz2, h⟩ := lp_e h
          refine hL2 FU v8 0 z2 hz2 (fun v11 ez => ?_)
          replace h : C_X5_findTails_4 a1 w1 σ2 v11 = some r1 := by rw [ez] at h; exact h
          delta C_X5_findTails_4 at h
          refine g_aload_n (pc := 121) hC dX5_findTails_121 rfl ?_
          refine fg_X5_31_16 (pc := 122) hC dX5_findTails_122 ?_
          refine g_iload_n (pc := 125) hC dX5_findTails_125 rfl ?_
          refine g_iload_n (pc := 126) hC dX5_findTails_126 rfl ?_
          obtain ⟨v22, hc, h⟩ := cp_e h
          refine g_callNi (pc := 127) (As := [.int a1, .int w1]) (rest := [.ref (E.2.1 22)]) hC (c_X11_cell l E a1 w1 σ2 v22 hc) mi_X11_cell ms_X11_cell lk_X5_108 rfl rfl (Nat.le_of_ble_eq_true rfl) ⟨by decide, by decide⟩ hab dX5_findTails_127 ?_
          refine g_iload (pc := 130) hC dX5_findTails_130 rfl ?_
          refine g_aload_n (pc := 132) hC dX5_findTails_132 rfl ?_
          refine fg_X5_46_16 (pc := 133) hC dX5_findTails_133 ?_
          refine g_iload_n (pc := 136) hC dX5_findTails_136 rfl ?_
          refine g_iload_n (pc := 137) hC dX5_findTails_137 rfl ?_
          obtain ⟨v23, hc, h⟩ := cp_e h
          refine g_callVi (pc := 138) (As := [.int a1, .int w1]) (rest := [.int v11, .int v22, .ref (E.2.1 22)]) hC (c_X1_ownOf l E a1 w1 σ2 v23 hc) mi_X1_ownOf mv_X1_ownOf ob_11 rfl rfl lk_X5_111 rfl rfl (Nat.le_of_ble_eq_true rfl) ⟨by decide, by decide⟩ hab dX5_findTails_138 ?_
          refine g_iadd (pc := 141) hC dX5_findTails_141 ?_
          obtain ⟨σ24, eσ24, nσ24, h⟩ := wr_e h
          refine g_iast (pc := 142) hC 22 (by decide) (ar_22 _ _) nσ24 dX5_findTails_142 eσ24 ?_
          obtain ⟨v25, ev25, h⟩ := lt_e h
          refine g_iinc (v := v25) (lv2 := [some (.ref (E.2.1 16)), some (.int a1), some (.int v25), none, some (.int v11), none, none]) (pc := 143) hC dX5_findTails_143 rfl ev25 rfl (Or.inr rfl) (hN _ (by decide)) ?_
          refine g_goto (tgt := 2) (pc := 146) hC dX5_findTails_146 (by decide) ?_
          refine g_mask [true, true, true, false, false, false, false] rfl ?_
          exact ih1 v25 σ24 z1 (iter_l h hi1) kx1
        refine g_icmp_ge (tgt := 39) (pc := 31) hC dX5_findTails_31 (by decide) (fun c7 => ?_) (fun c7 => ?_)
        · refine g_iconst (pc := 39) hC ki_0 dX5_findTails_39 ?_
          exact g_top (iv_t c7 ev8) hJ40
        · refine g_ldc (pc := 34) hC kc_X5_117 dX5_findTails_34 ?_
          refine g_goto (tgt := 40) (pc := 36) hC dX5_findTails_36 (by decide) ?_
          exact g_top (iv_f c7 ev8) hJ40
  obtain ⟨z1, hz1, h⟩ := lp_e h
  refine hL1 FU 0 σ z1 hz1 (fun σ3 ez => ?_)
  replace h : C_X5_findTails_6 σ3 = some σr := by rw [ez] at h; exact h
  delta C_X5_findTails_6 at h
  exact g_retv (pc := 149) hC h hR dX5_findTails_149
set_option maxRecDepth 20000 in
theorem c_X5_firstAtEnd (l : Launch) (E : uE) (a1 : Int32) (σ : uS) (r : Int32) (h : F_X5_firstAtEnd a1 σ = some r) : CtI l E yX5_firstAtEnd cX5_firstAtEnd 5 (some .int) 1 21 [.ref (E.2.1 16), .int a1] σ r σ := by
  refine enterI 3 [some (.ref (E.2.1 16)), some (.int a1), none, none, none] (by decide +kernel) rfl (Nat.le_of_ble_eq_true rfl) (fun o K hnL hC hab hR => ?_)
  have hC : Cx E K RX5 cX5_firstAtEnd (some .int) 1 21 := hC
  have hN : ∀ k, k < 5 → k < K.2.2.2.2.2 := fun k hk => hnL ▸ hk
  delta F_X5_firstAtEnd at h
  refine g_iconst (pc := 0) hC ki_0 dX5_firstAtEnd_0 ?_
  refine g_istore_n (lv2 := [some (.ref (E.2.1 16)), some (.int a1), some (.int 0), none, none]) (pc := 1) hC dX5_firstAtEnd_1 rfl (Or.inr rfl) (hN _ (by decide)) ?_
  refine g_iconst (pc := 2) hC ki_1 dX5_firstAtEnd_2 ?_
  refine g_istore_n (lv2 := [some (.ref (E.2.1 16)), some (.int a1), some (.int 0), some (.int 1), none]) (pc := 3) hC dX5_firstAtEnd_3 rfl (Or.inr rfl) (hN _ (by decide)) ?_
  have hL1 : ∀ (n : Nat) (w1 : Int32) (w2 : Int32) (z1 : Int32), iter n (fun z => B_X5_firstAtEnd_4 a1 σ z.1 z.2) (w1, w2) = some z1 → (∀ (v3 : Int32), z1 = v3 → Gd l E K 0 0 o σ 80 [none, none, some (.int v3), none, none] []) → Gd l E K 0 0 o σ 4 [some (.ref (E.2.1 16)), some (.int a1), some (.int w1), some (.int w2), none] [] := by
    intro n
    induction n with
    | zero =>
      intro w1 w2 z1 hi
      exact (iter_0 hi).elim
    | succ n ih1 =>
      intro w1 w2 z1 hi1 kx1
      obtain ⟨r1, h, hi1⟩ := iter_s hi1
      replace h : B_X5_firstAtEnd_4 a1 σ w1 w2 = some r1 := h
      delta B_X5_firstAtEnd_4 at h
      refine g_iload_n (pc := 4) hC dX5_firstAtEnd_4 rfl ?_
      refine g_aload_n (pc := 5) hC dX5_firstAtEnd_5 rfl ?_
      refine fg_X5_46_16 (pc := 6) hC dX5_firstAtEnd_6 ?_
      refine g_iload_n (pc := 9) hC dX5_firstAtEnd_9 rfl ?_
      obtain ⟨v4, hc, h⟩ := cp_e h
      refine g_callVi (pc := 10) (As := [.int a1]) (rest := [.int w2]) hC (c_X1_sizeOf l E a1 σ v4 hc) mi_X1_sizeOf mv_X1_sizeOf ob_11 rfl rfl lk_X5_114 rfl rfl (Nat.le_of_ble_eq_true rfl) ⟨by decide, by decide⟩ hab dX5_firstAtEnd_10 ?_
      refine g_icmp_ge (tgt := 80) (pc := 13) hC dX5_firstAtEnd_13 (by decide) (fun c5 => ?_) (fun c5 => ?_)
      · replace h := it_t c5 h
        refine g_mask [false, false, true, false, false] rfl ?_
        exact kx1 w1 (iter_r h hi1)
      · replace h := it_f c5 h
        refine g_aload_n (pc := 16) hC dX5_firstAtEnd_16 rfl ?_
        refine fg_X5_21_16 (pc := 17) hC dX5_firstAtEnd_17 ?_
        refine g_iload_n (pc := 20) hC dX5_firstAtEnd_20 rfl ?_
        refine g_iload_n (pc := 21) hC dX5_firstAtEnd_21 rfl ?_
        obtain ⟨v6, hc, h⟩ := cp_e h
        refine g_callNi (pc := 22) (As := [.int a1, .int w2]) (rest := [.ref (E.2.1 19)]) hC (c_X11_cell l E a1 w2 σ v6 hc) mi_X11_cell ms_X11_cell lk_X5_108 rfl rfl (Nat.le_of_ble_eq_true rfl) ⟨by decide, by decide⟩ hab dX5_firstAtEnd_22 ?_
        obtain ⟨v7, ev7, nv7, h⟩ := rd_e h
        refine g_iald (pc := 25) hC 19 (by decide) (ar_19 _ _ _) nv7 dX5_firstAtEnd_25 ?_
        refine g_top ev7 ?_
        refine g_aload_n (pc := 26) hC dX5_firstAtEnd_26 rfl ?_
        refine fg_X5_21_16 (pc := 27) hC dX5_firstAtEnd_27 ?_
        refine g_iload_n (pc := 30) hC dX5_firstAtEnd_30 rfl ?_
        refine g_iload_n (pc := 31) hC dX5_firstAtEnd_31 rfl ?_
        obtain ⟨v8, hc, h⟩ := cp_e h
        refine g_callNi (pc := 32) (As := [.int a1, .int w1]) (rest := [.ref (E.2.1 19), .int v7]) hC (c_X11_cell l E a1 w1 σ v8 hc) mi_X11_cell ms_X11_cell lk_X5_108 rfl rfl (Nat.le_of_ble_eq_true rfl) ⟨by decide, by decide⟩ hab dX5_firstAtEnd_32 ?_
        obtain ⟨v9, ev9, nv9, h⟩ := rd_e h
        refine g_iald (pc := 35) hC 19 (by decide) (ar_19 _ _ _) nv9 dX5_firstAtEnd_35 ?_
        refine g_top ev9 ?_
        refine g_isub (pc := 36) hC dX5_firstAtEnd_36 ?_
        obtain ⟨v10, ev10, h⟩ := lt_e h
        refine g_top ev10 ?_
        refine g_istore (lv2 := [some (.ref (E.2.1 16)), some (.int a1), some (.int w1), some (.int w2), some (.int v10)]) (pc := 37) hC dX5_firstAtEnd_37 rfl (Or.inr rfl) (hN _ (by decide)) ?_
        refine g_iload (pc := 39) hC dX5_firstAtEnd_39 rfl ?_
        have hJ74 : ∀ (v18 : Int32), J_X5_firstAtEnd_3 w2 v18 = some r1 → Gd l E K 0 0 o σ 74 [some (.ref (E.2.1 16)), some (.int a1), some (.int v18), some (.int w2), none] [] := by
          intro v18 h
          delta J_X5_firstAtEnd_3 at h
          obtain ⟨v19, ev19, h⟩ := lt_e h
          refine g_iinc (v := v19) (lv2 := [some (.ref (E.2.1 16)), some (.int a1), some (.int v18), some (.int v19), none]) (pc := 74) hC dX5_firstAtEnd_74 rfl ev19 rfl (Or.inr rfl) (hN _ (by decide)) ?_
          refine g_goto (tgt := 4) (pc := 77) hC dX5_firstAtEnd_77 (by decide) ?_
          exact ih1 v18 v19 z1 (iter_l h hi1) kx1
        have hJ72 : J_X5_firstAtEnd_2 w2 = some r1 → Gd l E K 0 0 o σ 72 [some (.ref (E.2.1 16)), some (.int a1), none, some (.int w2), none] [] := by
          intro h
          delta J_X5_firstAtEnd_2 at h
          refine g_iload_n (pc := 72) hC dX5_firstAtEnd_72 rfl ?_
          refine g_istore_n (lv2 := [some (.ref (E.2.1 16)), some (.int a1), some (.int w2), some (.int w2), none]) (pc := 73) hC dX5_firstAtEnd_73 rfl (Or.inr rfl) (hN _ (by decide)) ?_
          exact hJ74 w2 h
        refine g_if_lt (tgt := 72) (pc := 41) hC dX5_firstAtEnd_41 (by decide) (fun c11 => ?_) (fun c11 => ?_)
        · replace h := it_t c11 h
          refine g_mask [true, true, false, true, false] rfl ?_
          exact hJ72 h
        · replace h := it_f c11 h
          refine g_iload (pc := 44) hC dX5_firstAtEnd_44 rfl ?_
          refine g_if_ne (tgt := 74) (pc := 46) hC dX5_firstAtEnd_46 (by decide) (fun c12 => ?_) (fun c12 => ?_)
          · replace h := it_f c12 h
            refine g_mask [true, true, true, true, false] rfl ?_
            exact hJ74 w1 h
          · replace h := it_t c12 h
            refine g_aload_n (pc := 49) hC dX5_firstAtEnd_49 rfl ?_
            refine fg_X5_25_16 (pc := 50) hC dX5_firstAtEnd_50 ?_
            refine g_iload_n (pc := 53) hC dX5_firstAtEnd_53 rfl ?_
            refine g_iload_n (pc := 54) hC dX5_firstAtEnd_54 rfl ?_
            obtain ⟨v13, hc, h⟩ := cp_e h
            refine g_callNi (pc := 55) (As := [.int a1, .int w2]) (rest := [.ref (E.2.1 20)]) hC (c_X11_cell l E a1 w2 σ v13 hc) mi_X11_cell ms_X11_cell lk_X5_108 rfl rfl (Nat.le_of_ble_eq_true rfl) ⟨by decide, by decide⟩ hab dX5_firstAtEnd_55 ?_
            obtain ⟨v14, ev14, nv14, h⟩ := rd_e h
            refine g_iald (pc := 58) hC 20 (by decide) (ar_20 _ _ _) nv14 dX5_firstAtEnd_58 ?_
            refine g_top ev14 ?_
            refine g_aload_n (pc := 59) hC dX5_firstAtEnd_59 rfl ?_
            refine fg_X5_25_16 (pc := 60) hC dX5_firstAtEnd_60 ?_
            refine g_iload_n (pc := 63) hC dX5_firstAtEnd_63 rfl ?_
            refine g_iload_n (pc := 64) hC dX5_firstAtEnd_64 rfl ?_
            obtain ⟨v15, hc, h⟩ := cp_e h
            refine g_callNi (pc := 65) (As := [.int a1, .int w1]) (rest := [.ref (E.2.1 20), .int v14]) hC (c_X11_cell l E a1 w1 σ v15 hc) mi_X11_cell ms_X11_cell lk_X5_108 rfl rfl (Nat.le_of_ble_eq_true rfl) ⟨by decide, by decide⟩ hab dX5_firstAtEnd_65 ?_
            obtain ⟨v16, ev16, nv16, h⟩ := rd_e h
            refine g_iald (pc := 68) hC 20 (by decide) (ar_20 _ _ _) nv16 dX5_firstAtEnd_68 ?_
            refine g_top ev16 ?_
            refine g_icmp_ge (tgt := 74) (pc := 69) hC dX5_firstAtEnd_69 (by decide) (fun c17 => ?_) (fun c17 => ?_)
            · replace h := it_t c17 h
              refine g_mask [true, true, true, true, false] rfl ?_
              exact hJ74 w1 h
            · replace h := it_f c17 h
              refine g_mask [true, true, false, true, false] rfl ?_
              exact hJ72 h
  obtain ⟨z1, hz1, h⟩ := lp_e h
  refine hL1 FU 0 1 z1 hz1 (fun v3 ez => ?_)
  replace h : C_X5_firstAtEnd_5 v3 = some r := by rw [ez] at h; exact h
  delta C_X5_firstAtEnd_5 at h
  refine g_iload_n (pc := 80) hC dX5_firstAtEnd_80 rfl ?_
  exact g_retp (pc := 81) hC h hR dX5_firstAtEnd_81
set_option maxRecDepth 20000 in
theorem c_X5_aheadOf (l : Launch) (E : uE) (a1 : Int32) (a2 : Int32) (σ : uS) (r : Int32) (h : F_X5_aheadOf a1 a2 σ = some r) : CtI l E yX5_aheadOf cX5_aheadOf 4 (some .int) 1 22 [.ref (E.2.1 16), .int a1, .int a2] σ r σ := by
  refine enterI 1 [some (.ref (E.2.1 16)), some (.int a1), some (.int a2), none] (by decide +kernel) rfl (Nat.le_of_ble_eq_true rfl) (fun o K hnL hC hab hR => ?_)
  have hC : Cx E K RX5 cX5_aheadOf (some .int) 1 22 := hC
  have hN : ∀ k, k < 4 → k < K.2.2.2.2.2 := fun k hk => hnL ▸ hk
  delta F_X5_aheadOf at h
  refine g_aload_n (pc := 0) hC dX5_aheadOf_0 rfl ?_
  refine fg_X5_46_16 (pc := 1) hC dX5_aheadOf_1 ?_
  refine g_iload_n (pc := 4) hC dX5_aheadOf_4 rfl ?_
  refine g_iload_n (pc := 5) hC dX5_aheadOf_5 rfl ?_
  obtain ⟨v1, hc, h⟩ := cp_e h
  refine g_callVi (pc := 6) (As := [.int a1, .int a2]) (rest := []) hC (c_X1_has l E a1 a2 σ v1 hc) mi_X1_has mv_X1_has ob_11 rfl rfl lk_X5_104 rfl rfl (Nat.le_of_ble_eq_true rfl) ⟨by decide, by decide⟩ hab dX5_aheadOf_6 ?_
  have hJ26 : ∀ (v5 : Int32), J_X5_aheadOf_1 a1 σ v5 = some r → Gd l E K 0 0 o σ 26 [some (.ref (E.2.1 16)), some (.int a1), none, none] [.int v5] := by
    intro v5 h
    delta J_X5_aheadOf_1 at h
    refine g_istore_n (lv2 := [some (.ref (E.2.1 16)), some (.int a1), none, some (.int v5)]) (pc := 26) hC dX5_aheadOf_26 rfl (Or.inr rfl) (hN _ (by decide)) ?_
    refine g_aload_n (pc := 27) hC dX5_aheadOf_27 rfl ?_
    refine fg_X5_46_16 (pc := 28) hC dX5_aheadOf_28 ?_
    refine g_iload_n (pc := 31) hC dX5_aheadOf_31 rfl ?_
    refine g_iconst (pc := 32) hC ki_1 dX5_aheadOf_32 ?_
    refine g_isub (pc := 33) hC dX5_aheadOf_33 ?_
    refine g_iload_n (pc := 34) hC dX5_aheadOf_34 rfl ?_
    obtain ⟨v6, hc, h⟩ := cp_e h
    refine g_callVi (pc := 35) (As := [.int (a1 - 1), .int v5]) (rest := []) hC (c_X1_has l E (a1 - 1) v5 σ v6 hc) mi_X1_has mv_X1_has ob_11 rfl rfl lk_X5_104 rfl rfl (Nat.le_of_ble_eq_true rfl) ⟨by decide, by decide⟩ hab dX5_aheadOf_35 ?_
    obtain ⟨v8, ev8, h⟩ := lt_e h
    have hJ46 : Gd l E K 0 0 o σ 46 [none, none, none, none] [.int v8] := by
      exact g_retp (pc := 46) hC h hR dX5_aheadOf_46
    refine g_if_eq (tgt := 45) (pc := 38) hC dX5_aheadOf_38 (by decide) (fun c7 => ?_) (fun c7 => ?_)
    · refine g_iconst (pc := 45) hC ki_0 dX5_aheadOf_45 ?_
      refine g_mask [false, false, false, false] rfl ?_
      exact g_top (iv_t c7 ev8) hJ46
    · refine g_iload_n (pc := 41) hC dX5_aheadOf_41 rfl ?_
      refine g_goto (tgt := 46) (pc := 42) hC dX5_aheadOf_42 (by decide) ?_
      refine g_mask [false, false, false, false] rfl ?_
      exact g_top (iv_f c7 ev8) hJ46
  refine g_if_eq (tgt := 25) (pc := 9) hC dX5_aheadOf_9 (by decide) (fun c2 => ?_) (fun c2 => ?_)
  · replace h := it_t c2 h
    refine g_iconst (pc := 25) hC ki_0 dX5_aheadOf_25 ?_
    refine g_mask [true, true, false, false] rfl ?_
    exact hJ26 0 h
  · replace h := it_f c2 h
    refine g_aload_n (pc := 12) hC dX5_aheadOf_12 rfl ?_
    refine fg_X5_28_16 (pc := 13) hC dX5_aheadOf_13 ?_
    refine g_iload_n (pc := 16) hC dX5_aheadOf_16 rfl ?_
    refine g_iload_n (pc := 17) hC dX5_aheadOf_17 rfl ?_
    obtain ⟨v3, hc, h⟩ := cp_e h
    refine g_callNi (pc := 18) (As := [.int a1, .int a2]) (rest := [.ref (E.2.1 21)]) hC (c_X11_cell l E a1 a2 σ v3 hc) mi_X11_cell ms_X11_cell lk_X5_108 rfl rfl (Nat.le_of_ble_eq_true rfl) ⟨by decide, by decide⟩ hab dX5_aheadOf_18 ?_
    obtain ⟨v4, ev4, nv4, h⟩ := rd_e h
    refine g_iald (pc := 21) hC 21 (by decide) (ar_21 _ _ _) nv4 dX5_aheadOf_21 ?_
    refine g_top ev4 ?_
    refine g_goto (tgt := 26) (pc := 22) hC dX5_aheadOf_22 (by decide) ?_
    refine g_mask [true, true, false, false] rfl ?_
    exact hJ26 v4 h
set_option maxRecDepth 20000 in
theorem c_X5_find (l : Launch) (E : uE) (σ : uS) (σr : uS) (h : F_X5_find σ = some σr) : CtV l E yX5_find cX5_find 3 3 71 [.ref (E.2.1 16)] σ σr := by
  refine enterV 2 [some (.ref (E.2.1 16)), none, none] (by decide +kernel) rfl (Nat.le_of_ble_eq_true rfl) (fun o K hnL hC hab hR => ?_)
  have hC : Cx E K RX5 cX5_find none 3 71 := hC
  have hN : ∀ k, k < 3 → k < K.2.2.2.2.2 := fun k hk => hnL ▸ hk
  delta F_X5_find at h
  refine g_aload_n (pc := 0) hC dX5_find_0 rfl ?_
  refine g_aload_n (pc := 1) hC dX5_find_1 rfl ?_
  refine fg_X5_46_16 (pc := 2) hC dX5_find_2 ?_
  obtain ⟨v1, hc, h⟩ := cp_e h
  refine g_callVi (pc := 5) (As := []) (rest := [.ref (E.2.1 16)]) hC (c_X1_frameCount l E σ v1 hc) mi_X1_frameCount mv_X1_frameCount ob_11 rfl rfl lk_X5_54 rfl rfl (Nat.le_of_ble_eq_true rfl) ⟨by decide, by decide⟩ hab dX5_find_5 ?_
  obtain ⟨σ2, eσ2, h⟩ := pf_e h
  refine fp_X5_60_16 (pc := 8) hC dX5_find_8 eσ2 ?_
  refine g_aload_n (pc := 11) hC dX5_find_11 rfl ?_
  refine fg_X5_12_16 (pc := 12) hC dX5_find_12 ?_
  refine g_aload_n (pc := 15) hC dX5_find_15 rfl ?_
  refine fg_X5_50_16 (pc := 16) hC dX5_find_16 ?_
  obtain ⟨σ3, hc, h⟩ := cp_e h
  refine g_callVv (pc := 19) (As := [.ref (E.2.1 4)]) (rest := []) hC (c_X9_setBy_17_4 l E σ2 σ3 hc) mi_X9_setBy mv_X9_setBy ob_17 rfl rfl lk_X5_64 rfl rfl (Nat.le_of_ble_eq_true rfl) ⟨by decide, by decide⟩ hab dX5_find_19 ?_
  refine g_iconst (pc := 22) hC ki_0 dX5_find_22 ?_
  refine g_istore_n (lv2 := [some (.ref (E.2.1 16)), some (.int 0), none]) (pc := 23) hC dX5_find_23 rfl (Or.inr rfl) (hN _ (by decide)) ?_
  have hL1 : ∀ (n : Nat) (w4 : Int32) (σ5 : uS) (z1 : uS), iter n (fun z => B_X5_find_2 z.1 z.2) (w4, σ5) = some z1 → (∀ (σ6 : uS), z1 = σ6 → Gd l E K 0 0 o σ6 48 [some (.ref (E.2.1 16)), none, none] []) → Gd l E K 0 0 o σ5 24 [some (.ref (E.2.1 16)), some (.int w4), none] [] := by
    intro n
    induction n with
    | zero =>
      intro w4 σ5 z1 hi
      exact (iter_0 hi).elim
    | succ n ih1 =>
      intro w4 σ5 z1 hi1 kx1
      obtain ⟨r1, h, hi1⟩ := iter_s hi1
      replace h : B_X5_find_2 w4 σ5 = some r1 := h
      delta B_X5_find_2 at h
      refine g_iload_n (pc := 24) hC dX5_find_24 rfl ?_
      refine g_aload_n (pc := 25) hC dX5_find_25 rfl ?_
      refine fg_X5_60_16 (pc := 26) hC dX5_find_26 ?_
      refine g_icmp_ge (tgt := 48) (pc := 29) hC dX5_find_29 (by decide) (fun c7 => ?_) (fun c7 => ?_)
      · replace h := it_t c7 h
        refine g_mask [true, false, false] rfl ?_
        exact kx1 σ5 (iter_r h hi1)
      · replace h := it_f c7 h
        refine g_aload_n (pc := 32) hC dX5_find_32 rfl ?_
        refine g_iload_n (pc := 33) hC dX5_find_33 rfl ?_
        obtain ⟨σ8, hc, h⟩ := cp_e h
        refine g_callVv (pc := 34) (As := [.int w4]) (rest := []) hC (c_X5_findHeads l E w4 σ5 σ8 hc) mi_X5_findHeads mv_X5_findHeads ob_16 rfl rfl lk_X5_68 rfl rfl (Nat.le_of_ble_eq_true rfl) ⟨by decide, by decide⟩ hab dX5_find_34 ?_
        refine g_aload_n (pc := 37) hC dX5_find_37 rfl ?_
        refine g_iload_n (pc := 38) hC dX5_find_38 rfl ?_
        obtain ⟨σ9, hc, h⟩ := cp_e h
        refine g_callVv (pc := 39) (As := [.int w4]) (rest := []) hC (c_X5_findRanks l E w4 σ8 σ9 hc) mi_X5_findRanks mv_X5_findRanks ob_16 rfl rfl lk_X5_72 rfl rfl (Nat.le_of_ble_eq_true rfl) ⟨by decide, by decide⟩ hab dX5_find_39 ?_
        obtain ⟨v10, ev10, h⟩ := lt_e h
        refine g_iinc (v := v10) (lv2 := [some (.ref (E.2.1 16)), some (.int v10), none]) (pc := 42) hC dX5_find_42 rfl ev10 rfl (Or.inr rfl) (hN _ (by decide)) ?_
        refine g_goto (tgt := 24) (pc := 45) hC dX5_find_45 (by decide) ?_
        exact ih1 v10 σ9 z1 (iter_l h hi1) kx1
  obtain ⟨z1, hz1, h⟩ := lp_e h
  refine hL1 FU 0 σ3 z1 hz1 (fun σ6 ez => ?_)
  replace h : C_X5_find_10 σ6 = some σr := by rw [ez] at h; exact h
  delta C_X5_find_10 at h
  refine g_aload_n (pc := 48) hC dX5_find_48 rfl ?_
  refine fg_X5_60_16 (pc := 49) hC dX5_find_49 ?_
  refine g_iconst (pc := 52) hC ki_1 dX5_find_52 ?_
  refine g_isub (pc := 53) hC dX5_find_53 ?_
  obtain ⟨v11, ev11, h⟩ := lt_e h
  refine g_top ev11 ?_
  refine g_istore_n (lv2 := [some (.ref (E.2.1 16)), some (.int v11), none]) (pc := 54) hC dX5_find_54 rfl (Or.inr rfl) (hN _ (by decide)) ?_
  have hL3 : ∀ (n : Nat) (w12 : Int32) (σ13 : uS) (z3 : uS), iter n (fun z => B_X5_find_4 z.1 z.2) (w12, σ13) = some z3 → (∀ (σ14 : uS), z3 = σ14 → Gd l E K 0 0 o σ14 70 [some (.ref (E.2.1 16)), none, none] []) → Gd l E K 0 0 o σ13 55 [some (.ref (E.2.1 16)), some (.int w12), none] [] := by
    intro n
    induction n with
    | zero =>
      intro w12 σ13 z3 hi
      exact (iter_0 hi).elim
    | succ n ih3 =>
      intro w12 σ13 z3 hi3 kx3
      obtain ⟨r3, h, hi3⟩ := iter_s hi3
      replace h : B_X5_find_4 w12 σ13 = some r3 := h
      delta B_X5_find_4 at h
      refine g_iload_n (pc := 55) hC dX5_find_55 rfl ?_
      refine g_if_lt (tgt := 70) (pc := 56) hC dX5_find_56 (by decide) (fun c15 => ?_) (fun c15 => ?_)
      · replace h := it_t c15 h
        refine g_mask [true, false, false] rfl ?_
        exact kx3 σ13 (iter_r h hi3)
      · replace h := it_f c15 h
        refine g_aload_n (pc := 59) hC dX5_find_59 rfl ?_
        refine g_iload_n (pc := 60) hC dX5_find_60 rfl ?_
        obtain ⟨σ16, hc, h⟩ := cp_e h
        refine g_callVv (pc := 61) (As := [.int w12]) (rest := []) hC (c_X5_findTails l E w12 σ13 σ16 hc) mi_X5_findTails mv_X5_findTails ob_16 rfl rfl lk_X5_75 rfl rfl (Nat.le_of_ble_eq_true rfl) ⟨by decide, by decide⟩ hab dX5_find_61 ?_
        obtain ⟨v17, ev17, h⟩ := lt_e h
        refine g_iinc (v := v17) (lv2 := [some (.ref (E.2.1 16)), some (.int v17), none]) (pc := 64) hC dX5_find_64 rfl ev17 rfl (Or.inr rfl) (hN _ (by decide)) ?_
        refine g_goto (tgt := 55) (pc := 67) hC dX5_find_67 (by decide) ?_
        exact ih3 v17 σ16 z3 (iter_l h hi3) kx3
  obtain ⟨z3, hz3, h⟩ := lp_e h
  refine hL3 FU v11 σ6 z3 hz3 (fun σ14 ez => ?_)
  replace h : C_X5_find_9 σ14 = some σr := by rw [ez] at h; exact h
  delta C_X5_find_9 at h
  refine g_aload_n (pc := 70) hC dX5_find_70 rfl ?_
  refine fg_X5_60_16 (pc := 71) hC dX5_find_71 ?_
  have hJ91 : ∀ (v20 : Int32), J_X5_find_8 σ14 v20 = some σr → Gd l E K 0 0 o σ14 91 [some (.ref (E.2.1 16)), none, none] [.int v20] := by
    intro v20 h
    delta J_X5_find_8 at h
    refine g_istore_n (lv2 := [some (.ref (E.2.1 16)), some (.int v20), none]) (pc := 91) hC dX5_find_91 rfl (Or.inr rfl) (hN _ (by decide)) ?_
    refine g_aload_n (pc := 92) hC dX5_find_92 rfl ?_
    refine fg_X5_60_16 (pc := 93) hC dX5_find_93 ?_
    refine g_iconst (pc := 96) hC ki_1 dX5_find_96 ?_
    refine g_isub (pc := 97) hC dX5_find_97 ?_
    obtain ⟨v21, ev21, h⟩ := lt_e h
    refine g_top ev21 ?_
    refine g_istore_n (lv2 := [some (.ref (E.2.1 16)), some (.int v20), some (.int v21)]) (pc := 98) hC dX5_find_98 rfl (Or.inr rfl) (hN _ (by decide)) ?_
    have hL5 : ∀ (n : Nat) (w22 : Int32) (w23 : Int32) (σ24 : uS) (z5 : uS), iter n (fun z => B_X5_find_6 z.1 z.2.1 z.2.2) (w22, w23, σ24) = some z5 → (∀ (σ25 : uS), z5 = σ25 → Gd l E K 0 0 o σ25 138 [none, none, none] []) → Gd l E K 0 0 o σ24 99 [some (.ref (E.2.1 16)), some (.int w22), some (.int w23)] [] := by
      intro n
      induction n with
      | zero =>
        intro w22 w23 σ24 z5 hi
        exact (iter_0 hi).elim
      | succ n ih5 =>
        intro w22 w23 σ24 z5 hi5 kx5
        obtain ⟨r5, h, hi5⟩ := iter_s hi5
        replace h : B_X5_find_6 w22 w23 σ24 = some r5 := h
        delta B_X5_find_6 at h
        refine g_iload_n (pc := 99) hC dX5_find_99 rfl ?_
        refine g_if_lt (tgt := 138) (pc := 100) hC dX5_find_100 (by decide) (fun c26 => ?_) (fun c26 => ?_)
        · replace h := it_t c26 h
          refine g_mask [false, false, false] rfl ?_
          exact kx5 σ24 (iter_r h hi5)
        · replace h := it_f c26 h
          refine g_aload_n (pc := 103) hC dX5_find_103 rfl ?_
          refine fg_X5_34_16 (pc := 104) hC dX5_find_104 ?_
          refine g_iload_n (pc := 107) hC dX5_find_107 rfl ?_
          refine g_iload_n (pc := 108) hC dX5_find_108 rfl ?_
          obtain ⟨σ27, eσ27, nσ27, h⟩ := wr_e h
          refine g_iast (pc := 109) hC 23 (by decide) (ar_23 _ _) nσ27 dX5_find_109 eσ27 ?_
          refine g_aload_n (pc := 110) hC dX5_find_110 rfl ?_
          refine fg_X5_37_16 (pc := 111) hC dX5_find_111 ?_
          refine g_iload_n (pc := 114) hC dX5_find_114 rfl ?_
          refine g_aload_n (pc := 115) hC dX5_find_115 rfl ?_
          refine fg_X5_46_16 (pc := 116) hC dX5_find_116 ?_
          refine g_iload_n (pc := 119) hC dX5_find_119 rfl ?_
          refine g_iload_n (pc := 120) hC dX5_find_120 rfl ?_
          obtain ⟨v28, hc, h⟩ := cp_e h
          refine g_callVi (pc := 121) (As := [.int w23, .int w22]) (rest := [.int w23, .ref (E.2.1 24)]) hC (c_X1_lagOf l E w23 w22 σ27 v28 hc) mi_X1_lagOf mv_X1_lagOf ob_11 rfl rfl lk_X5_82 rfl rfl (Nat.le_of_ble_eq_true rfl) ⟨by decide, by decide⟩ hab dX5_find_121 ?_
          obtain ⟨σ29, eσ29, nσ29, h⟩ := wr_e h
          refine g_iast (pc := 124) hC 24 (by decide) (ar_24 _ _) nσ29 dX5_find_124 eσ29 ?_
          refine g_aload_n (pc := 125) hC dX5_find_125 rfl ?_
          refine g_iload_n (pc := 126) hC dX5_find_126 rfl ?_
          refine g_iload_n (pc := 127) hC dX5_find_127 rfl ?_
          obtain ⟨v30, hc, h⟩ := cp_e h
          refine g_callVi (pc := 128) (As := [.int w23, .int w22]) (rest := []) hC (c_X5_aheadOf l E w23 w22 σ29 v30 hc) mi_X5_aheadOf mv_X5_aheadOf ob_16 rfl rfl lk_X5_86 rfl rfl (Nat.le_of_ble_eq_true rfl) ⟨by decide, by decide⟩ hab dX5_find_128 ?_
          refine g_istore_n (lv2 := [some (.ref (E.2.1 16)), some (.int v30), some (.int w23)]) (pc := 131) hC dX5_find_131 rfl (Or.inr rfl) (hN _ (by decide)) ?_
          obtain ⟨v31, ev31, h⟩ := lt_e h
          refine g_iinc (v := v31) (lv2 := [some (.ref (E.2.1 16)), some (.int v30), some (.int v31)]) (pc := 132) hC dX5_find_132 rfl ev31 rfl (Or.inr rfl) (hN _ (by decide)) ?_
          refine g_goto (tgt := 99) (pc := 135) hC dX5_find_135 (by decide) ?_
          exact ih5 v30 v31 σ29 z5 (iter_l h hi5) kx5
    obtain ⟨z5, hz5, h⟩ := lp_e h
    refine hL5 FU v20 v21 σ14 z5 hz5 (fun σ25 ez => ?_)
    replace h : C_X5_find_7 σ25 = some σr := by rw [ez] at h; exact h
    delta C_X5_find_7 at h
    exact g_retv (pc := 138) hC h hR dX5_find_138
  refine g_if_ne (tgt := 81) (pc := 74) hC dX5_find_74 (by decide) (fun c18 => ?_) (fun c18 => ?_)
  · replace h := it_f c18 h
    refine g_aload_n (pc := 81) hC dX5_find_81 rfl ?_
    refine g_aload_n (pc := 82) hC dX5_find_82 rfl ?_
    refine fg_X5_60_16 (pc := 83) hC dX5_find_83 ?_
    refine g_iconst (pc := 86) hC ki_1 dX5_find_86 ?_
    refine g_isub (pc := 87) hC dX5_find_87 ?_
    obtain ⟨v19, hc, h⟩ := cp_e h
    refine g_callVi (pc := 88) (As := [.int ((σ14 16 12) - 1)]) (rest := []) hC (c_X5_firstAtEnd l E ((σ14 16 12) - 1) σ14 v19 hc) mi_X5_firstAtEnd mv_X5_firstAtEnd ob_16 rfl rfl lk_X5_78 rfl rfl (Nat.le_of_ble_eq_true rfl) ⟨by decide, by decide⟩ hab dX5_find_88 ?_
    exact hJ91 v19 h
  · replace h := it_t c18 h
    refine g_iconst (pc := 77) hC ki_0 dX5_find_77 ?_
    refine g_goto (tgt := 91) (pc := 78) hC dX5_find_78 (by decide) ?_
    exact hJ91 0 h
set_option maxRecDepth 20000 in
theorem c_X5_size (l : Launch) (E : uE) (σ : uS) (r : Int32) (h : F_X5_size σ = some r) : CtI l E yX5_size cX5_size 1 (some .int) 0 0 [.ref (E.2.1 16)] σ r σ := by
  refine enterI 0 [some (.ref (E.2.1 16))] (by decide +kernel) rfl (Nat.le_of_ble_eq_true rfl) (fun o K hnL hC hab hR => ?_)
  have hC : Cx E K RX5 cX5_size (some .int) 0 0 := hC
  have hN : ∀ k, k < 1 → k < K.2.2.2.2.2 := fun k hk => hnL ▸ hk
  delta F_X5_size at h
  refine g_aload_n (pc := 0) hC dX5_size_0 rfl ?_
  refine fg_X5_60_16 (pc := 1) hC dX5_size_1 ?_
  exact g_retp (pc := 4) hC h hR dX5_size_4
set_option maxRecDepth 20000 in
theorem c_X5_chosenIn (l : Launch) (E : uE) (a1 : Int32) (σ : uS) (r : Int32) (h : F_X5_chosenIn a1 σ = some r) : CtI l E yX5_chosenIn cX5_chosenIn 2 (some .int) 0 0 [.ref (E.2.1 16), .int a1] σ r σ := by
  refine enterI 0 [some (.ref (E.2.1 16)), some (.int a1)] (by decide +kernel) rfl (Nat.le_of_ble_eq_true rfl) (fun o K hnL hC hab hR => ?_)
  have hC : Cx E K RX5 cX5_chosenIn (some .int) 0 0 := hC
  have hN : ∀ k, k < 2 → k < K.2.2.2.2.2 := fun k hk => hnL ▸ hk
  delta F_X5_chosenIn at h
  refine g_iload_n (pc := 0) hC dX5_chosenIn_0 rfl ?_
  have hJ22 : ∀ (v4 : Int32), J_X5_chosenIn_2 v4 = some r → Gd l E K 0 0 o σ 22 [none, none] [.int v4] := by
    intro v4 h
    delta J_X5_chosenIn_2 at h
    exact g_retp (pc := 22) hC h hR dX5_chosenIn_22
  have hJ12 : J_X5_chosenIn_1 = some r → Gd l E K 0 0 o σ 12 [none, none] [] := by
    intro h
    delta J_X5_chosenIn_1 at h
    refine g_iconst (pc := 12) hC ki_0 dX5_chosenIn_12 ?_
    refine g_goto (tgt := 22) (pc := 13) hC dX5_chosenIn_13 (by decide) ?_
    exact hJ22 0 h
  refine g_if_lt (tgt := 12) (pc := 1) hC dX5_chosenIn_1 (by decide) (fun c1 => ?_) (fun c1 => ?_)
  · replace h := it_t c1 h
    refine g_mask [false, false] rfl ?_
    exact hJ12 h
  · replace h := it_f c1 h
    refine g_iload_n (pc := 4) hC dX5_chosenIn_4 rfl ?_
    refine g_aload_n (pc := 5) hC dX5_chosenIn_5 rfl ?_
    refine fg_X5_60_16 (pc := 6) hC dX5_chosenIn_6 ?_
    refine g_icmp_lt (tgt := 16) (pc := 9) hC dX5_chosenIn_9 (by decide) (fun c2 => ?_) (fun c2 => ?_)
    · replace h := it_t c2 h
      refine g_aload_n (pc := 16) hC dX5_chosenIn_16 rfl ?_
      refine fg_X5_34_16 (pc := 17) hC dX5_chosenIn_17 ?_
      refine g_iload_n (pc := 20) hC dX5_chosenIn_20 rfl ?_
      obtain ⟨v3, ev3, nv3, h⟩ := rd_e h
      refine g_iald (pc := 21) hC 23 (by decide) (ar_23 _ _ _) nv3 dX5_chosenIn_21 ?_
      refine g_top ev3 ?_
      refine g_mask [false, false] rfl ?_
      exact hJ22 v3 h
    · replace h := it_f c2 h
      refine g_mask [false, false] rfl ?_
      exact hJ12 h
set_option maxRecDepth 20000 in
theorem c_X5_lagIn (l : Launch) (E : uE) (a1 : Int32) (σ : uS) (r : Int32) (h : F_X5_lagIn a1 σ = some r) : CtI l E yX5_lagIn cX5_lagIn 2 (some .int) 0 0 [.ref (E.2.1 16), .int a1] σ r σ := by
  refine enterI 0 [some (.ref (E.2.1 16)), some (.int a1)] (by decide +kernel) rfl (Nat.le_of_ble_eq_true rfl) (fun o K hnL hC hab hR => ?_)
  have hC : Cx E K RX5 cX5_lagIn (some .int) 0 0 := hC
  have hN : ∀ k, k < 2 → k < K.2.2.2.2.2 := fun k hk => hnL ▸ hk
  delta F_X5_lagIn at h
  refine g_iload_n (pc := 0) hC dX5_lagIn_0 rfl ?_
  have hJ22 : ∀ (v4 : Int32), J_X5_lagIn_2 v4 = some r → Gd l E K 0 0 o σ 22 [none, none] [.int v4] := by
    intro v4 h
    delta J_X5_lagIn_2 at h
    exact g_retp (pc := 22) hC h hR dX5_lagIn_22
  have hJ12 : J_X5_lagIn_1 = some r → Gd l E K 0 0 o σ 12 [none, none] [] := by
    intro h
    delta J_X5_lagIn_1 at h
    refine g_iconst (pc := 12) hC ki_0 dX5_lagIn_12 ?_
    refine g_goto (tgt := 22) (pc := 13) hC dX5_lagIn_13 (by decide) ?_
    exact hJ22 0 h
  refine g_if_lt (tgt := 12) (pc := 1) hC dX5_lagIn_1 (by decide) (fun c1 => ?_) (fun c1 => ?_)
  · replace h := it_t c1 h
    refine g_mask [false, false] rfl ?_
    exact hJ12 h
  · replace h := it_f c1 h
    refine g_iload_n (pc := 4) hC dX5_lagIn_4 rfl ?_
    refine g_aload_n (pc := 5) hC dX5_lagIn_5 rfl ?_
    refine fg_X5_60_16 (pc := 6) hC dX5_lagIn_6 ?_
    refine g_icmp_lt (tgt := 16) (pc := 9) hC dX5_lagIn_9 (by decide) (fun c2 => ?_) (fun c2 => ?_)
    · replace h := it_t c2 h
      refine g_aload_n (pc := 16) hC dX5_lagIn_16 rfl ?_
      refine fg_X5_37_16 (pc := 17) hC dX5_lagIn_17 ?_
      refine g_iload_n (pc := 20) hC dX5_lagIn_20 rfl ?_
      obtain ⟨v3, ev3, nv3, h⟩ := rd_e h
      refine g_iald (pc := 21) hC 24 (by decide) (ar_24 _ _ _) nv3 dX5_lagIn_21 ?_
      refine g_top ev3 ?_
      refine g_mask [false, false] rfl ?_
      exact hJ22 v3 h
    · replace h := it_f c2 h
      refine g_mask [false, false] rfl ?_
      exact hJ12 h
set_option maxRecDepth 20000 in
theorem c_X5_ownSum (l : Launch) (E : uE) (σ : uS) (r : Int32) (h : F_X5_ownSum σ = some r) : CtI l E yX5_ownSum cX5_ownSum 3 (some .int) 2 44 [.ref (E.2.1 16)] σ r σ := by
  refine enterI 2 [some (.ref (E.2.1 16)), none, none] (by decide +kernel) rfl (Nat.le_of_ble_eq_true rfl) (fun o K hnL hC hab hR => ?_)
  have hC : Cx E K RX5 cX5_ownSum (some .int) 2 44 := hC
  have hN : ∀ k, k < 3 → k < K.2.2.2.2.2 := fun k hk => hnL ▸ hk
  delta F_X5_ownSum at h
  refine g_iconst (pc := 0) hC ki_0 dX5_ownSum_0 ?_
  refine g_istore_n (lv2 := [some (.ref (E.2.1 16)), some (.int 0), none]) (pc := 1) hC dX5_ownSum_1 rfl (Or.inr rfl) (hN _ (by decide)) ?_
  refine g_iconst (pc := 2) hC ki_0 dX5_ownSum_2 ?_
  refine g_istore_n (lv2 := [some (.ref (E.2.1 16)), some (.int 0), some (.int 0)]) (pc := 3) hC dX5_ownSum_3 rfl (Or.inr rfl) (hN _ (by decide)) ?_
  have hL1 : ∀ (n : Nat) (w1 : Int32) (w2 : Int32) (z1 : Int32), iter n (fun z => B_X5_ownSum_2 σ z.1 z.2) (w1, w2) = some z1 → (∀ (v3 : Int32), z1 = v3 → Gd l E K 0 0 o σ 35 [none, some (.int v3), none] []) → Gd l E K 0 0 o σ 4 [some (.ref (E.2.1 16)), some (.int w1), some (.int w2)] [] := by
    intro n
    induction n with
    | zero =>
      intro w1 w2 z1 hi
      exact (iter_0 hi).elim
    | succ n ih1 =>
      intro w1 w2 z1 hi1 kx1
      obtain ⟨r1, h, hi1⟩ := iter_s hi1
      replace h : B_X5_ownSum_2 σ w1 w2 = some r1 := h
      delta B_X5_ownSum_2 at h
      refine g_iload_n (pc := 4) hC dX5_ownSum_4 rfl ?_
      refine g_aload_n (pc := 5) hC dX5_ownSum_5 rfl ?_
      refine fg_X5_60_16 (pc := 6) hC dX5_ownSum_6 ?_
      refine g_icmp_ge (tgt := 35) (pc := 9) hC dX5_ownSum_9 (by decide) (fun c4 => ?_) (fun c4 => ?_)
      · replace h := it_t c4 h
        refine g_mask [false, true, false] rfl ?_
        exact kx1 w1 (iter_r h hi1)
      · replace h := it_f c4 h
        refine g_iload_n (pc := 12) hC dX5_ownSum_12 rfl ?_
        refine g_aload_n (pc := 13) hC dX5_ownSum_13 rfl ?_
        refine fg_X5_46_16 (pc := 14) hC dX5_ownSum_14 ?_
        refine g_iload_n (pc := 17) hC dX5_ownSum_17 rfl ?_
        refine g_aload_n (pc := 18) hC dX5_ownSum_18 rfl ?_
        refine fg_X5_34_16 (pc := 19) hC dX5_ownSum_19 ?_
        refine g_iload_n (pc := 22) hC dX5_ownSum_22 rfl ?_
        obtain ⟨v5, ev5, nv5, h⟩ := rd_e h
        refine g_iald (pc := 23) hC 23 (by decide) (ar_23 _ _ _) nv5 dX5_ownSum_23 ?_
        refine g_top ev5 ?_
        obtain ⟨v6, hc, h⟩ := cp_e h
        refine g_callVi (pc := 24) (As := [.int w2, .int v5]) (rest := [.int w1]) hC (c_X1_ownOf l E w2 v5 σ v6 hc) mi_X1_ownOf mv_X1_ownOf ob_11 rfl rfl lk_X5_111 rfl rfl (Nat.le_of_ble_eq_true rfl) ⟨by decide, by decide⟩ hab dX5_ownSum_24 ?_
        refine g_iadd (pc := 27) hC dX5_ownSum_27 ?_
        obtain ⟨v7, ev7, h⟩ := lt_e h
        refine g_top ev7 ?_
        refine g_istore_n (lv2 := [some (.ref (E.2.1 16)), some (.int v7), some (.int w2)]) (pc := 28) hC dX5_ownSum_28 rfl (Or.inr rfl) (hN _ (by decide)) ?_
        obtain ⟨v8, ev8, h⟩ := lt_e h
        refine g_iinc (v := v8) (lv2 := [some (.ref (E.2.1 16)), some (.int v7), some (.int v8)]) (pc := 29) hC dX5_ownSum_29 rfl ev8 rfl (Or.inr rfl) (hN _ (by decide)) ?_
        refine g_goto (tgt := 4) (pc := 32) hC dX5_ownSum_32 (by decide) ?_
        exact ih1 v7 v8 z1 (iter_l h hi1) kx1
  obtain ⟨z1, hz1, h⟩ := lp_e h
  refine hL1 FU 0 0 z1 hz1 (fun v3 ez => ?_)
  replace h : C_X5_ownSum_3 v3 = some r := by rw [ez] at h; exact h
  delta C_X5_ownSum_3 at h
  refine g_iload_n (pc := 35) hC dX5_ownSum_35 rfl ?_
  exact g_retp (pc := 36) hC h hR dX5_ownSum_36
set_option maxRecDepth 20000 in
theorem c_X5_stepSum (l : Launch) (E : uE) (a1 : Int32) (a2 : Int32) (a3 : Int32) (σ : uS) (r : Int32) (σr : uS) (h : F_X5_stepSum a1 a2 a3 σ = some (r, σr)) : CtI l E yX5_stepSum cX5_stepSum 6 (some .int) 1 24 [.ref (E.2.1 16), .int a1, .int a2, .int a3] σ r σr := by
  refine enterI 2 [some (.ref (E.2.1 16)), some (.int a1), some (.int a2), some (.int a3), none, none] (by decide +kernel) rfl (Nat.le_of_ble_eq_true rfl) (fun o K hnL hC hab hR => ?_)
  have hC : Cx E K RX5 cX5_stepSum (some .int) 1 24 := hC
  have hN : ∀ k, k < 6 → k < K.2.2.2.2.2 := fun k hk => hnL ▸ hk
  delta F_X5_stepSum at h
  refine g_iconst (pc := 0) hC ki_0 dX5_stepSum_0 ?_
  refine g_istore (lv2 := [some (.ref (E.2.1 16)), some (.int a1), some (.int a2), some (.int a3), some (.int 0), none]) (pc := 1) hC dX5_stepSum_1 rfl (Or.inr rfl) (hN _ (by decide)) ?_
  refine g_aload_n (pc := 3) hC dX5_stepSum_3 rfl ?_
  refine fg_X5_18_16 (pc := 4) hC dX5_stepSum_4 ?_
  refine g_iload_n (pc := 7) hC dX5_stepSum_7 rfl ?_
  refine g_iload_n (pc := 8) hC dX5_stepSum_8 rfl ?_
  refine g_iload_n (pc := 9) hC dX5_stepSum_9 rfl ?_
  obtain ⟨σ1, hc, h⟩ := cp_e h
  refine g_callVv (pc := 10) (As := [.int a1, .int a2, .int a3]) (rest := []) hC (c_X9_set_18 l E a1 a2 a3 σ σ1 hc) mi_X9_set mv_X9_set ob_18 rfl rfl lk_X5_126 rfl rfl (Nat.le_of_ble_eq_true rfl) ⟨by decide, by decide⟩ hab dX5_stepSum_10 ?_
  refine g_iconst (pc := 13) hC ki_1 dX5_stepSum_13 ?_
  refine g_istore (lv2 := [some (.ref (E.2.1 16)), some (.int a1), some (.int a2), some (.int a3), some (.int 0), some (.int 1)]) (pc := 14) hC dX5_stepSum_14 rfl (Or.inr rfl) (hN _ (by decide)) ?_
  have hL1 : ∀ (n : Nat) (w2 : Int32) (w3 : Int32) (z1 : Int32), iter n (fun z => B_X5_stepSum_2 σ1 z.1 z.2) (w2, w3) = some z1 → (∀ (v4 : Int32), z1 = v4 → Gd l E K 0 0 o σ1 59 [none, none, none, none, some (.int v4), none] []) → Gd l E K 0 0 o σ1 16 [some (.ref (E.2.1 16)), none, none, none, some (.int w2), some (.int w3)] [] := by
    intro n
    induction n with
    | zero =>
      intro w2 w3 z1 hi
      exact (iter_0 hi).elim
    | succ n ih1 =>
      intro w2 w3 z1 hi1 kx1
      obtain ⟨r1, h, hi1⟩ := iter_s hi1
      replace h : B_X5_stepSum_2 σ1 w2 w3 = some r1 := h
      delta B_X5_stepSum_2 at h
      refine g_iload (pc := 16) hC dX5_stepSum_16 rfl ?_
      refine g_aload_n (pc := 18) hC dX5_stepSum_18 rfl ?_
      refine fg_X5_60_16 (pc := 19) hC dX5_stepSum_19 ?_
      refine g_icmp_ge (tgt := 59) (pc := 22) hC dX5_stepSum_22 (by decide) (fun c5 => ?_) (fun c5 => ?_)
      · replace h := it_t c5 h
        refine g_mask [false, false, false, false, true, false] rfl ?_
        exact kx1 w2 (iter_r h hi1)
      · replace h := it_f c5 h
        refine g_iload (pc := 25) hC dX5_stepSum_25 rfl ?_
        refine g_aload_n (pc := 27) hC dX5_stepSum_27 rfl ?_
        refine fg_X5_18_16 (pc := 28) hC dX5_stepSum_28 ?_
        refine g_aload_n (pc := 31) hC dX5_stepSum_31 rfl ?_
        refine fg_X5_37_16 (pc := 32) hC dX5_stepSum_32 ?_
        refine g_iload (pc := 35) hC dX5_stepSum_35 rfl ?_
        refine g_iconst (pc := 37) hC ki_1 dX5_stepSum_37 ?_
        refine g_isub (pc := 38) hC dX5_stepSum_38 ?_
        obtain ⟨v6, ev6, nv6, h⟩ := rd_e h
        refine g_iald (pc := 39) hC 24 (by decide) (ar_24 _ _ _) nv6 dX5_stepSum_39 ?_
        refine g_top ev6 ?_
        refine g_aload_n (pc := 40) hC dX5_stepSum_40 rfl ?_
        refine fg_X5_37_16 (pc := 41) hC dX5_stepSum_41 ?_
        refine g_iload (pc := 44) hC dX5_stepSum_44 rfl ?_
        obtain ⟨v7, ev7, nv7, h⟩ := rd_e h
        refine g_iald (pc := 46) hC 24 (by decide) (ar_24 _ _ _) nv7 dX5_stepSum_46 ?_
        refine g_top ev7 ?_
        obtain ⟨v8, hc, h⟩ := cp_e h
        refine g_callVi (pc := 47) (As := [.int v6, .int v7]) (rest := [.int w2]) hC (c_X9_price_18 l E v6 v7 σ1 v8 hc) mi_X9_price mv_X9_price ob_18 rfl rfl lk_X5_135 rfl rfl (Nat.le_of_ble_eq_true rfl) ⟨by decide, by decide⟩ hab dX5_stepSum_47 ?_
        refine g_iadd (pc := 50) hC dX5_stepSum_50 ?_
        obtain ⟨v9, ev9, h⟩ := lt_e h
        refine g_top ev9 ?_
        refine g_istore (lv2 := [some (.ref (E.2.1 16)), none, none, none, some (.int v9), some (.int w3)]) (pc := 51) hC dX5_stepSum_51 rfl (Or.inr rfl) (hN _ (by decide)) ?_
        obtain ⟨v10, ev10, h⟩ := lt_e h
        refine g_iinc (v := v10) (lv2 := [some (.ref (E.2.1 16)), none, none, none, some (.int v9), some (.int v10)]) (pc := 53) hC dX5_stepSum_53 rfl ev10 rfl (Or.inr rfl) (hN _ (by decide)) ?_
        refine g_goto (tgt := 16) (pc := 56) hC dX5_stepSum_56 (by decide) ?_
        exact ih1 v9 v10 z1 (iter_l h hi1) kx1
  obtain ⟨z1, hz1, h⟩ := lp_e h
  refine g_mask [true, false, false, false, true, true] rfl ?_
  refine hL1 FU 0 1 z1 hz1 (fun v4 ez => ?_)
  replace h : C_X5_stepSum_3 σ1 v4 = some (r, σr) := by rw [ez] at h; exact h
  delta C_X5_stepSum_3 at h
  refine g_iload (pc := 59) hC dX5_stepSum_59 rfl ?_
  exact g_ret (pc := 61) hC h hR dX5_stepSum_61
set_option maxRecDepth 20000 in
theorem c_X5_priceOf (l : Launch) (E : uE) (a1 : Int32) (σ : uS) (r : Int32) (σr : uS) (h : F_X5_priceOf a1 σ = some (r, σr)) : CtI l E yX5_priceOf cX5_priceOf 2 (some .int) 3 66 [.ref (E.2.1 16), .int a1] σ r σr := by
  refine enterI 0 [some (.ref (E.2.1 16)), some (.int a1)] (by decide +kernel) rfl (Nat.le_of_ble_eq_true rfl) (fun o K hnL hC hab hR => ?_)
  have hC : Cx E K RX5 cX5_priceOf (some .int) 3 66 := hC
  have hN : ∀ k, k < 2 → k < K.2.2.2.2.2 := fun k hk => hnL ▸ hk
  delta F_X5_priceOf at h
  refine g_iload_n (pc := 0) hC dX5_priceOf_0 rfl ?_
  by_cases c1 : a1 = 1
  · replace h := it_t c1 h
    refine g_tabIn (tgt := 32) (off := 31) (pc := 1) hC dX5_priceOf_1 (by rw [c1]; decide) (by rw [c1]; decide) (by rw [c1]; rfl) (by decide) ?_
    refine g_aload_n (pc := 32) hC dX5_priceOf_32 rfl ?_
    obtain ⟨v2, hc, h⟩ := cp_e h
    refine g_callVi (pc := 33) (As := []) (rest := []) hC (c_X5_ownSum l E σ v2 hc) mi_X5_ownSum mv_X5_ownSum ob_16 rfl rfl lk_X5_89 rfl rfl (Nat.le_of_ble_eq_true rfl) ⟨by decide, by decide⟩ hab dX5_priceOf_33 ?_
    exact g_ret (pc := 36) hC h hR dX5_priceOf_36
  · replace h := it_f c1 h
    by_cases c3 : a1 = 2
    · replace h := it_t c3 h
      refine g_tabIn (tgt := 37) (off := 36) (pc := 1) hC dX5_priceOf_1 (by rw [c3]; decide) (by rw [c3]; decide) (by rw [c3]; rfl) (by decide) ?_
      refine g_aload_n (pc := 37) hC dX5_priceOf_37 rfl ?_
      refine g_aload_n (pc := 38) hC dX5_priceOf_38 rfl ?_
      refine fg_X5_50_16 (pc := 39) hC dX5_priceOf_39 ?_
      refine g_bipush (pc := 42) hC kb_10 dX5_priceOf_42 ?_
      obtain ⟨v4, hc, h⟩ := cp_e h
      refine g_callVi (pc := 44) (As := [.int 10]) (rest := [.ref (E.2.1 16)]) hC (c_X0_of l E 10 σ v4 hc) mi_X0_of mv_X0_of ob_4 rfl rfl lk_X5_94 rfl rfl (Nat.le_of_ble_eq_true rfl) ⟨by decide, by decide⟩ hab dX5_priceOf_44 ?_
      refine g_iconst (pc := 47) hC ki_0 dX5_priceOf_47 ?_
      refine g_iconst (pc := 48) hC ki_0 dX5_priceOf_48 ?_
      obtain ⟨v6, σ5, hc, h⟩ := cl_e h
      refine g_callVi (pc := 49) (As := [.int v4, .int 0, .int 0]) (rest := []) hC (c_X5_stepSum l E v4 0 0 σ v6 σ5 hc) mi_X5_stepSum mv_X5_stepSum ob_16 rfl rfl lk_X5_97 rfl rfl (Nat.le_of_ble_eq_true rfl) ⟨by decide, by decide⟩ hab dX5_priceOf_49 ?_
      exact g_ret (pc := 52) hC h hR dX5_priceOf_52
    · replace h := it_f c3 h
      by_cases c7 : a1 = 3
      · replace h := it_t c7 h
        refine g_tabIn (tgt := 53) (off := 52) (pc := 1) hC dX5_priceOf_1 (by rw [c7]; decide) (by rw [c7]; decide) (by rw [c7]; rfl) (by decide) ?_
        refine g_aload_n (pc := 53) hC dX5_priceOf_53 rfl ?_
        refine g_iconst (pc := 54) hC ki_0 dX5_priceOf_54 ?_
        refine g_aload_n (pc := 55) hC dX5_priceOf_55 rfl ?_
        refine fg_X5_50_16 (pc := 56) hC dX5_priceOf_56 ?_
        refine g_bipush (pc := 59) hC kb_11 dX5_priceOf_59 ?_
        obtain ⟨v8, hc, h⟩ := cp_e h
        refine g_callVi (pc := 61) (As := [.int 11]) (rest := [.int 0, .ref (E.2.1 16)]) hC (c_X0_of l E 11 σ v8 hc) mi_X0_of mv_X0_of ob_4 rfl rfl lk_X5_94 rfl rfl (Nat.le_of_ble_eq_true rfl) ⟨by decide, by decide⟩ hab dX5_priceOf_61 ?_
        refine g_iconst (pc := 64) hC ki_0 dX5_priceOf_64 ?_
        obtain ⟨v10, σ9, hc, h⟩ := cl_e h
        refine g_callVi (pc := 65) (As := [.int 0, .int v8, .int 0]) (rest := []) hC (c_X5_stepSum l E 0 v8 0 σ v10 σ9 hc) mi_X5_stepSum mv_X5_stepSum ob_16 rfl rfl lk_X5_97 rfl rfl (Nat.le_of_ble_eq_true rfl) ⟨by decide, by decide⟩ hab dX5_priceOf_65 ?_
        exact g_ret (pc := 68) hC h hR dX5_priceOf_68
      · replace h := it_f c7 h
        by_cases c11 : a1 = 4
        · replace h := it_t c11 h
          refine g_tabIn (tgt := 69) (off := 68) (pc := 1) hC dX5_priceOf_1 (by rw [c11]; decide) (by rw [c11]; decide) (by rw [c11]; rfl) (by decide) ?_
          refine g_aload_n (pc := 69) hC dX5_priceOf_69 rfl ?_
          refine g_iconst (pc := 70) hC ki_0 dX5_priceOf_70 ?_
          refine g_iconst (pc := 71) hC ki_0 dX5_priceOf_71 ?_
          refine g_aload_n (pc := 72) hC dX5_priceOf_72 rfl ?_
          refine fg_X5_50_16 (pc := 73) hC dX5_priceOf_73 ?_
          refine g_bipush (pc := 76) hC kb_12 dX5_priceOf_76 ?_
          obtain ⟨v12, hc, h⟩ := cp_e h
          refine g_callVi (pc := 78) (As := [.int 12]) (rest := [.int 0, .int 0, .ref (E.2.1 16)]) hC (c_X0_of l E 12 σ v12 hc) mi_X0_of mv_X0_of ob_4 rfl rfl lk_X5_94 rfl rfl (Nat.le_of_ble_eq_true rfl) ⟨by decide, by decide⟩ hab dX5_priceOf_78 ?_
          obtain ⟨v14, σ13, hc, h⟩ := cl_e h
          refine g_callVi (pc := 81) (As := [.int 0, .int 0, .int v12]) (rest := []) hC (c_X5_stepSum l E 0 0 v12 σ v14 σ13 hc) mi_X5_stepSum mv_X5_stepSum ob_16 rfl rfl lk_X5_97 rfl rfl (Nat.le_of_ble_eq_true rfl) ⟨by decide, by decide⟩ hab dX5_priceOf_81 ?_
          exact g_ret (pc := 84) hC h hR dX5_priceOf_84
        · replace h := it_f c11 h
          have q0 := sw_ne (n := 1) c1 rfl
          have q1 := sw_ne (n := 2) c3 rfl
          have q2 := sw_ne (n := 3) c7 rfl
          have q3 := sw_ne (n := 4) c11 rfl
          refine g_tabOut (tgt := 85) (pc := 1) hC dX5_priceOf_1 (by omega) (by decide) ?_
          refine g_aload_n (pc := 85) hC dX5_priceOf_85 rfl ?_
          obtain ⟨v15, hc, h⟩ := cp_e h
          refine g_callVi (pc := 86) (As := []) (rest := []) hC (c_X5_ownSum l E σ v15 hc) mi_X5_ownSum mv_X5_ownSum ob_16 rfl rfl lk_X5_89 rfl rfl (Nat.le_of_ble_eq_true rfl) ⟨by decide, by decide⟩ hab dX5_priceOf_86 ?_
          refine g_aload_n (pc := 89) hC dX5_priceOf_89 rfl ?_
          refine g_aload_n (pc := 90) hC dX5_priceOf_90 rfl ?_
          refine fg_X5_50_16 (pc := 91) hC dX5_priceOf_91 ?_
          refine g_bipush (pc := 94) hC kb_10 dX5_priceOf_94 ?_
          obtain ⟨v16, hc, h⟩ := cp_e h
          refine g_callVi (pc := 96) (As := [.int 10]) (rest := [.ref (E.2.1 16), .int v15]) hC (c_X0_of l E 10 σ v16 hc) mi_X0_of mv_X0_of ob_4 rfl rfl lk_X5_94 rfl rfl (Nat.le_of_ble_eq_true rfl) ⟨by decide, by decide⟩ hab dX5_priceOf_96 ?_
          refine g_aload_n (pc := 99) hC dX5_priceOf_99 rfl ?_
          refine fg_X5_50_16 (pc := 100) hC dX5_priceOf_100 ?_
          refine g_bipush (pc := 103) hC kb_11 dX5_priceOf_103 ?_
          obtain ⟨v17, hc, h⟩ := cp_e h
          refine g_callVi (pc := 105) (As := [.int 11]) (rest := [.int v16, .ref (E.2.1 16), .int v15]) hC (c_X0_of l E 11 σ v17 hc) mi_X0_of mv_X0_of ob_4 rfl rfl lk_X5_94 rfl rfl (Nat.le_of_ble_eq_true rfl) ⟨by decide, by decide⟩ hab dX5_priceOf_105 ?_
          refine g_aload_n (pc := 108) hC dX5_priceOf_108 rfl ?_
          refine fg_X5_50_16 (pc := 109) hC dX5_priceOf_109 ?_
          refine g_bipush (pc := 112) hC kb_12 dX5_priceOf_112 ?_
          obtain ⟨v18, hc, h⟩ := cp_e h
          refine g_callVi (pc := 114) (As := [.int 12]) (rest := [.int v17, .int v16, .ref (E.2.1 16), .int v15]) hC (c_X0_of l E 12 σ v18 hc) mi_X0_of mv_X0_of ob_4 rfl rfl lk_X5_94 rfl rfl (Nat.le_of_ble_eq_true rfl) ⟨by decide, by decide⟩ hab dX5_priceOf_114 ?_
          obtain ⟨v20, σ19, hc, h⟩ := cl_e h
          refine g_callVi (pc := 117) (As := [.int v16, .int v17, .int v18]) (rest := [.int v15]) hC (c_X5_stepSum l E v16 v17 v18 σ v20 σ19 hc) mi_X5_stepSum mv_X5_stepSum ob_16 rfl rfl lk_X5_97 rfl rfl (Nat.le_of_ble_eq_true rfl) ⟨by decide, by decide⟩ hab dX5_priceOf_117 ?_
          refine g_iadd (pc := 120) hC dX5_priceOf_120 ?_
          exact g_ret (pc := 121) hC h hR dX5_priceOf_121
set_option maxRecDepth 20000 in
theorem c_X5_doublesChosen (l : Launch) (E : uE) (σ : uS) (r : Int32) (h : F_X5_doublesChosen σ = some r) : CtI l E yX5_doublesChosen cX5_doublesChosen 3 (some .int) 2 44 [.ref (E.2.1 16)] σ r σ := by
  refine enterI 2 [some (.ref (E.2.1 16)), none, none] (by decide +kernel) rfl (Nat.le_of_ble_eq_true rfl) (fun o K hnL hC hab hR => ?_)
  have hC : Cx E K RX5 cX5_doublesChosen (some .int) 2 44 := hC
  have hN : ∀ k, k < 3 → k < K.2.2.2.2.2 := fun k hk => hnL ▸ hk
  delta F_X5_doublesChosen at h
  refine g_iconst (pc := 0) hC ki_0 dX5_doublesChosen_0 ?_
  refine g_istore_n (lv2 := [some (.ref (E.2.1 16)), some (.int 0), none]) (pc := 1) hC dX5_doublesChosen_1 rfl (Or.inr rfl) (hN _ (by decide)) ?_
  refine g_iconst (pc := 2) hC ki_0 dX5_doublesChosen_2 ?_
  refine g_istore_n (lv2 := [some (.ref (E.2.1 16)), some (.int 0), some (.int 0)]) (pc := 3) hC dX5_doublesChosen_3 rfl (Or.inr rfl) (hN _ (by decide)) ?_
  have hL1 : ∀ (n : Nat) (w1 : Int32) (w2 : Int32) (z1 : Int32), iter n (fun z => B_X5_doublesChosen_3 σ z.1 z.2) (w1, w2) = some z1 → (∀ (v3 : Int32), z1 = v3 → Gd l E K 0 0 o σ 39 [none, some (.int v3), none] []) → Gd l E K 0 0 o σ 4 [some (.ref (E.2.1 16)), some (.int w1), some (.int w2)] [] := by
    intro n
    induction n with
    | zero =>
      intro w1 w2 z1 hi
      exact (iter_0 hi).elim
    | succ n ih1 =>
      intro w1 w2 z1 hi1 kx1
      obtain ⟨r1, h, hi1⟩ := iter_s hi1
      replace h : B_X5_doublesChosen_3 σ w1 w2 = some r1 := h
      delta B_X5_doublesChosen_3 at h
      refine g_iload_n (pc := 4) hC dX5_doublesChosen_4 rfl ?_
      refine g_aload_n (pc := 5) hC dX5_doublesChosen_5 rfl ?_
      refine fg_X5_60_16 (pc := 6) hC dX5_doublesChosen_6 ?_
      refine g_icmp_ge (tgt := 39) (pc := 9) hC dX5_doublesChosen_9 (by decide) (fun c4 => ?_) (fun c4 => ?_)
      · replace h := it_t c4 h
        refine g_mask [false, true, false] rfl ?_
        exact kx1 w1 (iter_r h hi1)
      · replace h := it_f c4 h
        refine g_aload_n (pc := 12) hC dX5_doublesChosen_12 rfl ?_
        refine fg_X5_46_16 (pc := 13) hC dX5_doublesChosen_13 ?_
        refine g_iload_n (pc := 16) hC dX5_doublesChosen_16 rfl ?_
        refine g_aload_n (pc := 17) hC dX5_doublesChosen_17 rfl ?_
        refine fg_X5_34_16 (pc := 18) hC dX5_doublesChosen_18 ?_
        refine g_iload_n (pc := 21) hC dX5_doublesChosen_21 rfl ?_
        obtain ⟨v5, ev5, nv5, h⟩ := rd_e h
        refine g_iald (pc := 22) hC 23 (by decide) (ar_23 _ _ _) nv5 dX5_doublesChosen_22 ?_
        refine g_top ev5 ?_
        obtain ⟨v6, hc, h⟩ := cp_e h
        refine g_callVi (pc := 23) (As := [.int w2, .int v5]) (rest := []) hC (c_X1_halfOf l E w2 v5 σ v6 hc) mi_X1_halfOf mv_X1_halfOf ob_11 rfl rfl lk_X5_101 rfl rfl (Nat.le_of_ble_eq_true rfl) ⟨by decide, by decide⟩ hab dX5_doublesChosen_23 ?_
        refine g_iconst (pc := 26) hC ki_m1 dX5_doublesChosen_26 ?_
        have hJ33 : ∀ (v9 : Int32), J_X5_doublesChosen_2 w2 v9 = some r1 → Gd l E K 0 0 o σ 33 [some (.ref (E.2.1 16)), some (.int v9), some (.int w2)] [] := by
          intro v9 h
          delta J_X5_doublesChosen_2 at h
          obtain ⟨v10, ev10, h⟩ := lt_e h
          refine g_iinc (v := v10) (lv2 := [some (.ref (E.2.1 16)), some (.int v9), some (.int v10)]) (pc := 33) hC dX5_doublesChosen_33 rfl ev10 rfl (Or.inr rfl) (hN _ (by decide)) ?_
          refine g_goto (tgt := 4) (pc := 36) hC dX5_doublesChosen_36 (by decide) ?_
          exact ih1 v9 v10 z1 (iter_l h hi1) kx1
        refine g_icmp_eq (tgt := 33) (pc := 27) hC dX5_doublesChosen_27 (by decide) (fun c7 => ?_) (fun c7 => ?_)
        · replace h := it_t c7 h
          exact hJ33 w1 h
        · replace h := it_f c7 h
          obtain ⟨v8, ev8, h⟩ := lt_e h
          refine g_iinc (v := v8) (lv2 := [some (.ref (E.2.1 16)), some (.int v8), some (.int w2)]) (pc := 30) hC dX5_doublesChosen_30 rfl ev8 rfl (Or.inr rfl) (hN _ (by decide)) ?_
          exact hJ33 v8 h
  obtain ⟨z1, hz1, h⟩ := lp_e h
  refine hL1 FU 0 0 z1 hz1 (fun v3 ez => ?_)
  replace h : C_X5_doublesChosen_4 v3 = some r := by rw [ez] at h; exact h
  delta C_X5_doublesChosen_4 at h
  refine g_iload_n (pc := 39) hC dX5_doublesChosen_39 rfl ?_
  exact g_retp (pc := 40) hC h hR dX5_doublesChosen_40
set_option maxRecDepth 20000 in
theorem c_X5_leastThrough (l : Launch) (E : uE) (a1 : Int32) (a2 : Int32) (σ : uS) (r : Int32) (h : F_X5_leastThrough a1 a2 σ = some r) : CtI l E yX5_leastThrough cX5_leastThrough 3 (some .int) 2 44 [.ref (E.2.1 16), .int a1, .int a2] σ r σ := by
  refine enterI 0 [some (.ref (E.2.1 16)), some (.int a1), some (.int a2)] (by decide +kernel) rfl (Nat.le_of_ble_eq_true rfl) (fun o K hnL hC hab hR => ?_)
  have hC : Cx E K RX5 cX5_leastThrough (some .int) 2 44 := hC
  have hN : ∀ k, k < 3 → k < K.2.2.2.2.2 := fun k hk => hnL ▸ hk
  delta F_X5_leastThrough at h
  refine g_aload_n (pc := 0) hC dX5_leastThrough_0 rfl ?_
  refine fg_X5_46_16 (pc := 1) hC dX5_leastThrough_1 ?_
  refine g_iload_n (pc := 4) hC dX5_leastThrough_4 rfl ?_
  refine g_iload_n (pc := 5) hC dX5_leastThrough_5 rfl ?_
  obtain ⟨v1, hc, h⟩ := cp_e h
  refine g_callVi (pc := 6) (As := [.int a1, .int a2]) (rest := []) hC (c_X1_has l E a1 a2 σ v1 hc) mi_X1_has mv_X1_has ob_11 rfl rfl lk_X5_104 rfl rfl (Nat.le_of_ble_eq_true rfl) ⟨by decide, by decide⟩ hab dX5_leastThrough_6 ?_
  refine g_if_ne (tgt := 14) (pc := 9) hC dX5_leastThrough_9 (by decide) (fun c2 => ?_) (fun c2 => ?_)
  · replace h := it_f c2 h
    refine g_aload_n (pc := 14) hC dX5_leastThrough_14 rfl ?_
    refine fg_X5_21_16 (pc := 15) hC dX5_leastThrough_15 ?_
    refine g_iload_n (pc := 18) hC dX5_leastThrough_18 rfl ?_
    refine g_iload_n (pc := 19) hC dX5_leastThrough_19 rfl ?_
    obtain ⟨v3, hc, h⟩ := cp_e h
    refine g_callNi (pc := 20) (As := [.int a1, .int a2]) (rest := [.ref (E.2.1 19)]) hC (c_X11_cell l E a1 a2 σ v3 hc) mi_X11_cell ms_X11_cell lk_X5_108 rfl rfl (Nat.le_of_ble_eq_true rfl) ⟨by decide, by decide⟩ hab dX5_leastThrough_20 ?_
    obtain ⟨v4, ev4, nv4, h⟩ := rd_e h
    refine g_iald (pc := 23) hC 19 (by decide) (ar_19 _ _ _) nv4 dX5_leastThrough_23 ?_
    refine g_top ev4 ?_
    refine g_aload_n (pc := 24) hC dX5_leastThrough_24 rfl ?_
    refine fg_X5_31_16 (pc := 25) hC dX5_leastThrough_25 ?_
    refine g_iload_n (pc := 28) hC dX5_leastThrough_28 rfl ?_
    refine g_iload_n (pc := 29) hC dX5_leastThrough_29 rfl ?_
    obtain ⟨v5, hc, h⟩ := cp_e h
    refine g_callNi (pc := 30) (As := [.int a1, .int a2]) (rest := [.ref (E.2.1 22), .int v4]) hC (c_X11_cell l E a1 a2 σ v5 hc) mi_X11_cell ms_X11_cell lk_X5_108 rfl rfl (Nat.le_of_ble_eq_true rfl) ⟨by decide, by decide⟩ hab dX5_leastThrough_30 ?_
    obtain ⟨v6, ev6, nv6, h⟩ := rd_e h
    refine g_iald (pc := 33) hC 22 (by decide) (ar_22 _ _ _) nv6 dX5_leastThrough_33 ?_
    refine g_top ev6 ?_
    refine g_iadd (pc := 34) hC dX5_leastThrough_34 ?_
    refine g_aload_n (pc := 35) hC dX5_leastThrough_35 rfl ?_
    refine fg_X5_46_16 (pc := 36) hC dX5_leastThrough_36 ?_
    refine g_iload_n (pc := 39) hC dX5_leastThrough_39 rfl ?_
    refine g_iload_n (pc := 40) hC dX5_leastThrough_40 rfl ?_
    obtain ⟨v7, hc, h⟩ := cp_e h
    refine g_callVi (pc := 41) (As := [.int a1, .int a2]) (rest := [.int (v4 + v6)]) hC (c_X1_ownOf l E a1 a2 σ v7 hc) mi_X1_ownOf mv_X1_ownOf ob_11 rfl rfl lk_X5_111 rfl rfl (Nat.le_of_ble_eq_true rfl) ⟨by decide, by decide⟩ hab dX5_leastThrough_41 ?_
    refine g_isub (pc := 44) hC dX5_leastThrough_44 ?_
    exact g_retp (pc := 45) hC h hR dX5_leastThrough_45
  · replace h := it_t c2 h
    refine g_iconst (pc := 12) hC ki_0 dX5_leastThrough_12 ?_
    exact g_retp (pc := 13) hC h hR dX5_leastThrough_13
set_option maxRecDepth 20000 in
theorem c_X5_advance_17 (l : Launch) (E : uE) (a1 : Int32) (σ : uS) (σr : uS) (h : F_X5_advance_17 a1 σ = some σr) : CtV l E yX5_advance cX5_advance 7 2 44 [.ref (E.2.1 16), .int a1, .ref (E.2.1 17)] σ σr := by
  refine enterV 4 [some (.ref (E.2.1 16)), some (.int a1), some (.ref (E.2.1 17)), none, none, none, none] (by decide +kernel) rfl (Nat.le_of_ble_eq_true rfl) (fun o K hnL hC hab hR => ?_)
  have hC : Cx E K RX5 cX5_advance none 2 44 := hC
  have hN : ∀ k, k < 7 → k < K.2.2.2.2.2 := fun k hk => hnL ▸ hk
  delta F_X5_advance_17 at h
  refine g_iconst (pc := 0) hC ki_0 dX5_advance_0 ?_
  refine g_istore_n (lv2 := [some (.ref (E.2.1 16)), some (.int a1), some (.ref (E.2.1 17)), some (.int 0), none, none, none]) (pc := 1) hC dX5_advance_1 rfl (Or.inr rfl) (hN _ (by decide)) ?_
  have hL1 : ∀ (n : Nat) (w1 : Int32) (σ2 : uS) (z1 : uS), iter n (fun z => B_X5_advance_17_5 a1 z.1 z.2) (w1, σ2) = some z1 → (∀ (σ3 : uS), z1 = σ3 → Gd l E K 0 0 o σ3 110 [some (.ref (E.2.1 16)), some (.int a1), none, none, none, none, none] []) → Gd l E K 0 0 o σ2 2 [some (.ref (E.2.1 16)), some (.int a1), some (.ref (E.2.1 17)), some (.int w1), none, none, none] [] := by
    intro n
    induction n with
    | zero =>
      intro w1 σ2 z1 hi
      exact (iter_0 hi).elim
    | succ n ih1 =>
      intro w1 σ2 z1 hi1 kx1
      obtain ⟨r1, h, hi1⟩ := iter_s hi1
      replace h : B_X5_advance_17_5 a1 w1 σ2 = some r1 := h
      delta B_X5_advance_17_5 at h
      refine g_iload_n (pc := 2) hC dX5_advance_2 rfl ?_
      refine g_aload_n (pc := 3) hC dX5_advance_3 rfl ?_
      refine fg_X5_46_16 (pc := 4) hC dX5_advance_4 ?_
      refine g_iload_n (pc := 7) hC dX5_advance_7 rfl ?_
      obtain ⟨v4, hc, h⟩ := cp_e h
      refine g_callVi (pc := 8) (As := [.int a1]) (rest := [.int w1]) hC (c_X1_sizeOf l E a1 σ2 v4 hc) mi_X1_sizeOf mv_X1_sizeOf ob_11 rfl rfl lk_X5_114 rfl rfl (Nat.le_of_ble_eq_true rfl) ⟨by decide, by decide⟩ hab dX5_advance_8 ?_
      refine g_icmp_ge (tgt := 110) (pc := 11) hC dX5_advance_11 (by decide) (fun c5 => ?_) (fun c5 => ?_)
      · replace h := it_t c5 h
        refine g_mask [true, true, false, false, false, false, false] rfl ?_
        exact kx1 σ2 (iter_r h hi1)
      · replace h := it_f c5 h
        refine g_aload_n (pc := 14) hC dX5_advance_14 rfl ?_
        refine fg_X5_46_16 (pc := 15) hC dX5_advance_15 ?_
        refine g_iload_n (pc := 18) hC dX5_advance_18 rfl ?_
        refine g_iload_n (pc := 19) hC dX5_advance_19 rfl ?_
        obtain ⟨v6, hc, h⟩ := cp_e h
        refine g_callVi (pc := 20) (As := [.int a1, .int w1]) (rest := []) hC (c_X1_lagOf l E a1 w1 σ2 v6 hc) mi_X1_lagOf mv_X1_lagOf ob_11 rfl rfl lk_X5_82 rfl rfl (Nat.le_of_ble_eq_true rfl) ⟨by decide, by decide⟩ hab dX5_advance_20 ?_
        refine g_istore (lv2 := [some (.ref (E.2.1 16)), some (.int a1), some (.ref (E.2.1 17)), some (.int w1), some (.int v6), none, none]) (pc := 23) hC dX5_advance_23 rfl (Or.inr rfl) (hN _ (by decide)) ?_
        refine g_ldc (pc := 25) hC kc_X5_117 dX5_advance_25 ?_
        refine g_istore (lv2 := [some (.ref (E.2.1 16)), some (.int a1), some (.ref (E.2.1 17)), some (.int w1), some (.int v6), some (.int 536870912), none]) (pc := 27) hC dX5_advance_27 rfl (Or.inr rfl) (hN _ (by decide)) ?_
        refine g_iconst (pc := 29) hC ki_0 dX5_advance_29 ?_
        refine g_istore (lv2 := [some (.ref (E.2.1 16)), some (.int a1), some (.ref (E.2.1 17)), some (.int w1), some (.int v6), some (.int 536870912), some (.int 0)]) (pc := 30) hC dX5_advance_30 rfl (Or.inr rfl) (hN _ (by decide)) ?_
        have hL2 : ∀ (n : Nat) (w7 : Int32) (w8 : Int32) (z2 : Int32), iter n (fun z => B_X5_advance_17_3 a1 v6 σ2 z.1 z.2) (w7, w8) = some z2 → (∀ (v9 : Int32), z2 = v9 → Gd l E K 0 0 o σ2 86 [some (.ref (E.2.1 16)), some (.int a1), some (.ref (E.2.1 17)), some (.int w1), none, some (.int v9), none] []) → Gd l E K 0 0 o σ2 32 [some (.ref (E.2.1 16)), some (.int a1), some (.ref (E.2.1 17)), some (.int w1), some (.int v6), some (.int w7), some (.int w8)] [] := by
          intro n
          induction n with
          | zero =>
            intro w7 w8 z2 hi
            exact (iter_0 hi).elim
          | succ n ih2 =>
            intro w7 w8 z2 hi2 kx2
            obtain ⟨r2, h, hi2⟩ := iter_s hi2
            replace h : B_X5_advance_17_3 a1 v6 σ2 w7 w8 = some r2 := h
            delta B_X5_advance_17_3 at h
            refine g_iload (pc := 32) hC dX5_advance_32 rfl ?_
            refine g_aload_n (pc := 34) hC dX5_advance_34 rfl ?_
            refine fg_X5_46_16 (pc := 35) hC dX5_advance_35 ?_
            refine g_iload_n (pc := 38) hC dX5_advance_38 rfl ?_
            refine g_iconst (pc := 39) hC ki_1 dX5_advance_39 ?_
            refine g_isub (pc := 40) hC dX5_advance_40 ?_
            obtain ⟨v10, hc, h⟩ := cp_e h
            refine g_callVi (pc := 41) (As := [.int (a1 - 1)]) (rest := [.int w8]) hC (c_X1_sizeOf l E (a1 - 1) σ2 v10 hc) mi_X1_sizeOf mv_X1_sizeOf ob_11 rfl rfl lk_X5_114 rfl rfl (Nat.le_of_ble_eq_true rfl) ⟨by decide, by decide⟩ hab dX5_advance_41 ?_
            refine g_icmp_ge (tgt := 86) (pc := 44) hC dX5_advance_44 (by decide) (fun c11 => ?_) (fun c11 => ?_)
            · replace h := it_t c11 h
              refine g_mask [true, true, true, true, false, true, false] rfl ?_
              exact kx2 w7 (iter_r h hi2)
            · replace h := it_f c11 h
              refine g_iload (pc := 47) hC dX5_advance_47 rfl ?_
              refine g_aload_n (pc := 49) hC dX5_advance_49 rfl ?_
              refine fg_X5_40_16 (pc := 50) hC dX5_advance_50 ?_
              refine g_iload (pc := 53) hC dX5_advance_53 rfl ?_
              obtain ⟨v12, ev12, nv12, h⟩ := rd_e h
              refine g_iald (pc := 55) hC 25 (by decide) (ar_25 _ _ _) nv12 dX5_advance_55 ?_
              refine g_top ev12 ?_
              refine g_aload_n (pc := 56) hC dX5_advance_56 rfl ?_
              refine g_aload_n (pc := 57) hC dX5_advance_57 rfl ?_
              refine fg_X5_46_16 (pc := 58) hC dX5_advance_58 ?_
              refine g_iload_n (pc := 61) hC dX5_advance_61 rfl ?_
              refine g_iconst (pc := 62) hC ki_1 dX5_advance_62 ?_
              refine g_isub (pc := 63) hC dX5_advance_63 ?_
              refine g_iload (pc := 64) hC dX5_advance_64 rfl ?_
              obtain ⟨v13, hc, h⟩ := cp_e h
              refine g_callVi (pc := 66) (As := [.int (a1 - 1), .int w8]) (rest := [.ref (E.2.1 17), .int v12, .int w7]) hC (c_X1_lagOf l E (a1 - 1) w8 σ2 v13 hc) mi_X1_lagOf mv_X1_lagOf ob_11 rfl rfl lk_X5_82 rfl rfl (Nat.le_of_ble_eq_true rfl) ⟨by decide, by decide⟩ hab dX5_advance_66 ?_
              refine g_iload (pc := 69) hC dX5_advance_69 rfl ?_
              obtain ⟨v14, hc, h⟩ := cp_e h
              refine g_callVi (pc := 71) (As := [.int v13, .int v6]) (rest := [.int v12, .int w7]) hC (c_X9_price_17 l E v13 v6 σ2 v14 hc) mi_X9_price mv_X9_price ob_17 rfl rfl lk_X5_135 rfl rfl (Nat.le_of_ble_eq_true rfl) ⟨by decide, by decide⟩ hab dX5_advance_71 ?_
              refine g_iadd (pc := 74) hC dX5_advance_74 ?_
              obtain ⟨v15, hc, h⟩ := cp_e h
              refine g_callSi (pc := 75) (As := [.int w7, .int (v12 + v14)]) (rest := []) hC (c_J9_min_7cf53 l E w7 (v12 + v14) σ2 v15 hc) mi_J9_min_7cf53 ms_J9_min_7cf53 lk_X5_130 rfl rfl (Nat.le_of_ble_eq_true rfl) ⟨by decide, by decide⟩ hab dX5_advance_75 ?_
              refine g_istore (lv2 := [some (.ref (E.2.1 16)), some (.int a1), some (.ref (E.2.1 17)), some (.int w1), some (.int v6), some (.int v15), some (.int w8)]) (pc := 78) hC dX5_advance_78 rfl (Or.inr rfl) (hN _ (by decide)) ?_
              obtain ⟨v16, ev16, h⟩ := lt_e h
              refine g_iinc (v := v16) (lv2 := [some (.ref (E.2.1 16)), some (.int a1), some (.ref (E.2.1 17)), some (.int w1), some (.int v6), some (.int v15), some (.int v16)]) (pc := 80) hC dX5_advance_80 rfl ev16 rfl (Or.inr rfl) (hN _ (by decide)) ?_
              refine g_goto (tgt := 32) (pc := 83) hC dX5_advance_83 (by decide) ?_
              exact ih2 v15 v16 z2 (iter_l h hi2) kx2
        obtain ⟨z2, hz2, h⟩ := lp_e h
        refine hL2 FU 536870912 0 z2 hz2 (fun v9 ez => ?_)
        replace h : C_X5_advance_17_4 a1 w1 σ2 v9 = some r1 := by rw [ez] at h; exact h
        delta C_X5_advance_17_4 at h
        refine g_aload_n (pc := 86) hC dX5_advance_86 rfl ?_
        refine fg_X5_43_16 (pc := 87) hC dX5_advance_87 ?_
        refine g_iload_n (pc := 90) hC dX5_advance_90 rfl ?_
        refine g_iload (pc := 91) hC dX5_advance_91 rfl ?_
        refine g_aload_n (pc := 93) hC dX5_advance_93 rfl ?_
        refine fg_X5_46_16 (pc := 94) hC dX5_advance_94 ?_
        refine g_iload_n (pc := 97) hC dX5_advance_97 rfl ?_
        refine g_iload_n (pc := 98) hC dX5_advance_98 rfl ?_
        obtain ⟨v17, hc, h⟩ := cp_e h
        refine g_callVi (pc := 99) (As := [.int a1, .int w1]) (rest := [.int v9, .int w1, .ref (E.2.1 26)]) hC (c_X1_ownOf l E a1 w1 σ2 v17 hc) mi_X1_ownOf mv_X1_ownOf ob_11 rfl rfl lk_X5_111 rfl rfl (Nat.le_of_ble_eq_true rfl) ⟨by decide, by decide⟩ hab dX5_advance_99 ?_
        refine g_iadd (pc := 102) hC dX5_advance_102 ?_
        obtain ⟨σ18, eσ18, nσ18, h⟩ := wr_e h
        refine g_iast (pc := 103) hC 26 (by decide) (ar_26 _ _) nσ18 dX5_advance_103 eσ18 ?_
        obtain ⟨v19, ev19, h⟩ := lt_e h
        refine g_iinc (v := v19) (lv2 := [some (.ref (E.2.1 16)), some (.int a1), some (.ref (E.2.1 17)), some (.int v19), none, some (.int v9), none]) (pc := 104) hC dX5_advance_104 rfl ev19 rfl (Or.inr rfl) (hN _ (by decide)) ?_
        refine g_goto (tgt := 2) (pc := 107) hC dX5_advance_107 (by decide) ?_
        refine g_mask [true, true, true, true, false, false, false] rfl ?_
        exact ih1 v19 σ18 z1 (iter_l h hi1) kx1
  obtain ⟨z1, hz1, h⟩ := lp_e h
  refine hL1 FU 0 σ z1 hz1 (fun σ3 ez => ?_)
  replace h : C_X5_advance_17_9 a1 σ3 = some σr := by rw [ez] at h; exact h
  delta C_X5_advance_17_9 at h
  refine g_iconst (pc := 110) hC ki_0 dX5_advance_110 ?_
  refine g_istore_n (lv2 := [some (.ref (E.2.1 16)), some (.int a1), none, some (.int 0), none, none, none]) (pc := 111) hC dX5_advance_111 rfl (Or.inr rfl) (hN _ (by decide)) ?_
  have hL6 : ∀ (n : Nat) (w20 : Int32) (σ21 : uS) (z6 : uS), iter n (fun z => B_X5_advance_17_7 a1 z.1 z.2) (w20, σ21) = some z6 → (∀ (σ22 : uS), z6 = σ22 → Gd l E K 0 0 o σ22 142 [none, none, none, none, none, none, none] []) → Gd l E K 0 0 o σ21 112 [some (.ref (E.2.1 16)), some (.int a1), none, some (.int w20), none, none, none] [] := by
    intro n
    induction n with
    | zero =>
      intro w20 σ21 z6 hi
      exact (iter_0 hi).elim
    | succ n ih6 =>
      intro w20 σ21 z6 hi6 kx6
      obtain ⟨r6, h, hi6⟩ := iter_s hi6
      replace h : B_X5_advance_17_7 a1 w20 σ21 = some r6 := h
      delta B_X5_advance_17_7 at h
      refine g_iload_n (pc := 112) hC dX5_advance_112 rfl ?_
      refine g_aload_n (pc := 113) hC dX5_advance_113 rfl ?_
      refine fg_X5_46_16 (pc := 114) hC dX5_advance_114 ?_
      refine g_iload_n (pc := 117) hC dX5_advance_117 rfl ?_
      obtain ⟨v23, hc, h⟩ := cp_e h
      refine g_callVi (pc := 118) (As := [.int a1]) (rest := [.int w20]) hC (c_X1_sizeOf l E a1 σ21 v23 hc) mi_X1_sizeOf mv_X1_sizeOf ob_11 rfl rfl lk_X5_114 rfl rfl (Nat.le_of_ble_eq_true rfl) ⟨by decide, by decide⟩ hab dX5_advance_118 ?_
      refine g_icmp_ge (tgt := 142) (pc := 121) hC dX5_advance_121 (by decide) (fun c24 => ?_) (fun c24 => ?_)
      · replace h := it_t c24 h
        refine g_mask [false, false, false, false, false, false, false] rfl ?_
        exact kx6 σ21 (iter_r h hi6)
      · replace h := it_f c24 h
        refine g_aload_n (pc := 124) hC dX5_advance_124 rfl ?_
        refine fg_X5_40_16 (pc := 125) hC dX5_advance_125 ?_
        refine g_iload_n (pc := 128) hC dX5_advance_128 rfl ?_
        refine g_aload_n (pc := 129) hC dX5_advance_129 rfl ?_
        refine fg_X5_43_16 (pc := 130) hC dX5_advance_130 ?_
        refine g_iload_n (pc := 133) hC dX5_advance_133 rfl ?_
        obtain ⟨v25, ev25, nv25, h⟩ := rd_e h
        refine g_iald (pc := 134) hC 26 (by decide) (ar_26 _ _ _) nv25 dX5_advance_134 ?_
        refine g_top ev25 ?_
        obtain ⟨σ26, eσ26, nσ26, h⟩ := wr_e h
        refine g_iast (pc := 135) hC 25 (by decide) (ar_25 _ _) nσ26 dX5_advance_135 eσ26 ?_
        obtain ⟨v27, ev27, h⟩ := lt_e h
        refine g_iinc (v := v27) (lv2 := [some (.ref (E.2.1 16)), some (.int a1), none, some (.int v27), none, none, none]) (pc := 136) hC dX5_advance_136 rfl ev27 rfl (Or.inr rfl) (hN _ (by decide)) ?_
        refine g_goto (tgt := 112) (pc := 139) hC dX5_advance_139 (by decide) ?_
        exact ih6 v27 σ26 z6 (iter_l h hi6) kx6
  obtain ⟨z6, hz6, h⟩ := lp_e h
  refine hL6 FU 0 σ3 z6 hz6 (fun σ22 ez => ?_)
  replace h : C_X5_advance_17_8 σ22 = some σr := by rw [ez] at h; exact h
  delta C_X5_advance_17_8 at h
  exact g_retv (pc := 142) hC h hR dX5_advance_142
set_option maxRecDepth 20000 in
theorem c_X5_leastThroughTwo (l : Launch) (E : uE) (a1 : Int32) (a2 : Int32) (a3 : Int32) (a4 : Int32) (σ : uS) (r : Int32) (σr : uS) (h : F_X5_leastThroughTwo a1 a2 a3 a4 σ = some (r, σr)) : CtI l E yX5_leastThroughTwo cX5_leastThroughTwo 6 (some .int) 3 70 [.ref (E.2.1 16), .int a1, .int a2, .int a3, .int a4] σ r σr := by
  refine enterI 1 [some (.ref (E.2.1 16)), some (.int a1), some (.int a2), some (.int a3), some (.int a4), none] (by decide +kernel) rfl (Nat.le_of_ble_eq_true rfl) (fun o K hnL hC hab hR => ?_)
  have hC : Cx E K RX5 cX5_leastThroughTwo (some .int) 3 70 := hC
  have hN : ∀ k, k < 6 → k < K.2.2.2.2.2 := fun k hk => hnL ▸ hk
  delta F_X5_leastThroughTwo at h
  refine g_aload_n (pc := 0) hC dX5_leastThroughTwo_0 rfl ?_
  refine fg_X5_46_16 (pc := 1) hC dX5_leastThroughTwo_1 ?_
  refine g_iload_n (pc := 4) hC dX5_leastThroughTwo_4 rfl ?_
  refine g_iload_n (pc := 5) hC dX5_leastThroughTwo_5 rfl ?_
  obtain ⟨v1, hc, h⟩ := cp_e h
  refine g_callVi (pc := 6) (As := [.int a1, .int a2]) (rest := []) hC (c_X1_has l E a1 a2 σ v1 hc) mi_X1_has mv_X1_has ob_11 rfl rfl lk_X5_104 rfl rfl (Nat.le_of_ble_eq_true rfl) ⟨by decide, by decide⟩ hab dX5_leastThroughTwo_6 ?_
  have hJ25 : J_X5_leastThroughTwo_8 σ = some (r, σr) → Gd l E K 0 0 o σ 25 [none, none, none, none, none, none] [] := by
    intro h
    delta J_X5_leastThroughTwo_8 at h
    refine g_iconst (pc := 25) hC ki_0 dX5_leastThroughTwo_25 ?_
    exact g_ret (pc := 26) hC h hR dX5_leastThroughTwo_26
  refine g_if_eq (tgt := 25) (pc := 9) hC dX5_leastThroughTwo_9 (by decide) (fun c2 => ?_) (fun c2 => ?_)
  · replace h := it_t c2 h
    refine g_mask [false, false, false, false, false, false] rfl ?_
    exact hJ25 h
  · replace h := it_f c2 h
    refine g_aload_n (pc := 12) hC dX5_leastThroughTwo_12 rfl ?_
    refine fg_X5_46_16 (pc := 13) hC dX5_leastThroughTwo_13 ?_
    refine g_iload_n (pc := 16) hC dX5_leastThroughTwo_16 rfl ?_
    refine g_iload (pc := 17) hC dX5_leastThroughTwo_17 rfl ?_
    obtain ⟨v3, hc, h⟩ := cp_e h
    refine g_callVi (pc := 19) (As := [.int a3, .int a4]) (rest := []) hC (c_X1_has l E a3 a4 σ v3 hc) mi_X1_has mv_X1_has ob_11 rfl rfl lk_X5_104 rfl rfl (Nat.le_of_ble_eq_true rfl) ⟨by decide, by decide⟩ hab dX5_leastThroughTwo_19 ?_
    refine g_if_ne (tgt := 27) (pc := 22) hC dX5_leastThroughTwo_22 (by decide) (fun c4 => ?_) (fun c4 => ?_)
    · replace h := it_f c4 h
      refine g_iconst (pc := 27) hC ki_0 dX5_leastThroughTwo_27 ?_
      refine g_istore (lv2 := [some (.ref (E.2.1 16)), some (.int a1), some (.int a2), some (.int a3), some (.int a4), some (.int 0)]) (pc := 28) hC dX5_leastThroughTwo_28 rfl (Or.inr rfl) (hN _ (by decide)) ?_
      have hL1 : ∀ (n : Nat) (w5 : Int32) (σ6 : uS) (z1 : uS), iter n (fun z => B_X5_leastThroughTwo_3 a1 a2 z.1 z.2) (w5, σ6) = some z1 → (∀ (σ7 : uS), z1 = σ7 → Gd l E K 0 0 o σ7 77 [some (.ref (E.2.1 16)), some (.int a1), none, some (.int a3), some (.int a4), none] []) → Gd l E K 0 0 o σ6 30 [some (.ref (E.2.1 16)), some (.int a1), some (.int a2), some (.int a3), some (.int a4), some (.int w5)] [] := by
        intro n
        induction n with
        | zero =>
          intro w5 σ6 z1 hi
          exact (iter_0 hi).elim
        | succ n ih1 =>
          intro w5 σ6 z1 hi1 kx1
          obtain ⟨r1, h, hi1⟩ := iter_s hi1
          replace h : B_X5_leastThroughTwo_3 a1 a2 w5 σ6 = some r1 := h
          delta B_X5_leastThroughTwo_3 at h
          refine g_iload (pc := 30) hC dX5_leastThroughTwo_30 rfl ?_
          refine g_aload_n (pc := 32) hC dX5_leastThroughTwo_32 rfl ?_
          refine fg_X5_46_16 (pc := 33) hC dX5_leastThroughTwo_33 ?_
          refine g_iload_n (pc := 36) hC dX5_leastThroughTwo_36 rfl ?_
          obtain ⟨v8, hc, h⟩ := cp_e h
          refine g_callVi (pc := 37) (As := [.int a1]) (rest := [.int w5]) hC (c_X1_sizeOf l E a1 σ6 v8 hc) mi_X1_sizeOf mv_X1_sizeOf ob_11 rfl rfl lk_X5_114 rfl rfl (Nat.le_of_ble_eq_true rfl) ⟨by decide, by decide⟩ hab dX5_leastThroughTwo_37 ?_
          refine g_icmp_ge (tgt := 77) (pc := 40) hC dX5_leastThroughTwo_40 (by decide) (fun c9 => ?_) (fun c9 => ?_)
          · replace h := it_t c9 h
            refine g_mask [true, true, false, true, true, false] rfl ?_
            exact kx1 σ6 (iter_r h hi1)
          · replace h := it_f c9 h
            refine g_aload_n (pc := 43) hC dX5_leastThroughTwo_43 rfl ?_
            refine fg_X5_40_16 (pc := 44) hC dX5_leastThroughTwo_44 ?_
            refine g_iload (pc := 47) hC dX5_leastThroughTwo_47 rfl ?_
            refine g_iload (pc := 49) hC dX5_leastThroughTwo_49 rfl ?_
            refine g_iload_n (pc := 51) hC dX5_leastThroughTwo_51 rfl ?_
            have hJ70 : ∀ (v13 : Int32), J_X5_leastThroughTwo_2 w5 σ6 v13 = some r1 → Gd l E K 0 0 o σ6 70 [some (.ref (E.2.1 16)), some (.int a1), some (.int a2), some (.int a3), some (.int a4), some (.int w5)] [.int v13, .int w5, .ref (E.2.1 25)] := by
              intro v13 h
              delta J_X5_leastThroughTwo_2 at h
              obtain ⟨σ14, eσ14, nσ14, h⟩ := wr_e h
              refine g_iast (pc := 70) hC 25 (by decide) (ar_25 _ _) nσ14 dX5_leastThroughTwo_70 eσ14 ?_
              obtain ⟨v15, ev15, h⟩ := lt_e h
              refine g_iinc (v := v15) (lv2 := [some (.ref (E.2.1 16)), some (.int a1), some (.int a2), some (.int a3), some (.int a4), some (.int v15)]) (pc := 71) hC dX5_leastThroughTwo_71 rfl ev15 rfl (Or.inr rfl) (hN _ (by decide)) ?_
              refine g_goto (tgt := 30) (pc := 74) hC dX5_leastThroughTwo_74 (by decide) ?_
              exact ih1 v15 σ14 z1 (iter_l h hi1) kx1
            refine g_icmp_ne (tgt := 68) (pc := 52) hC dX5_leastThroughTwo_52 (by decide) (fun c10 => ?_) (fun c10 => ?_)
            · replace h := it_f c10 h
              refine g_ldc (pc := 68) hC kc_X5_117 dX5_leastThroughTwo_68 ?_
              exact hJ70 536870912 h
            · replace h := it_t c10 h
              refine g_aload_n (pc := 55) hC dX5_leastThroughTwo_55 rfl ?_
              refine fg_X5_21_16 (pc := 56) hC dX5_leastThroughTwo_56 ?_
              refine g_iload_n (pc := 59) hC dX5_leastThroughTwo_59 rfl ?_
              refine g_iload_n (pc := 60) hC dX5_leastThroughTwo_60 rfl ?_
              obtain ⟨v11, hc, h⟩ := cp_e h
              refine g_callNi (pc := 61) (As := [.int a1, .int a2]) (rest := [.ref (E.2.1 19), .int w5, .ref (E.2.1 25)]) hC (c_X11_cell l E a1 a2 σ6 v11 hc) mi_X11_cell ms_X11_cell lk_X5_108 rfl rfl (Nat.le_of_ble_eq_true rfl) ⟨by decide, by decide⟩ hab dX5_leastThroughTwo_61 ?_
              obtain ⟨v12, ev12, nv12, h⟩ := rd_e h
              refine g_iald (pc := 64) hC 19 (by decide) (ar_19 _ _ _) nv12 dX5_leastThroughTwo_64 ?_
              refine g_top ev12 ?_
              refine g_goto (tgt := 70) (pc := 65) hC dX5_leastThroughTwo_65 (by decide) ?_
              exact hJ70 v12 h
      obtain ⟨z1, hz1, h⟩ := lp_e h
      refine hL1 FU 0 σ z1 hz1 (fun σ7 ez => ?_)
      replace h : C_X5_leastThroughTwo_7 a1 a3 a4 σ7 = some (r, σr) := by rw [ez] at h; exact h
      delta C_X5_leastThroughTwo_7 at h
      refine g_iload_n (pc := 77) hC dX5_leastThroughTwo_77 rfl ?_
      refine g_iconst (pc := 78) hC ki_1 dX5_leastThroughTwo_78 ?_
      refine g_iadd (pc := 79) hC dX5_leastThroughTwo_79 ?_
      obtain ⟨v16, ev16, h⟩ := lt_e h
      refine g_top ev16 ?_
      refine g_istore (lv2 := [some (.ref (E.2.1 16)), some (.int a1), none, some (.int a3), some (.int a4), some (.int v16)]) (pc := 80) hC dX5_leastThroughTwo_80 rfl (Or.inr rfl) (hN _ (by decide)) ?_
      have hL4 : ∀ (n : Nat) (w17 : Int32) (σ18 : uS) (z4 : uS), iter n (fun z => B_X5_leastThroughTwo_5 a3 z.1 z.2) (w17, σ18) = some z4 → (∀ (σ19 : uS), z4 = σ19 → Gd l E K 0 0 o σ19 104 [some (.ref (E.2.1 16)), none, none, some (.int a3), some (.int a4), none] []) → Gd l E K 0 0 o σ18 82 [some (.ref (E.2.1 16)), none, none, some (.int a3), some (.int a4), some (.int w17)] [] := by
        intro n
        induction n with
        | zero =>
          intro w17 σ18 z4 hi
          exact (iter_0 hi).elim
        | succ n ih4 =>
          intro w17 σ18 z4 hi4 kx4
          obtain ⟨r4, h, hi4⟩ := iter_s hi4
          replace h : B_X5_leastThroughTwo_5 a3 w17 σ18 = some r4 := h
          delta B_X5_leastThroughTwo_5 at h
          refine g_iload (pc := 82) hC dX5_leastThroughTwo_82 rfl ?_
          refine g_iload_n (pc := 84) hC dX5_leastThroughTwo_84 rfl ?_
          refine g_icmp_gt (tgt := 104) (pc := 85) hC dX5_leastThroughTwo_85 (by decide) (fun c20 => ?_) (fun c20 => ?_)
          · replace h := it_t c20 h
            refine g_mask [true, false, false, true, true, false] rfl ?_
            exact kx4 σ18 (iter_r h hi4)
          · replace h := it_f c20 h
            refine g_aload_n (pc := 88) hC dX5_leastThroughTwo_88 rfl ?_
            refine g_iload (pc := 89) hC dX5_leastThroughTwo_89 rfl ?_
            refine g_aload_n (pc := 91) hC dX5_leastThroughTwo_91 rfl ?_
            refine fg_X5_12_16 (pc := 92) hC dX5_leastThroughTwo_92 ?_
            obtain ⟨σ21, hc, h⟩ := cp_e h
            refine g_callVv (pc := 95) (As := [.int w17, .ref (E.2.1 17)]) (rest := []) hC (c_X5_advance_17 l E w17 σ18 σ21 hc) mi_X5_advance mv_X5_advance ob_16 rfl rfl lk_X5_118 rfl rfl (Nat.le_of_ble_eq_true rfl) ⟨by decide, by decide⟩ hab dX5_leastThroughTwo_95 ?_
            obtain ⟨v22, ev22, h⟩ := lt_e h
            refine g_iinc (v := v22) (lv2 := [some (.ref (E.2.1 16)), none, none, some (.int a3), some (.int a4), some (.int v22)]) (pc := 98) hC dX5_leastThroughTwo_98 rfl ev22 rfl (Or.inr rfl) (hN _ (by decide)) ?_
            refine g_goto (tgt := 82) (pc := 101) hC dX5_leastThroughTwo_101 (by decide) ?_
            exact ih4 v22 σ21 z4 (iter_l h hi4) kx4
      obtain ⟨z4, hz4, h⟩ := lp_e h
      refine g_mask [true, false, false, true, true, true] rfl ?_
      refine hL4 FU v16 σ7 z4 hz4 (fun σ19 ez => ?_)
      replace h : C_X5_leastThroughTwo_6 a3 a4 σ19 = some (r, σr) := by rw [ez] at h; exact h
      delta C_X5_leastThroughTwo_6 at h
      refine g_aload_n (pc := 104) hC dX5_leastThroughTwo_104 rfl ?_
      refine fg_X5_40_16 (pc := 105) hC dX5_leastThroughTwo_105 ?_
      refine g_iload (pc := 108) hC dX5_leastThroughTwo_108 rfl ?_
      obtain ⟨v23, ev23, nv23, h⟩ := rd_e h
      refine g_iald (pc := 110) hC 25 (by decide) (ar_25 _ _ _) nv23 dX5_leastThroughTwo_110 ?_
      refine g_top ev23 ?_
      refine g_aload_n (pc := 111) hC dX5_leastThroughTwo_111 rfl ?_
      refine fg_X5_31_16 (pc := 112) hC dX5_leastThroughTwo_112 ?_
      refine g_iload_n (pc := 115) hC dX5_leastThroughTwo_115 rfl ?_
      refine g_iload (pc := 116) hC dX5_leastThroughTwo_116 rfl ?_
      obtain ⟨v24, hc, h⟩ := cp_e h
      refine g_callNi (pc := 118) (As := [.int a3, .int a4]) (rest := [.ref (E.2.1 22), .int v23]) hC (c_X11_cell l E a3 a4 σ19 v24 hc) mi_X11_cell ms_X11_cell lk_X5_108 rfl rfl (Nat.le_of_ble_eq_true rfl) ⟨by decide, by decide⟩ hab dX5_leastThroughTwo_118 ?_
      obtain ⟨v25, ev25, nv25, h⟩ := rd_e h
      refine g_iald (pc := 121) hC 22 (by decide) (ar_22 _ _ _) nv25 dX5_leastThroughTwo_121 ?_
      refine g_top ev25 ?_
      refine g_iadd (pc := 122) hC dX5_leastThroughTwo_122 ?_
      refine g_aload_n (pc := 123) hC dX5_leastThroughTwo_123 rfl ?_
      refine fg_X5_46_16 (pc := 124) hC dX5_leastThroughTwo_124 ?_
      refine g_iload_n (pc := 127) hC dX5_leastThroughTwo_127 rfl ?_
      refine g_iload (pc := 128) hC dX5_leastThroughTwo_128 rfl ?_
      obtain ⟨v26, hc, h⟩ := cp_e h
      refine g_callVi (pc := 130) (As := [.int a3, .int a4]) (rest := [.int (v23 + v25)]) hC (c_X1_ownOf l E a3 a4 σ19 v26 hc) mi_X1_ownOf mv_X1_ownOf ob_11 rfl rfl lk_X5_111 rfl rfl (Nat.le_of_ble_eq_true rfl) ⟨by decide, by decide⟩ hab dX5_leastThroughTwo_130 ?_
      refine g_isub (pc := 133) hC dX5_leastThroughTwo_133 ?_
      exact g_ret (pc := 134) hC h hR dX5_leastThroughTwo_134
    · replace h := it_t c4 h
      refine g_mask [false, false, false, false, false, false] rfl ?_
      exact hJ25 h
set_option maxRecDepth 20000 in
theorem c_X5_leastOfAll_17 (l : Launch) (E : uE) (a2 : Int32) (σ : uS) (r : Int32) (σr : uS) (h : F_X5_leastOfAll_17 a2 σ = some (r, σr)) : CtI l E yX5_leastOfAll cX5_leastOfAll 5 (some .int) 3 70 [.ref (E.2.1 16), .ref (E.2.1 17), .int a2] σ r σr := by
  refine enterI 2 [some (.ref (E.2.1 16)), some (.ref (E.2.1 17)), some (.int a2), none, none] (by decide +kernel) rfl (Nat.le_of_ble_eq_true rfl) (fun o K hnL hC hab hR => ?_)
  have hC : Cx E K RX5 cX5_leastOfAll (some .int) 3 70 := hC
  have hN : ∀ k, k < 5 → k < K.2.2.2.2.2 := fun k hk => hnL ▸ hk
  delta F_X5_leastOfAll_17 at h
  refine g_aload_n (pc := 0) hC dX5_leastOfAll_0 rfl ?_
  refine fg_X5_60_16 (pc := 1) hC dX5_leastOfAll_1 ?_
  refine g_if_ne (tgt := 9) (pc := 4) hC dX5_leastOfAll_4 (by decide) (fun c1 => ?_) (fun c1 => ?_)
  · replace h := it_f c1 h
    refine g_iconst (pc := 9) hC ki_0 dX5_leastOfAll_9 ?_
    refine g_istore_n (lv2 := [some (.ref (E.2.1 16)), some (.ref (E.2.1 17)), some (.int a2), some (.int 0), none]) (pc := 10) hC dX5_leastOfAll_10 rfl (Or.inr rfl) (hN _ (by decide)) ?_
    have hL1 : ∀ (n : Nat) (w2 : Int32) (σ3 : uS) (z1 : uS), iter n (fun z => B_X5_leastOfAll_17_10 a2 z.1 z.2) (w2, σ3) = some z1 → (∀ (σ4 : uS), z1 = σ4 → Gd l E K 0 0 o σ4 136 [some (.ref (E.2.1 16)), none, none, none, none] []) → Gd l E K 0 0 o σ3 11 [some (.ref (E.2.1 16)), some (.ref (E.2.1 17)), some (.int a2), some (.int w2), none] [] := by
      intro n
      induction n with
      | zero =>
        intro w2 σ3 z1 hi
        exact (iter_0 hi).elim
      | succ n ih1 =>
        intro w2 σ3 z1 hi1 kx1
        obtain ⟨r1, h, hi1⟩ := iter_s hi1
        replace h : B_X5_leastOfAll_17_10 a2 w2 σ3 = some r1 := h
        delta B_X5_leastOfAll_17_10 at h
        refine g_iload_n (pc := 11) hC dX5_leastOfAll_11 rfl ?_
        refine g_aload_n (pc := 12) hC dX5_leastOfAll_12 rfl ?_
        refine fg_X5_60_16 (pc := 13) hC dX5_leastOfAll_13 ?_
        refine g_icmp_ge (tgt := 136) (pc := 16) hC dX5_leastOfAll_16 (by decide) (fun c5 => ?_) (fun c5 => ?_)
        · replace h := it_t c5 h
          refine g_mask [true, false, false, false, false] rfl ?_
          exact kx1 σ3 (iter_r h hi1)
        · replace h := it_f c5 h
          refine g_iload_n (pc := 19) hC dX5_leastOfAll_19 rfl ?_
          have hJ71 : ∀ (σ16 : uS), J_X5_leastOfAll_17_9 a2 w2 σ16 = some r1 → Gd l E K 0 0 o σ16 71 [some (.ref (E.2.1 16)), some (.ref (E.2.1 17)), some (.int a2), some (.int w2), none] [] := by
            intro σ16 h
            delta J_X5_leastOfAll_17_9 at h
            refine g_iconst (pc := 71) hC ki_0 dX5_leastOfAll_71 ?_
            refine g_istore (lv2 := [some (.ref (E.2.1 16)), some (.ref (E.2.1 17)), some (.int a2), some (.int w2), some (.int 0)]) (pc := 72) hC dX5_leastOfAll_72 rfl (Or.inr rfl) (hN _ (by decide)) ?_
            have hL5 : ∀ (n : Nat) (w17 : Int32) (σ18 : uS) (z5 : uS), iter n (fun z => B_X5_leastOfAll_17_7 a2 w2 z.1 z.2) (w17, σ18) = some z5 → (∀ (σ19 : uS), z5 = σ19 → Gd l E K 0 0 o σ19 130 [some (.ref (E.2.1 16)), some (.ref (E.2.1 17)), some (.int a2), some (.int w2), none] []) → Gd l E K 0 0 o σ18 74 [some (.ref (E.2.1 16)), some (.ref (E.2.1 17)), some (.int a2), some (.int w2), some (.int w17)] [] := by
              intro n
              induction n with
              | zero =>
                intro w17 σ18 z5 hi
                exact (iter_0 hi).elim
              | succ n ih5 =>
                intro w17 σ18 z5 hi5 kx5
                obtain ⟨r5, h, hi5⟩ := iter_s hi5
                replace h : B_X5_leastOfAll_17_7 a2 w2 w17 σ18 = some r5 := h
                delta B_X5_leastOfAll_17_7 at h
                refine g_iload_n (pc := 74) hC dX5_leastOfAll_74 rfl ?_
                refine g_if_ne (tgt := 130) (pc := 75) hC dX5_leastOfAll_75 (by decide) (fun c20 => ?_) (fun c20 => ?_)
                · replace h := it_f c20 h
                  refine g_mask [true, true, true, true, false] rfl ?_
                  exact kx5 σ18 (iter_r h hi5)
                · replace h := it_t c20 h
                  refine g_iload (pc := 78) hC dX5_leastOfAll_78 rfl ?_
                  refine g_aload_n (pc := 80) hC dX5_leastOfAll_80 rfl ?_
                  refine fg_X5_46_16 (pc := 81) hC dX5_leastOfAll_81 ?_
                  refine g_iload_n (pc := 84) hC dX5_leastOfAll_84 rfl ?_
                  obtain ⟨v21, hc, h⟩ := cp_e h
                  refine g_callVi (pc := 85) (As := [.int w2]) (rest := [.int w17]) hC (c_X1_sizeOf l E w2 σ18 v21 hc) mi_X1_sizeOf mv_X1_sizeOf ob_11 rfl rfl lk_X5_114 rfl rfl (Nat.le_of_ble_eq_true rfl) ⟨by decide, by decide⟩ hab dX5_leastOfAll_85 ?_
                  refine g_icmp_ge (tgt := 130) (pc := 88) hC dX5_leastOfAll_88 (by decide) (fun c22 => ?_) (fun c22 => ?_)
                  · replace h := it_t c22 h
                    refine g_mask [true, true, true, true, false] rfl ?_
                    exact kx5 σ18 (iter_r h hi5)
                  · replace h := it_f c22 h
                    refine g_aload_n (pc := 91) hC dX5_leastOfAll_91 rfl ?_
                    refine fg_X5_40_16 (pc := 92) hC dX5_leastOfAll_92 ?_
                    refine g_iload (pc := 95) hC dX5_leastOfAll_95 rfl ?_
                    refine g_aload_n (pc := 97) hC dX5_leastOfAll_97 rfl ?_
                    refine fg_X5_46_16 (pc := 98) hC dX5_leastOfAll_98 ?_
                    refine g_iload_n (pc := 101) hC dX5_leastOfAll_101 rfl ?_
                    refine g_iload (pc := 102) hC dX5_leastOfAll_102 rfl ?_
                    obtain ⟨v23, hc, h⟩ := cp_e h
                    refine g_callVi (pc := 104) (As := [.int w2, .int w17]) (rest := [.int w17, .ref (E.2.1 25)]) hC (c_X1_halfOf l E w2 w17 σ18 v23 hc) mi_X1_halfOf mv_X1_halfOf ob_11 rfl rfl lk_X5_101 rfl rfl (Nat.le_of_ble_eq_true rfl) ⟨by decide, by decide⟩ hab dX5_leastOfAll_104 ?_
                    refine g_iconst (pc := 107) hC ki_m1 dX5_leastOfAll_107 ?_
                    have hJ123 : ∀ (v26 : Int32), J_X5_leastOfAll_17_6 w17 σ18 v26 = some r5 → Gd l E K 0 0 o σ18 123 [some (.ref (E.2.1 16)), some (.ref (E.2.1 17)), some (.int a2), some (.int w2), some (.int w17)] [.int v26, .int w17, .ref (E.2.1 25)] := by
                      intro v26 h
                      delta J_X5_leastOfAll_17_6 at h
                      obtain ⟨σ27, eσ27, nσ27, h⟩ := wr_e h
                      refine g_iast (pc := 123) hC 25 (by decide) (ar_25 _ _) nσ27 dX5_leastOfAll_123 eσ27 ?_
                      obtain ⟨v28, ev28, h⟩ := lt_e h
                      refine g_iinc (v := v28) (lv2 := [some (.ref (E.2.1 16)), some (.ref (E.2.1 17)), some (.int a2), some (.int w2), some (.int v28)]) (pc := 124) hC dX5_leastOfAll_124 rfl ev28 rfl (Or.inr rfl) (hN _ (by decide)) ?_
                      refine g_goto (tgt := 74) (pc := 127) hC dX5_leastOfAll_127 (by decide) ?_
                      exact ih5 v28 σ27 z5 (iter_l h hi5) kx5
                    refine g_icmp_ne (tgt := 121) (pc := 108) hC dX5_leastOfAll_108 (by decide) (fun c24 => ?_) (fun c24 => ?_)
                    · replace h := it_f c24 h
                      refine g_ldc (pc := 121) hC kc_X5_117 dX5_leastOfAll_121 ?_
                      exact hJ123 536870912 h
                    · replace h := it_t c24 h
                      refine g_aload_n (pc := 111) hC dX5_leastOfAll_111 rfl ?_
                      refine fg_X5_40_16 (pc := 112) hC dX5_leastOfAll_112 ?_
                      refine g_iload (pc := 115) hC dX5_leastOfAll_115 rfl ?_
                      obtain ⟨v25, ev25, nv25, h⟩ := rd_e h
                      refine g_iald (pc := 117) hC 25 (by decide) (ar_25 _ _ _) nv25 dX5_leastOfAll_117 ?_
                      refine g_top ev25 ?_
                      refine g_goto (tgt := 123) (pc := 118) hC dX5_leastOfAll_118 (by decide) ?_
                      exact hJ123 v25 h
            obtain ⟨z5, hz5, h⟩ := lp_e h
            refine hL5 FU 0 σ16 z5 hz5 (fun σ19 ez => ?_)
            replace h : C_X5_leastOfAll_17_8 w2 σ19 = some r1 := by rw [ez] at h; exact h
            delta C_X5_leastOfAll_17_8 at h
            obtain ⟨v29, ev29, h⟩ := lt_e h
            refine g_iinc (v := v29) (lv2 := [some (.ref (E.2.1 16)), some (.ref (E.2.1 17)), some (.int a2), some (.int v29), none]) (pc := 130) hC dX5_leastOfAll_130 rfl ev29 rfl (Or.inr rfl) (hN _ (by decide)) ?_
            refine g_goto (tgt := 11) (pc := 133) hC dX5_leastOfAll_133 (by decide) ?_
            exact ih1 v29 σ19 z1 (iter_l h hi1) kx1
          refine g_if_ne (tgt := 65) (pc := 20) hC dX5_leastOfAll_20 (by decide) (fun c6 => ?_) (fun c6 => ?_)
          · replace h := it_f c6 h
            refine g_aload_n (pc := 65) hC dX5_leastOfAll_65 rfl ?_
            refine g_iload_n (pc := 66) hC dX5_leastOfAll_66 rfl ?_
            refine g_aload_n (pc := 67) hC dX5_leastOfAll_67 rfl ?_
            obtain ⟨σ7, hc, h⟩ := cp_e h
            refine g_callVv (pc := 68) (As := [.int w2, .ref (E.2.1 17)]) (rest := []) hC (c_X5_advance_17 l E w2 σ3 σ7 hc) mi_X5_advance mv_X5_advance ob_16 rfl rfl lk_X5_118 rfl rfl (Nat.le_of_ble_eq_true rfl) ⟨by decide, by decide⟩ hab dX5_leastOfAll_68 ?_
            exact hJ71 σ7 h
          · replace h := it_t c6 h
            refine g_iconst (pc := 23) hC ki_0 dX5_leastOfAll_23 ?_
            refine g_istore (lv2 := [some (.ref (E.2.1 16)), some (.ref (E.2.1 17)), some (.int a2), some (.int w2), some (.int 0)]) (pc := 24) hC dX5_leastOfAll_24 rfl (Or.inr rfl) (hN _ (by decide)) ?_
            have hL2 : ∀ (n : Nat) (w8 : Int32) (σ9 : uS) (z2 : uS), iter n (fun z => B_X5_leastOfAll_17_3 z.1 z.2) (w8, σ9) = some z2 → (∀ (σ10 : uS), z2 = σ10 → Gd l E K 0 0 o σ10 62 [some (.ref (E.2.1 16)), some (.ref (E.2.1 17)), some (.int a2), some (.int w2), none] []) → Gd l E K 0 0 o σ9 26 [some (.ref (E.2.1 16)), some (.ref (E.2.1 17)), some (.int a2), some (.int w2), some (.int w8)] [] := by
              intro n
              induction n with
              | zero =>
                intro w8 σ9 z2 hi
                exact (iter_0 hi).elim
              | succ n ih2 =>
                intro w8 σ9 z2 hi2 kx2
                obtain ⟨r2, h, hi2⟩ := iter_s hi2
                replace h : B_X5_leastOfAll_17_3 w8 σ9 = some r2 := h
                delta B_X5_leastOfAll_17_3 at h
                refine g_iload (pc := 26) hC dX5_leastOfAll_26 rfl ?_
                refine g_aload_n (pc := 28) hC dX5_leastOfAll_28 rfl ?_
                refine fg_X5_46_16 (pc := 29) hC dX5_leastOfAll_29 ?_
                refine g_iconst (pc := 32) hC ki_0 dX5_leastOfAll_32 ?_
                obtain ⟨v11, hc, h⟩ := cp_e h
                refine g_callVi (pc := 33) (As := [.int 0]) (rest := [.int w8]) hC (c_X1_sizeOf l E 0 σ9 v11 hc) mi_X1_sizeOf mv_X1_sizeOf ob_11 rfl rfl lk_X5_114 rfl rfl (Nat.le_of_ble_eq_true rfl) ⟨by decide, by decide⟩ hab dX5_leastOfAll_33 ?_
                refine g_icmp_ge (tgt := 62) (pc := 36) hC dX5_leastOfAll_36 (by decide) (fun c12 => ?_) (fun c12 => ?_)
                · replace h := it_t c12 h
                  refine g_mask [true, true, true, true, false] rfl ?_
                  exact kx2 σ9 (iter_r h hi2)
                · replace h := it_f c12 h
                  refine g_aload_n (pc := 39) hC dX5_leastOfAll_39 rfl ?_
                  refine fg_X5_40_16 (pc := 40) hC dX5_leastOfAll_40 ?_
                  refine g_iload (pc := 43) hC dX5_leastOfAll_43 rfl ?_
                  refine g_aload_n (pc := 45) hC dX5_leastOfAll_45 rfl ?_
                  refine fg_X5_46_16 (pc := 46) hC dX5_leastOfAll_46 ?_
                  refine g_iconst (pc := 49) hC ki_0 dX5_leastOfAll_49 ?_
                  refine g_iload (pc := 50) hC dX5_leastOfAll_50 rfl ?_
                  obtain ⟨v13, hc, h⟩ := cp_e h
                  refine g_callVi (pc := 52) (As := [.int 0, .int w8]) (rest := [.int w8, .ref (E.2.1 25)]) hC (c_X1_ownOf l E 0 w8 σ9 v13 hc) mi_X1_ownOf mv_X1_ownOf ob_11 rfl rfl lk_X5_111 rfl rfl (Nat.le_of_ble_eq_true rfl) ⟨by decide, by decide⟩ hab dX5_leastOfAll_52 ?_
                  obtain ⟨σ14, eσ14, nσ14, h⟩ := wr_e h
                  refine g_iast (pc := 55) hC 25 (by decide) (ar_25 _ _) nσ14 dX5_leastOfAll_55 eσ14 ?_
                  obtain ⟨v15, ev15, h⟩ := lt_e h
                  refine g_iinc (v := v15) (lv2 := [some (.ref (E.2.1 16)), some (.ref (E.2.1 17)), some (.int a2), some (.int w2), some (.int v15)]) (pc := 56) hC dX5_leastOfAll_56 rfl ev15 rfl (Or.inr rfl) (hN _ (by decide)) ?_
                  refine g_goto (tgt := 26) (pc := 59) hC dX5_leastOfAll_59 (by decide) ?_
                  exact ih2 v15 σ14 z2 (iter_l h hi2) kx2
            obtain ⟨z2, hz2, h⟩ := lp_e h
            refine hL2 FU 0 σ3 z2 hz2 (fun σ10 ez => ?_)
            replace h : C_X5_leastOfAll_17_4 a2 w2 σ10 = some r1 := by rw [ez] at h; exact h
            delta C_X5_leastOfAll_17_4 at h
            refine g_goto (tgt := 71) (pc := 62) hC dX5_leastOfAll_62 (by decide) ?_
            exact hJ71 σ10 h
    obtain ⟨z1, hz1, h⟩ := lp_e h
    refine hL1 FU 0 σ z1 hz1 (fun σ4 ez => ?_)
    replace h : C_X5_leastOfAll_17_14 σ4 = some (r, σr) := by rw [ez] at h; exact h
    delta C_X5_leastOfAll_17_14 at h
    refine g_ldc (pc := 136) hC kc_X5_117 dX5_leastOfAll_136 ?_
    refine g_istore_n (lv2 := [some (.ref (E.2.1 16)), none, none, some (.int 536870912), none]) (pc := 138) hC dX5_leastOfAll_138 rfl (Or.inr rfl) (hN _ (by decide)) ?_
    refine g_iconst (pc := 139) hC ki_0 dX5_leastOfAll_139 ?_
    refine g_istore (lv2 := [some (.ref (E.2.1 16)), none, none, some (.int 536870912), some (.int 0)]) (pc := 140) hC dX5_leastOfAll_140 rfl (Or.inr rfl) (hN _ (by decide)) ?_
    have hL11 : ∀ (n : Nat) (w30 : Int32) (w31 : Int32) (z11 : Int32), iter n (fun z => B_X5_leastOfAll_17_12 σ4 z.1 z.2) (w30, w31) = some z11 → (∀ (v32 : Int32), z11 = v32 → Gd l E K 0 0 o σ4 178 [none, none, none, some (.int v32), none] []) → Gd l E K 0 0 o σ4 142 [some (.ref (E.2.1 16)), none, none, some (.int w30), some (.int w31)] [] := by
      intro n
      induction n with
      | zero =>
        intro w30 w31 z11 hi
        exact (iter_0 hi).elim
      | succ n ih11 =>
        intro w30 w31 z11 hi11 kx11
        obtain ⟨r11, h, hi11⟩ := iter_s hi11
        replace h : B_X5_leastOfAll_17_12 σ4 w30 w31 = some r11 := h
        delta B_X5_leastOfAll_17_12 at h
        refine g_iload (pc := 142) hC dX5_leastOfAll_142 rfl ?_
        refine g_aload_n (pc := 144) hC dX5_leastOfAll_144 rfl ?_
        refine fg_X5_46_16 (pc := 145) hC dX5_leastOfAll_145 ?_
        refine g_aload_n (pc := 148) hC dX5_leastOfAll_148 rfl ?_
        refine fg_X5_60_16 (pc := 149) hC dX5_leastOfAll_149 ?_
        refine g_iconst (pc := 152) hC ki_1 dX5_leastOfAll_152 ?_
        refine g_isub (pc := 153) hC dX5_leastOfAll_153 ?_
        obtain ⟨v33, hc, h⟩ := cp_e h
        refine g_callVi (pc := 154) (As := [.int ((σ4 16 12) - 1)]) (rest := [.int w31]) hC (c_X1_sizeOf l E ((σ4 16 12) - 1) σ4 v33 hc) mi_X1_sizeOf mv_X1_sizeOf ob_11 rfl rfl lk_X5_114 rfl rfl (Nat.le_of_ble_eq_true rfl) ⟨by decide, by decide⟩ hab dX5_leastOfAll_154 ?_
        refine g_icmp_ge (tgt := 178) (pc := 157) hC dX5_leastOfAll_157 (by decide) (fun c34 => ?_) (fun c34 => ?_)
        · replace h := it_t c34 h
          refine g_mask [false, false, false, true, false] rfl ?_
          exact kx11 w30 (iter_r h hi11)
        · replace h := it_f c34 h
          refine g_iload_n (pc := 160) hC dX5_leastOfAll_160 rfl ?_
          refine g_aload_n (pc := 161) hC dX5_leastOfAll_161 rfl ?_
          refine fg_X5_40_16 (pc := 162) hC dX5_leastOfAll_162 ?_
          refine g_iload (pc := 165) hC dX5_leastOfAll_165 rfl ?_
          obtain ⟨v35, ev35, nv35, h⟩ := rd_e h
          refine g_iald (pc := 167) hC 25 (by decide) (ar_25 _ _ _) nv35 dX5_leastOfAll_167 ?_
          refine g_top ev35 ?_
          obtain ⟨v36, hc, h⟩ := cp_e h
          refine g_callSi (pc := 168) (As := [.int w30, .int v35]) (rest := []) hC (c_J9_min_7cf53 l E w30 v35 σ4 v36 hc) mi_J9_min_7cf53 ms_J9_min_7cf53 lk_X5_130 rfl rfl (Nat.le_of_ble_eq_true rfl) ⟨by decide, by decide⟩ hab dX5_leastOfAll_168 ?_
          refine g_istore_n (lv2 := [some (.ref (E.2.1 16)), none, none, some (.int v36), some (.int w31)]) (pc := 171) hC dX5_leastOfAll_171 rfl (Or.inr rfl) (hN _ (by decide)) ?_
          obtain ⟨v37, ev37, h⟩ := lt_e h
          refine g_iinc (v := v37) (lv2 := [some (.ref (E.2.1 16)), none, none, some (.int v36), some (.int v37)]) (pc := 172) hC dX5_leastOfAll_172 rfl ev37 rfl (Or.inr rfl) (hN _ (by decide)) ?_
          refine g_goto (tgt := 142) (pc := 175) hC dX5_leastOfAll_175 (by decide) ?_
          exact ih11 v36 v37 z11 (iter_l h hi11) kx11
    obtain ⟨z11, hz11, h⟩ := lp_e h
    refine hL11 FU 536870912 0 z11 hz11 (fun v32 ez => ?_)
    replace h : C_X5_leastOfAll_17_13 σ4 v32 = some (r, σr) := by rw [ez] at h; exact h
    delta C_X5_leastOfAll_17_13 at h
    refine g_iload_n (pc := 178) hC dX5_leastOfAll_178 rfl ?_
    exact g_ret (pc := 179) hC h hR dX5_leastOfAll_179
  · replace h := it_t c1 h
    refine g_iconst (pc := 7) hC ki_0 dX5_leastOfAll_7 ?_
    exact g_ret (pc := 8) hC h hR dX5_leastOfAll_8
set_option maxRecDepth 20000 in
theorem c_X5_leastWithoutDoubles (l : Launch) (E : uE) (σ : uS) (r : Int32) (σr : uS) (h : F_X5_leastWithoutDoubles σ = some (r, σr)) : CtI l E yX5_leastWithoutDoubles cX5_leastWithoutDoubles 1 (some .int) 4 94 [.ref (E.2.1 16)] σ r σr := by
  refine enterI 0 [some (.ref (E.2.1 16))] (by decide +kernel) rfl (Nat.le_of_ble_eq_true rfl) (fun o K hnL hC hab hR => ?_)
  have hC : Cx E K RX5 cX5_leastWithoutDoubles (some .int) 4 94 := hC
  have hN : ∀ k, k < 1 → k < K.2.2.2.2.2 := fun k hk => hnL ▸ hk
  delta F_X5_leastWithoutDoubles at h
  refine g_aload_n (pc := 0) hC dX5_leastWithoutDoubles_0 rfl ?_
  refine g_aload_n (pc := 1) hC dX5_leastWithoutDoubles_1 rfl ?_
  refine fg_X5_12_16 (pc := 2) hC dX5_leastWithoutDoubles_2 ?_
  refine g_iconst (pc := 5) hC ki_0 dX5_leastWithoutDoubles_5 ?_
  obtain ⟨v2, σ1, hc, h⟩ := cl_e h
  refine g_callVi (pc := 6) (As := [.ref (E.2.1 17), .int 0]) (rest := []) hC (c_X5_leastOfAll_17 l E 0 σ v2 σ1 hc) mi_X5_leastOfAll mv_X5_leastOfAll ob_16 rfl rfl lk_X5_122 rfl rfl (Nat.le_of_ble_eq_true rfl) ⟨by decide, by decide⟩ hab dX5_leastWithoutDoubles_6 ?_
  exact g_ret (pc := 9) hC h hR dX5_leastWithoutDoubles_9
