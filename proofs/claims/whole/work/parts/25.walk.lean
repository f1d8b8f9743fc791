set_option maxRecDepth 20000 in
theorem c_X12_anew (l : Launch) (E : uE) (a1 : Int32) (a2 : Int32) (a3 : Int32) (σ : uS) (r : Int32) (σr : uS) (h : F_X12_anew a1 a2 a3 σ = some (r, σr)) : CtI l E yX12_anew cX12_anew 5 (some .int) 8 179 [.ref (E.2.1 55), .int a1, .int a2, .int a3] σ r σr := by
  refine enterI 1 [some (.ref (E.2.1 55)), some (.int a1), some (.int a2), some (.int a3), none] (by decide +kernel) rfl (Nat.le_of_ble_eq_true rfl) (fun o K hnL hC hab hR => ?_)
  have hC : Cx E K RX12 cX12_anew (some .int) 8 179 := hC
  have hN : ∀ k, k < 5 → k < K.2.2.2.2.2 := fun k hk => hnL ▸ hk
  delta F_X12_anew at h
  refine g_aload_n (pc := 0) hC dX12_anew_0 rfl ?_
  refine g_iconst (pc := 1) hC ki_0 dX12_anew_1 ?_
  obtain ⟨σ1, eσ1, h⟩ := pf_e h
  refine fp_X12_119_55 (pc := 2) hC dX12_anew_2 eσ1 ?_
  refine g_aload_n (pc := 5) hC dX12_anew_5 rfl ?_
  refine g_iload_n (pc := 6) hC dX12_anew_6 rfl ?_
  refine g_iconst (pc := 7) hC ki_0 dX12_anew_7 ?_
  refine g_aload_n (pc := 8) hC dX12_anew_8 rfl ?_
  refine fg_X12_130_55 (pc := 9) hC dX12_anew_9 ?_
  refine g_iconst (pc := 12) hC ki_1 dX12_anew_12 ?_
  refine g_isub (pc := 13) hC dX12_anew_13 ?_
  obtain ⟨v2, hc, h⟩ := cp_e h
  refine g_callSi (pc := 14) (As := [.int a3, .int 0, .int ((σ1 55 6) - 1)]) (rest := [.ref (E.2.1 55)]) hC (c_X12_isIn l E a3 0 ((σ1 55 6) - 1) σ1 v2 hc) mi_X12_isIn ms_X12_isIn lk_X12_133 rfl rfl (Nat.le_of_ble_eq_true rfl) ⟨by decide, by decide⟩ hab dX12_anew_14 ?_
  refine g_iconst (pc := 17) hC ki_1 dX12_anew_17 ?_
  obtain ⟨v4, σ3, hc, h⟩ := cl_e h
  refine g_callVi (pc := 18) (As := [.int v2, .int 1]) (rest := []) hC (c_X12_right l E v2 1 σ1 v4 σ3 hc) mi_X12_right mv_X12_right ob_55 rfl rfl lk_X12_148 rfl rfl (Nat.le_of_ble_eq_true rfl) ⟨by decide, by decide⟩ hab dX12_anew_18 ?_
  have hJ55 : ∀ (σ26 : uS), J_X12_anew_7 σ26 = some (r, σr) → Gd l E K 0 0 o σ26 55 [none, none, none, none, none] [] := by
    intro σ26 h
    delta J_X12_anew_7 at h
    refine g_iconst (pc := 55) hC ki_0 dX12_anew_55 ?_
    exact g_ret (pc := 56) hC h hR dX12_anew_56
  refine g_if_eq (tgt := 55) (pc := 21) hC dX12_anew_21 (by decide) (fun c5 => ?_) (fun c5 => ?_)
  · replace h := it_t c5 h
    refine g_mask [false, false, false, false, false] rfl ?_
    exact hJ55 σ3 h
  · replace h := it_f c5 h
    refine g_aload_n (pc := 24) hC dX12_anew_24 rfl ?_
    refine g_iload_n (pc := 25) hC dX12_anew_25 rfl ?_
    refine g_iconst (pc := 26) hC ki_1 dX12_anew_26 ?_
    refine g_iconst (pc := 27) hC ki_4 dX12_anew_27 ?_
    obtain ⟨v6, hc, h⟩ := cp_e h
    refine g_callSi (pc := 28) (As := [.int a1, .int 1, .int 4]) (rest := [.ref (E.2.1 55)]) hC (c_X12_isIn l E a1 1 4 σ3 v6 hc) mi_X12_isIn ms_X12_isIn lk_X12_133 rfl rfl (Nat.le_of_ble_eq_true rfl) ⟨by decide, by decide⟩ hab dX12_anew_28 ?_
    have hJ48 : ∀ (v10 : Int32), J_X12_anew_6 a1 a2 a3 σ3 v10 = some (r, σr) → Gd l E K 0 0 o σ3 48 [some (.ref (E.2.1 55)), some (.int a1), some (.int a2), some (.int a3), none] [.int v10, .ref (E.2.1 55)] := by
      intro v10 h
      delta J_X12_anew_6 at h
      refine g_iconst (pc := 48) hC ki_2 dX12_anew_48 ?_
      obtain ⟨v12, σ11, hc, h⟩ := cl_e h
      refine g_callVi (pc := 49) (As := [.int v10, .int 2]) (rest := []) hC (c_X12_right l E v10 2 σ3 v12 σ11 hc) mi_X12_right mv_X12_right ob_55 rfl rfl lk_X12_148 rfl rfl (Nat.le_of_ble_eq_true rfl) ⟨by decide, by decide⟩ hab dX12_anew_49 ?_
      refine g_if_ne (tgt := 57) (pc := 52) hC dX12_anew_52 (by decide) (fun c13 => ?_) (fun c13 => ?_)
      · replace h := it_f c13 h
        refine g_aload_n (pc := 57) hC dX12_anew_57 rfl ?_
        obtain ⟨σ14, hc, h⟩ := cp_e h
        refine g_callVv (pc := 58) (As := []) (rest := []) hC (c_X12_laysMarks l E σ11 σ14 hc) mi_X12_laysMarks mv_X12_laysMarks ob_55 rfl rfl lk_X12_293 rfl rfl (Nat.le_of_ble_eq_true rfl) ⟨by decide, by decide⟩ hab dX12_anew_58 ?_
        refine g_iconst (pc := 61) hC ki_0 dX12_anew_61 ?_
        refine g_istore (lv2 := [some (.ref (E.2.1 55)), some (.int a1), some (.int a2), some (.int a3), some (.int 0)]) (pc := 62) hC dX12_anew_62 rfl (Or.inr rfl) (hN _ (by decide)) ?_
        have hL2 : ∀ (n : Nat) (w15 : Int32) (z2 : (Unit) ⊕ (Int32 × uS)), iter n (fun z => B_X12_anew_4 a1 a2 a3 σ14 z) w15 = some z2 → (z2 = .inl () → Gd l E K 0 0 o σ14 119 [some (.ref (E.2.1 55)), none, none, some (.int a3), none] []) → (∀ q, z2 = .inr q → some q = some (r, σr)) → Gd l E K 0 0 o σ14 64 [some (.ref (E.2.1 55)), some (.int a1), some (.int a2), some (.int a3), some (.int w15)] [] := by
          intro n
          induction n with
          | zero =>
            intro w15 z2 hi
            exact (iter_0 hi).elim
          | succ n ih2 =>
            intro w15 z2 hi2 kx2 kr2
            obtain ⟨r2, h, hi2⟩ := iter_s hi2
            replace h : B_X12_anew_4 a1 a2 a3 σ14 w15 = some r2 := h
            delta B_X12_anew_4 at h
            refine g_iload (pc := 64) hC dX12_anew_64 rfl ?_
            refine g_aload_n (pc := 66) hC dX12_anew_66 rfl ?_
            refine fg_X12_287_55 (pc := 67) hC dX12_anew_67 ?_
            refine g_icmp_ge (tgt := 119) (pc := 70) hC dX12_anew_70 (by decide) (fun c16 => ?_) (fun c16 => ?_)
            · replace h := it_t c16 h
              refine g_mask [true, false, false, true, false] rfl ?_
              exact kx2 (iter_r h hi2)
            · replace h := it_f c16 h
              refine g_aload_n (pc := 73) hC dX12_anew_73 rfl ?_
              refine g_iload (pc := 74) hC dX12_anew_74 rfl ?_
              obtain ⟨v17, hc, h⟩ := cp_e h
              refine g_callVi (pc := 76) (As := [.int w15]) (rest := []) hC (c_X12_isVoiced l E w15 σ14 v17 hc) mi_X12_isVoiced mv_X12_isVoiced ob_55 rfl rfl lk_X12_296 rfl rfl (Nat.le_of_ble_eq_true rfl) ⟨by decide, by decide⟩ hab dX12_anew_76 ?_
              have hJ113 : J_X12_anew_3 w15 = some r2 → Gd l E K 0 0 o σ14 113 [some (.ref (E.2.1 55)), some (.int a1), some (.int a2), some (.int a3), some (.int w15)] [] := by
                intro h
                delta J_X12_anew_3 at h
                obtain ⟨v24, ev24, h⟩ := lt_e h
                refine g_iinc (v := v24) (lv2 := [some (.ref (E.2.1 55)), some (.int a1), some (.int a2), some (.int a3), some (.int v24)]) (pc := 113) hC dX12_anew_113 rfl ev24 rfl (Or.inr rfl) (hN _ (by decide)) ?_
                refine g_goto (tgt := 64) (pc := 116) hC dX12_anew_116 (by decide) ?_
                exact ih2 v24 z2 (iter_l h hi2) kx2 kr2
              refine g_if_eq (tgt := 113) (pc := 79) hC dX12_anew_79 (by decide) (fun c18 => ?_) (fun c18 => ?_)
              · replace h := it_t c18 h
                exact hJ113 h
              · replace h := it_f c18 h
                refine g_iload_n (pc := 82) hC dX12_anew_82 rfl ?_
                refine g_aload_n (pc := 83) hC dX12_anew_83 rfl ?_
                refine g_iload (pc := 84) hC dX12_anew_84 rfl ?_
                obtain ⟨v19, hc, h⟩ := cp_e h
                refine g_callVi (pc := 86) (As := [.int w15]) (rest := [.int a3]) hC (c_X12_firstSample l E w15 σ14 v19 hc) mi_X12_firstSample mv_X12_firstSample ob_55 rfl rfl lk_X12_299 rfl rfl (Nat.le_of_ble_eq_true rfl) ⟨by decide, by decide⟩ hab dX12_anew_86 ?_
                refine g_aload_n (pc := 89) hC dX12_anew_89 rfl ?_
                refine g_iload (pc := 90) hC dX12_anew_90 rfl ?_
                obtain ⟨v20, hc, h⟩ := cp_e h
                refine g_callVi (pc := 92) (As := [.int w15]) (rest := [.int v19, .int a3]) hC (c_X12_behindSpan l E w15 σ14 v20 hc) mi_X12_behindSpan mv_X12_behindSpan ob_55 rfl rfl lk_X12_302 rfl rfl (Nat.le_of_ble_eq_true rfl) ⟨by decide, by decide⟩ hab dX12_anew_92 ?_
                refine g_iconst (pc := 95) hC ki_1 dX12_anew_95 ?_
                refine g_isub (pc := 96) hC dX12_anew_96 ?_
                obtain ⟨v21, hc, h⟩ := cp_e h
                refine g_callSi (pc := 97) (As := [.int a3, .int v19, .int (v20 - 1)]) (rest := []) hC (c_X12_isIn l E a3 v19 (v20 - 1) σ14 v21 hc) mi_X12_isIn ms_X12_isIn lk_X12_133 rfl rfl (Nat.le_of_ble_eq_true rfl) ⟨by decide, by decide⟩ hab dX12_anew_97 ?_
                refine g_if_eq (tgt := 113) (pc := 100) hC dX12_anew_100 (by decide) (fun c22 => ?_) (fun c22 => ?_)
                · replace h := it_t c22 h
                  exact hJ113 h
                · replace h := it_f c22 h
                  refine g_aload_n (pc := 103) hC dX12_anew_103 rfl ?_
                  refine g_iload (pc := 104) hC dX12_anew_104 rfl ?_
                  refine g_iload_n (pc := 106) hC dX12_anew_106 rfl ?_
                  refine g_iload_n (pc := 107) hC dX12_anew_107 rfl ?_
                  refine g_iload_n (pc := 108) hC dX12_anew_108 rfl ?_
                  obtain ⟨v23, hc, h⟩ := cp_e h
                  refine g_callVi (pc := 109) (As := [.int w15, .int a3, .int a1, .int a2]) (rest := []) hC (c_X12_setAnew l E w15 a3 a1 a2 σ14 v23 hc) mi_X12_setAnew mv_X12_setAnew ob_55 rfl rfl lk_X12_381 rfl rfl (Nat.le_of_ble_eq_true rfl) ⟨by decide, by decide⟩ hab dX12_anew_109 ?_
                  exact g_ret (pc := 112) hC (kr2 _ (iter_r h hi2)) hR dX12_anew_112
        obtain ⟨z2, hz2, h⟩ := lp_e h
        refine hL2 FU 0 z2 hz2 (fun ez => ?_) (fun q ez => by rw [ez] at h; exact h)
        replace h : C_X12_anew_5 a3 σ14 = some (r, σr) := by rw [ez] at h; exact h
        delta C_X12_anew_5 at h
        refine g_aload_n (pc := 119) hC dX12_anew_119 rfl ?_
        refine fg_X12_19_55 (pc := 120) hC dX12_anew_120 ?_
        refine g_iload_n (pc := 123) hC dX12_anew_123 rfl ?_
        obtain ⟨v25, ev25, nv25, h⟩ := rd_e h
        refine g_iald (pc := 124) hC 59 (by decide) (ar_59 _ _ _) nv25 dX12_anew_124 ?_
        refine g_top ev25 ?_
        exact g_ret (pc := 125) hC h hR dX12_anew_125
      · replace h := it_t c13 h
        refine g_mask [false, false, false, false, false] rfl ?_
        exact hJ55 σ11 h
    have hJ47 : J_X12_anew_1 a1 a2 a3 σ3 = some (r, σr) → Gd l E K 0 0 o σ3 47 [some (.ref (E.2.1 55)), some (.int a1), some (.int a2), some (.int a3), none] [.ref (E.2.1 55)] := by
      intro h
      delta J_X12_anew_1 at h
      refine g_iconst (pc := 47) hC ki_0 dX12_anew_47 ?_
      exact hJ48 0 h
    refine g_if_eq (tgt := 47) (pc := 31) hC dX12_anew_31 (by decide) (fun c7 => ?_) (fun c7 => ?_)
    · replace h := it_t c7 h
      exact hJ47 h
    · replace h := it_f c7 h
      refine g_iload_n (pc := 34) hC dX12_anew_34 rfl ?_
      refine g_iconst (pc := 35) hC ki_1 dX12_anew_35 ?_
      refine g_iconst (pc := 36) hC ki_4 dX12_anew_36 ?_
      obtain ⟨v8, hc, h⟩ := cp_e h
      refine g_callSi (pc := 37) (As := [.int a2, .int 1, .int 4]) (rest := [.ref (E.2.1 55)]) hC (c_X12_isIn l E a2 1 4 σ3 v8 hc) mi_X12_isIn ms_X12_isIn lk_X12_133 rfl rfl (Nat.le_of_ble_eq_true rfl) ⟨by decide, by decide⟩ hab dX12_anew_37 ?_
      refine g_if_eq (tgt := 47) (pc := 40) hC dX12_anew_40 (by decide) (fun c9 => ?_) (fun c9 => ?_)
      · replace h := it_t c9 h
        exact hJ47 h
      · replace h := it_f c9 h
        refine g_iconst (pc := 43) hC ki_1 dX12_anew_43 ?_
        refine g_goto (tgt := 48) (pc := 44) hC dX12_anew_44 (by decide) ?_
        exact hJ48 1 h
