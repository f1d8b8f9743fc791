set_option maxRecDepth 20000 in
theorem c_X12_leastOfAll (l : Launch) (E : uE) (σ : uS) (r : Int32) (h : F_X12_leastOfAll σ = some r) : CtI l E yX12_leastOfAll cX12_leastOfAll 3 (some .int) 0 0 [.ref (E.2.1 55)] σ r σ := by
  refine enterI 2 [some (.ref (E.2.1 55)), none, none] (by decide +kernel) rfl (Nat.le_of_ble_eq_true rfl) (fun o K hnL hC hab hR => ?_)
  have hC : Cx E K RX12 cX12_leastOfAll (some .int) 0 0 := hC
  have hN : ∀ k, k < 3 → k < K.2.2.2.2.2 := fun k hk => hnL ▸ hk
  delta F_X12_leastOfAll at h
  refine g_aload_n (pc := 0) hC dX12_leastOfAll_0 rfl ?_
  refine fg_X12_227_55 (pc := 1) hC dX12_leastOfAll_1 ?_
  refine g_if_ge (tgt := 9) (pc := 4) hC dX12_leastOfAll_4 (by decide) (fun c1 => ?_) (fun c1 => ?_)
  · replace h := it_t c1 h
    refine g_ldc (pc := 9) hC kc_X12_222 dX12_leastOfAll_9 ?_
    refine g_istore_n (lv2 := [some (.ref (E.2.1 55)), some (.int 2000000000), none]) (pc := 11) hC dX12_leastOfAll_11 rfl (Or.inr rfl) (hN _ (by decide)) ?_
    refine g_iconst (pc := 12) hC ki_0 dX12_leastOfAll_12 ?_
    refine g_istore_n (lv2 := [some (.ref (E.2.1 55)), some (.int 2000000000), some (.int 0)]) (pc := 13) hC dX12_leastOfAll_13 rfl (Or.inr rfl) (hN _ (by decide)) ?_
    have hL1 : ∀ (n : Nat) (w2 : Int32) (w3 : Int32) (z1 : Int32), iter n (fun z => B_X12_leastOfAll_3 σ z.1 z.2) (w2, w3) = some z1 → (∀ (v4 : Int32), z1 = v4 → Gd l E K 0 0 o σ 51 [none, some (.int v4), none] []) → Gd l E K 0 0 o σ 14 [some (.ref (E.2.1 55)), some (.int w2), some (.int w3)] [] := by
      intro n
      induction n with
      | zero =>
        intro w2 w3 z1 hi
        exact (iter_0 hi).elim
      | succ n ih1 =>
        intro w2 w3 z1 hi1 kx1
        obtain ⟨r1, h, hi1⟩ := iter_s hi1
        replace h : B_X12_leastOfAll_3 σ w2 w3 = some r1 := h
        delta B_X12_leastOfAll_3 at h
        refine g_iload_n (pc := 14) hC dX12_leastOfAll_14 rfl ?_
        refine g_aload_n (pc := 15) hC dX12_leastOfAll_15 rfl ?_
        refine fg_X12_40_55 (pc := 16) hC dX12_leastOfAll_16 ?_
        refine g_iconst (pc := 19) hC ki_0 dX12_leastOfAll_19 ?_
        obtain ⟨v5, ev5, nv5, h⟩ := rd_e h
        refine g_iald (pc := 20) hC 66 (by decide) (ar_66 _ _ _) nv5 dX12_leastOfAll_20 ?_
        refine g_top ev5 ?_
        refine g_icmp_ge (tgt := 51) (pc := 21) hC dX12_leastOfAll_21 (by decide) (fun c6 => ?_) (fun c6 => ?_)
        · replace h := it_t c6 h
          refine g_mask [false, true, false] rfl ?_
          exact kx1 w2 (iter_r h hi1)
        · replace h := it_f c6 h
          refine g_aload_n (pc := 24) hC dX12_leastOfAll_24 rfl ?_
          refine fg_X12_47_55 (pc := 25) hC dX12_leastOfAll_25 ?_
          refine g_iload_n (pc := 28) hC dX12_leastOfAll_28 rfl ?_
          obtain ⟨v7, ev7, nv7, h⟩ := rd_e h
          refine g_iald (pc := 29) hC 68 (by decide) (ar_68 _ _ _) nv7 dX12_leastOfAll_29 ?_
          refine g_top ev7 ?_
          refine g_iload_n (pc := 30) hC dX12_leastOfAll_30 rfl ?_
          have hJ44 : ∀ (v10 : Int32), J_X12_leastOfAll_2 w3 v10 = some r1 → Gd l E K 0 0 o σ 44 [some (.ref (E.2.1 55)), none, some (.int w3)] [.int v10] := by
            intro v10 h
            delta J_X12_leastOfAll_2 at h
            refine g_istore_n (lv2 := [some (.ref (E.2.1 55)), some (.int v10), some (.int w3)]) (pc := 44) hC dX12_leastOfAll_44 rfl (Or.inr rfl) (hN _ (by decide)) ?_
            obtain ⟨v11, ev11, h⟩ := lt_e h
            refine g_iinc (v := v11) (lv2 := [some (.ref (E.2.1 55)), some (.int v10), some (.int v11)]) (pc := 45) hC dX12_leastOfAll_45 rfl ev11 rfl (Or.inr rfl) (hN _ (by decide)) ?_
            refine g_goto (tgt := 14) (pc := 48) hC dX12_leastOfAll_48 (by decide) ?_
            exact ih1 v10 v11 z1 (iter_l h hi1) kx1
          refine g_icmp_ge (tgt := 43) (pc := 31) hC dX12_leastOfAll_31 (by decide) (fun c8 => ?_) (fun c8 => ?_)
          · replace h := it_t c8 h
            refine g_iload_n (pc := 43) hC dX12_leastOfAll_43 rfl ?_
            refine g_mask [true, false, true] rfl ?_
            exact hJ44 w2 h
          · replace h := it_f c8 h
            refine g_aload_n (pc := 34) hC dX12_leastOfAll_34 rfl ?_
            refine fg_X12_47_55 (pc := 35) hC dX12_leastOfAll_35 ?_
            refine g_iload_n (pc := 38) hC dX12_leastOfAll_38 rfl ?_
            obtain ⟨v9, ev9, nv9, h⟩ := rd_e h
            refine g_iald (pc := 39) hC 68 (by decide) (ar_68 _ _ _) nv9 dX12_leastOfAll_39 ?_
            refine g_top ev9 ?_
            refine g_goto (tgt := 44) (pc := 40) hC dX12_leastOfAll_40 (by decide) ?_
            refine g_mask [true, false, true] rfl ?_
            exact hJ44 v9 h
    obtain ⟨z1, hz1, h⟩ := lp_e h
    refine hL1 FU 2000000000 0 z1 hz1 (fun v4 ez => ?_)
    replace h : C_X12_leastOfAll_4 v4 = some r := by rw [ez] at h; exact h
    delta C_X12_leastOfAll_4 at h
    refine g_iload_n (pc := 51) hC dX12_leastOfAll_51 rfl ?_
    exact g_retp (pc := 52) hC h hR dX12_leastOfAll_52
  · replace h := it_f c1 h
    refine g_iconst (pc := 7) hC ki_0 dX12_leastOfAll_7 ?_
    exact g_retp (pc := 8) hC h hR dX12_leastOfAll_8
set_option maxRecDepth 20000 in
theorem c_X12_reached (l : Launch) (E : uE) (a1 : Int32) (a2 : Int32) (σ : uS) (r : Int32) (h : F_X12_reached a1 a2 σ = some r) : CtI l E yX12_reached cX12_reached 4 (some .int) 3 68 [.ref (E.2.1 55), .int a1, .int a2] σ r σ := by
  refine enterI 1 [some (.ref (E.2.1 55)), some (.int a1), some (.int a2), none] (by decide +kernel) rfl (Nat.le_of_ble_eq_true rfl) (fun o K hnL hC hab hR => ?_)
  have hC : Cx E K RX12 cX12_reached (some .int) 3 68 := hC
  have hN : ∀ k, k < 4 → k < K.2.2.2.2.2 := fun k hk => hnL ▸ hk
  delta F_X12_reached at h
  refine g_aload_n (pc := 0) hC dX12_reached_0 rfl ?_
  refine fg_X12_47_55 (pc := 1) hC dX12_reached_1 ?_
  refine g_bipush (pc := 4) hC kb_6 dX12_reached_4 ?_
  refine g_iload_n (pc := 6) hC dX12_reached_6 rfl ?_
  refine g_imul (pc := 7) hC dX12_reached_7 ?_
  refine g_iload_n (pc := 8) hC dX12_reached_8 rfl ?_
  refine g_iadd (pc := 9) hC dX12_reached_9 ?_
  obtain ⟨v1, ev1, nv1, h⟩ := rd_e h
  refine g_iald (pc := 10) hC 68 (by decide) (ar_68 _ _ _) nv1 dX12_reached_10 ?_
  refine g_top ev1 ?_
  refine g_istore_n (lv2 := [some (.ref (E.2.1 55)), some (.int a1), some (.int a2), some (.int v1)]) (pc := 11) hC dX12_reached_11 rfl (Or.inr rfl) (hN _ (by decide)) ?_
  refine g_iload_n (pc := 12) hC dX12_reached_12 rfl ?_
  refine g_ldc (pc := 13) hC kc_X12_222 dX12_reached_13 ?_
  refine g_icmp_ne (tgt := 21) (pc := 15) hC dX12_reached_15 (by decide) (fun c2 => ?_) (fun c2 => ?_)
  · replace h := it_f c2 h
    refine g_iload_n (pc := 21) hC dX12_reached_21 rfl ?_
    have hJ47 : ∀ (v6 : Int32), J_X12_reached_1 v6 = some r → Gd l E K 0 0 o σ 47 [none, none, none, none] [.int v6] := by
      intro v6 h
      delta J_X12_reached_1 at h
      exact g_retp (pc := 47) hC h hR dX12_reached_47
    refine g_if_ne (tgt := 29) (pc := 22) hC dX12_reached_22 (by decide) (fun c3 => ?_) (fun c3 => ?_)
    · replace h := it_f c3 h
      refine g_iload_n (pc := 29) hC dX12_reached_29 rfl ?_
      refine g_aload_n (pc := 30) hC dX12_reached_30 rfl ?_
      refine g_iload_n (pc := 31) hC dX12_reached_31 rfl ?_
      refine g_iconst (pc := 32) hC ki_1 dX12_reached_32 ?_
      refine g_isub (pc := 33) hC dX12_reached_33 ?_
      refine g_aload_n (pc := 34) hC dX12_reached_34 rfl ?_
      refine fg_X12_50_55 (pc := 35) hC dX12_reached_35 ?_
      refine g_iload_n (pc := 38) hC dX12_reached_38 rfl ?_
      refine g_iconst (pc := 39) hC ki_1 dX12_reached_39 ?_
      refine g_isub (pc := 40) hC dX12_reached_40 ?_
      obtain ⟨v4, ev4, nv4, h⟩ := rd_e h
      refine g_iald (pc := 41) hC 69 (by decide) (ar_69 _ _ _) nv4 dX12_reached_41 ?_
      refine g_top ev4 ?_
      refine g_iload_n (pc := 42) hC dX12_reached_42 rfl ?_
      obtain ⟨v5, hc, h⟩ := cp_e h
      refine g_callVi (pc := 43) (As := [.int (a1 - 1), .int v4, .int a2]) (rest := [.int v1]) hC (c_X12_between l E (a1 - 1) v4 a2 σ v5 hc) mi_X12_between mv_X12_between ob_55 rfl rfl lk_X12_223 rfl rfl (Nat.le_of_ble_eq_true rfl) ⟨by decide, by decide⟩ hab dX12_reached_43 ?_
      refine g_iadd (pc := 46) hC dX12_reached_46 ?_
      refine g_mask [false, false, false, false] rfl ?_
      exact hJ47 (v1 + v5) h
    · replace h := it_t c3 h
      refine g_iload_n (pc := 25) hC dX12_reached_25 rfl ?_
      refine g_goto (tgt := 47) (pc := 26) hC dX12_reached_26 (by decide) ?_
      refine g_mask [false, false, false, false] rfl ?_
      exact hJ47 v1 h
  · replace h := it_t c2 h
    refine g_ldc (pc := 18) hC kc_X12_222 dX12_reached_18 ?_
    exact g_retp (pc := 20) hC h hR dX12_reached_20
set_option maxRecDepth 20000 in
theorem c_X12_goesAlong (l : Launch) (E : uE) (σ : uS) (σr : uS) (h : F_X12_goesAlong σ = some σr) : CtV l E yX12_goesAlong cX12_goesAlong 4 4 91 [.ref (E.2.1 55)] σ σr := by
  refine enterV 3 [some (.ref (E.2.1 55)), none, none, none] (by decide +kernel) rfl (Nat.le_of_ble_eq_true rfl) (fun o K hnL hC hab hR => ?_)
  have hC : Cx E K RX12 cX12_goesAlong none 4 91 := hC
  have hN : ∀ k, k < 4 → k < K.2.2.2.2.2 := fun k hk => hnL ▸ hk
  delta F_X12_goesAlong at h
  refine g_aload_n (pc := 0) hC dX12_goesAlong_0 rfl ?_
  obtain ⟨v1, hc, h⟩ := cp_e h
  refine g_callVi (pc := 1) (As := []) (rest := []) hC (c_X12_leastOfAll l E σ v1 hc) mi_X12_leastOfAll mv_X12_leastOfAll ob_55 rfl rfl lk_X12_233 rfl rfl (Nat.le_of_ble_eq_true rfl) ⟨by decide, by decide⟩ hab dX12_goesAlong_1 ?_
  refine g_istore_n (lv2 := [some (.ref (E.2.1 55)), some (.int v1), none, none]) (pc := 4) hC dX12_goesAlong_4 rfl (Or.inr rfl) (hN _ (by decide)) ?_
  refine g_iconst (pc := 5) hC ki_0 dX12_goesAlong_5 ?_
  refine g_istore_n (lv2 := [some (.ref (E.2.1 55)), some (.int v1), some (.int 0), none]) (pc := 6) hC dX12_goesAlong_6 rfl (Or.inr rfl) (hN _ (by decide)) ?_
  have hL1 : ∀ (n : Nat) (w2 : Int32) (w3 : Int32) (σ4 : uS) (z1 : uS), iter n (fun z => B_X12_goesAlong_5 z.1 z.2.1 z.2.2) (w2, w3, σ4) = some z1 → (∀ (σ5 : uS), z1 = σ5 → Gd l E K 0 0 o σ5 65 [none, none, none, none] []) → Gd l E K 0 0 o σ4 7 [some (.ref (E.2.1 55)), some (.int w2), some (.int w3), none] [] := by
    intro n
    induction n with
    | zero =>
      intro w2 w3 σ4 z1 hi
      exact (iter_0 hi).elim
    | succ n ih1 =>
      intro w2 w3 σ4 z1 hi1 kx1
      obtain ⟨r1, h, hi1⟩ := iter_s hi1
      replace h : B_X12_goesAlong_5 w2 w3 σ4 = some r1 := h
      delta B_X12_goesAlong_5 at h
      refine g_iload_n (pc := 7) hC dX12_goesAlong_7 rfl ?_
      refine g_aload_n (pc := 8) hC dX12_goesAlong_8 rfl ?_
      refine fg_X12_227_55 (pc := 9) hC dX12_goesAlong_9 ?_
      refine g_icmp_gt (tgt := 65) (pc := 12) hC dX12_goesAlong_12 (by decide) (fun c6 => ?_) (fun c6 => ?_)
      · replace h := it_t c6 h
        refine g_mask [false, false, false, false] rfl ?_
        exact kx1 σ4 (iter_r h hi1)
      · replace h := it_f c6 h
        refine g_iconst (pc := 15) hC ki_0 dX12_goesAlong_15 ?_
        refine g_istore_n (lv2 := [some (.ref (E.2.1 55)), some (.int w2), some (.int w3), some (.int 0)]) (pc := 16) hC dX12_goesAlong_16 rfl (Or.inr rfl) (hN _ (by decide)) ?_
        have hL2 : ∀ (n : Nat) (w7 : Int32) (z2 : Int32), iter n (fun z => B_X12_goesAlong_3 w2 w3 σ4 z) w7 = some z2 → (∀ (v8 : Int32), z2 = v8 → Gd l E K 0 0 o σ4 33 [some (.ref (E.2.1 55)), none, some (.int w3), some (.int v8)] []) → Gd l E K 0 0 o σ4 17 [some (.ref (E.2.1 55)), some (.int w2), some (.int w3), some (.int w7)] [] := by
          intro n
          induction n with
          | zero =>
            intro w7 z2 hi
            exact (iter_0 hi).elim
          | succ n ih2 =>
            intro w7 z2 hi2 kx2
            obtain ⟨r2, h, hi2⟩ := iter_s hi2
            replace h : B_X12_goesAlong_3 w2 w3 σ4 w7 = some r2 := h
            delta B_X12_goesAlong_3 at h
            refine g_aload_n (pc := 17) hC dX12_goesAlong_17 rfl ?_
            refine g_iload_n (pc := 18) hC dX12_goesAlong_18 rfl ?_
            refine g_iload_n (pc := 19) hC dX12_goesAlong_19 rfl ?_
            obtain ⟨v9, hc, h⟩ := cp_e h
            refine g_callVi (pc := 20) (As := [.int w3, .int w7]) (rest := []) hC (c_X12_reached l E w3 w7 σ4 v9 hc) mi_X12_reached mv_X12_reached ob_55 rfl rfl lk_X12_236 rfl rfl (Nat.le_of_ble_eq_true rfl) ⟨by decide, by decide⟩ hab dX12_goesAlong_20 ?_
            refine g_iload_n (pc := 23) hC dX12_goesAlong_23 rfl ?_
            refine g_icmp_eq (tgt := 33) (pc := 24) hC dX12_goesAlong_24 (by decide) (fun c10 => ?_) (fun c10 => ?_)
            · replace h := it_t c10 h
              refine g_mask [true, false, true, true] rfl ?_
              exact kx2 w7 (iter_r h hi2)
            · replace h := it_f c10 h
              obtain ⟨v11, ev11, h⟩ := lt_e h
              refine g_iinc (v := v11) (lv2 := [some (.ref (E.2.1 55)), some (.int w2), some (.int w3), some (.int v11)]) (pc := 27) hC dX12_goesAlong_27 rfl ev11 rfl (Or.inr rfl) (hN _ (by decide)) ?_
              refine g_goto (tgt := 17) (pc := 30) hC dX12_goesAlong_30 (by decide) ?_
              exact ih2 v11 z2 (iter_l h hi2) kx2
        obtain ⟨z2, hz2, h⟩ := lp_e h
        refine hL2 FU 0 z2 hz2 (fun v8 ez => ?_)
        replace h : C_X12_goesAlong_4 w3 σ4 v8 = some r1 := by rw [ez] at h; exact h
        delta C_X12_goesAlong_4 at h
        refine g_aload_n (pc := 33) hC dX12_goesAlong_33 rfl ?_
        refine fg_X12_50_55 (pc := 34) hC dX12_goesAlong_34 ?_
        refine g_iload_n (pc := 37) hC dX12_goesAlong_37 rfl ?_
        refine g_iload_n (pc := 38) hC dX12_goesAlong_38 rfl ?_
        obtain ⟨σ12, eσ12, nσ12, h⟩ := wr_e h
        refine g_iast (pc := 39) hC 69 (by decide) (ar_69 _ _) nσ12 dX12_goesAlong_39 eσ12 ?_
        refine g_aload_n (pc := 40) hC dX12_goesAlong_40 rfl ?_
        refine fg_X12_47_55 (pc := 41) hC dX12_goesAlong_41 ?_
        refine g_bipush (pc := 44) hC kb_6 dX12_goesAlong_44 ?_
        refine g_iload_n (pc := 46) hC dX12_goesAlong_46 rfl ?_
        refine g_imul (pc := 47) hC dX12_goesAlong_47 ?_
        refine g_iload_n (pc := 48) hC dX12_goesAlong_48 rfl ?_
        refine g_iadd (pc := 49) hC dX12_goesAlong_49 ?_
        obtain ⟨v13, ev13, nv13, h⟩ := rd_e h
        refine g_iald (pc := 50) hC 68 (by decide) (ar_68 _ _ _) nv13 dX12_goesAlong_50 ?_
        refine g_top ev13 ?_
        refine g_aload_n (pc := 51) hC dX12_goesAlong_51 rfl ?_
        refine g_iload_n (pc := 52) hC dX12_goesAlong_52 rfl ?_
        refine g_iload_n (pc := 53) hC dX12_goesAlong_53 rfl ?_
        obtain ⟨v14, hc, h⟩ := cp_e h
        refine g_callVi (pc := 54) (As := [.int w3, .int v8]) (rest := [.int v13]) hC (c_X12_ownAt l E w3 v8 σ12 v14 hc) mi_X12_ownAt mv_X12_ownAt ob_55 rfl rfl lk_X12_201 rfl rfl (Nat.le_of_ble_eq_true rfl) ⟨by decide, by decide⟩ hab dX12_goesAlong_54 ?_
        refine g_isub (pc := 57) hC dX12_goesAlong_57 ?_
        obtain ⟨v15, ev15, h⟩ := lt_e h
        refine g_top ev15 ?_
        refine g_istore_n (lv2 := [some (.ref (E.2.1 55)), some (.int v15), some (.int w3), some (.int v8)]) (pc := 58) hC dX12_goesAlong_58 rfl (Or.inr rfl) (hN _ (by decide)) ?_
        obtain ⟨v16, ev16, h⟩ := lt_e h
        refine g_iinc (v := v16) (lv2 := [some (.ref (E.2.1 55)), some (.int v15), some (.int v16), some (.int v8)]) (pc := 59) hC dX12_goesAlong_59 rfl ev16 rfl (Or.inr rfl) (hN _ (by decide)) ?_
        refine g_goto (tgt := 7) (pc := 62) hC dX12_goesAlong_62 (by decide) ?_
        refine g_mask [true, true, true, false] rfl ?_
        exact ih1 v15 v16 σ12 z1 (iter_l h hi1) kx1
  obtain ⟨z1, hz1, h⟩ := lp_e h
  refine hL1 FU v1 0 σ z1 hz1 (fun σ5 ez => ?_)
  replace h : C_X12_goesAlong_6 σ5 = some σr := by rw [ez] at h; exact h
  delta C_X12_goesAlong_6 at h
  exact g_retv (pc := 65) hC h hR dX12_goesAlong_65
set_option maxRecDepth 20000 in
theorem c_X12_laysPath (l : Launch) (E : uE) (σ : uS) (σr : uS) (h : F_X12_laysPath σ = some σr) : CtV l E yX12_laysPath cX12_laysPath 1 5 117 [.ref (E.2.1 55)] σ σr := by
  refine enterV 0 [some (.ref (E.2.1 55))] (by decide +kernel) rfl (Nat.le_of_ble_eq_true rfl) (fun o K hnL hC hab hR => ?_)
  have hC : Cx E K RX12 cX12_laysPath none 5 117 := hC
  have hN : ∀ k, k < 1 → k < K.2.2.2.2.2 := fun k hk => hnL ▸ hk
  delta F_X12_laysPath at h
  refine g_aload_n (pc := 0) hC dX12_laysPath_0 rfl ?_
  obtain ⟨σ1, hc, h⟩ := cp_e h
  refine g_callVv (pc := 1) (As := []) (rest := []) hC (c_X12_laysAll l E σ σ1 hc) mi_X12_laysAll mv_X12_laysAll ob_55 rfl rfl lk_X12_239 rfl rfl (Nat.le_of_ble_eq_true rfl) ⟨by decide, by decide⟩ hab dX12_laysPath_1 ?_
  refine g_aload_n (pc := 4) hC dX12_laysPath_4 rfl ?_
  obtain ⟨σ2, hc, h⟩ := cp_e h
  refine g_callVv (pc := 5) (As := []) (rest := []) hC (c_X12_opens l E σ1 σ2 hc) mi_X12_opens mv_X12_opens ob_55 rfl rfl lk_X12_242 rfl rfl (Nat.le_of_ble_eq_true rfl) ⟨by decide, by decide⟩ hab dX12_laysPath_5 ?_
  refine g_aload_n (pc := 8) hC dX12_laysPath_8 rfl ?_
  refine g_aload_n (pc := 9) hC dX12_laysPath_9 rfl ?_
  refine fg_X12_189_55 (pc := 10) hC dX12_laysPath_10 ?_
  refine g_iconst (pc := 13) hC ki_1 dX12_laysPath_13 ?_
  refine g_isub (pc := 14) hC dX12_laysPath_14 ?_
  obtain ⟨σ3, hc, h⟩ := cp_e h
  refine g_callVv (pc := 15) (As := [.int ((σ2 55 17) - 1)]) (rest := []) hC (c_X12_laysCosts l E ((σ2 55 17) - 1) σ2 σ3 hc) mi_X12_laysCosts mv_X12_laysCosts ob_55 rfl rfl lk_X12_245 rfl rfl (Nat.le_of_ble_eq_true rfl) ⟨by decide, by decide⟩ hab dX12_laysPath_15 ?_
  refine g_aload_n (pc := 18) hC dX12_laysPath_18 rfl ?_
  obtain ⟨σ4, hc, h⟩ := cp_e h
  refine g_callVv (pc := 19) (As := []) (rest := []) hC (c_X12_goesAlong l E σ3 σ4 hc) mi_X12_goesAlong mv_X12_goesAlong ob_55 rfl rfl lk_X12_248 rfl rfl (Nat.le_of_ble_eq_true rfl) ⟨by decide, by decide⟩ hab dX12_laysPath_19 ?_
  exact g_retv (pc := 22) hC h hR dX12_laysPath_22
set_option maxRecDepth 20000 in
theorem c_X12_lagOnPath (l : Launch) (E : uE) (a1 : Int32) (σ : uS) (r : Int32) (h : F_X12_lagOnPath a1 σ = some r) : CtI l E yX12_lagOnPath cX12_lagOnPath 2 (some .int) 1 22 [.ref (E.2.1 55), .int a1] σ r σ := by
  refine enterI 0 [some (.ref (E.2.1 55)), some (.int a1)] (by decide +kernel) rfl (Nat.le_of_ble_eq_true rfl) (fun o K hnL hC hab hR => ?_)
  have hC : Cx E K RX12 cX12_lagOnPath (some .int) 1 22 := hC
  have hN : ∀ k, k < 2 → k < K.2.2.2.2.2 := fun k hk => hnL ▸ hk
  delta F_X12_lagOnPath at h
  refine g_aload_n (pc := 0) hC dX12_lagOnPath_0 rfl ?_
  refine g_iload_n (pc := 1) hC dX12_lagOnPath_1 rfl ?_
  refine g_aload_n (pc := 2) hC dX12_lagOnPath_2 rfl ?_
  refine fg_X12_50_55 (pc := 3) hC dX12_lagOnPath_3 ?_
  refine g_iload_n (pc := 6) hC dX12_lagOnPath_6 rfl ?_
  obtain ⟨v1, ev1, nv1, h⟩ := rd_e h
  refine g_iald (pc := 7) hC 69 (by decide) (ar_69 _ _ _) nv1 dX12_lagOnPath_7 ?_
  refine g_top ev1 ?_
  obtain ⟨v2, hc, h⟩ := cp_e h
  refine g_callVi (pc := 8) (As := [.int a1, .int v1]) (rest := []) hC (c_X12_lagAt1 l E a1 v1 σ v2 hc) mi_X12_lagAt1 mv_X12_lagAt1 ob_55 rfl rfl lk_X12_195 rfl rfl (Nat.le_of_ble_eq_true rfl) ⟨by decide, by decide⟩ hab dX12_lagOnPath_8 ?_
  exact g_retp (pc := 11) hC h hR dX12_lagOnPath_11
set_option maxRecDepth 20000 in
theorem c_X12_part (l : Launch) (E : uE) (a1 : Int32) (a2 : Int32) (σ : uS) (r : Int32) (h : F_X12_part a1 a2 σ = some r) : CtI l E yX12_part cX12_part 7 (some .int) 2 43 [.ref (E.2.1 55), .int a1, .int a2] σ r σ := by
  refine enterI 4 [some (.ref (E.2.1 55)), some (.int a1), some (.int a2), none, none, none, none] (by decide +kernel) rfl (Nat.le_of_ble_eq_true rfl) (fun o K hnL hC hab hR => ?_)
  have hC : Cx E K RX12 cX12_part (some .int) 2 43 := hC
  have hN : ∀ k, k < 7 → k < K.2.2.2.2.2 := fun k hk => hnL ▸ hk
  delta F_X12_part at h
  refine g_iload_n (pc := 0) hC dX12_part_0 rfl ?_
  refine g_iconst (pc := 1) hC ki_1 dX12_part_1 ?_
  have hJ20 : ∀ (v4 : Int32), J_X12_part_9 a1 a2 σ v4 = some r → Gd l E K 0 0 o σ 20 [some (.ref (E.2.1 55)), some (.int a1), some (.int a2), none, none, none, none] [.int v4] := by
    intro v4 h
    delta J_X12_part_9 at h
    refine g_istore_n (lv2 := [some (.ref (E.2.1 55)), some (.int a1), some (.int a2), some (.int v4), none, none, none]) (pc := 20) hC dX12_part_20 rfl (Or.inr rfl) (hN _ (by decide)) ?_
    refine g_iload_n (pc := 21) hC dX12_part_21 rfl ?_
    have hJ30 : J_X12_part_8 v4 = some r → Gd l E K 0 0 o σ 30 [none, none, none, some (.int v4), none, none, none] [] := by
      intro h
      delta J_X12_part_8 at h
      refine g_iload_n (pc := 30) hC dX12_part_30 rfl ?_
      exact g_retp (pc := 31) hC h hR dX12_part_31
    refine g_if_eq (tgt := 30) (pc := 22) hC dX12_part_22 (by decide) (fun c5 => ?_) (fun c5 => ?_)
    · replace h := it_t c5 h
      refine g_mask [false, false, false, true, false, false, false] rfl ?_
      exact hJ30 h
    · replace h := it_f c5 h
      refine g_iload_n (pc := 25) hC dX12_part_25 rfl ?_
      refine g_iconst (pc := 26) hC ki_1 dX12_part_26 ?_
      refine g_icmp_ne (tgt := 32) (pc := 27) hC dX12_part_27 (by decide) (fun c6 => ?_) (fun c6 => ?_)
      · replace h := it_f c6 h
        refine g_aload_n (pc := 32) hC dX12_part_32 rfl ?_
        refine g_iload_n (pc := 33) hC dX12_part_33 rfl ?_
        refine g_iconst (pc := 34) hC ki_1 dX12_part_34 ?_
        refine g_isub (pc := 35) hC dX12_part_35 ?_
        obtain ⟨v7, hc, h⟩ := cp_e h
        refine g_callVi (pc := 36) (As := [.int (a1 - 1)]) (rest := []) hC (c_X12_lagOnPath l E (a1 - 1) σ v7 hc) mi_X12_lagOnPath mv_X12_lagOnPath ob_55 rfl rfl lk_X12_251 rfl rfl (Nat.le_of_ble_eq_true rfl) ⟨by decide, by decide⟩ hab dX12_part_36 ?_
        refine g_istore (lv2 := [some (.ref (E.2.1 55)), some (.int a1), some (.int a2), some (.int v4), some (.int v7), none, none]) (pc := 39) hC dX12_part_39 rfl (Or.inr rfl) (hN _ (by decide)) ?_
        refine g_aload_n (pc := 41) hC dX12_part_41 rfl ?_
        refine g_iload_n (pc := 42) hC dX12_part_42 rfl ?_
        obtain ⟨v8, hc, h⟩ := cp_e h
        refine g_callVi (pc := 43) (As := [.int a1]) (rest := []) hC (c_X12_lagOnPath l E a1 σ v8 hc) mi_X12_lagOnPath mv_X12_lagOnPath ob_55 rfl rfl lk_X12_251 rfl rfl (Nat.le_of_ble_eq_true rfl) ⟨by decide, by decide⟩ hab dX12_part_43 ?_
        refine g_istore (lv2 := [some (.ref (E.2.1 55)), some (.int a1), some (.int a2), some (.int v4), some (.int v7), some (.int v8), none]) (pc := 46) hC dX12_part_46 rfl (Or.inr rfl) (hN _ (by decide)) ?_
        refine g_iload (pc := 48) hC dX12_part_48 rfl ?_
        have hJ63 : ∀ (v11 : Int32), J_X12_part_7 a2 v7 v8 σ v11 = some r → Gd l E K 0 0 o σ 63 [some (.ref (E.2.1 55)), none, some (.int a2), none, some (.int v7), some (.int v8), none] [.int v11] := by
          intro v11 h
          delta J_X12_part_7 at h
          refine g_istore (lv2 := [some (.ref (E.2.1 55)), none, some (.int a2), none, some (.int v7), some (.int v8), some (.int v11)]) (pc := 63) hC dX12_part_63 rfl (Or.inr rfl) (hN _ (by decide)) ?_
          refine g_iload_n (pc := 65) hC dX12_part_65 rfl ?_
          refine g_iconst (pc := 66) hC ki_2 dX12_part_66 ?_
          refine g_icmp_ne (tgt := 95) (pc := 67) hC dX12_part_67 (by decide) (fun c12 => ?_) (fun c12 => ?_)
          · replace h := it_f c12 h
            refine g_iload_n (pc := 95) hC dX12_part_95 rfl ?_
            refine g_iconst (pc := 96) hC ki_3 dX12_part_96 ?_
            refine g_icmp_ne (tgt := 124) (pc := 97) hC dX12_part_97 (by decide) (fun c13 => ?_) (fun c13 => ?_)
            · replace h := it_f c13 h
              refine g_iload (pc := 124) hC dX12_part_124 rfl ?_
              have hJ144 : ∀ (v16 : Int32), J_X12_part_3 v16 = some r → Gd l E K 0 0 o σ 144 [none, none, none, none, none, none, none] [.int v16] := by
                intro v16 h
                delta J_X12_part_3 at h
                exact g_retp (pc := 144) hC h hR dX12_part_144
              have hJ143 : J_X12_part_2 = some r → Gd l E K 0 0 o σ 143 [none, none, none, none, none, none, none] [] := by
                intro h
                delta J_X12_part_2 at h
                refine g_iconst (pc := 143) hC ki_0 dX12_part_143 ?_
                exact hJ144 0 h
              refine g_if_ne (tgt := 143) (pc := 126) hC dX12_part_126 (by decide) (fun c14 => ?_) (fun c14 => ?_)
              · replace h := it_f c14 h
                refine g_mask [false, false, false, false, false, false, false] rfl ?_
                exact hJ143 h
              · replace h := it_t c14 h
                refine g_iload (pc := 129) hC dX12_part_129 rfl ?_
                refine g_iload (pc := 131) hC dX12_part_131 rfl ?_
                refine g_icmp_eq (tgt := 143) (pc := 133) hC dX12_part_133 (by decide) (fun c15 => ?_) (fun c15 => ?_)
                · replace h := it_t c15 h
                  refine g_mask [false, false, false, false, false, false, false] rfl ?_
                  exact hJ143 h
                · replace h := it_f c15 h
                  refine g_aload_n (pc := 136) hC dX12_part_136 rfl ?_
                  refine fg_X12_210_55 (pc := 137) hC dX12_part_137 ?_
                  refine g_goto (tgt := 144) (pc := 140) hC dX12_part_140 (by decide) ?_
                  refine g_mask [false, false, false, false, false, false, false] rfl ?_
                  exact hJ144 (σ 55 22) h
            · replace h := it_t c13 h
              refine g_iload (pc := 100) hC dX12_part_100 rfl ?_
              have hJ123 : ∀ (v20 : Int32), J_X12_part_5 v20 = some r → Gd l E K 0 0 o σ 123 [none, none, none, none, none, none, none] [.int v20] := by
                intro v20 h
                delta J_X12_part_5 at h
                exact g_retp (pc := 123) hC h hR dX12_part_123
              have hJ122 : J_X12_part_4 = some r → Gd l E K 0 0 o σ 122 [none, none, none, none, none, none, none] [] := by
                intro h
                delta J_X12_part_4 at h
                refine g_iconst (pc := 122) hC ki_0 dX12_part_122 ?_
                exact hJ123 0 h
              refine g_if_eq (tgt := 122) (pc := 102) hC dX12_part_102 (by decide) (fun c17 => ?_) (fun c17 => ?_)
              · replace h := it_t c17 h
                refine g_mask [false, false, false, false, false, false, false] rfl ?_
                exact hJ122 h
              · replace h := it_f c17 h
                refine g_iload (pc := 105) hC dX12_part_105 rfl ?_
                refine g_iload (pc := 107) hC dX12_part_107 rfl ?_
                obtain ⟨v18, hc, h⟩ := cp_e h
                refine g_callSi (pc := 109) (As := [.int v7, .int v8]) (rest := []) hC (c_X12_isOctave l E v7 v8 σ v18 hc) mi_X12_isOctave ms_X12_isOctave lk_X12_213 rfl rfl (Nat.le_of_ble_eq_true rfl) ⟨by decide, by decide⟩ hab dX12_part_109 ?_
                refine g_if_eq (tgt := 122) (pc := 112) hC dX12_part_112 (by decide) (fun c19 => ?_) (fun c19 => ?_)
                · replace h := it_t c19 h
                  refine g_mask [false, false, false, false, false, false, false] rfl ?_
                  exact hJ122 h
                · replace h := it_f c19 h
                  refine g_aload_n (pc := 115) hC dX12_part_115 rfl ?_
                  refine fg_X12_216_55 (pc := 116) hC dX12_part_116 ?_
                  refine g_goto (tgt := 123) (pc := 119) hC dX12_part_119 (by decide) ?_
                  refine g_mask [false, false, false, false, false, false, false] rfl ?_
                  exact hJ123 (σ 55 21) h
          · replace h := it_t c12 h
            refine g_iload (pc := 70) hC dX12_part_70 rfl ?_
            have hJ94 : ∀ (v24 : Int32), J_X12_part_6 v24 = some r → Gd l E K 0 0 o σ 94 [none, none, none, none, none, none, none] [.int v24] := by
              intro v24 h
              delta J_X12_part_6 at h
              exact g_retp (pc := 94) hC h hR dX12_part_94
            refine g_if_eq (tgt := 93) (pc := 72) hC dX12_part_72 (by decide) (fun c21 => ?_) (fun c21 => ?_)
            · replace h := it_t c21 h
              refine g_iconst (pc := 93) hC ki_0 dX12_part_93 ?_
              refine g_mask [false, false, false, false, false, false, false] rfl ?_
              exact hJ94 0 h
            · replace h := it_f c21 h
              refine g_aload_n (pc := 75) hC dX12_part_75 rfl ?_
              refine fg_X12_7_55 (pc := 76) hC dX12_part_76 ?_
              refine g_bipush (pc := 79) hC kb_10 dX12_part_79 ?_
              obtain ⟨v22, ev22, nv22, h⟩ := rd_e h
              refine g_iald (pc := 81) hC 56 (by decide) (ar_56 _ _ _) nv22 dX12_part_81 ?_
              refine g_top ev22 ?_
              refine g_iload (pc := 82) hC dX12_part_82 rfl ?_
              refine g_iload (pc := 84) hC dX12_part_84 rfl ?_
              obtain ⟨v23, hc, h⟩ := cp_e h
              refine g_callSi (pc := 86) (As := [.int v7, .int v8]) (rest := [.int v22]) hC (c_X12_apart l E v7 v8 σ v23 hc) mi_X12_apart ms_X12_apart lk_X12_163 rfl rfl (Nat.le_of_ble_eq_true rfl) ⟨by decide, by decide⟩ hab dX12_part_86 ?_
              refine g_imul (pc := 89) hC dX12_part_89 ?_
              refine g_goto (tgt := 94) (pc := 90) hC dX12_part_90 (by decide) ?_
              refine g_mask [false, false, false, false, false, false, false] rfl ?_
              exact hJ94 (v22 * v23) h
        have hJ62 : J_X12_part_1 a2 v7 v8 σ = some r → Gd l E K 0 0 o σ 62 [some (.ref (E.2.1 55)), none, some (.int a2), none, some (.int v7), some (.int v8), none] [] := by
          intro h
          delta J_X12_part_1 at h
          refine g_iconst (pc := 62) hC ki_0 dX12_part_62 ?_
          exact hJ63 0 h
        refine g_if_le (tgt := 62) (pc := 50) hC dX12_part_50 (by decide) (fun c9 => ?_) (fun c9 => ?_)
        · replace h := it_t c9 h
          refine g_mask [true, false, true, false, true, true, false] rfl ?_
          exact hJ62 h
        · replace h := it_f c9 h
          refine g_iload (pc := 53) hC dX12_part_53 rfl ?_
          refine g_if_le (tgt := 62) (pc := 55) hC dX12_part_55 (by decide) (fun c10 => ?_) (fun c10 => ?_)
          · replace h := it_t c10 h
            refine g_mask [true, false, true, false, true, true, false] rfl ?_
            exact hJ62 h
          · replace h := it_f c10 h
            refine g_iconst (pc := 58) hC ki_1 dX12_part_58 ?_
            refine g_goto (tgt := 63) (pc := 59) hC dX12_part_59 (by decide) ?_
            refine g_mask [true, false, true, false, true, true, false] rfl ?_
            exact hJ63 1 h
      · replace h := it_t c6 h
        refine g_mask [false, false, false, true, false, false, false] rfl ?_
        exact hJ30 h
  refine g_icmp_ne (tgt := 19) (pc := 2) hC dX12_part_2 (by decide) (fun c1 => ?_) (fun c1 => ?_)
  · replace h := it_f c1 h
    refine g_iconst (pc := 19) hC ki_0 dX12_part_19 ?_
    exact hJ20 0 h
  · replace h := it_t c1 h
    refine g_aload_n (pc := 5) hC dX12_part_5 rfl ?_
    refine g_iload_n (pc := 6) hC dX12_part_6 rfl ?_
    refine g_aload_n (pc := 7) hC dX12_part_7 rfl ?_
    refine fg_X12_50_55 (pc := 8) hC dX12_part_8 ?_
    refine g_iload_n (pc := 11) hC dX12_part_11 rfl ?_
    obtain ⟨v2, ev2, nv2, h⟩ := rd_e h
    refine g_iald (pc := 12) hC 69 (by decide) (ar_69 _ _ _) nv2 dX12_part_12 ?_
    refine g_top ev2 ?_
    obtain ⟨v3, hc, h⟩ := cp_e h
    refine g_callVi (pc := 13) (As := [.int a1, .int v2]) (rest := []) hC (c_X12_ownAt l E a1 v2 σ v3 hc) mi_X12_ownAt mv_X12_ownAt ob_55 rfl rfl lk_X12_201 rfl rfl (Nat.le_of_ble_eq_true rfl) ⟨by decide, by decide⟩ hab dX12_part_13 ?_
    refine g_goto (tgt := 20) (pc := 16) hC dX12_part_16 (by decide) ?_
    exact hJ20 v3 h
set_option maxRecDepth 20000 in
theorem c_X12_cost (l : Launch) (E : uE) (a1 : Int32) (σ : uS) (r : Int32) (σr : uS) (h : F_X12_cost a1 σ = some (r, σr)) : CtI l E yX12_cost cX12_cost 4 (some .int) 6 137 [.ref (E.2.1 55), .int a1] σ r σr := by
  refine enterI 2 [some (.ref (E.2.1 55)), some (.int a1), none, none] (by decide +kernel) rfl (Nat.le_of_ble_eq_true rfl) (fun o K hnL hC hab hR => ?_)
  have hC : Cx E K RX12 cX12_cost (some .int) 6 137 := hC
  have hN : ∀ k, k < 4 → k < K.2.2.2.2.2 := fun k hk => hnL ▸ hk
  delta F_X12_cost at h
  refine g_aload_n (pc := 0) hC dX12_cost_0 rfl ?_
  refine g_iconst (pc := 1) hC ki_0 dX12_cost_1 ?_
  obtain ⟨σ1, eσ1, h⟩ := pf_e h
  refine fp_X12_119_55 (pc := 2) hC dX12_cost_2 eσ1 ?_
  refine g_aload_n (pc := 5) hC dX12_cost_5 rfl ?_
  refine g_iload_n (pc := 6) hC dX12_cost_6 rfl ?_
  refine g_iconst (pc := 7) hC ki_0 dX12_cost_7 ?_
  refine g_iconst (pc := 8) hC ki_4 dX12_cost_8 ?_
  obtain ⟨v2, hc, h⟩ := cp_e h
  refine g_callSi (pc := 9) (As := [.int a1, .int 0, .int 4]) (rest := [.ref (E.2.1 55)]) hC (c_X12_isIn l E a1 0 4 σ1 v2 hc) mi_X12_isIn ms_X12_isIn lk_X12_133 rfl rfl (Nat.le_of_ble_eq_true rfl) ⟨by decide, by decide⟩ hab dX12_cost_9 ?_
  refine g_iconst (pc := 12) hC ki_1 dX12_cost_12 ?_
  obtain ⟨v4, σ3, hc, h⟩ := cl_e h
  refine g_callVi (pc := 13) (As := [.int v2, .int 1]) (rest := []) hC (c_X12_right l E v2 1 σ1 v4 σ3 hc) mi_X12_right mv_X12_right ob_55 rfl rfl lk_X12_148 rfl rfl (Nat.le_of_ble_eq_true rfl) ⟨by decide, by decide⟩ hab dX12_cost_13 ?_
  refine g_if_ne (tgt := 21) (pc := 16) hC dX12_cost_16 (by decide) (fun c5 => ?_) (fun c5 => ?_)
  · replace h := it_f c5 h
    refine g_aload_n (pc := 21) hC dX12_cost_21 rfl ?_
    obtain ⟨σ6, hc, h⟩ := cp_e h
    refine g_callVv (pc := 22) (As := []) (rest := []) hC (c_X12_laysPath l E σ3 σ6 hc) mi_X12_laysPath mv_X12_laysPath ob_55 rfl rfl lk_X12_254 rfl rfl (Nat.le_of_ble_eq_true rfl) ⟨by decide, by decide⟩ hab dX12_cost_22 ?_
    refine g_iload_n (pc := 25) hC dX12_cost_25 rfl ?_
    refine g_if_ne (tgt := 34) (pc := 26) hC dX12_cost_26 (by decide) (fun c7 => ?_) (fun c7 => ?_)
    · replace h := it_f c7 h
      refine g_iconst (pc := 34) hC ki_0 dX12_cost_34 ?_
      refine g_istore_n (lv2 := [some (.ref (E.2.1 55)), some (.int a1), some (.int 0), none]) (pc := 35) hC dX12_cost_35 rfl (Or.inr rfl) (hN _ (by decide)) ?_
      refine g_iconst (pc := 36) hC ki_0 dX12_cost_36 ?_
      refine g_istore_n (lv2 := [some (.ref (E.2.1 55)), some (.int a1), some (.int 0), some (.int 0)]) (pc := 37) hC dX12_cost_37 rfl (Or.inr rfl) (hN _ (by decide)) ?_
      have hL1 : ∀ (n : Nat) (w8 : Int32) (w9 : Int32) (z1 : Int32), iter n (fun z => B_X12_cost_2 a1 σ6 z.1 z.2) (w8, w9) = some z1 → (∀ (v10 : Int32), z1 = v10 → Gd l E K 0 0 o σ6 61 [none, none, some (.int v10), none] []) → Gd l E K 0 0 o σ6 38 [some (.ref (E.2.1 55)), some (.int a1), some (.int w8), some (.int w9)] [] := by
        intro n
        induction n with
        | zero =>
          intro w8 w9 z1 hi
          exact (iter_0 hi).elim
        | succ n ih1 =>
          intro w8 w9 z1 hi1 kx1
          obtain ⟨r1, h, hi1⟩ := iter_s hi1
          replace h : B_X12_cost_2 a1 σ6 w8 w9 = some r1 := h
          delta B_X12_cost_2 at h
          refine g_iload_n (pc := 38) hC dX12_cost_38 rfl ?_
          refine g_aload_n (pc := 39) hC dX12_cost_39 rfl ?_
          refine fg_X12_189_55 (pc := 40) hC dX12_cost_40 ?_
          refine g_icmp_ge (tgt := 61) (pc := 43) hC dX12_cost_43 (by decide) (fun c11 => ?_) (fun c11 => ?_)
          · replace h := it_t c11 h
            refine g_mask [false, false, true, false] rfl ?_
            exact kx1 w8 (iter_r h hi1)
          · replace h := it_f c11 h
            refine g_iload_n (pc := 46) hC dX12_cost_46 rfl ?_
            refine g_aload_n (pc := 47) hC dX12_cost_47 rfl ?_
            refine g_iload_n (pc := 48) hC dX12_cost_48 rfl ?_
            refine g_iload_n (pc := 49) hC dX12_cost_49 rfl ?_
            obtain ⟨v12, hc, h⟩ := cp_e h
            refine g_callVi (pc := 50) (As := [.int w9, .int a1]) (rest := [.int w8]) hC (c_X12_part l E w9 a1 σ6 v12 hc) mi_X12_part mv_X12_part ob_55 rfl rfl lk_X12_257 rfl rfl (Nat.le_of_ble_eq_true rfl) ⟨by decide, by decide⟩ hab dX12_cost_50 ?_
            refine g_iadd (pc := 53) hC dX12_cost_53 ?_
            obtain ⟨v13, ev13, h⟩ := lt_e h
            refine g_top ev13 ?_
            refine g_istore_n (lv2 := [some (.ref (E.2.1 55)), some (.int a1), some (.int v13), some (.int w9)]) (pc := 54) hC dX12_cost_54 rfl (Or.inr rfl) (hN _ (by decide)) ?_
            obtain ⟨v14, ev14, h⟩ := lt_e h
            refine g_iinc (v := v14) (lv2 := [some (.ref (E.2.1 55)), some (.int a1), some (.int v13), some (.int v14)]) (pc := 55) hC dX12_cost_55 rfl ev14 rfl (Or.inr rfl) (hN _ (by decide)) ?_
            refine g_goto (tgt := 38) (pc := 58) hC dX12_cost_58 (by decide) ?_
            exact ih1 v13 v14 z1 (iter_l h hi1) kx1
      obtain ⟨z1, hz1, h⟩ := lp_e h
      refine hL1 FU 0 0 z1 hz1 (fun v10 ez => ?_)
      replace h : C_X12_cost_3 σ6 v10 = some (r, σr) := by rw [ez] at h; exact h
      delta C_X12_cost_3 at h
      refine g_iload_n (pc := 61) hC dX12_cost_61 rfl ?_
      exact g_ret (pc := 62) hC h hR dX12_cost_62
    · replace h := it_t c7 h
      refine g_aload_n (pc := 29) hC dX12_cost_29 rfl ?_
      obtain ⟨v15, hc, h⟩ := cp_e h
      refine g_callVi (pc := 30) (As := []) (rest := []) hC (c_X12_leastOfAll l E σ6 v15 hc) mi_X12_leastOfAll mv_X12_leastOfAll ob_55 rfl rfl lk_X12_233 rfl rfl (Nat.le_of_ble_eq_true rfl) ⟨by decide, by decide⟩ hab dX12_cost_30 ?_
      exact g_ret (pc := 33) hC h hR dX12_cost_33
  · replace h := it_t c5 h
    refine g_iconst (pc := 19) hC ki_0 dX12_cost_19 ?_
    exact g_ret (pc := 20) hC h hR dX12_cost_20
set_option maxRecDepth 20000 in
theorem c_X12_path (l : Launch) (E : uE) (a1 : Int32) (σ : uS) (r : Int32) (σr : uS) (h : F_X12_path a1 σ = some (r, σr)) : CtI l E yX12_path cX12_path 2 (some .int) 6 137 [.ref (E.2.1 55), .int a1] σ r σr := by
  refine enterI 0 [some (.ref (E.2.1 55)), some (.int a1)] (by decide +kernel) rfl (Nat.le_of_ble_eq_true rfl) (fun o K hnL hC hab hR => ?_)
  have hC : Cx E K RX12 cX12_path (some .int) 6 137 := hC
  have hN : ∀ k, k < 2 → k < K.2.2.2.2.2 := fun k hk => hnL ▸ hk
  delta F_X12_path at h
  refine g_aload_n (pc := 0) hC dX12_path_0 rfl ?_
  refine g_iconst (pc := 1) hC ki_0 dX12_path_1 ?_
  obtain ⟨σ1, eσ1, h⟩ := pf_e h
  refine fp_X12_119_55 (pc := 2) hC dX12_path_2 eσ1 ?_
  refine g_aload_n (pc := 5) hC dX12_path_5 rfl ?_
  refine g_iload_n (pc := 6) hC dX12_path_6 rfl ?_
  obtain ⟨v3, σ2, hc, h⟩ := cl_e h
  refine g_callVi (pc := 7) (As := [.int a1]) (rest := []) hC (c_X12_isFrame l E a1 σ1 v3 σ2 hc) mi_X12_isFrame mv_X12_isFrame ob_55 rfl rfl lk_X12_167 rfl rfl (Nat.le_of_ble_eq_true rfl) ⟨by decide, by decide⟩ hab dX12_path_7 ?_
  refine g_if_ne (tgt := 15) (pc := 10) hC dX12_path_10 (by decide) (fun c4 => ?_) (fun c4 => ?_)
  · replace h := it_f c4 h
    refine g_aload_n (pc := 15) hC dX12_path_15 rfl ?_
    obtain ⟨σ5, hc, h⟩ := cp_e h
    refine g_callVv (pc := 16) (As := []) (rest := []) hC (c_X12_laysPath l E σ2 σ5 hc) mi_X12_laysPath mv_X12_laysPath ob_55 rfl rfl lk_X12_254 rfl rfl (Nat.le_of_ble_eq_true rfl) ⟨by decide, by decide⟩ hab dX12_path_16 ?_
    refine g_aload_n (pc := 19) hC dX12_path_19 rfl ?_
    refine fg_X12_50_55 (pc := 20) hC dX12_path_20 ?_
    refine g_iload_n (pc := 23) hC dX12_path_23 rfl ?_
    obtain ⟨v6, ev6, nv6, h⟩ := rd_e h
    refine g_iald (pc := 24) hC 69 (by decide) (ar_69 _ _ _) nv6 dX12_path_24 ?_
    refine g_top ev6 ?_
    exact g_ret (pc := 25) hC h hR dX12_path_25
  · replace h := it_t c4 h
    refine g_iconst (pc := 13) hC ki_0 dX12_path_13 ?_
    exact g_ret (pc := 14) hC h hR dX12_path_14
set_option maxRecDepth 20000 in
theorem c_X12_lag (l : Launch) (E : uE) (a1 : Int32) (σ : uS) (r : Int32) (σr : uS) (h : F_X12_lag a1 σ = some (r, σr)) : CtI l E yX12_lag cX12_lag 2 (some .int) 6 137 [.ref (E.2.1 55), .int a1] σ r σr := by
  refine enterI 0 [some (.ref (E.2.1 55)), some (.int a1)] (by decide +kernel) rfl (Nat.le_of_ble_eq_true rfl) (fun o K hnL hC hab hR => ?_)
  have hC : Cx E K RX12 cX12_lag (some .int) 6 137 := hC
  have hN : ∀ k, k < 2 → k < K.2.2.2.2.2 := fun k hk => hnL ▸ hk
  delta F_X12_lag at h
  refine g_aload_n (pc := 0) hC dX12_lag_0 rfl ?_
  refine g_iconst (pc := 1) hC ki_0 dX12_lag_1 ?_
  obtain ⟨σ1, eσ1, h⟩ := pf_e h
  refine fp_X12_119_55 (pc := 2) hC dX12_lag_2 eσ1 ?_
  refine g_aload_n (pc := 5) hC dX12_lag_5 rfl ?_
  refine g_iload_n (pc := 6) hC dX12_lag_6 rfl ?_
  obtain ⟨v3, σ2, hc, h⟩ := cl_e h
  refine g_callVi (pc := 7) (As := [.int a1]) (rest := []) hC (c_X12_isFrame l E a1 σ1 v3 σ2 hc) mi_X12_isFrame mv_X12_isFrame ob_55 rfl rfl lk_X12_167 rfl rfl (Nat.le_of_ble_eq_true rfl) ⟨by decide, by decide⟩ hab dX12_lag_7 ?_
  refine g_if_ne (tgt := 15) (pc := 10) hC dX12_lag_10 (by decide) (fun c4 => ?_) (fun c4 => ?_)
  · replace h := it_f c4 h
    refine g_aload_n (pc := 15) hC dX12_lag_15 rfl ?_
    obtain ⟨σ5, hc, h⟩ := cp_e h
    refine g_callVv (pc := 16) (As := []) (rest := []) hC (c_X12_laysPath l E σ2 σ5 hc) mi_X12_laysPath mv_X12_laysPath ob_55 rfl rfl lk_X12_254 rfl rfl (Nat.le_of_ble_eq_true rfl) ⟨by decide, by decide⟩ hab dX12_lag_16 ?_
    refine g_aload_n (pc := 19) hC dX12_lag_19 rfl ?_
    refine g_iload_n (pc := 20) hC dX12_lag_20 rfl ?_
    obtain ⟨v6, hc, h⟩ := cp_e h
    refine g_callVi (pc := 21) (As := [.int a1]) (rest := []) hC (c_X12_lagOnPath l E a1 σ5 v6 hc) mi_X12_lagOnPath mv_X12_lagOnPath ob_55 rfl rfl lk_X12_251 rfl rfl (Nat.le_of_ble_eq_true rfl) ⟨by decide, by decide⟩ hab dX12_lag_21 ?_
    exact g_ret (pc := 24) hC h hR dX12_lag_24
  · replace h := it_t c4 h
    refine g_iconst (pc := 13) hC ki_0 dX12_lag_13 ?_
    exact g_ret (pc := 14) hC h hR dX12_lag_14
set_option maxRecDepth 20000 in
theorem c_X12_through (l : Launch) (E : uE) (a1 : Int32) (a2 : Int32) (σ : uS) (r : Int32) (σr : uS) (h : F_X12_through a1 a2 σ = some (r, σr)) : CtI l E yX12_through cX12_through 3 (some .int) 5 117 [.ref (E.2.1 55), .int a1, .int a2] σ r σr := by
  refine enterI 0 [some (.ref (E.2.1 55)), some (.int a1), some (.int a2)] (by decide +kernel) rfl (Nat.le_of_ble_eq_true rfl) (fun o K hnL hC hab hR => ?_)
  have hC : Cx E K RX12 cX12_through (some .int) 5 117 := hC
  have hN : ∀ k, k < 3 → k < K.2.2.2.2.2 := fun k hk => hnL ▸ hk
  delta F_X12_through at h
  refine g_aload_n (pc := 0) hC dX12_through_0 rfl ?_
  refine g_iconst (pc := 1) hC ki_0 dX12_through_1 ?_
  obtain ⟨σ1, eσ1, h⟩ := pf_e h
  refine fp_X12_119_55 (pc := 2) hC dX12_through_2 eσ1 ?_
  refine g_aload_n (pc := 5) hC dX12_through_5 rfl ?_
  refine g_iload_n (pc := 6) hC dX12_through_6 rfl ?_
  refine g_iload_n (pc := 7) hC dX12_through_7 rfl ?_
  obtain ⟨v3, σ2, hc, h⟩ := cl_e h
  refine g_callVi (pc := 8) (As := [.int a1, .int a2]) (rest := []) hC (c_X12_isCandidate l E a1 a2 σ1 v3 σ2 hc) mi_X12_isCandidate mv_X12_isCandidate ob_55 rfl rfl lk_X12_198 rfl rfl (Nat.le_of_ble_eq_true rfl) ⟨by decide, by decide⟩ hab dX12_through_8 ?_
  refine g_if_ne (tgt := 16) (pc := 11) hC dX12_through_11 (by decide) (fun c4 => ?_) (fun c4 => ?_)
  · replace h := it_f c4 h
    refine g_aload_n (pc := 16) hC dX12_through_16 rfl ?_
    obtain ⟨σ5, hc, h⟩ := cp_e h
    refine g_callVv (pc := 17) (As := []) (rest := []) hC (c_X12_laysAll l E σ2 σ5 hc) mi_X12_laysAll mv_X12_laysAll ob_55 rfl rfl lk_X12_239 rfl rfl (Nat.le_of_ble_eq_true rfl) ⟨by decide, by decide⟩ hab dX12_through_17 ?_
    refine g_aload_n (pc := 20) hC dX12_through_20 rfl ?_
    obtain ⟨σ6, hc, h⟩ := cp_e h
    refine g_callVv (pc := 21) (As := []) (rest := []) hC (c_X12_opens l E σ5 σ6 hc) mi_X12_opens mv_X12_opens ob_55 rfl rfl lk_X12_242 rfl rfl (Nat.le_of_ble_eq_true rfl) ⟨by decide, by decide⟩ hab dX12_through_21 ?_
    refine g_aload_n (pc := 24) hC dX12_through_24 rfl ?_
    refine g_iload_n (pc := 25) hC dX12_through_25 rfl ?_
    refine g_iload_n (pc := 26) hC dX12_through_26 rfl ?_
    obtain ⟨σ7, hc, h⟩ := cp_e h
    refine g_callVv (pc := 27) (As := [.int a1, .int a2]) (rest := []) hC (c_X12_leavesOnly l E a1 a2 σ6 σ7 hc) mi_X12_leavesOnly mv_X12_leavesOnly ob_55 rfl rfl lk_X12_260 rfl rfl (Nat.le_of_ble_eq_true rfl) ⟨by decide, by decide⟩ hab dX12_through_27 ?_
    refine g_aload_n (pc := 30) hC dX12_through_30 rfl ?_
    refine g_aload_n (pc := 31) hC dX12_through_31 rfl ?_
    refine fg_X12_189_55 (pc := 32) hC dX12_through_32 ?_
    refine g_iconst (pc := 35) hC ki_1 dX12_through_35 ?_
    refine g_isub (pc := 36) hC dX12_through_36 ?_
    obtain ⟨σ8, hc, h⟩ := cp_e h
    refine g_callVv (pc := 37) (As := [.int ((σ7 55 17) - 1)]) (rest := []) hC (c_X12_laysCosts l E ((σ7 55 17) - 1) σ7 σ8 hc) mi_X12_laysCosts mv_X12_laysCosts ob_55 rfl rfl lk_X12_245 rfl rfl (Nat.le_of_ble_eq_true rfl) ⟨by decide, by decide⟩ hab dX12_through_37 ?_
    refine g_aload_n (pc := 40) hC dX12_through_40 rfl ?_
    obtain ⟨v9, hc, h⟩ := cp_e h
    refine g_callVi (pc := 41) (As := []) (rest := []) hC (c_X12_leastOfAll l E σ8 v9 hc) mi_X12_leastOfAll mv_X12_leastOfAll ob_55 rfl rfl lk_X12_233 rfl rfl (Nat.le_of_ble_eq_true rfl) ⟨by decide, by decide⟩ hab dX12_through_41 ?_
    exact g_ret (pc := 44) hC h hR dX12_through_44
  · replace h := it_t c4 h
    refine g_iconst (pc := 14) hC ki_0 dX12_through_14 ?_
    exact g_ret (pc := 15) hC h hR dX12_through_15
set_option maxRecDepth 20000 in
theorem c_X12_both (l : Launch) (E : uE) (a1 : Int32) (a2 : Int32) (a3 : Int32) (a4 : Int32) (σ : uS) (r : Int32) (σr : uS) (h : F_X12_both a1 a2 a3 a4 σ = some (r, σr)) : CtI l E yX12_both cX12_both 5 (some .int) 5 117 [.ref (E.2.1 55), .int a1, .int a2, .int a3, .int a4] σ r σr := by
  refine enterI 0 [some (.ref (E.2.1 55)), some (.int a1), some (.int a2), some (.int a3), some (.int a4)] (by decide +kernel) rfl (Nat.le_of_ble_eq_true rfl) (fun o K hnL hC hab hR => ?_)
  have hC : Cx E K RX12 cX12_both (some .int) 5 117 := hC
  have hN : ∀ k, k < 5 → k < K.2.2.2.2.2 := fun k hk => hnL ▸ hk
  delta F_X12_both at h
  refine g_aload_n (pc := 0) hC dX12_both_0 rfl ?_
  refine g_iconst (pc := 1) hC ki_0 dX12_both_1 ?_
  obtain ⟨σ1, eσ1, h⟩ := pf_e h
  refine fp_X12_119_55 (pc := 2) hC dX12_both_2 eσ1 ?_
  refine g_aload_n (pc := 5) hC dX12_both_5 rfl ?_
  refine g_iload_n (pc := 6) hC dX12_both_6 rfl ?_
  refine g_iload_n (pc := 7) hC dX12_both_7 rfl ?_
  obtain ⟨v3, σ2, hc, h⟩ := cl_e h
  refine g_callVi (pc := 8) (As := [.int a1, .int a2]) (rest := []) hC (c_X12_isCandidate l E a1 a2 σ1 v3 σ2 hc) mi_X12_isCandidate mv_X12_isCandidate ob_55 rfl rfl lk_X12_198 rfl rfl (Nat.le_of_ble_eq_true rfl) ⟨by decide, by decide⟩ hab dX12_both_8 ?_
  have hJ42 : ∀ (σ19 : uS), J_X12_both_1 σ19 = some (r, σr) → Gd l E K 0 0 o σ19 42 [none, none, none, none, none] [] := by
    intro σ19 h
    delta J_X12_both_1 at h
    refine g_iconst (pc := 42) hC ki_0 dX12_both_42 ?_
    exact g_ret (pc := 43) hC h hR dX12_both_43
  refine g_if_eq (tgt := 42) (pc := 11) hC dX12_both_11 (by decide) (fun c4 => ?_) (fun c4 => ?_)
  · replace h := it_t c4 h
    refine g_mask [false, false, false, false, false] rfl ?_
    exact hJ42 σ2 h
  · replace h := it_f c4 h
    refine g_aload_n (pc := 14) hC dX12_both_14 rfl ?_
    refine g_iload_n (pc := 15) hC dX12_both_15 rfl ?_
    refine g_iload (pc := 16) hC dX12_both_16 rfl ?_
    obtain ⟨v6, σ5, hc, h⟩ := cl_e h
    refine g_callVi (pc := 18) (As := [.int a3, .int a4]) (rest := []) hC (c_X12_isCandidate l E a3 a4 σ2 v6 σ5 hc) mi_X12_isCandidate mv_X12_isCandidate ob_55 rfl rfl lk_X12_198 rfl rfl (Nat.le_of_ble_eq_true rfl) ⟨by decide, by decide⟩ hab dX12_both_18 ?_
    refine g_if_eq (tgt := 42) (pc := 21) hC dX12_both_21 (by decide) (fun c7 => ?_) (fun c7 => ?_)
    · replace h := it_t c7 h
      refine g_mask [false, false, false, false, false] rfl ?_
      exact hJ42 σ5 h
    · replace h := it_f c7 h
      refine g_aload_n (pc := 24) hC dX12_both_24 rfl ?_
      refine g_iload_n (pc := 25) hC dX12_both_25 rfl ?_
      refine g_iload_n (pc := 26) hC dX12_both_26 rfl ?_
      obtain ⟨v9, ev9, h⟩ := lt_e h
      have hJ35 : Gd l E K 0 0 o σ5 35 [some (.ref (E.2.1 55)), some (.int a1), some (.int a2), some (.int a3), some (.int a4)] [.int v9, .ref (E.2.1 55)] := by
        refine g_iconst (pc := 35) hC ki_2 dX12_both_35 ?_
        obtain ⟨v11, σ10, hc, h⟩ := cl_e h
        refine g_callVi (pc := 36) (As := [.int v9, .int 2]) (rest := []) hC (c_X12_right l E v9 2 σ5 v11 σ10 hc) mi_X12_right mv_X12_right ob_55 rfl rfl lk_X12_148 rfl rfl (Nat.le_of_ble_eq_true rfl) ⟨by decide, by decide⟩ hab dX12_both_36 ?_
        refine g_if_ne (tgt := 44) (pc := 39) hC dX12_both_39 (by decide) (fun c12 => ?_) (fun c12 => ?_)
        · replace h := it_f c12 h
          refine g_aload_n (pc := 44) hC dX12_both_44 rfl ?_
          obtain ⟨σ13, hc, h⟩ := cp_e h
          refine g_callVv (pc := 45) (As := []) (rest := []) hC (c_X12_laysAll l E σ10 σ13 hc) mi_X12_laysAll mv_X12_laysAll ob_55 rfl rfl lk_X12_239 rfl rfl (Nat.le_of_ble_eq_true rfl) ⟨by decide, by decide⟩ hab dX12_both_45 ?_
          refine g_aload_n (pc := 48) hC dX12_both_48 rfl ?_
          obtain ⟨σ14, hc, h⟩ := cp_e h
          refine g_callVv (pc := 49) (As := []) (rest := []) hC (c_X12_opens l E σ13 σ14 hc) mi_X12_opens mv_X12_opens ob_55 rfl rfl lk_X12_242 rfl rfl (Nat.le_of_ble_eq_true rfl) ⟨by decide, by decide⟩ hab dX12_both_49 ?_
          refine g_aload_n (pc := 52) hC dX12_both_52 rfl ?_
          refine g_iload_n (pc := 53) hC dX12_both_53 rfl ?_
          refine g_iload_n (pc := 54) hC dX12_both_54 rfl ?_
          obtain ⟨σ15, hc, h⟩ := cp_e h
          refine g_callVv (pc := 55) (As := [.int a1, .int a2]) (rest := []) hC (c_X12_leavesOnly l E a1 a2 σ14 σ15 hc) mi_X12_leavesOnly mv_X12_leavesOnly ob_55 rfl rfl lk_X12_260 rfl rfl (Nat.le_of_ble_eq_true rfl) ⟨by decide, by decide⟩ hab dX12_both_55 ?_
          refine g_aload_n (pc := 58) hC dX12_both_58 rfl ?_
          refine g_iload_n (pc := 59) hC dX12_both_59 rfl ?_
          refine g_iload (pc := 60) hC dX12_both_60 rfl ?_
          obtain ⟨σ16, hc, h⟩ := cp_e h
          refine g_callVv (pc := 62) (As := [.int a3, .int a4]) (rest := []) hC (c_X12_leavesOnly l E a3 a4 σ15 σ16 hc) mi_X12_leavesOnly mv_X12_leavesOnly ob_55 rfl rfl lk_X12_260 rfl rfl (Nat.le_of_ble_eq_true rfl) ⟨by decide, by decide⟩ hab dX12_both_62 ?_
          refine g_aload_n (pc := 65) hC dX12_both_65 rfl ?_
          refine g_aload_n (pc := 66) hC dX12_both_66 rfl ?_
          refine fg_X12_189_55 (pc := 67) hC dX12_both_67 ?_
          refine g_iconst (pc := 70) hC ki_1 dX12_both_70 ?_
          refine g_isub (pc := 71) hC dX12_both_71 ?_
          obtain ⟨σ17, hc, h⟩ := cp_e h
          refine g_callVv (pc := 72) (As := [.int ((σ16 55 17) - 1)]) (rest := []) hC (c_X12_laysCosts l E ((σ16 55 17) - 1) σ16 σ17 hc) mi_X12_laysCosts mv_X12_laysCosts ob_55 rfl rfl lk_X12_245 rfl rfl (Nat.le_of_ble_eq_true rfl) ⟨by decide, by decide⟩ hab dX12_both_72 ?_
          refine g_aload_n (pc := 75) hC dX12_both_75 rfl ?_
          obtain ⟨v18, hc, h⟩ := cp_e h
          refine g_callVi (pc := 76) (As := []) (rest := []) hC (c_X12_leastOfAll l E σ17 v18 hc) mi_X12_leastOfAll mv_X12_leastOfAll ob_55 rfl rfl lk_X12_233 rfl rfl (Nat.le_of_ble_eq_true rfl) ⟨by decide, by decide⟩ hab dX12_both_76 ?_
          exact g_ret (pc := 79) hC h hR dX12_both_79
        · replace h := it_t c12 h
          refine g_mask [false, false, false, false, false] rfl ?_
          exact hJ42 σ10 h
      refine g_icmp_le (tgt := 34) (pc := 27) hC dX12_both_27 (by decide) (fun c8 => ?_) (fun c8 => ?_)
      · refine g_iconst (pc := 34) hC ki_0 dX12_both_34 ?_
        exact g_top (iv_t c8 ev9) hJ35
      · refine g_iconst (pc := 30) hC ki_1 dX12_both_30 ?_
        refine g_goto (tgt := 35) (pc := 31) hC dX12_both_31 (by decide) ?_
        exact g_top (iv_f c8 ev9) hJ35
set_option maxRecDepth 20000 in
theorem c_X12_single (l : Launch) (E : uE) (σ : uS) (r : Int32) (σr : uS) (h : F_X12_single σ = some (r, σr)) : CtI l E yX12_single cX12_single 3 (some .int) 5 117 [.ref (E.2.1 55)] σ r σr := by
  refine enterI 2 [some (.ref (E.2.1 55)), none, none] (by decide +kernel) rfl (Nat.le_of_ble_eq_true rfl) (fun o K hnL hC hab hR => ?_)
  have hC : Cx E K RX12 cX12_single (some .int) 5 117 := hC
  have hN : ∀ k, k < 3 → k < K.2.2.2.2.2 := fun k hk => hnL ▸ hk
  delta F_X12_single at h
  refine g_aload_n (pc := 0) hC dX12_single_0 rfl ?_
  refine g_iconst (pc := 1) hC ki_0 dX12_single_1 ?_
  obtain ⟨σ1, eσ1, h⟩ := pf_e h
  refine fp_X12_119_55 (pc := 2) hC dX12_single_2 eσ1 ?_
  refine g_aload_n (pc := 5) hC dX12_single_5 rfl ?_
  obtain ⟨σ2, hc, h⟩ := cp_e h
  refine g_callVv (pc := 6) (As := []) (rest := []) hC (c_X12_laysAll l E σ1 σ2 hc) mi_X12_laysAll mv_X12_laysAll ob_55 rfl rfl lk_X12_239 rfl rfl (Nat.le_of_ble_eq_true rfl) ⟨by decide, by decide⟩ hab dX12_single_6 ?_
  refine g_aload_n (pc := 9) hC dX12_single_9 rfl ?_
  obtain ⟨σ3, hc, h⟩ := cp_e h
  refine g_callVv (pc := 10) (As := []) (rest := []) hC (c_X12_opens l E σ2 σ3 hc) mi_X12_opens mv_X12_opens ob_55 rfl rfl lk_X12_242 rfl rfl (Nat.le_of_ble_eq_true rfl) ⟨by decide, by decide⟩ hab dX12_single_10 ?_
  refine g_iconst (pc := 13) hC ki_0 dX12_single_13 ?_
  refine g_istore_n (lv2 := [some (.ref (E.2.1 55)), some (.int 0), none]) (pc := 14) hC dX12_single_14 rfl (Or.inr rfl) (hN _ (by decide)) ?_
  have hL1 : ∀ (n : Nat) (w4 : Int32) (σ5 : uS) (z1 : uS), iter n (fun z => B_X12_single_5 z.1 z.2) (w4, σ5) = some z1 → (∀ (σ6 : uS), z1 = σ6 → Gd l E K 0 0 o σ6 73 [some (.ref (E.2.1 55)), none, none] []) → Gd l E K 0 0 o σ5 15 [some (.ref (E.2.1 55)), some (.int w4), none] [] := by
    intro n
    induction n with
    | zero =>
      intro w4 σ5 z1 hi
      exact (iter_0 hi).elim
    | succ n ih1 =>
      intro w4 σ5 z1 hi1 kx1
      obtain ⟨r1, h, hi1⟩ := iter_s hi1
      replace h : B_X12_single_5 w4 σ5 = some r1 := h
      delta B_X12_single_5 at h
      refine g_iload_n (pc := 15) hC dX12_single_15 rfl ?_
      refine g_aload_n (pc := 16) hC dX12_single_16 rfl ?_
      refine fg_X12_189_55 (pc := 17) hC dX12_single_17 ?_
      refine g_icmp_ge (tgt := 73) (pc := 20) hC dX12_single_20 (by decide) (fun c7 => ?_) (fun c7 => ?_)
      · replace h := it_t c7 h
        refine g_mask [true, false, false] rfl ?_
        exact kx1 σ5 (iter_r h hi1)
      · replace h := it_f c7 h
        refine g_iconst (pc := 23) hC ki_0 dX12_single_23 ?_
        refine g_istore_n (lv2 := [some (.ref (E.2.1 55)), some (.int w4), some (.int 0)]) (pc := 24) hC dX12_single_24 rfl (Or.inr rfl) (hN _ (by decide)) ?_
        have hL2 : ∀ (n : Nat) (w8 : Int32) (σ9 : uS) (z2 : uS), iter n (fun z => B_X12_single_3 w4 z.1 z.2) (w8, σ9) = some z2 → (∀ (σ10 : uS), z2 = σ10 → Gd l E K 0 0 o σ10 67 [some (.ref (E.2.1 55)), some (.int w4), none] []) → Gd l E K 0 0 o σ9 25 [some (.ref (E.2.1 55)), some (.int w4), some (.int w8)] [] := by
          intro n
          induction n with
          | zero =>
            intro w8 σ9 z2 hi
            exact (iter_0 hi).elim
          | succ n ih2 =>
            intro w8 σ9 z2 hi2 kx2
            obtain ⟨r2, h, hi2⟩ := iter_s hi2
            replace h : B_X12_single_3 w4 w8 σ9 = some r2 := h
            delta B_X12_single_3 at h
            refine g_iload_n (pc := 25) hC dX12_single_25 rfl ?_
            refine g_aload_n (pc := 26) hC dX12_single_26 rfl ?_
            refine fg_X12_40_55 (pc := 27) hC dX12_single_27 ?_
            refine g_iload_n (pc := 30) hC dX12_single_30 rfl ?_
            obtain ⟨v11, ev11, nv11, h⟩ := rd_e h
            refine g_iald (pc := 31) hC 66 (by decide) (ar_66 _ _ _) nv11 dX12_single_31 ?_
            refine g_top ev11 ?_
            refine g_icmp_ge (tgt := 67) (pc := 32) hC dX12_single_32 (by decide) (fun c12 => ?_) (fun c12 => ?_)
            · replace h := it_t c12 h
              refine g_mask [true, true, false] rfl ?_
              exact kx2 σ9 (iter_r h hi2)
            · replace h := it_f c12 h
              refine g_aload_n (pc := 35) hC dX12_single_35 rfl ?_
              refine fg_X12_53_55 (pc := 36) hC dX12_single_36 ?_
              refine g_bipush (pc := 39) hC kb_6 dX12_single_39 ?_
              refine g_iload_n (pc := 41) hC dX12_single_41 rfl ?_
              refine g_imul (pc := 42) hC dX12_single_42 ?_
              refine g_iload_n (pc := 43) hC dX12_single_43 rfl ?_
              refine g_iadd (pc := 44) hC dX12_single_44 ?_
              refine g_aload_n (pc := 45) hC dX12_single_45 rfl ?_
              refine g_iload_n (pc := 46) hC dX12_single_46 rfl ?_
              refine g_iload_n (pc := 47) hC dX12_single_47 rfl ?_
              obtain ⟨v13, hc, h⟩ := cp_e h
              refine g_callVi (pc := 48) (As := [.int w4, .int w8]) (rest := [.int ((6 * w4) + w8), .ref (E.2.1 70)]) hC (c_X12_doubleOf l E w4 w8 σ9 v13 hc) mi_X12_doubleOf mv_X12_doubleOf ob_55 rfl rfl lk_X12_204 rfl rfl (Nat.le_of_ble_eq_true rfl) ⟨by decide, by decide⟩ hab dX12_single_48 ?_
              refine g_iconst (pc := 51) hC ki_m1 dX12_single_51 ?_
              obtain ⟨v15, ev15, h⟩ := lt_e h
              have hJ60 : Gd l E K 0 0 o σ9 60 [some (.ref (E.2.1 55)), some (.int w4), some (.int w8)] [.int v15, .int ((6 * w4) + w8), .ref (E.2.1 70)] := by
                obtain ⟨σ16, eσ16, nσ16, h⟩ := wr_e h
                refine g_zast (pc := 60) hC 70 (by decide) (ar_70 _ _) nσ16 dX12_single_60 eσ16 ?_
                obtain ⟨v17, ev17, h⟩ := lt_e h
                refine g_iinc (v := v17) (lv2 := [some (.ref (E.2.1 55)), some (.int w4), some (.int v17)]) (pc := 61) hC dX12_single_61 rfl ev17 rfl (Or.inr rfl) (hN _ (by decide)) ?_
                refine g_goto (tgt := 25) (pc := 64) hC dX12_single_64 (by decide) ?_
                exact ih2 v17 σ16 z2 (iter_l h hi2) kx2
              refine g_icmp_eq (tgt := 59) (pc := 52) hC dX12_single_52 (by decide) (fun c14 => ?_) (fun c14 => ?_)
              · refine g_iconst (pc := 59) hC ki_0 dX12_single_59 ?_
                exact g_top (iv_t c14 ev15) hJ60
              · refine g_iconst (pc := 55) hC ki_1 dX12_single_55 ?_
                refine g_goto (tgt := 60) (pc := 56) hC dX12_single_56 (by decide) ?_
                exact g_top (iv_f c14 ev15) hJ60
        obtain ⟨z2, hz2, h⟩ := lp_e h
        refine hL2 FU 0 σ5 z2 hz2 (fun σ10 ez => ?_)
        replace h : C_X12_single_4 w4 σ10 = some r1 := by rw [ez] at h; exact h
        delta C_X12_single_4 at h
        obtain ⟨v18, ev18, h⟩ := lt_e h
        refine g_iinc (v := v18) (lv2 := [some (.ref (E.2.1 55)), some (.int v18), none]) (pc := 67) hC dX12_single_67 rfl ev18 rfl (Or.inr rfl) (hN _ (by decide)) ?_
        refine g_goto (tgt := 15) (pc := 70) hC dX12_single_70 (by decide) ?_
        exact ih1 v18 σ10 z1 (iter_l h hi1) kx1
  obtain ⟨z1, hz1, h⟩ := lp_e h
  refine hL1 FU 0 σ3 z1 hz1 (fun σ6 ez => ?_)
  replace h : C_X12_single_6 σ6 = some (r, σr) := by rw [ez] at h; exact h
  delta C_X12_single_6 at h
  refine g_aload_n (pc := 73) hC dX12_single_73 rfl ?_
  refine g_aload_n (pc := 74) hC dX12_single_74 rfl ?_
  refine fg_X12_189_55 (pc := 75) hC dX12_single_75 ?_
  refine g_iconst (pc := 78) hC ki_1 dX12_single_78 ?_
  refine g_isub (pc := 79) hC dX12_single_79 ?_
  obtain ⟨σ19, hc, h⟩ := cp_e h
  refine g_callVv (pc := 80) (As := [.int ((σ6 55 17) - 1)]) (rest := []) hC (c_X12_laysCosts l E ((σ6 55 17) - 1) σ6 σ19 hc) mi_X12_laysCosts mv_X12_laysCosts ob_55 rfl rfl lk_X12_245 rfl rfl (Nat.le_of_ble_eq_true rfl) ⟨by decide, by decide⟩ hab dX12_single_80 ?_
  refine g_aload_n (pc := 83) hC dX12_single_83 rfl ?_
  obtain ⟨v20, hc, h⟩ := cp_e h
  refine g_callVi (pc := 84) (As := []) (rest := []) hC (c_X12_leastOfAll l E σ19 v20 hc) mi_X12_leastOfAll mv_X12_leastOfAll ob_55 rfl rfl lk_X12_233 rfl rfl (Nat.le_of_ble_eq_true rfl) ⟨by decide, by decide⟩ hab dX12_single_84 ?_
  exact g_ret (pc := 87) hC h hR dX12_single_87
set_option maxRecDepth 20000 in
theorem c_X12_livesBy (l : Launch) (E : uE) (a1 : Int32) (a2 : Int32) (σ : uS) (r : Int32) (σr : uS) (h : F_X12_livesBy a1 a2 σ = some (r, σr)) : CtI l E yX12_livesBy cX12_livesBy 3 (some .int) 5 117 [.ref (E.2.1 55), .int a1, .int a2] σ r σr := by
  refine enterI 0 [some (.ref (E.2.1 55)), some (.int a1), some (.int a2)] (by decide +kernel) rfl (Nat.le_of_ble_eq_true rfl) (fun o K hnL hC hab hR => ?_)
  have hC : Cx E K RX12 cX12_livesBy (some .int) 5 117 := hC
  have hN : ∀ k, k < 3 → k < K.2.2.2.2.2 := fun k hk => hnL ▸ hk
  delta F_X12_livesBy at h
  refine g_aload_n (pc := 0) hC dX12_livesBy_0 rfl ?_
  refine g_iload_n (pc := 1) hC dX12_livesBy_1 rfl ?_
  refine g_iload_n (pc := 2) hC dX12_livesBy_2 rfl ?_
  refine g_iadd (pc := 3) hC dX12_livesBy_3 ?_
  refine g_aload_n (pc := 4) hC dX12_livesBy_4 rfl ?_
  refine fg_X12_189_55 (pc := 5) hC dX12_livesBy_5 ?_
  obtain ⟨v2, ev2, h⟩ := lt_e h
  have hJ23 : Gd l E K 0 0 o σ 23 [some (.ref (E.2.1 55)), some (.int a1), none] [.int v2, .ref (E.2.1 55)] := by
    obtain ⟨σ3, hc, h⟩ := cp_e h
    refine g_callVv (pc := 23) (As := [.int v2]) (rest := []) hC (c_X12_laysCosts l E v2 σ σ3 hc) mi_X12_laysCosts mv_X12_laysCosts ob_55 rfl rfl lk_X12_245 rfl rfl (Nat.le_of_ble_eq_true rfl) ⟨by decide, by decide⟩ hab dX12_livesBy_23 ?_
    refine g_aload_n (pc := 26) hC dX12_livesBy_26 rfl ?_
    obtain ⟨σ4, hc, h⟩ := cp_e h
    refine g_callVv (pc := 27) (As := []) (rest := []) hC (c_X12_goesAlong l E σ3 σ4 hc) mi_X12_goesAlong mv_X12_goesAlong ob_55 rfl rfl lk_X12_248 rfl rfl (Nat.le_of_ble_eq_true rfl) ⟨by decide, by decide⟩ hab dX12_livesBy_27 ?_
    refine g_aload_n (pc := 30) hC dX12_livesBy_30 rfl ?_
    refine fg_X12_50_55 (pc := 31) hC dX12_livesBy_31 ?_
    refine g_iload_n (pc := 34) hC dX12_livesBy_34 rfl ?_
    obtain ⟨v5, ev5, nv5, h⟩ := rd_e h
    refine g_iald (pc := 35) hC 69 (by decide) (ar_69 _ _ _) nv5 dX12_livesBy_35 ?_
    refine g_top ev5 ?_
    exact g_ret (pc := 36) hC h hR dX12_livesBy_36
  refine g_icmp_ge (tgt := 17) (pc := 8) hC dX12_livesBy_8 (by decide) (fun c1 => ?_) (fun c1 => ?_)
  · refine g_aload_n (pc := 17) hC dX12_livesBy_17 rfl ?_
    refine fg_X12_189_55 (pc := 18) hC dX12_livesBy_18 ?_
    refine g_iconst (pc := 21) hC ki_1 dX12_livesBy_21 ?_
    refine g_isub (pc := 22) hC dX12_livesBy_22 ?_
    refine g_mask [true, true, false] rfl ?_
    exact g_top (iv_t c1 ev2) hJ23
  · refine g_iload_n (pc := 11) hC dX12_livesBy_11 rfl ?_
    refine g_iload_n (pc := 12) hC dX12_livesBy_12 rfl ?_
    refine g_iadd (pc := 13) hC dX12_livesBy_13 ?_
    refine g_goto (tgt := 23) (pc := 14) hC dX12_livesBy_14 (by decide) ?_
    refine g_mask [true, true, false] rfl ?_
    exact g_top (iv_f c1 ev2) hJ23
set_option maxRecDepth 20000 in
theorem c_X12_live (l : Launch) (E : uE) (a1 : Int32) (a2 : Int32) (σ : uS) (r : Int32) (σr : uS) (h : F_X12_live a1 a2 σ = some (r, σr)) : CtI l E yX12_live cX12_live 3 (some .int) 6 139 [.ref (E.2.1 55), .int a1, .int a2] σ r σr := by
  refine enterI 0 [some (.ref (E.2.1 55)), some (.int a1), some (.int a2)] (by decide +kernel) rfl (Nat.le_of_ble_eq_true rfl) (fun o K hnL hC hab hR => ?_)
  have hC : Cx E K RX12 cX12_live (some .int) 6 139 := hC
  have hN : ∀ k, k < 3 → k < K.2.2.2.2.2 := fun k hk => hnL ▸ hk
  delta F_X12_live at h
  refine g_aload_n (pc := 0) hC dX12_live_0 rfl ?_
  refine g_iconst (pc := 1) hC ki_0 dX12_live_1 ?_
  obtain ⟨σ1, eσ1, h⟩ := pf_e h
  refine fp_X12_119_55 (pc := 2) hC dX12_live_2 eσ1 ?_
  refine g_aload_n (pc := 5) hC dX12_live_5 rfl ?_
  refine g_iload_n (pc := 6) hC dX12_live_6 rfl ?_
  obtain ⟨v3, σ2, hc, h⟩ := cl_e h
  refine g_callVi (pc := 7) (As := [.int a1]) (rest := []) hC (c_X12_isFrame l E a1 σ1 v3 σ2 hc) mi_X12_isFrame mv_X12_isFrame ob_55 rfl rfl lk_X12_167 rfl rfl (Nat.le_of_ble_eq_true rfl) ⟨by decide, by decide⟩ hab dX12_live_7 ?_
  have hJ28 : ∀ (σ13 : uS), J_X12_live_1 σ13 = some (r, σr) → Gd l E K 0 0 o σ13 28 [none, none, none] [] := by
    intro σ13 h
    delta J_X12_live_1 at h
    refine g_iconst (pc := 28) hC ki_0 dX12_live_28 ?_
    exact g_ret (pc := 29) hC h hR dX12_live_29
  refine g_if_eq (tgt := 28) (pc := 10) hC dX12_live_10 (by decide) (fun c4 => ?_) (fun c4 => ?_)
  · replace h := it_t c4 h
    refine g_mask [false, false, false] rfl ?_
    exact hJ28 σ2 h
  · replace h := it_f c4 h
    refine g_aload_n (pc := 13) hC dX12_live_13 rfl ?_
    refine g_iload_n (pc := 14) hC dX12_live_14 rfl ?_
    refine g_iconst (pc := 15) hC ki_0 dX12_live_15 ?_
    refine g_bipush (pc := 16) hC kb_20 dX12_live_16 ?_
    obtain ⟨v5, hc, h⟩ := cp_e h
    refine g_callSi (pc := 18) (As := [.int a2, .int 0, .int 20]) (rest := [.ref (E.2.1 55)]) hC (c_X12_isIn l E a2 0 20 σ2 v5 hc) mi_X12_isIn ms_X12_isIn lk_X12_133 rfl rfl (Nat.le_of_ble_eq_true rfl) ⟨by decide, by decide⟩ hab dX12_live_18 ?_
    refine g_iconst (pc := 21) hC ki_2 dX12_live_21 ?_
    obtain ⟨v7, σ6, hc, h⟩ := cl_e h
    refine g_callVi (pc := 22) (As := [.int v5, .int 2]) (rest := []) hC (c_X12_right l E v5 2 σ2 v7 σ6 hc) mi_X12_right mv_X12_right ob_55 rfl rfl lk_X12_148 rfl rfl (Nat.le_of_ble_eq_true rfl) ⟨by decide, by decide⟩ hab dX12_live_22 ?_
    refine g_if_ne (tgt := 30) (pc := 25) hC dX12_live_25 (by decide) (fun c8 => ?_) (fun c8 => ?_)
    · replace h := it_f c8 h
      refine g_aload_n (pc := 30) hC dX12_live_30 rfl ?_
      obtain ⟨σ9, hc, h⟩ := cp_e h
      refine g_callVv (pc := 31) (As := []) (rest := []) hC (c_X12_laysAll l E σ6 σ9 hc) mi_X12_laysAll mv_X12_laysAll ob_55 rfl rfl lk_X12_239 rfl rfl (Nat.le_of_ble_eq_true rfl) ⟨by decide, by decide⟩ hab dX12_live_31 ?_
      refine g_aload_n (pc := 34) hC dX12_live_34 rfl ?_
      obtain ⟨σ10, hc, h⟩ := cp_e h
      refine g_callVv (pc := 35) (As := []) (rest := []) hC (c_X12_opens l E σ9 σ10 hc) mi_X12_opens mv_X12_opens ob_55 rfl rfl lk_X12_242 rfl rfl (Nat.le_of_ble_eq_true rfl) ⟨by decide, by decide⟩ hab dX12_live_35 ?_
      refine g_aload_n (pc := 38) hC dX12_live_38 rfl ?_
      refine g_iload_n (pc := 39) hC dX12_live_39 rfl ?_
      refine g_iload_n (pc := 40) hC dX12_live_40 rfl ?_
      obtain ⟨v12, σ11, hc, h⟩ := cl_e h
      refine g_callVi (pc := 41) (As := [.int a1, .int a2]) (rest := []) hC (c_X12_livesBy l E a1 a2 σ10 v12 σ11 hc) mi_X12_livesBy mv_X12_livesBy ob_55 rfl rfl lk_X12_264 rfl rfl (Nat.le_of_ble_eq_true rfl) ⟨by decide, by decide⟩ hab dX12_live_41 ?_
      exact g_ret (pc := 44) hC h hR dX12_live_44
    · replace h := it_t c8 h
      refine g_mask [false, false, false] rfl ?_
      exact hJ28 σ6 h
set_option maxRecDepth 20000 in
theorem c_X12_settles (l : Launch) (E : uE) (a1 : Int32) (σ : uS) (r : Int32) (σr : uS) (h : F_X12_settles a1 σ = some (r, σr)) : CtI l E yX12_settles cX12_settles 4 (some .int) 6 139 [.ref (E.2.1 55), .int a1] σ r σr := by
  refine enterI 2 [some (.ref (E.2.1 55)), some (.int a1), none, none] (by decide +kernel) rfl (Nat.le_of_ble_eq_true rfl) (fun o K hnL hC hab hR => ?_)
  have hC : Cx E K RX12 cX12_settles (some .int) 6 139 := hC
  have hN : ∀ k, k < 4 → k < K.2.2.2.2.2 := fun k hk => hnL ▸ hk
  delta F_X12_settles at h
  refine g_aload_n (pc := 0) hC dX12_settles_0 rfl ?_
  refine g_iconst (pc := 1) hC ki_0 dX12_settles_1 ?_
  obtain ⟨σ1, eσ1, h⟩ := pf_e h
  refine fp_X12_119_55 (pc := 2) hC dX12_settles_2 eσ1 ?_
  refine g_aload_n (pc := 5) hC dX12_settles_5 rfl ?_
  refine g_iload_n (pc := 6) hC dX12_settles_6 rfl ?_
  obtain ⟨v3, σ2, hc, h⟩ := cl_e h
  refine g_callVi (pc := 7) (As := [.int a1]) (rest := []) hC (c_X12_isFrame l E a1 σ1 v3 σ2 hc) mi_X12_isFrame mv_X12_isFrame ob_55 rfl rfl lk_X12_167 rfl rfl (Nat.le_of_ble_eq_true rfl) ⟨by decide, by decide⟩ hab dX12_settles_7 ?_
  refine g_if_ne (tgt := 15) (pc := 10) hC dX12_settles_10 (by decide) (fun c4 => ?_) (fun c4 => ?_)
  · replace h := it_f c4 h
    refine g_aload_n (pc := 15) hC dX12_settles_15 rfl ?_
    obtain ⟨σ5, hc, h⟩ := cp_e h
    refine g_callVv (pc := 16) (As := []) (rest := []) hC (c_X12_laysAll l E σ2 σ5 hc) mi_X12_laysAll mv_X12_laysAll ob_55 rfl rfl lk_X12_239 rfl rfl (Nat.le_of_ble_eq_true rfl) ⟨by decide, by decide⟩ hab dX12_settles_16 ?_
    refine g_aload_n (pc := 19) hC dX12_settles_19 rfl ?_
    obtain ⟨σ6, hc, h⟩ := cp_e h
    refine g_callVv (pc := 20) (As := []) (rest := []) hC (c_X12_opens l E σ5 σ6 hc) mi_X12_opens mv_X12_opens ob_55 rfl rfl lk_X12_242 rfl rfl (Nat.le_of_ble_eq_true rfl) ⟨by decide, by decide⟩ hab dX12_settles_20 ?_
    refine g_bipush (pc := 23) hC kb_20 dX12_settles_23 ?_
    refine g_istore_n (lv2 := [some (.ref (E.2.1 55)), some (.int a1), some (.int 20), none]) (pc := 25) hC dX12_settles_25 rfl (Or.inr rfl) (hN _ (by decide)) ?_
    refine g_aload_n (pc := 26) hC dX12_settles_26 rfl ?_
    refine g_iload_n (pc := 27) hC dX12_settles_27 rfl ?_
    refine g_bipush (pc := 28) hC kb_20 dX12_settles_28 ?_
    obtain ⟨v8, σ7, hc, h⟩ := cl_e h
    refine g_callVi (pc := 30) (As := [.int a1, .int 20]) (rest := []) hC (c_X12_livesBy l E a1 20 σ6 v8 σ7 hc) mi_X12_livesBy mv_X12_livesBy ob_55 rfl rfl lk_X12_264 rfl rfl (Nat.le_of_ble_eq_true rfl) ⟨by decide, by decide⟩ hab dX12_settles_30 ?_
    refine g_istore_n (lv2 := [some (.ref (E.2.1 55)), some (.int a1), some (.int 20), some (.int v8)]) (pc := 33) hC dX12_settles_33 rfl (Or.inr rfl) (hN _ (by decide)) ?_
    have hL1 : ∀ (n : Nat) (w9 : Int32) (σ10 : uS) (z1 : Int32 × uS), iter n (fun z => B_X12_settles_2 a1 v8 z.1 z.2) (w9, σ10) = some z1 → (∀ (v11 : Int32) (σ12 : uS), z1 = (v11, σ12) → Gd l E K 0 0 o σ12 56 [none, none, some (.int v11), none] []) → Gd l E K 0 0 o σ10 34 [some (.ref (E.2.1 55)), some (.int a1), some (.int w9), some (.int v8)] [] := by
      intro n
      induction n with
      | zero =>
        intro w9 σ10 z1 hi
        exact (iter_0 hi).elim
      | succ n ih1 =>
        intro w9 σ10 z1 hi1 kx1
        obtain ⟨r1, h, hi1⟩ := iter_s hi1
        replace h : B_X12_settles_2 a1 v8 w9 σ10 = some r1 := h
        delta B_X12_settles_2 at h
        refine g_iload_n (pc := 34) hC dX12_settles_34 rfl ?_
        refine g_if_le (tgt := 56) (pc := 35) hC dX12_settles_35 (by decide) (fun c13 => ?_) (fun c13 => ?_)
        · replace h := it_t c13 h
          refine g_mask [false, false, true, false] rfl ?_
          exact kx1 w9 σ10 (iter_r h hi1)
        · replace h := it_f c13 h
          refine g_aload_n (pc := 38) hC dX12_settles_38 rfl ?_
          refine g_iload_n (pc := 39) hC dX12_settles_39 rfl ?_
          refine g_iload_n (pc := 40) hC dX12_settles_40 rfl ?_
          refine g_iconst (pc := 41) hC ki_1 dX12_settles_41 ?_
          refine g_isub (pc := 42) hC dX12_settles_42 ?_
          obtain ⟨v15, σ14, hc, h⟩ := cl_e h
          refine g_callVi (pc := 43) (As := [.int a1, .int (w9 - 1)]) (rest := []) hC (c_X12_livesBy l E a1 (w9 - 1) σ10 v15 σ14 hc) mi_X12_livesBy mv_X12_livesBy ob_55 rfl rfl lk_X12_264 rfl rfl (Nat.le_of_ble_eq_true rfl) ⟨by decide, by decide⟩ hab dX12_settles_43 ?_
          refine g_iload_n (pc := 46) hC dX12_settles_46 rfl ?_
          refine g_icmp_ne (tgt := 56) (pc := 47) hC dX12_settles_47 (by decide) (fun c16 => ?_) (fun c16 => ?_)
          · replace h := it_f c16 h
            refine g_mask [false, false, true, false] rfl ?_
            exact kx1 w9 σ14 (iter_r h hi1)
          · replace h := it_t c16 h
            obtain ⟨v17, ev17, h⟩ := lt_e h
            refine g_iinc (v := v17) (lv2 := [some (.ref (E.2.1 55)), some (.int a1), some (.int v17), some (.int v8)]) (pc := 50) hC dX12_settles_50 rfl ev17 rfl (Or.inr rfl) (hN _ (by decide)) ?_
            refine g_goto (tgt := 34) (pc := 53) hC dX12_settles_53 (by decide) ?_
            exact ih1 v17 σ14 z1 (iter_l h hi1) kx1
    obtain ⟨z1, hz1, h⟩ := lp_e h
    refine hL1 FU 20 σ7 z1 hz1 (fun v11 σ12 ez => ?_)
    replace h : C_X12_settles_3 v11 σ12 = some (r, σr) := by rw [ez] at h; exact h
    delta C_X12_settles_3 at h
    refine g_iload_n (pc := 56) hC dX12_settles_56 rfl ?_
    exact g_ret (pc := 57) hC h hR dX12_settles_57
  · replace h := it_t c4 h
    refine g_iconst (pc := 13) hC ki_0 dX12_settles_13 ?_
    exact g_ret (pc := 14) hC h hR dX12_settles_14
set_option maxRecDepth 20000 in
theorem c_X12_would (l : Launch) (E : uE) (a1 : Int32) (a2 : Int32) (σ : uS) (r : Int32) (σr : uS) (h : F_X12_would a1 a2 σ = some (r, σr)) : CtI l E yX12_would cX12_would 3 (some .int) 5 117 [.ref (E.2.1 55), .int a1, .int a2] σ r σr := by
  refine enterI 0 [some (.ref (E.2.1 55)), some (.int a1), some (.int a2)] (by decide +kernel) rfl (Nat.le_of_ble_eq_true rfl) (fun o K hnL hC hab hR => ?_)
  have hC : Cx E K RX12 cX12_would (some .int) 5 117 := hC
  have hN : ∀ k, k < 3 → k < K.2.2.2.2.2 := fun k hk => hnL ▸ hk
  delta F_X12_would at h
  refine g_aload_n (pc := 0) hC dX12_would_0 rfl ?_
  refine g_iconst (pc := 1) hC ki_0 dX12_would_1 ?_
  obtain ⟨σ1, eσ1, h⟩ := pf_e h
  refine fp_X12_119_55 (pc := 2) hC dX12_would_2 eσ1 ?_
  refine g_aload_n (pc := 5) hC dX12_would_5 rfl ?_
  refine g_iload_n (pc := 6) hC dX12_would_6 rfl ?_
  refine g_iconst (pc := 7) hC ki_0 dX12_would_7 ?_
  refine g_sipush (pc := 8) hC ks_2000 dX12_would_8 ?_
  obtain ⟨v2, hc, h⟩ := cp_e h
  refine g_callSi (pc := 11) (As := [.int a1, .int 0, .int 2000]) (rest := [.ref (E.2.1 55)]) hC (c_X12_isIn l E a1 0 2000 σ1 v2 hc) mi_X12_isIn ms_X12_isIn lk_X12_133 rfl rfl (Nat.le_of_ble_eq_true rfl) ⟨by decide, by decide⟩ hab dX12_would_11 ?_
  have hJ33 : ∀ (v6 : Int32), J_X12_would_2 a1 a2 σ1 v6 = some (r, σr) → Gd l E K 0 0 o σ1 33 [some (.ref (E.2.1 55)), some (.int a1), some (.int a2)] [.int v6, .ref (E.2.1 55)] := by
    intro v6 h
    delta J_X12_would_2 at h
    refine g_iconst (pc := 33) hC ki_1 dX12_would_33 ?_
    obtain ⟨v8, σ7, hc, h⟩ := cl_e h
    refine g_callVi (pc := 34) (As := [.int v6, .int 1]) (rest := []) hC (c_X12_right l E v6 1 σ1 v8 σ7 hc) mi_X12_right mv_X12_right ob_55 rfl rfl lk_X12_148 rfl rfl (Nat.le_of_ble_eq_true rfl) ⟨by decide, by decide⟩ hab dX12_would_34 ?_
    refine g_if_ne (tgt := 42) (pc := 37) hC dX12_would_37 (by decide) (fun c9 => ?_) (fun c9 => ?_)
    · replace h := it_f c9 h
      refine g_aload_n (pc := 42) hC dX12_would_42 rfl ?_
      obtain ⟨σ10, hc, h⟩ := cp_e h
      refine g_callVv (pc := 43) (As := []) (rest := []) hC (c_X12_laysAll l E σ7 σ10 hc) mi_X12_laysAll mv_X12_laysAll ob_55 rfl rfl lk_X12_239 rfl rfl (Nat.le_of_ble_eq_true rfl) ⟨by decide, by decide⟩ hab dX12_would_43 ?_
      refine g_aload_n (pc := 46) hC dX12_would_46 rfl ?_
      obtain ⟨σ11, hc, h⟩ := cp_e h
      refine g_callVv (pc := 47) (As := []) (rest := []) hC (c_X12_opens l E σ10 σ11 hc) mi_X12_opens mv_X12_opens ob_55 rfl rfl lk_X12_242 rfl rfl (Nat.le_of_ble_eq_true rfl) ⟨by decide, by decide⟩ hab dX12_would_47 ?_
      refine g_aload_n (pc := 50) hC dX12_would_50 rfl ?_
      refine g_iload_n (pc := 51) hC dX12_would_51 rfl ?_
      obtain ⟨σ12, eσ12, h⟩ := pf_e h
      refine fp_X12_216_55 (pc := 52) hC dX12_would_52 eσ12 ?_
      refine g_aload_n (pc := 55) hC dX12_would_55 rfl ?_
      refine g_iload_n (pc := 56) hC dX12_would_56 rfl ?_
      obtain ⟨σ13, eσ13, h⟩ := pf_e h
      refine fp_X12_210_55 (pc := 57) hC dX12_would_57 eσ13 ?_
      refine g_aload_n (pc := 60) hC dX12_would_60 rfl ?_
      refine g_aload_n (pc := 61) hC dX12_would_61 rfl ?_
      refine fg_X12_189_55 (pc := 62) hC dX12_would_62 ?_
      refine g_iconst (pc := 65) hC ki_1 dX12_would_65 ?_
      refine g_isub (pc := 66) hC dX12_would_66 ?_
      obtain ⟨σ14, hc, h⟩ := cp_e h
      refine g_callVv (pc := 67) (As := [.int ((σ13 55 17) - 1)]) (rest := []) hC (c_X12_laysCosts l E ((σ13 55 17) - 1) σ13 σ14 hc) mi_X12_laysCosts mv_X12_laysCosts ob_55 rfl rfl lk_X12_245 rfl rfl (Nat.le_of_ble_eq_true rfl) ⟨by decide, by decide⟩ hab dX12_would_67 ?_
      refine g_aload_n (pc := 70) hC dX12_would_70 rfl ?_
      obtain ⟨v15, hc, h⟩ := cp_e h
      refine g_callVi (pc := 71) (As := []) (rest := []) hC (c_X12_leastOfAll l E σ14 v15 hc) mi_X12_leastOfAll mv_X12_leastOfAll ob_55 rfl rfl lk_X12_233 rfl rfl (Nat.le_of_ble_eq_true rfl) ⟨by decide, by decide⟩ hab dX12_would_71 ?_
      exact g_ret (pc := 74) hC h hR dX12_would_74
    · replace h := it_t c9 h
      refine g_iconst (pc := 40) hC ki_0 dX12_would_40 ?_
      exact g_ret (pc := 41) hC h hR dX12_would_41
  have hJ32 : J_X12_would_1 a1 a2 σ1 = some (r, σr) → Gd l E K 0 0 o σ1 32 [some (.ref (E.2.1 55)), some (.int a1), some (.int a2)] [.ref (E.2.1 55)] := by
    intro h
    delta J_X12_would_1 at h
    refine g_iconst (pc := 32) hC ki_0 dX12_would_32 ?_
    exact hJ33 0 h
  refine g_if_eq (tgt := 32) (pc := 14) hC dX12_would_14 (by decide) (fun c3 => ?_) (fun c3 => ?_)
  · replace h := it_t c3 h
    exact hJ32 h
  · replace h := it_f c3 h
    refine g_iload_n (pc := 17) hC dX12_would_17 rfl ?_
    refine g_iconst (pc := 18) hC ki_0 dX12_would_18 ?_
    refine g_sipush (pc := 19) hC ks_2000 dX12_would_19 ?_
    obtain ⟨v4, hc, h⟩ := cp_e h
    refine g_callSi (pc := 22) (As := [.int a2, .int 0, .int 2000]) (rest := [.ref (E.2.1 55)]) hC (c_X12_isIn l E a2 0 2000 σ1 v4 hc) mi_X12_isIn ms_X12_isIn lk_X12_133 rfl rfl (Nat.le_of_ble_eq_true rfl) ⟨by decide, by decide⟩ hab dX12_would_22 ?_
    refine g_if_eq (tgt := 32) (pc := 25) hC dX12_would_25 (by decide) (fun c5 => ?_) (fun c5 => ?_)
    · replace h := it_t c5 h
      exact hJ32 h
    · replace h := it_f c5 h
      refine g_iconst (pc := 28) hC ki_1 dX12_would_28 ?_
      refine g_goto (tgt := 33) (pc := 29) hC dX12_would_29 (by decide) ?_
      exact hJ33 1 h
set_option maxRecDepth 20000 in
theorem c_X12_doubled (l : Launch) (E : uE) (σ : uS) (r : Int32) (σr : uS) (h : F_X12_doubled σ = some (r, σr)) : CtI l E yX12_doubled cX12_doubled 3 (some .int) 6 137 [.ref (E.2.1 55)] σ r σr := by
  refine enterI 2 [some (.ref (E.2.1 55)), none, none] (by decide +kernel) rfl (Nat.le_of_ble_eq_true rfl) (fun o K hnL hC hab hR => ?_)
  have hC : Cx E K RX12 cX12_doubled (some .int) 6 137 := hC
  have hN : ∀ k, k < 3 → k < K.2.2.2.2.2 := fun k hk => hnL ▸ hk
  delta F_X12_doubled at h
  refine g_aload_n (pc := 0) hC dX12_doubled_0 rfl ?_
  refine g_iconst (pc := 1) hC ki_0 dX12_doubled_1 ?_
  obtain ⟨σ1, eσ1, h⟩ := pf_e h
  refine fp_X12_119_55 (pc := 2) hC dX12_doubled_2 eσ1 ?_
  refine g_aload_n (pc := 5) hC dX12_doubled_5 rfl ?_
  obtain ⟨σ2, hc, h⟩ := cp_e h
  refine g_callVv (pc := 6) (As := []) (rest := []) hC (c_X12_laysPath l E σ1 σ2 hc) mi_X12_laysPath mv_X12_laysPath ob_55 rfl rfl lk_X12_254 rfl rfl (Nat.le_of_ble_eq_true rfl) ⟨by decide, by decide⟩ hab dX12_doubled_6 ?_
  refine g_iconst (pc := 9) hC ki_0 dX12_doubled_9 ?_
  refine g_istore_n (lv2 := [some (.ref (E.2.1 55)), some (.int 0), none]) (pc := 10) hC dX12_doubled_10 rfl (Or.inr rfl) (hN _ (by decide)) ?_
  refine g_iconst (pc := 11) hC ki_0 dX12_doubled_11 ?_
  refine g_istore_n (lv2 := [some (.ref (E.2.1 55)), some (.int 0), some (.int 0)]) (pc := 12) hC dX12_doubled_12 rfl (Or.inr rfl) (hN _ (by decide)) ?_
  have hL1 : ∀ (n : Nat) (w3 : Int32) (w4 : Int32) (z1 : Int32), iter n (fun z => B_X12_doubled_2 σ2 z.1 z.2) (w3, w4) = some z1 → (∀ (v5 : Int32), z1 = v5 → Gd l E K 0 0 o σ2 50 [none, some (.int v5), none] []) → Gd l E K 0 0 o σ2 13 [some (.ref (E.2.1 55)), some (.int w3), some (.int w4)] [] := by
    intro n
    induction n with
    | zero =>
      intro w3 w4 z1 hi
      exact (iter_0 hi).elim
    | succ n ih1 =>
      intro w3 w4 z1 hi1 kx1
      obtain ⟨r1, h, hi1⟩ := iter_s hi1
      replace h : B_X12_doubled_2 σ2 w3 w4 = some r1 := h
      delta B_X12_doubled_2 at h
      refine g_iload_n (pc := 13) hC dX12_doubled_13 rfl ?_
      refine g_aload_n (pc := 14) hC dX12_doubled_14 rfl ?_
      refine fg_X12_189_55 (pc := 15) hC dX12_doubled_15 ?_
      refine g_icmp_ge (tgt := 50) (pc := 18) hC dX12_doubled_18 (by decide) (fun c6 => ?_) (fun c6 => ?_)
      · replace h := it_t c6 h
        refine g_mask [false, true, false] rfl ?_
        exact kx1 w3 (iter_r h hi1)
      · replace h := it_f c6 h
        refine g_iload_n (pc := 21) hC dX12_doubled_21 rfl ?_
        refine g_aload_n (pc := 22) hC dX12_doubled_22 rfl ?_
        refine g_iload_n (pc := 23) hC dX12_doubled_23 rfl ?_
        refine g_aload_n (pc := 24) hC dX12_doubled_24 rfl ?_
        refine fg_X12_50_55 (pc := 25) hC dX12_doubled_25 ?_
        refine g_iload_n (pc := 28) hC dX12_doubled_28 rfl ?_
        obtain ⟨v7, ev7, nv7, h⟩ := rd_e h
        refine g_iald (pc := 29) hC 69 (by decide) (ar_69 _ _ _) nv7 dX12_doubled_29 ?_
        refine g_top ev7 ?_
        obtain ⟨v8, hc, h⟩ := cp_e h
        refine g_callVi (pc := 30) (As := [.int w4, .int v7]) (rest := [.int w3]) hC (c_X12_doubleOf l E w4 v7 σ2 v8 hc) mi_X12_doubleOf mv_X12_doubleOf ob_55 rfl rfl lk_X12_204 rfl rfl (Nat.le_of_ble_eq_true rfl) ⟨by decide, by decide⟩ hab dX12_doubled_30 ?_
        refine g_iconst (pc := 33) hC ki_m1 dX12_doubled_33 ?_
        obtain ⟨v10, ev10, h⟩ := lt_e h
        have hJ42 : Gd l E K 0 0 o σ2 42 [some (.ref (E.2.1 55)), none, some (.int w4)] [.int v10, .int w3] := by
          refine g_iadd (pc := 42) hC dX12_doubled_42 ?_
          obtain ⟨v11, ev11, h⟩ := lt_e h
          refine g_top ev11 ?_
          refine g_istore_n (lv2 := [some (.ref (E.2.1 55)), some (.int v11), some (.int w4)]) (pc := 43) hC dX12_doubled_43 rfl (Or.inr rfl) (hN _ (by decide)) ?_
          obtain ⟨v12, ev12, h⟩ := lt_e h
          refine g_iinc (v := v12) (lv2 := [some (.ref (E.2.1 55)), some (.int v11), some (.int v12)]) (pc := 44) hC dX12_doubled_44 rfl ev12 rfl (Or.inr rfl) (hN _ (by decide)) ?_
          refine g_goto (tgt := 13) (pc := 47) hC dX12_doubled_47 (by decide) ?_
          exact ih1 v11 v12 z1 (iter_l h hi1) kx1
        refine g_icmp_eq (tgt := 41) (pc := 34) hC dX12_doubled_34 (by decide) (fun c9 => ?_) (fun c9 => ?_)
        · refine g_iconst (pc := 41) hC ki_0 dX12_doubled_41 ?_
          refine g_mask [true, false, true] rfl ?_
          exact g_top (iv_t c9 ev10) hJ42
        · refine g_iconst (pc := 37) hC ki_1 dX12_doubled_37 ?_
          refine g_goto (tgt := 42) (pc := 38) hC dX12_doubled_38 (by decide) ?_
          refine g_mask [true, false, true] rfl ?_
          exact g_top (iv_f c9 ev10) hJ42
  obtain ⟨z1, hz1, h⟩ := lp_e h
  refine hL1 FU 0 0 z1 hz1 (fun v5 ez => ?_)
  replace h : C_X12_doubled_3 σ2 v5 = some (r, σr) := by rw [ez] at h; exact h
  delta C_X12_doubled_3 at h
  refine g_iload_n (pc := 50) hC dX12_doubled_50 rfl ?_
  exact g_ret (pc := 51) hC h hR dX12_doubled_51
set_option maxRecDepth 20000 in
theorem c_X12_rankAt (l : Launch) (E : uE) (a1 : Int32) (a2 : Int32) (a3 : Int32) (σ : uS) (r : Int32) (h : F_X12_rankAt a1 a2 a3 σ = some r) : CtI l E yX12_rankAt cX12_rankAt 3 (some .int) 0 0 [.int a1, .int a2, .int a3] σ r σ := by
  refine enterI 0 [some (.int a1), some (.int a2), some (.int a3)] (by decide +kernel) rfl (Nat.le_of_ble_eq_true rfl) (fun o K hnL hC hab hR => ?_)
  have hC : Cx E K RX12 cX12_rankAt (some .int) 0 0 := hC
  have hN : ∀ k, k < 3 → k < K.2.2.2.2.2 := fun k hk => hnL ▸ hk
  delta F_X12_rankAt at h
  refine g_bipush (pc := 0) hC kb_8 dX12_rankAt_0 ?_
  refine g_bipush (pc := 2) hC kb_6 dX12_rankAt_2 ?_
  refine g_iload_n (pc := 4) hC dX12_rankAt_4 rfl ?_
  refine g_imul (pc := 5) hC dX12_rankAt_5 ?_
  refine g_iload_n (pc := 6) hC dX12_rankAt_6 rfl ?_
  refine g_iadd (pc := 7) hC dX12_rankAt_7 ?_
  refine g_imul (pc := 8) hC dX12_rankAt_8 ?_
  refine g_iload_n (pc := 9) hC dX12_rankAt_9 rfl ?_
  refine g_iadd (pc := 10) hC dX12_rankAt_10 ?_
  exact g_retp (pc := 11) hC h hR dX12_rankAt_11
set_option maxRecDepth 20000 in
theorem c_X12_ranks (l : Launch) (E : uE) (a1 : Int32) (a2 : Int32) (a3 : Int32) (a4 : Int32) (a5 : Int32) (σ : uS) (σr : uS) (h : F_X12_ranks a1 a2 a3 a4 a5 σ = some σr) : CtV l E yX12_ranks cX12_ranks 10 1 22 [.ref (E.2.1 55), .int a1, .int a2, .int a3, .int a4, .int a5] σ σr := by
  refine enterV 4 [some (.ref (E.2.1 55)), some (.int a1), some (.int a2), some (.int a3), some (.int a4), some (.int a5), none, none, none, none] (by decide +kernel) rfl (Nat.le_of_ble_eq_true rfl) (fun o K hnL hC hab hR => ?_)
  have hC : Cx E K RX12 cX12_ranks none 1 22 := hC
  have hN : ∀ k, k < 10 → k < K.2.2.2.2.2 := fun k hk => hnL ▸ hk
  delta F_X12_ranks at h
  refine g_bipush (pc := 0) hC kb_6 dX12_ranks_0 ?_
  refine g_iload_n (pc := 2) hC dX12_ranks_2 rfl ?_
  refine g_imul (pc := 3) hC dX12_ranks_3 ?_
  refine g_iload_n (pc := 4) hC dX12_ranks_4 rfl ?_
  refine g_iadd (pc := 5) hC dX12_ranks_5 ?_
  obtain ⟨v1, ev1, h⟩ := lt_e h
  refine g_top ev1 ?_
  refine g_istore (lv2 := [some (.ref (E.2.1 55)), some (.int a1), some (.int a2), some (.int a3), some (.int a4), some (.int a5), some (.int v1), none, none, none]) (pc := 6) hC dX12_ranks_6 rfl (Or.inr rfl) (hN _ (by decide)) ?_
  refine g_aload_n (pc := 8) hC dX12_ranks_8 rfl ?_
  refine fg_X12_65_55 (pc := 9) hC dX12_ranks_9 ?_
  refine g_iload (pc := 12) hC dX12_ranks_12 rfl ?_
  obtain ⟨v2, ev2, nv2, h⟩ := rd_e h
  refine g_iald (pc := 14) hC 74 (by decide) (ar_74 _ _ _) nv2 dX12_ranks_14 ?_
  refine g_top ev2 ?_
  refine g_istore (lv2 := [some (.ref (E.2.1 55)), some (.int a1), some (.int a2), some (.int a3), some (.int a4), some (.int a5), some (.int v1), some (.int v2), none, none]) (pc := 15) hC dX12_ranks_15 rfl (Or.inr rfl) (hN _ (by decide)) ?_
  have hL1 : ∀ (n : Nat) (w3 : Int32) (z1 : Int32), iter n (fun z => B_X12_ranks_2 a1 a2 a3 σ z) w3 = some z1 → (∀ (v4 : Int32), z1 = v4 → Gd l E K 0 0 o σ 46 [some (.ref (E.2.1 55)), some (.int a1), some (.int a2), some (.int a3), some (.int a4), some (.int a5), some (.int v1), some (.int v4), none, none] []) → Gd l E K 0 0 o σ 17 [some (.ref (E.2.1 55)), some (.int a1), some (.int a2), some (.int a3), some (.int a4), some (.int a5), some (.int v1), some (.int w3), none, none] [] := by
    intro n
    induction n with
    | zero =>
      intro w3 z1 hi
      exact (iter_0 hi).elim
    | succ n ih1 =>
      intro w3 z1 hi1 kx1
      obtain ⟨r1, h, hi1⟩ := iter_s hi1
      replace h : B_X12_ranks_2 a1 a2 a3 σ w3 = some r1 := h
      delta B_X12_ranks_2 at h
      refine g_iload (pc := 17) hC dX12_ranks_17 rfl ?_
      refine g_if_le (tgt := 46) (pc := 19) hC dX12_ranks_19 (by decide) (fun c5 => ?_) (fun c5 => ?_)
      · replace h := it_t c5 h
        exact kx1 w3 (iter_r h hi1)
      · replace h := it_f c5 h
        refine g_aload_n (pc := 22) hC dX12_ranks_22 rfl ?_
        refine fg_X12_56_55 (pc := 23) hC dX12_ranks_23 ?_
        refine g_iload_n (pc := 26) hC dX12_ranks_26 rfl ?_
        refine g_iload_n (pc := 27) hC dX12_ranks_27 rfl ?_
        refine g_iload (pc := 28) hC dX12_ranks_28 rfl ?_
        refine g_iconst (pc := 30) hC ki_1 dX12_ranks_30 ?_
        refine g_isub (pc := 31) hC dX12_ranks_31 ?_
        obtain ⟨v6, hc, h⟩ := cp_e h
        refine g_callSi (pc := 32) (As := [.int a1, .int a2, .int (w3 - 1)]) (rest := [.ref (E.2.1 71)]) hC (c_X12_rankAt l E a1 a2 (w3 - 1) σ v6 hc) mi_X12_rankAt ms_X12_rankAt lk_X12_267 rfl rfl (Nat.le_of_ble_eq_true rfl) ⟨by decide, by decide⟩ hab dX12_ranks_32 ?_
        obtain ⟨v7, ev7, nv7, h⟩ := rd_e h
        refine g_iald (pc := 35) hC 71 (by decide) (ar_71 _ _ _) nv7 dX12_ranks_35 ?_
        refine g_top ev7 ?_
        refine g_iload_n (pc := 36) hC dX12_ranks_36 rfl ?_
        refine g_icmp_le (tgt := 46) (pc := 37) hC dX12_ranks_37 (by decide) (fun c8 => ?_) (fun c8 => ?_)
        · replace h := it_t c8 h
          exact kx1 w3 (iter_r h hi1)
        · replace h := it_f c8 h
          obtain ⟨v9, ev9, h⟩ := lt_e h
          refine g_iinc (v := v9) (lv2 := [some (.ref (E.2.1 55)), some (.int a1), some (.int a2), some (.int a3), some (.int a4), some (.int a5), some (.int v1), some (.int v9), none, none]) (pc := 40) hC dX12_ranks_40 rfl ev9 rfl (Or.inr rfl) (hN _ (by decide)) ?_
          refine g_goto (tgt := 17) (pc := 43) hC dX12_ranks_43 (by decide) ?_
          exact ih1 v9 z1 (iter_l h hi1) kx1
  obtain ⟨z1, hz1, h⟩ := lp_e h
  refine hL1 FU v2 z1 hz1 (fun v4 ez => ?_)
  replace h : C_X12_ranks_7 a1 a2 a3 a4 a5 v1 σ v4 = some σr := by rw [ez] at h; exact h
  delta C_X12_ranks_7 at h
  refine g_iload (pc := 46) hC dX12_ranks_46 rfl ?_
  refine g_bipush (pc := 48) hC kb_8 dX12_ranks_48 ?_
  refine g_icmp_ne (tgt := 54) (pc := 50) hC dX12_ranks_50 (by decide) (fun c10 => ?_) (fun c10 => ?_)
  · replace h := it_f c10 h
    refine g_aload_n (pc := 54) hC dX12_ranks_54 rfl ?_
    refine fg_X12_65_55 (pc := 55) hC dX12_ranks_55 ?_
    refine g_iload (pc := 58) hC dX12_ranks_58 rfl ?_
    obtain ⟨v11, ev11, nv11, h⟩ := rd_e h
    refine g_iald (pc := 60) hC 74 (by decide) (ar_74 _ _ _) nv11 dX12_ranks_60 ?_
    refine g_top ev11 ?_
    refine g_bipush (pc := 61) hC kb_8 dX12_ranks_61 ?_
    have hJ78 : ∀ (v14 : Int32), J_X12_ranks_6 a1 a2 a3 a4 a5 v1 v4 σ v14 = some σr → Gd l E K 0 0 o σ 78 [some (.ref (E.2.1 55)), some (.int a1), some (.int a2), some (.int a3), some (.int a4), some (.int a5), some (.int v1), some (.int v4), none, none] [.int v14] := by
      intro v14 h
      delta J_X12_ranks_6 at h
      refine g_istore (lv2 := [some (.ref (E.2.1 55)), some (.int a1), some (.int a2), some (.int a3), some (.int a4), some (.int a5), some (.int v1), some (.int v4), some (.int v14), none]) (pc := 78) hC dX12_ranks_78 rfl (Or.inr rfl) (hN _ (by decide)) ?_
      refine g_iload (pc := 80) hC dX12_ranks_80 rfl ?_
      refine g_istore (lv2 := [some (.ref (E.2.1 55)), some (.int a1), some (.int a2), some (.int a3), some (.int a4), some (.int a5), some (.int v1), some (.int v4), some (.int v14), some (.int v14)]) (pc := 82) hC dX12_ranks_82 rfl (Or.inr rfl) (hN _ (by decide)) ?_
      have hL3 : ∀ (n : Nat) (w15 : Int32) (σ16 : uS) (z3 : uS), iter n (fun z => B_X12_ranks_4 a1 a2 v4 z.1 z.2) (w15, σ16) = some z3 → (∀ (σ17 : uS), z3 = σ17 → Gd l E K 0 0 o σ17 175 [some (.ref (E.2.1 55)), some (.int a1), some (.int a2), some (.int a3), some (.int a4), some (.int a5), some (.int v1), some (.int v4), some (.int v14), none] []) → Gd l E K 0 0 o σ16 84 [some (.ref (E.2.1 55)), some (.int a1), some (.int a2), some (.int a3), some (.int a4), some (.int a5), some (.int v1), some (.int v4), some (.int v14), some (.int w15)] [] := by
        intro n
        induction n with
        | zero =>
          intro w15 σ16 z3 hi
          exact (iter_0 hi).elim
        | succ n ih3 =>
          intro w15 σ16 z3 hi3 kx3
          obtain ⟨r3, h, hi3⟩ := iter_s hi3
          replace h : B_X12_ranks_4 a1 a2 v4 w15 σ16 = some r3 := h
          delta B_X12_ranks_4 at h
          refine g_iload (pc := 84) hC dX12_ranks_84 rfl ?_
          refine g_iload (pc := 86) hC dX12_ranks_86 rfl ?_
          refine g_icmp_le (tgt := 175) (pc := 88) hC dX12_ranks_88 (by decide) (fun c18 => ?_) (fun c18 => ?_)
          · replace h := it_t c18 h
            refine g_mask [true, true, true, true, true, true, true, true, true, false] rfl ?_
            exact kx3 σ16 (iter_r h hi3)
          · replace h := it_f c18 h
            refine g_aload_n (pc := 91) hC dX12_ranks_91 rfl ?_
            refine fg_X12_56_55 (pc := 92) hC dX12_ranks_92 ?_
            refine g_iload_n (pc := 95) hC dX12_ranks_95 rfl ?_
            refine g_iload_n (pc := 96) hC dX12_ranks_96 rfl ?_
            refine g_iload (pc := 97) hC dX12_ranks_97 rfl ?_
            obtain ⟨v19, hc, h⟩ := cp_e h
            refine g_callSi (pc := 99) (As := [.int a1, .int a2, .int w15]) (rest := [.ref (E.2.1 71)]) hC (c_X12_rankAt l E a1 a2 w15 σ16 v19 hc) mi_X12_rankAt ms_X12_rankAt lk_X12_267 rfl rfl (Nat.le_of_ble_eq_true rfl) ⟨by decide, by decide⟩ hab dX12_ranks_99 ?_
            refine g_aload_n (pc := 102) hC dX12_ranks_102 rfl ?_
            refine fg_X12_56_55 (pc := 103) hC dX12_ranks_103 ?_
            refine g_iload_n (pc := 106) hC dX12_ranks_106 rfl ?_
            refine g_iload_n (pc := 107) hC dX12_ranks_107 rfl ?_
            refine g_iload (pc := 108) hC dX12_ranks_108 rfl ?_
            refine g_iconst (pc := 110) hC ki_1 dX12_ranks_110 ?_
            refine g_isub (pc := 111) hC dX12_ranks_111 ?_
            obtain ⟨v20, hc, h⟩ := cp_e h
            refine g_callSi (pc := 112) (As := [.int a1, .int a2, .int (w15 - 1)]) (rest := [.ref (E.2.1 71), .int v19, .ref (E.2.1 71)]) hC (c_X12_rankAt l E a1 a2 (w15 - 1) σ16 v20 hc) mi_X12_rankAt ms_X12_rankAt lk_X12_267 rfl rfl (Nat.le_of_ble_eq_true rfl) ⟨by decide, by decide⟩ hab dX12_ranks_112 ?_
            obtain ⟨v21, ev21, nv21, h⟩ := rd_e h
            refine g_iald (pc := 115) hC 71 (by decide) (ar_71 _ _ _) nv21 dX12_ranks_115 ?_
            refine g_top ev21 ?_
            obtain ⟨σ22, eσ22, nσ22, h⟩ := wr_e h
            refine g_iast (pc := 116) hC 71 (by decide) (ar_71 _ _) nσ22 dX12_ranks_116 eσ22 ?_
            refine g_aload_n (pc := 117) hC dX12_ranks_117 rfl ?_
            refine fg_X12_59_55 (pc := 118) hC dX12_ranks_118 ?_
            refine g_iload_n (pc := 121) hC dX12_ranks_121 rfl ?_
            refine g_iload_n (pc := 122) hC dX12_ranks_122 rfl ?_
            refine g_iload (pc := 123) hC dX12_ranks_123 rfl ?_
            obtain ⟨v23, hc, h⟩ := cp_e h
            refine g_callSi (pc := 125) (As := [.int a1, .int a2, .int w15]) (rest := [.ref (E.2.1 72)]) hC (c_X12_rankAt l E a1 a2 w15 σ22 v23 hc) mi_X12_rankAt ms_X12_rankAt lk_X12_267 rfl rfl (Nat.le_of_ble_eq_true rfl) ⟨by decide, by decide⟩ hab dX12_ranks_125 ?_
            refine g_aload_n (pc := 128) hC dX12_ranks_128 rfl ?_
            refine fg_X12_59_55 (pc := 129) hC dX12_ranks_129 ?_
            refine g_iload_n (pc := 132) hC dX12_ranks_132 rfl ?_
            refine g_iload_n (pc := 133) hC dX12_ranks_133 rfl ?_
            refine g_iload (pc := 134) hC dX12_ranks_134 rfl ?_
            refine g_iconst (pc := 136) hC ki_1 dX12_ranks_136 ?_
            refine g_isub (pc := 137) hC dX12_ranks_137 ?_
            obtain ⟨v24, hc, h⟩ := cp_e h
            refine g_callSi (pc := 138) (As := [.int a1, .int a2, .int (w15 - 1)]) (rest := [.ref (E.2.1 72), .int v23, .ref (E.2.1 72)]) hC (c_X12_rankAt l E a1 a2 (w15 - 1) σ22 v24 hc) mi_X12_rankAt ms_X12_rankAt lk_X12_267 rfl rfl (Nat.le_of_ble_eq_true rfl) ⟨by decide, by decide⟩ hab dX12_ranks_138 ?_
            obtain ⟨v25, ev25, nv25, h⟩ := rd_e h
            refine g_iald (pc := 141) hC 72 (by decide) (ar_72 _ _ _) nv25 dX12_ranks_141 ?_
            refine g_top ev25 ?_
            obtain ⟨σ26, eσ26, nσ26, h⟩ := wr_e h
            refine g_iast (pc := 142) hC 72 (by decide) (ar_72 _ _) nσ26 dX12_ranks_142 eσ26 ?_
            refine g_aload_n (pc := 143) hC dX12_ranks_143 rfl ?_
            refine fg_X12_62_55 (pc := 144) hC dX12_ranks_144 ?_
            refine g_iload_n (pc := 147) hC dX12_ranks_147 rfl ?_
            refine g_iload_n (pc := 148) hC dX12_ranks_148 rfl ?_
            refine g_iload (pc := 149) hC dX12_ranks_149 rfl ?_
            obtain ⟨v27, hc, h⟩ := cp_e h
            refine g_callSi (pc := 151) (As := [.int a1, .int a2, .int w15]) (rest := [.ref (E.2.1 73)]) hC (c_X12_rankAt l E a1 a2 w15 σ26 v27 hc) mi_X12_rankAt ms_X12_rankAt lk_X12_267 rfl rfl (Nat.le_of_ble_eq_true rfl) ⟨by decide, by decide⟩ hab dX12_ranks_151 ?_
            refine g_aload_n (pc := 154) hC dX12_ranks_154 rfl ?_
            refine fg_X12_62_55 (pc := 155) hC dX12_ranks_155 ?_
            refine g_iload_n (pc := 158) hC dX12_ranks_158 rfl ?_
            refine g_iload_n (pc := 159) hC dX12_ranks_159 rfl ?_
            refine g_iload (pc := 160) hC dX12_ranks_160 rfl ?_
            refine g_iconst (pc := 162) hC ki_1 dX12_ranks_162 ?_
            refine g_isub (pc := 163) hC dX12_ranks_163 ?_
            obtain ⟨v28, hc, h⟩ := cp_e h
            refine g_callSi (pc := 164) (As := [.int a1, .int a2, .int (w15 - 1)]) (rest := [.ref (E.2.1 73), .int v27, .ref (E.2.1 73)]) hC (c_X12_rankAt l E a1 a2 (w15 - 1) σ26 v28 hc) mi_X12_rankAt ms_X12_rankAt lk_X12_267 rfl rfl (Nat.le_of_ble_eq_true rfl) ⟨by decide, by decide⟩ hab dX12_ranks_164 ?_
            obtain ⟨v29, ev29, nv29, h⟩ := rd_e h
            refine g_iald (pc := 167) hC 73 (by decide) (ar_73 _ _ _) nv29 dX12_ranks_167 ?_
            refine g_top ev29 ?_
            obtain ⟨σ30, eσ30, nσ30, h⟩ := wr_e h
            refine g_iast (pc := 168) hC 73 (by decide) (ar_73 _ _) nσ30 dX12_ranks_168 eσ30 ?_
            obtain ⟨v31, ev31, h⟩ := lt_e h
            refine g_iinc (v := v31) (lv2 := [some (.ref (E.2.1 55)), some (.int a1), some (.int a2), some (.int a3), some (.int a4), some (.int a5), some (.int v1), some (.int v4), some (.int v14), some (.int v31)]) (pc := 169) hC dX12_ranks_169 rfl ev31 rfl (Or.inr rfl) (hN _ (by decide)) ?_
            refine g_goto (tgt := 84) (pc := 172) hC dX12_ranks_172 (by decide) ?_
            exact ih3 v31 σ30 z3 (iter_l h hi3) kx3
      obtain ⟨z3, hz3, h⟩ := lp_e h
      refine hL3 FU v14 σ z3 hz3 (fun σ17 ez => ?_)
      replace h : C_X12_ranks_5 a1 a2 a3 a4 a5 v1 v4 v14 σ17 = some σr := by rw [ez] at h; exact h
      delta C_X12_ranks_5 at h
      refine g_aload_n (pc := 175) hC dX12_ranks_175 rfl ?_
      refine fg_X12_56_55 (pc := 176) hC dX12_ranks_176 ?_
      refine g_iload_n (pc := 179) hC dX12_ranks_179 rfl ?_
      refine g_iload_n (pc := 180) hC dX12_ranks_180 rfl ?_
      refine g_iload (pc := 181) hC dX12_ranks_181 rfl ?_
      obtain ⟨v32, hc, h⟩ := cp_e h
      refine g_callSi (pc := 183) (As := [.int a1, .int a2, .int v4]) (rest := [.ref (E.2.1 71)]) hC (c_X12_rankAt l E a1 a2 v4 σ17 v32 hc) mi_X12_rankAt ms_X12_rankAt lk_X12_267 rfl rfl (Nat.le_of_ble_eq_true rfl) ⟨by decide, by decide⟩ hab dX12_ranks_183 ?_
      refine g_iload_n (pc := 186) hC dX12_ranks_186 rfl ?_
      obtain ⟨σ33, eσ33, nσ33, h⟩ := wr_e h
      refine g_iast (pc := 187) hC 71 (by decide) (ar_71 _ _) nσ33 dX12_ranks_187 eσ33 ?_
      refine g_aload_n (pc := 188) hC dX12_ranks_188 rfl ?_
      refine fg_X12_59_55 (pc := 189) hC dX12_ranks_189 ?_
      refine g_iload_n (pc := 192) hC dX12_ranks_192 rfl ?_
      refine g_iload_n (pc := 193) hC dX12_ranks_193 rfl ?_
      refine g_iload (pc := 194) hC dX12_ranks_194 rfl ?_
      obtain ⟨v34, hc, h⟩ := cp_e h
      refine g_callSi (pc := 196) (As := [.int a1, .int a2, .int v4]) (rest := [.ref (E.2.1 72)]) hC (c_X12_rankAt l E a1 a2 v4 σ33 v34 hc) mi_X12_rankAt ms_X12_rankAt lk_X12_267 rfl rfl (Nat.le_of_ble_eq_true rfl) ⟨by decide, by decide⟩ hab dX12_ranks_196 ?_
      refine g_iload (pc := 199) hC dX12_ranks_199 rfl ?_
      obtain ⟨σ35, eσ35, nσ35, h⟩ := wr_e h
      refine g_iast (pc := 201) hC 72 (by decide) (ar_72 _ _) nσ35 dX12_ranks_201 eσ35 ?_
      refine g_aload_n (pc := 202) hC dX12_ranks_202 rfl ?_
      refine fg_X12_62_55 (pc := 203) hC dX12_ranks_203 ?_
      refine g_iload_n (pc := 206) hC dX12_ranks_206 rfl ?_
      refine g_iload_n (pc := 207) hC dX12_ranks_207 rfl ?_
      refine g_iload (pc := 208) hC dX12_ranks_208 rfl ?_
      obtain ⟨v36, hc, h⟩ := cp_e h
      refine g_callSi (pc := 210) (As := [.int a1, .int a2, .int v4]) (rest := [.ref (E.2.1 73)]) hC (c_X12_rankAt l E a1 a2 v4 σ35 v36 hc) mi_X12_rankAt ms_X12_rankAt lk_X12_267 rfl rfl (Nat.le_of_ble_eq_true rfl) ⟨by decide, by decide⟩ hab dX12_ranks_210 ?_
      refine g_iload (pc := 213) hC dX12_ranks_213 rfl ?_
      obtain ⟨σ37, eσ37, nσ37, h⟩ := wr_e h
      refine g_iast (pc := 215) hC 73 (by decide) (ar_73 _ _) nσ37 dX12_ranks_215 eσ37 ?_
      refine g_aload_n (pc := 216) hC dX12_ranks_216 rfl ?_
      refine fg_X12_65_55 (pc := 217) hC dX12_ranks_217 ?_
      refine g_iload (pc := 220) hC dX12_ranks_220 rfl ?_
      refine g_iload (pc := 222) hC dX12_ranks_222 rfl ?_
      refine g_iconst (pc := 224) hC ki_1 dX12_ranks_224 ?_
      refine g_iadd (pc := 225) hC dX12_ranks_225 ?_
      obtain ⟨σ38, eσ38, nσ38, h⟩ := wr_e h
      refine g_iast (pc := 226) hC 74 (by decide) (ar_74 _ _) nσ38 dX12_ranks_226 eσ38 ?_
      exact g_retv (pc := 227) hC h hR dX12_ranks_227
    refine g_icmp_ge (tgt := 76) (pc := 63) hC dX12_ranks_63 (by decide) (fun c12 => ?_) (fun c12 => ?_)
    · replace h := it_t c12 h
      refine g_bipush (pc := 76) hC kb_7 dX12_ranks_76 ?_
      exact hJ78 7 h
    · replace h := it_f c12 h
      refine g_aload_n (pc := 66) hC dX12_ranks_66 rfl ?_
      refine fg_X12_65_55 (pc := 67) hC dX12_ranks_67 ?_
      refine g_iload (pc := 70) hC dX12_ranks_70 rfl ?_
      obtain ⟨v13, ev13, nv13, h⟩ := rd_e h
      refine g_iald (pc := 72) hC 74 (by decide) (ar_74 _ _ _) nv13 dX12_ranks_72 ?_
      refine g_top ev13 ?_
      refine g_goto (tgt := 78) (pc := 73) hC dX12_ranks_73 (by decide) ?_
      exact hJ78 v13 h
  · replace h := it_t c10 h
    exact g_retv (pc := 53) hC h hR dX12_ranks_53
