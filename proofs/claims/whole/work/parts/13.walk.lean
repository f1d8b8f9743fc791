set_option maxRecDepth 20000 in
theorem c_X2_forgetAll (l : Launch) (E : uE) (σ : uS) (σr : uS) (h : F_X2_forgetAll σ = some σr) : CtV l E yX2_forgetAll cX2_forgetAll 2 0 0 [.ref (E.2.1 6)] σ σr := by
  refine enterV 1 [some (.ref (E.2.1 6)), none] (by decide +kernel) rfl (Nat.le_of_ble_eq_true rfl) (fun o K hnL hC hab hR => ?_)
  have hC : Cx E K RX2 cX2_forgetAll none 0 0 := hC
  have hN : ∀ k, k < 2 → k < K.2.2.2.2.2 := fun k hk => hnL ▸ hk
  delta F_X2_forgetAll at h
  refine g_iconst (pc := 0) hC ki_0 dX2_forgetAll_0 ?_
  refine g_istore_n (lv2 := [some (.ref (E.2.1 6)), some (.int 0)]) (pc := 1) hC dX2_forgetAll_1 rfl (Or.inr rfl) (hN _ (by decide)) ?_
  have hL1 : ∀ (n : Nat) (w1 : Int32) (σ2 : uS) (z1 : uS), iter n (fun z => B_X2_forgetAll_2 z.1 z.2) (w1, σ2) = some z1 → (∀ (σ3 : uS), z1 = σ3 → Gd l E K 0 0 o σ3 21 [none, none] []) → Gd l E K 0 0 o σ2 2 [some (.ref (E.2.1 6)), some (.int w1)] [] := by
    intro n
    induction n with
    | zero =>
      intro w1 σ2 z1 hi
      exact (iter_0 hi).elim
    | succ n ih1 =>
      intro w1 σ2 z1 hi1 kx1
      obtain ⟨r1, h, hi1⟩ := iter_s hi1
      replace h : B_X2_forgetAll_2 w1 σ2 = some r1 := h
      delta B_X2_forgetAll_2 at h
      refine g_iload_n (pc := 2) hC dX2_forgetAll_2 rfl ?_
      refine g_bipush (pc := 3) hC kb_100 dX2_forgetAll_3 ?_
      refine g_icmp_ge (tgt := 21) (pc := 5) hC dX2_forgetAll_5 (by decide) (fun c4 => ?_) (fun c4 => ?_)
      · replace h := it_t c4 h
        refine g_mask [false, false] rfl ?_
        exact kx1 σ2 (iter_r h hi1)
      · replace h := it_f c4 h
        refine g_aload_n (pc := 8) hC dX2_forgetAll_8 rfl ?_
        refine fg_X2_21_6 (pc := 9) hC dX2_forgetAll_9 ?_
        refine g_iload_n (pc := 12) hC dX2_forgetAll_12 rfl ?_
        refine g_iconst (pc := 13) hC ki_0 dX2_forgetAll_13 ?_
        obtain ⟨σ5, eσ5, nσ5, h⟩ := wr_e h
        refine g_zast (pc := 14) hC 10 (by decide) (ar_10 _ _) nσ5 dX2_forgetAll_14 eσ5 ?_
        obtain ⟨v6, ev6, h⟩ := lt_e h
        refine g_iinc (v := v6) (lv2 := [some (.ref (E.2.1 6)), some (.int v6)]) (pc := 15) hC dX2_forgetAll_15 rfl ev6 rfl (Or.inr rfl) (hN _ (by decide)) ?_
        refine g_goto (tgt := 2) (pc := 18) hC dX2_forgetAll_18 (by decide) ?_
        exact ih1 v6 σ5 z1 (iter_l h hi1) kx1
  obtain ⟨z1, hz1, h⟩ := lp_e h
  refine hL1 FU 0 σ z1 hz1 (fun σ3 ez => ?_)
  replace h : C_X2_forgetAll_3 σ3 = some σr := by rw [ez] at h; exact h
  delta C_X2_forgetAll_3 at h
  exact g_retv (pc := 21) hC h hR dX2_forgetAll_21
set_option maxRecDepth 20000 in
theorem c_X2_forgetThose (l : Launch) (E : uE) (a1 : Int32) (a2 : Int32) (σ : uS) (σr : uS) (h : F_X2_forgetThose a1 a2 σ = some σr) : CtV l E yX2_forgetThose cX2_forgetThose 5 2 41 [.ref (E.2.1 6), .int a1, .int a2] σ σr := by
  refine enterV 2 [some (.ref (E.2.1 6)), some (.int a1), some (.int a2), none, none] (by decide +kernel) rfl (Nat.le_of_ble_eq_true rfl) (fun o K hnL hC hab hR => ?_)
  have hC : Cx E K RX2 cX2_forgetThose none 2 41 := hC
  have hN : ∀ k, k < 5 → k < K.2.2.2.2.2 := fun k hk => hnL ▸ hk
  delta F_X2_forgetThose at h
  refine g_iconst (pc := 0) hC ki_0 dX2_forgetThose_0 ?_
  refine g_istore_n (lv2 := [some (.ref (E.2.1 6)), some (.int a1), some (.int a2), some (.int 0), none]) (pc := 1) hC dX2_forgetThose_1 rfl (Or.inr rfl) (hN _ (by decide)) ?_
  refine g_iconst (pc := 2) hC ki_0 dX2_forgetThose_2 ?_
  refine g_istore (lv2 := [some (.ref (E.2.1 6)), some (.int a1), some (.int a2), some (.int 0), some (.int 0)]) (pc := 3) hC dX2_forgetThose_3 rfl (Or.inr rfl) (hN _ (by decide)) ?_
  have hL1 : ∀ (n : Nat) (w1 : Int32) (w2 : Int32) (σ3 : uS) (z1 : uS), iter n (fun z => B_X2_forgetThose_3 a1 a2 z.1 z.2.1 z.2.2) (w1, w2, σ3) = some z1 → (∀ (σ4 : uS), z1 = σ4 → Gd l E K 0 0 o σ4 52 [none, none, none, none, none] []) → Gd l E K 0 0 o σ3 5 [some (.ref (E.2.1 6)), some (.int a1), some (.int a2), some (.int w1), some (.int w2)] [] := by
    intro n
    induction n with
    | zero =>
      intro w1 w2 σ3 z1 hi
      exact (iter_0 hi).elim
    | succ n ih1 =>
      intro w1 w2 σ3 z1 hi1 kx1
      obtain ⟨r1, h, hi1⟩ := iter_s hi1
      replace h : B_X2_forgetThose_3 a1 a2 w1 w2 σ3 = some r1 := h
      delta B_X2_forgetThose_3 at h
      refine g_iload (pc := 5) hC dX2_forgetThose_5 rfl ?_
      refine g_bipush (pc := 7) hC kb_100 dX2_forgetThose_7 ?_
      refine g_icmp_ge (tgt := 52) (pc := 9) hC dX2_forgetThose_9 (by decide) (fun c5 => ?_) (fun c5 => ?_)
      · replace h := it_t c5 h
        refine g_mask [false, false, false, false, false] rfl ?_
        exact kx1 σ3 (iter_r h hi1)
      · replace h := it_f c5 h
        refine g_iload_n (pc := 12) hC dX2_forgetThose_12 rfl ?_
        refine g_iload_n (pc := 13) hC dX2_forgetThose_13 rfl ?_
        have hJ35 : ∀ (σ10 : uS), J_X2_forgetThose_2 w1 w2 σ10 = some r1 → Gd l E K 0 0 o σ10 35 [some (.ref (E.2.1 6)), some (.int a1), some (.int a2), some (.int w1), some (.int w2)] [] := by
          intro σ10 h
          delta J_X2_forgetThose_2 at h
          refine g_iload_n (pc := 35) hC dX2_forgetThose_35 rfl ?_
          refine g_aload_n (pc := 36) hC dX2_forgetThose_36 rfl ?_
          refine fg_X2_29_6 (pc := 37) hC dX2_forgetThose_37 ?_
          refine g_iconst (pc := 40) hC ki_2 dX2_forgetThose_40 ?_
          obtain ⟨v11, hc, h⟩ := cp_e h
          refine g_callVi (pc := 41) (As := [.int 2]) (rest := [.int w1]) hC (c_X0_of l E 2 σ10 v11 hc) mi_X0_of mv_X0_of ob_4 rfl rfl lk_X2_44 rfl rfl (Nat.le_of_ble_eq_true rfl) ⟨by decide, by decide⟩ hab dX2_forgetThose_41 ?_
          refine g_iadd (pc := 44) hC dX2_forgetThose_44 ?_
          obtain ⟨v12, ev12, h⟩ := lt_e h
          refine g_top ev12 ?_
          refine g_istore_n (lv2 := [some (.ref (E.2.1 6)), some (.int a1), some (.int a2), some (.int v12), some (.int w2)]) (pc := 45) hC dX2_forgetThose_45 rfl (Or.inr rfl) (hN _ (by decide)) ?_
          obtain ⟨v13, ev13, h⟩ := lt_e h
          refine g_iinc (v := v13) (lv2 := [some (.ref (E.2.1 6)), some (.int a1), some (.int a2), some (.int v12), some (.int v13)]) (pc := 46) hC dX2_forgetThose_46 rfl ev13 rfl (Or.inr rfl) (hN _ (by decide)) ?_
          refine g_goto (tgt := 5) (pc := 49) hC dX2_forgetThose_49 (by decide) ?_
          exact ih1 v12 v13 σ10 z1 (iter_l h hi1) kx1
        refine g_icmp_ge (tgt := 35) (pc := 14) hC dX2_forgetThose_14 (by decide) (fun c6 => ?_) (fun c6 => ?_)
        · replace h := it_t c6 h
          exact hJ35 σ3 h
        · replace h := it_f c6 h
          refine g_iload_n (pc := 17) hC dX2_forgetThose_17 rfl ?_
          refine g_aload_n (pc := 18) hC dX2_forgetThose_18 rfl ?_
          obtain ⟨v7, hc, h⟩ := cp_e h
          refine g_callVi (pc := 19) (As := []) (rest := [.int w1]) hC (c_X2_reach l E σ3 v7 hc) mi_X2_reach mv_X2_reach ob_6 rfl rfl lk_X2_39 rfl rfl (Nat.le_of_ble_eq_true rfl) ⟨by decide, by decide⟩ hab dX2_forgetThose_19 ?_
          refine g_iadd (pc := 22) hC dX2_forgetThose_22 ?_
          refine g_iload_n (pc := 23) hC dX2_forgetThose_23 rfl ?_
          refine g_icmp_le (tgt := 35) (pc := 24) hC dX2_forgetThose_24 (by decide) (fun c8 => ?_) (fun c8 => ?_)
          · replace h := it_t c8 h
            exact hJ35 σ3 h
          · replace h := it_f c8 h
            refine g_aload_n (pc := 27) hC dX2_forgetThose_27 rfl ?_
            refine fg_X2_21_6 (pc := 28) hC dX2_forgetThose_28 ?_
            refine g_iload (pc := 31) hC dX2_forgetThose_31 rfl ?_
            refine g_iconst (pc := 33) hC ki_0 dX2_forgetThose_33 ?_
            obtain ⟨σ9, eσ9, nσ9, h⟩ := wr_e h
            refine g_zast (pc := 34) hC 10 (by decide) (ar_10 _ _) nσ9 dX2_forgetThose_34 eσ9 ?_
            exact hJ35 σ9 h
  obtain ⟨z1, hz1, h⟩ := lp_e h
  refine hL1 FU 0 0 σ z1 hz1 (fun σ4 ez => ?_)
  replace h : C_X2_forgetThose_4 σ4 = some σr := by rw [ez] at h; exact h
  delta C_X2_forgetThose_4 at h
  exact g_retv (pc := 52) hC h hR dX2_forgetThose_52
set_option maxRecDepth 20000 in
theorem c_X1_frameCount (l : Launch) (E : uE) (σ : uS) (r : Int32) (h : F_X1_frameCount σ = some r) : CtI l E yX1_frameCount cX1_frameCount 1 (some .int) 0 0 [.ref (E.2.1 11)] σ r σ := by
  refine enterI 0 [some (.ref (E.2.1 11))] (by decide +kernel) rfl (Nat.le_of_ble_eq_true rfl) (fun o K hnL hC hab hR => ?_)
  have hC : Cx E K RX1 cX1_frameCount (some .int) 0 0 := hC
  have hN : ∀ k, k < 1 → k < K.2.2.2.2.2 := fun k hk => hnL ▸ hk
  delta F_X1_frameCount at h
  refine g_aload_n (pc := 0) hC dX1_frameCount_0 rfl ?_
  refine fg_X1_32_11 (pc := 1) hC dX1_frameCount_1 ?_
  exact g_retp (pc := 4) hC h hR dX1_frameCount_4
set_option maxRecDepth 20000 in
theorem c_X1_has (l : Launch) (E : uE) (a1 : Int32) (a2 : Int32) (σ : uS) (r : Int32) (h : F_X1_has a1 a2 σ = some r) : CtI l E yX1_has cX1_has 3 (some .boolean) 0 0 [.ref (E.2.1 11), .int a1, .int a2] σ r σ := by
  refine enterI 0 [some (.ref (E.2.1 11)), some (.int a1), some (.int a2)] (by decide +kernel) rfl (Nat.le_of_ble_eq_true rfl) (fun o K hnL hC hab hR => ?_)
  have hC : Cx E K RX1 cX1_has (some .boolean) 0 0 := hC
  have hN : ∀ k, k < 3 → k < K.2.2.2.2.2 := fun k hk => hnL ▸ hk
  delta F_X1_has at h
  refine g_iload_n (pc := 0) hC dX1_has_0 rfl ?_
  have hJ31 : ∀ (v6 : Int32), J_X1_has_2 v6 = some r → Gd l E K 0 0 o σ 31 [none, none, none] [.int v6] := by
    intro v6 h
    delta J_X1_has_2 at h
    obtain ⟨h01, h⟩ := bz_e h
    exact g_retzp (pc := 31) hC h01 h hR dX1_has_31
  have hJ30 : J_X1_has_1 = some r → Gd l E K 0 0 o σ 30 [none, none, none] [] := by
    intro h
    delta J_X1_has_1 at h
    refine g_iconst (pc := 30) hC ki_0 dX1_has_30 ?_
    exact hJ31 0 h
  refine g_if_lt (tgt := 30) (pc := 1) hC dX1_has_1 (by decide) (fun c1 => ?_) (fun c1 => ?_)
  · replace h := it_t c1 h
    refine g_mask [false, false, false] rfl ?_
    exact hJ30 h
  · replace h := it_f c1 h
    refine g_iload_n (pc := 4) hC dX1_has_4 rfl ?_
    refine g_aload_n (pc := 5) hC dX1_has_5 rfl ?_
    refine fg_X1_32_11 (pc := 6) hC dX1_has_6 ?_
    refine g_icmp_ge (tgt := 30) (pc := 9) hC dX1_has_9 (by decide) (fun c2 => ?_) (fun c2 => ?_)
    · replace h := it_t c2 h
      refine g_mask [false, false, false] rfl ?_
      exact hJ30 h
    · replace h := it_f c2 h
      refine g_iload_n (pc := 12) hC dX1_has_12 rfl ?_
      refine g_if_lt (tgt := 30) (pc := 13) hC dX1_has_13 (by decide) (fun c3 => ?_) (fun c3 => ?_)
      · replace h := it_t c3 h
        refine g_mask [false, false, false] rfl ?_
        exact hJ30 h
      · replace h := it_f c3 h
        refine g_iload_n (pc := 16) hC dX1_has_16 rfl ?_
        refine g_aload_n (pc := 17) hC dX1_has_17 rfl ?_
        refine fg_X1_21_11 (pc := 18) hC dX1_has_18 ?_
        refine g_iload_n (pc := 21) hC dX1_has_21 rfl ?_
        obtain ⟨v4, ev4, nv4, h⟩ := rd_e h
        refine g_iald (pc := 22) hC 15 (by decide) (ar_15 _ _ _) nv4 dX1_has_22 ?_
        refine g_top ev4 ?_
        refine g_icmp_ge (tgt := 30) (pc := 23) hC dX1_has_23 (by decide) (fun c5 => ?_) (fun c5 => ?_)
        · replace h := it_t c5 h
          refine g_mask [false, false, false] rfl ?_
          exact hJ30 h
        · replace h := it_f c5 h
          refine g_iconst (pc := 26) hC ki_1 dX1_has_26 ?_
          refine g_goto (tgt := 31) (pc := 27) hC dX1_has_27 (by decide) ?_
          refine g_mask [false, false, false] rfl ?_
          exact hJ31 1 h
set_option maxRecDepth 20000 in
theorem c_X1_sizeOf (l : Launch) (E : uE) (a1 : Int32) (σ : uS) (r : Int32) (h : F_X1_sizeOf a1 σ = some r) : CtI l E yX1_sizeOf cX1_sizeOf 2 (some .int) 0 0 [.ref (E.2.1 11), .int a1] σ r σ := by
  refine enterI 0 [some (.ref (E.2.1 11)), some (.int a1)] (by decide +kernel) rfl (Nat.le_of_ble_eq_true rfl) (fun o K hnL hC hab hR => ?_)
  have hC : Cx E K RX1 cX1_sizeOf (some .int) 0 0 := hC
  have hN : ∀ k, k < 2 → k < K.2.2.2.2.2 := fun k hk => hnL ▸ hk
  delta F_X1_sizeOf at h
  refine g_iload_n (pc := 0) hC dX1_sizeOf_0 rfl ?_
  have hJ22 : ∀ (v4 : Int32), J_X1_sizeOf_2 v4 = some r → Gd l E K 0 0 o σ 22 [none, none] [.int v4] := by
    intro v4 h
    delta J_X1_sizeOf_2 at h
    exact g_retp (pc := 22) hC h hR dX1_sizeOf_22
  have hJ12 : J_X1_sizeOf_1 = some r → Gd l E K 0 0 o σ 12 [none, none] [] := by
    intro h
    delta J_X1_sizeOf_1 at h
    refine g_iconst (pc := 12) hC ki_0 dX1_sizeOf_12 ?_
    refine g_goto (tgt := 22) (pc := 13) hC dX1_sizeOf_13 (by decide) ?_
    exact hJ22 0 h
  refine g_if_lt (tgt := 12) (pc := 1) hC dX1_sizeOf_1 (by decide) (fun c1 => ?_) (fun c1 => ?_)
  · replace h := it_t c1 h
    refine g_mask [false, false] rfl ?_
    exact hJ12 h
  · replace h := it_f c1 h
    refine g_iload_n (pc := 4) hC dX1_sizeOf_4 rfl ?_
    refine g_aload_n (pc := 5) hC dX1_sizeOf_5 rfl ?_
    refine fg_X1_32_11 (pc := 6) hC dX1_sizeOf_6 ?_
    refine g_icmp_lt (tgt := 16) (pc := 9) hC dX1_sizeOf_9 (by decide) (fun c2 => ?_) (fun c2 => ?_)
    · replace h := it_t c2 h
      refine g_aload_n (pc := 16) hC dX1_sizeOf_16 rfl ?_
      refine fg_X1_21_11 (pc := 17) hC dX1_sizeOf_17 ?_
      refine g_iload_n (pc := 20) hC dX1_sizeOf_20 rfl ?_
      obtain ⟨v3, ev3, nv3, h⟩ := rd_e h
      refine g_iald (pc := 21) hC 15 (by decide) (ar_15 _ _ _) nv3 dX1_sizeOf_21 ?_
      refine g_top ev3 ?_
      refine g_mask [false, false] rfl ?_
      exact hJ22 v3 h
    · replace h := it_f c2 h
      refine g_mask [false, false] rfl ?_
      exact hJ12 h
set_option maxRecDepth 20000 in
theorem c_X11_cell (l : Launch) (E : uE) (a1 : Int32) (a2 : Int32) (σ : uS) (r : Int32) (h : F_X11_cell a1 a2 σ = some r) : CtI l E yX11_cell cX11_cell 2 (some .int) 0 0 [.int a1, .int a2] σ r σ := by
  refine enterI 0 [some (.int a1), some (.int a2)] (by decide +kernel) rfl (Nat.le_of_ble_eq_true rfl) (fun o K hnL hC hab hR => ?_)
  have hC : Cx E K RX11 cX11_cell (some .int) 0 0 := hC
  have hN : ∀ k, k < 2 → k < K.2.2.2.2.2 := fun k hk => hnL ▸ hk
  delta F_X11_cell at h
  refine g_iload_n (pc := 0) hC dX11_cell_0 rfl ?_
  refine g_bipush (pc := 1) hC kb_6 dX11_cell_1 ?_
  refine g_imul (pc := 3) hC dX11_cell_3 ?_
  refine g_iload_n (pc := 4) hC dX11_cell_4 rfl ?_
  refine g_iadd (pc := 5) hC dX11_cell_5 ?_
  exact g_retp (pc := 6) hC h hR dX11_cell_6
set_option maxRecDepth 20000 in
theorem c_X1_lagOf (l : Launch) (E : uE) (a1 : Int32) (a2 : Int32) (σ : uS) (r : Int32) (h : F_X1_lagOf a1 a2 σ = some r) : CtI l E yX1_lagOf cX1_lagOf 3 (some .int) 1 22 [.ref (E.2.1 11), .int a1, .int a2] σ r σ := by
  refine enterI 0 [some (.ref (E.2.1 11)), some (.int a1), some (.int a2)] (by decide +kernel) rfl (Nat.le_of_ble_eq_true rfl) (fun o K hnL hC hab hR => ?_)
  have hC : Cx E K RX1 cX1_lagOf (some .int) 1 22 := hC
  have hN : ∀ k, k < 3 → k < K.2.2.2.2.2 := fun k hk => hnL ▸ hk
  delta F_X1_lagOf at h
  refine g_aload_n (pc := 0) hC dX1_lagOf_0 rfl ?_
  refine g_iload_n (pc := 1) hC dX1_lagOf_1 rfl ?_
  refine g_iload_n (pc := 2) hC dX1_lagOf_2 rfl ?_
  obtain ⟨v1, hc, h⟩ := cp_e h
  refine g_callVi (pc := 3) (As := [.int a1, .int a2]) (rest := []) hC (c_X1_has l E a1 a2 σ v1 hc) mi_X1_has mv_X1_has ob_11 rfl rfl lk_X1_36 rfl rfl (Nat.le_of_ble_eq_true rfl) ⟨by decide, by decide⟩ hab dX1_lagOf_3 ?_
  have hJ23 : ∀ (v5 : Int32), J_X1_lagOf_1 v5 = some r → Gd l E K 0 0 o σ 23 [none, none, none] [.int v5] := by
    intro v5 h
    delta J_X1_lagOf_1 at h
    exact g_retp (pc := 23) hC h hR dX1_lagOf_23
  refine g_if_eq (tgt := 22) (pc := 6) hC dX1_lagOf_6 (by decide) (fun c2 => ?_) (fun c2 => ?_)
  · replace h := it_t c2 h
    refine g_iconst (pc := 22) hC ki_0 dX1_lagOf_22 ?_
    refine g_mask [false, false, false] rfl ?_
    exact hJ23 0 h
  · replace h := it_f c2 h
    refine g_aload_n (pc := 9) hC dX1_lagOf_9 rfl ?_
    refine fg_X1_9_11 (pc := 10) hC dX1_lagOf_10 ?_
    refine g_iload_n (pc := 13) hC dX1_lagOf_13 rfl ?_
    refine g_iload_n (pc := 14) hC dX1_lagOf_14 rfl ?_
    obtain ⟨v3, hc, h⟩ := cp_e h
    refine g_callNi (pc := 15) (As := [.int a1, .int a2]) (rest := [.ref (E.2.1 12)]) hC (c_X11_cell l E a1 a2 σ v3 hc) mi_X11_cell ms_X11_cell lk_X1_40 rfl rfl (Nat.le_of_ble_eq_true rfl) ⟨by decide, by decide⟩ hab dX1_lagOf_15 ?_
    obtain ⟨v4, ev4, nv4, h⟩ := rd_e h
    refine g_iald (pc := 18) hC 12 (by decide) (ar_12 _ _ _) nv4 dX1_lagOf_18 ?_
    refine g_top ev4 ?_
    refine g_goto (tgt := 23) (pc := 19) hC dX1_lagOf_19 (by decide) ?_
    refine g_mask [false, false, false] rfl ?_
    exact hJ23 v4 h
set_option maxRecDepth 20000 in
theorem c_X1_ownOf (l : Launch) (E : uE) (a1 : Int32) (a2 : Int32) (σ : uS) (r : Int32) (h : F_X1_ownOf a1 a2 σ = some r) : CtI l E yX1_ownOf cX1_ownOf 3 (some .int) 1 22 [.ref (E.2.1 11), .int a1, .int a2] σ r σ := by
  refine enterI 0 [some (.ref (E.2.1 11)), some (.int a1), some (.int a2)] (by decide +kernel) rfl (Nat.le_of_ble_eq_true rfl) (fun o K hnL hC hab hR => ?_)
  have hC : Cx E K RX1 cX1_ownOf (some .int) 1 22 := hC
  have hN : ∀ k, k < 3 → k < K.2.2.2.2.2 := fun k hk => hnL ▸ hk
  delta F_X1_ownOf at h
  refine g_aload_n (pc := 0) hC dX1_ownOf_0 rfl ?_
  refine g_iload_n (pc := 1) hC dX1_ownOf_1 rfl ?_
  refine g_iload_n (pc := 2) hC dX1_ownOf_2 rfl ?_
  obtain ⟨v1, hc, h⟩ := cp_e h
  refine g_callVi (pc := 3) (As := [.int a1, .int a2]) (rest := []) hC (c_X1_has l E a1 a2 σ v1 hc) mi_X1_has mv_X1_has ob_11 rfl rfl lk_X1_36 rfl rfl (Nat.le_of_ble_eq_true rfl) ⟨by decide, by decide⟩ hab dX1_ownOf_3 ?_
  have hJ23 : ∀ (v5 : Int32), J_X1_ownOf_1 v5 = some r → Gd l E K 0 0 o σ 23 [none, none, none] [.int v5] := by
    intro v5 h
    delta J_X1_ownOf_1 at h
    exact g_retp (pc := 23) hC h hR dX1_ownOf_23
  refine g_if_eq (tgt := 22) (pc := 6) hC dX1_ownOf_6 (by decide) (fun c2 => ?_) (fun c2 => ?_)
  · replace h := it_t c2 h
    refine g_iconst (pc := 22) hC ki_0 dX1_ownOf_22 ?_
    refine g_mask [false, false, false] rfl ?_
    exact hJ23 0 h
  · replace h := it_f c2 h
    refine g_aload_n (pc := 9) hC dX1_ownOf_9 rfl ?_
    refine fg_X1_15_11 (pc := 10) hC dX1_ownOf_10 ?_
    refine g_iload_n (pc := 13) hC dX1_ownOf_13 rfl ?_
    refine g_iload_n (pc := 14) hC dX1_ownOf_14 rfl ?_
    obtain ⟨v3, hc, h⟩ := cp_e h
    refine g_callNi (pc := 15) (As := [.int a1, .int a2]) (rest := [.ref (E.2.1 13)]) hC (c_X11_cell l E a1 a2 σ v3 hc) mi_X11_cell ms_X11_cell lk_X1_40 rfl rfl (Nat.le_of_ble_eq_true rfl) ⟨by decide, by decide⟩ hab dX1_ownOf_15 ?_
    obtain ⟨v4, ev4, nv4, h⟩ := rd_e h
    refine g_iald (pc := 18) hC 13 (by decide) (ar_13 _ _ _) nv4 dX1_ownOf_18 ?_
    refine g_top ev4 ?_
    refine g_goto (tgt := 23) (pc := 19) hC dX1_ownOf_19 (by decide) ?_
    refine g_mask [false, false, false] rfl ?_
    exact hJ23 v4 h
set_option maxRecDepth 20000 in
theorem c_X1_halfOf (l : Launch) (E : uE) (a1 : Int32) (a2 : Int32) (σ : uS) (r : Int32) (h : F_X1_halfOf a1 a2 σ = some r) : CtI l E yX1_halfOf cX1_halfOf 3 (some .int) 1 22 [.ref (E.2.1 11), .int a1, .int a2] σ r σ := by
  refine enterI 0 [some (.ref (E.2.1 11)), some (.int a1), some (.int a2)] (by decide +kernel) rfl (Nat.le_of_ble_eq_true rfl) (fun o K hnL hC hab hR => ?_)
  have hC : Cx E K RX1 cX1_halfOf (some .int) 1 22 := hC
  have hN : ∀ k, k < 3 → k < K.2.2.2.2.2 := fun k hk => hnL ▸ hk
  delta F_X1_halfOf at h
  refine g_aload_n (pc := 0) hC dX1_halfOf_0 rfl ?_
  refine g_iload_n (pc := 1) hC dX1_halfOf_1 rfl ?_
  refine g_iload_n (pc := 2) hC dX1_halfOf_2 rfl ?_
  obtain ⟨v1, hc, h⟩ := cp_e h
  refine g_callVi (pc := 3) (As := [.int a1, .int a2]) (rest := []) hC (c_X1_has l E a1 a2 σ v1 hc) mi_X1_has mv_X1_has ob_11 rfl rfl lk_X1_36 rfl rfl (Nat.le_of_ble_eq_true rfl) ⟨by decide, by decide⟩ hab dX1_halfOf_3 ?_
  have hJ23 : ∀ (v5 : Int32), J_X1_halfOf_1 v5 = some r → Gd l E K 0 0 o σ 23 [none, none, none] [.int v5] := by
    intro v5 h
    delta J_X1_halfOf_1 at h
    exact g_retp (pc := 23) hC h hR dX1_halfOf_23
  refine g_if_eq (tgt := 22) (pc := 6) hC dX1_halfOf_6 (by decide) (fun c2 => ?_) (fun c2 => ?_)
  · replace h := it_t c2 h
    refine g_iconst (pc := 22) hC ki_m1 dX1_halfOf_22 ?_
    refine g_mask [false, false, false] rfl ?_
    exact hJ23 (-1) h
  · replace h := it_f c2 h
    refine g_aload_n (pc := 9) hC dX1_halfOf_9 rfl ?_
    refine fg_X1_18_11 (pc := 10) hC dX1_halfOf_10 ?_
    refine g_iload_n (pc := 13) hC dX1_halfOf_13 rfl ?_
    refine g_iload_n (pc := 14) hC dX1_halfOf_14 rfl ?_
    obtain ⟨v3, hc, h⟩ := cp_e h
    refine g_callNi (pc := 15) (As := [.int a1, .int a2]) (rest := [.ref (E.2.1 14)]) hC (c_X11_cell l E a1 a2 σ v3 hc) mi_X11_cell ms_X11_cell lk_X1_40 rfl rfl (Nat.le_of_ble_eq_true rfl) ⟨by decide, by decide⟩ hab dX1_halfOf_15 ?_
    obtain ⟨v4, ev4, nv4, h⟩ := rd_e h
    refine g_iald (pc := 18) hC 14 (by decide) (ar_14 _ _ _) nv4 dX1_halfOf_18 ?_
    refine g_top ev4 ?_
    refine g_goto (tgt := 23) (pc := 19) hC dX1_halfOf_19 (by decide) ?_
    refine g_mask [false, false, false] rfl ?_
    exact hJ23 v4 h
set_option maxRecDepth 20000 in
theorem c_X1_cheaperThan (l : Launch) (E : uE) (a1 : Int32) (a2 : Int32) (σ : uS) (r : Int32) (h : F_X1_cheaperThan a1 a2 σ = some r) : CtI l E yX1_cheaperThan cX1_cheaperThan 5 (some .int) 2 44 [.ref (E.2.1 11), .int a1, .int a2] σ r σ := by
  refine enterI 2 [some (.ref (E.2.1 11)), some (.int a1), some (.int a2), none, none] (by decide +kernel) rfl (Nat.le_of_ble_eq_true rfl) (fun o K hnL hC hab hR => ?_)
  have hC : Cx E K RX1 cX1_cheaperThan (some .int) 2 44 := hC
  have hN : ∀ k, k < 5 → k < K.2.2.2.2.2 := fun k hk => hnL ▸ hk
  delta F_X1_cheaperThan at h
  refine g_iconst (pc := 0) hC ki_0 dX1_cheaperThan_0 ?_
  refine g_istore_n (lv2 := [some (.ref (E.2.1 11)), some (.int a1), some (.int a2), some (.int 0), none]) (pc := 1) hC dX1_cheaperThan_1 rfl (Or.inr rfl) (hN _ (by decide)) ?_
  refine g_iconst (pc := 2) hC ki_0 dX1_cheaperThan_2 ?_
  refine g_istore (lv2 := [some (.ref (E.2.1 11)), some (.int a1), some (.int a2), some (.int 0), some (.int 0)]) (pc := 3) hC dX1_cheaperThan_3 rfl (Or.inr rfl) (hN _ (by decide)) ?_
  have hL1 : ∀ (n : Nat) (w1 : Int32) (w2 : Int32) (z1 : Int32), iter n (fun z => B_X1_cheaperThan_3 a1 a2 σ z.1 z.2) (w1, w2) = some z1 → (∀ (v3 : Int32), z1 = v3 → Gd l E K 0 0 o σ 40 [none, none, none, some (.int v3), none] []) → Gd l E K 0 0 o σ 5 [some (.ref (E.2.1 11)), some (.int a1), some (.int a2), some (.int w1), some (.int w2)] [] := by
    intro n
    induction n with
    | zero =>
      intro w1 w2 z1 hi
      exact (iter_0 hi).elim
    | succ n ih1 =>
      intro w1 w2 z1 hi1 kx1
      obtain ⟨r1, h, hi1⟩ := iter_s hi1
      replace h : B_X1_cheaperThan_3 a1 a2 σ w1 w2 = some r1 := h
      delta B_X1_cheaperThan_3 at h
      refine g_iload (pc := 5) hC dX1_cheaperThan_5 rfl ?_
      refine g_aload_n (pc := 7) hC dX1_cheaperThan_7 rfl ?_
      refine g_iload_n (pc := 8) hC dX1_cheaperThan_8 rfl ?_
      obtain ⟨v4, hc, h⟩ := cp_e h
      refine g_callVi (pc := 9) (As := [.int a1]) (rest := [.int w2]) hC (c_X1_sizeOf l E a1 σ v4 hc) mi_X1_sizeOf mv_X1_sizeOf ob_11 rfl rfl lk_X1_44 rfl rfl (Nat.le_of_ble_eq_true rfl) ⟨by decide, by decide⟩ hab dX1_cheaperThan_9 ?_
      refine g_icmp_ge (tgt := 40) (pc := 12) hC dX1_cheaperThan_12 (by decide) (fun c5 => ?_) (fun c5 => ?_)
      · replace h := it_t c5 h
        refine g_mask [false, false, false, true, false] rfl ?_
        exact kx1 w1 (iter_r h hi1)
      · replace h := it_f c5 h
        refine g_aload_n (pc := 15) hC dX1_cheaperThan_15 rfl ?_
        refine g_iload_n (pc := 16) hC dX1_cheaperThan_16 rfl ?_
        refine g_iload (pc := 17) hC dX1_cheaperThan_17 rfl ?_
        obtain ⟨v6, hc, h⟩ := cp_e h
        refine g_callVi (pc := 19) (As := [.int a1, .int w2]) (rest := []) hC (c_X1_ownOf l E a1 w2 σ v6 hc) mi_X1_ownOf mv_X1_ownOf ob_11 rfl rfl lk_X1_48 rfl rfl (Nat.le_of_ble_eq_true rfl) ⟨by decide, by decide⟩ hab dX1_cheaperThan_19 ?_
        refine g_aload_n (pc := 22) hC dX1_cheaperThan_22 rfl ?_
        refine g_iload_n (pc := 23) hC dX1_cheaperThan_23 rfl ?_
        refine g_iload_n (pc := 24) hC dX1_cheaperThan_24 rfl ?_
        obtain ⟨v7, hc, h⟩ := cp_e h
        refine g_callVi (pc := 25) (As := [.int a1, .int a2]) (rest := [.int v6]) hC (c_X1_ownOf l E a1 a2 σ v7 hc) mi_X1_ownOf mv_X1_ownOf ob_11 rfl rfl lk_X1_48 rfl rfl (Nat.le_of_ble_eq_true rfl) ⟨by decide, by decide⟩ hab dX1_cheaperThan_25 ?_
        have hJ34 : ∀ (v10 : Int32), J_X1_cheaperThan_2 w2 v10 = some r1 → Gd l E K 0 0 o σ 34 [some (.ref (E.2.1 11)), some (.int a1), some (.int a2), some (.int v10), some (.int w2)] [] := by
          intro v10 h
          delta J_X1_cheaperThan_2 at h
          obtain ⟨v11, ev11, h⟩ := lt_e h
          refine g_iinc (v := v11) (lv2 := [some (.ref (E.2.1 11)), some (.int a1), some (.int a2), some (.int v10), some (.int v11)]) (pc := 34) hC dX1_cheaperThan_34 rfl ev11 rfl (Or.inr rfl) (hN _ (by decide)) ?_
          refine g_goto (tgt := 5) (pc := 37) hC dX1_cheaperThan_37 (by decide) ?_
          exact ih1 v10 v11 z1 (iter_l h hi1) kx1
        refine g_icmp_ge (tgt := 34) (pc := 28) hC dX1_cheaperThan_28 (by decide) (fun c8 => ?_) (fun c8 => ?_)
        · replace h := it_t c8 h
          exact hJ34 w1 h
        · replace h := it_f c8 h
          obtain ⟨v9, ev9, h⟩ := lt_e h
          refine g_iinc (v := v9) (lv2 := [some (.ref (E.2.1 11)), some (.int a1), some (.int a2), some (.int v9), some (.int w2)]) (pc := 31) hC dX1_cheaperThan_31 rfl ev9 rfl (Or.inr rfl) (hN _ (by decide)) ?_
          exact hJ34 v9 h
  obtain ⟨z1, hz1, h⟩ := lp_e h
  refine hL1 FU 0 0 z1 hz1 (fun v3 ez => ?_)
  replace h : C_X1_cheaperThan_4 v3 = some r := by rw [ez] at h; exact h
  delta C_X1_cheaperThan_4 at h
  refine g_iload_n (pc := 40) hC dX1_cheaperThan_40 rfl ?_
  exact g_retp (pc := 41) hC h hR dX1_cheaperThan_41
set_option maxRecDepth 20000 in
theorem c_X1_isDip (l : Launch) (E : uE) (a1 : Int32) (a2 : Int32) (σ : uS) (r : Int32) (h : F_X1_isDip a1 a2 σ = some r) : CtI l E yX1_isDip cX1_isDip 4 (some .boolean) 1 22 [.ref (E.2.1 11), .int a1, .int a2] σ r σ := by
  refine enterI 1 [some (.ref (E.2.1 11)), some (.int a1), some (.int a2), none] (by decide +kernel) rfl (Nat.le_of_ble_eq_true rfl) (fun o K hnL hC hab hR => ?_)
  have hC : Cx E K RX1 cX1_isDip (some .boolean) 1 22 := hC
  have hN : ∀ k, k < 4 → k < K.2.2.2.2.2 := fun k hk => hnL ▸ hk
  delta F_X1_isDip at h
  refine g_aload_n (pc := 0) hC dX1_isDip_0 rfl ?_
  refine fg_X1_24_11 (pc := 1) hC dX1_isDip_1 ?_
  refine g_iload_n (pc := 4) hC dX1_isDip_4 rfl ?_
  refine g_iload_n (pc := 5) hC dX1_isDip_5 rfl ?_
  obtain ⟨v1, hc, h⟩ := cp_e h
  refine g_callVi (pc := 6) (As := [.int a1, .int a2]) (rest := []) hC (c_X2_relAt l E a1 a2 σ v1 hc) mi_X2_relAt mv_X2_relAt ob_6 rfl rfl lk_X1_89 rfl rfl (Nat.le_of_ble_eq_true rfl) ⟨by decide, by decide⟩ hab dX1_isDip_6 ?_
  refine g_istore_n (lv2 := [some (.ref (E.2.1 11)), some (.int a1), some (.int a2), some (.int v1)]) (pc := 9) hC dX1_isDip_9 rfl (Or.inr rfl) (hN _ (by decide)) ?_
  refine g_iload_n (pc := 10) hC dX1_isDip_10 rfl ?_
  refine g_aload_n (pc := 11) hC dX1_isDip_11 rfl ?_
  refine fg_X1_28_11 (pc := 12) hC dX1_isDip_12 ?_
  refine g_bipush (pc := 15) hC kb_6 dX1_isDip_15 ?_
  obtain ⟨v2, hc, h⟩ := cp_e h
  refine g_callVi (pc := 17) (As := [.int 6]) (rest := [.int v1]) hC (c_X0_of l E 6 σ v2 hc) mi_X0_of mv_X0_of ob_4 rfl rfl lk_X1_62 rfl rfl (Nat.le_of_ble_eq_true rfl) ⟨by decide, by decide⟩ hab dX1_isDip_17 ?_
  have hJ58 : ∀ (v8 : Int32), J_X1_isDip_2 v8 = some r → Gd l E K 0 0 o σ 58 [none, none, none, none] [.int v8] := by
    intro v8 h
    delta J_X1_isDip_2 at h
    obtain ⟨h01, h⟩ := bz_e h
    exact g_retzp (pc := 58) hC h01 h hR dX1_isDip_58
  have hJ57 : J_X1_isDip_1 = some r → Gd l E K 0 0 o σ 57 [none, none, none, none] [] := by
    intro h
    delta J_X1_isDip_1 at h
    refine g_iconst (pc := 57) hC ki_0 dX1_isDip_57 ?_
    exact hJ58 0 h
  refine g_icmp_gt (tgt := 57) (pc := 20) hC dX1_isDip_20 (by decide) (fun c3 => ?_) (fun c3 => ?_)
  · replace h := it_t c3 h
    refine g_mask [false, false, false, false] rfl ?_
    exact hJ57 h
  · replace h := it_f c3 h
    refine g_iload_n (pc := 23) hC dX1_isDip_23 rfl ?_
    refine g_aload_n (pc := 24) hC dX1_isDip_24 rfl ?_
    refine fg_X1_24_11 (pc := 25) hC dX1_isDip_25 ?_
    refine g_iload_n (pc := 28) hC dX1_isDip_28 rfl ?_
    refine g_iload_n (pc := 29) hC dX1_isDip_29 rfl ?_
    refine g_iconst (pc := 30) hC ki_1 dX1_isDip_30 ?_
    refine g_isub (pc := 31) hC dX1_isDip_31 ?_
    obtain ⟨v4, hc, h⟩ := cp_e h
    refine g_callVi (pc := 32) (As := [.int a1, .int (a2 - 1)]) (rest := [.int v1]) hC (c_X2_relAt l E a1 (a2 - 1) σ v4 hc) mi_X2_relAt mv_X2_relAt ob_6 rfl rfl lk_X1_89 rfl rfl (Nat.le_of_ble_eq_true rfl) ⟨by decide, by decide⟩ hab dX1_isDip_32 ?_
    refine g_icmp_ge (tgt := 57) (pc := 35) hC dX1_isDip_35 (by decide) (fun c5 => ?_) (fun c5 => ?_)
    · replace h := it_t c5 h
      refine g_mask [false, false, false, false] rfl ?_
      exact hJ57 h
    · replace h := it_f c5 h
      refine g_iload_n (pc := 38) hC dX1_isDip_38 rfl ?_
      refine g_aload_n (pc := 39) hC dX1_isDip_39 rfl ?_
      refine fg_X1_24_11 (pc := 40) hC dX1_isDip_40 ?_
      refine g_iload_n (pc := 43) hC dX1_isDip_43 rfl ?_
      refine g_iload_n (pc := 44) hC dX1_isDip_44 rfl ?_
      refine g_iconst (pc := 45) hC ki_1 dX1_isDip_45 ?_
      refine g_iadd (pc := 46) hC dX1_isDip_46 ?_
      obtain ⟨v6, hc, h⟩ := cp_e h
      refine g_callVi (pc := 47) (As := [.int a1, .int (a2 + 1)]) (rest := [.int v1]) hC (c_X2_relAt l E a1 (a2 + 1) σ v6 hc) mi_X2_relAt mv_X2_relAt ob_6 rfl rfl lk_X1_89 rfl rfl (Nat.le_of_ble_eq_true rfl) ⟨by decide, by decide⟩ hab dX1_isDip_47 ?_
      refine g_icmp_gt (tgt := 57) (pc := 50) hC dX1_isDip_50 (by decide) (fun c7 => ?_) (fun c7 => ?_)
      · replace h := it_t c7 h
        refine g_mask [false, false, false, false] rfl ?_
        exact hJ57 h
      · replace h := it_f c7 h
        refine g_iconst (pc := 53) hC ki_1 dX1_isDip_53 ?_
        refine g_goto (tgt := 58) (pc := 54) hC dX1_isDip_54 (by decide) ?_
        refine g_mask [false, false, false, false] rfl ?_
        exact hJ58 1 h
set_option maxRecDepth 20000 in
theorem c_X1_dropWorst (l : Launch) (E : uE) (a1 : Int32) (a2 : Int32) (σ : uS) (σr : uS) (h : F_X1_dropWorst a1 a2 σ = some σr) : CtV l E yX1_dropWorst cX1_dropWorst 5 1 22 [.ref (E.2.1 11), .int a1, .int a2] σ σr := by
  refine enterV 2 [some (.ref (E.2.1 11)), some (.int a1), some (.int a2), none, none] (by decide +kernel) rfl (Nat.le_of_ble_eq_true rfl) (fun o K hnL hC hab hR => ?_)
  have hC : Cx E K RX1 cX1_dropWorst none 1 22 := hC
  have hN : ∀ k, k < 5 → k < K.2.2.2.2.2 := fun k hk => hnL ▸ hk
  delta F_X1_dropWorst at h
  refine g_iconst (pc := 0) hC ki_0 dX1_dropWorst_0 ?_
  refine g_istore_n (lv2 := [some (.ref (E.2.1 11)), some (.int a1), some (.int a2), some (.int 0), none]) (pc := 1) hC dX1_dropWorst_1 rfl (Or.inr rfl) (hN _ (by decide)) ?_
  refine g_iconst (pc := 2) hC ki_1 dX1_dropWorst_2 ?_
  refine g_istore (lv2 := [some (.ref (E.2.1 11)), some (.int a1), some (.int a2), some (.int 0), some (.int 1)]) (pc := 3) hC dX1_dropWorst_3 rfl (Or.inr rfl) (hN _ (by decide)) ?_
  have hL1 : ∀ (n : Nat) (w1 : Int32) (w2 : Int32) (z1 : Int32), iter n (fun z => B_X1_dropWorst_2 a1 a2 σ z.1 z.2) (w1, w2) = some z1 → (∀ (v3 : Int32), z1 = v3 → Gd l E K 0 0 o σ 60 [some (.ref (E.2.1 11)), some (.int a1), some (.int a2), some (.int v3), none] []) → Gd l E K 0 0 o σ 5 [some (.ref (E.2.1 11)), some (.int a1), some (.int a2), some (.int w1), some (.int w2)] [] := by
    intro n
    induction n with
    | zero =>
      intro w1 w2 z1 hi
      exact (iter_0 hi).elim
    | succ n ih1 =>
      intro w1 w2 z1 hi1 kx1
      obtain ⟨r1, h, hi1⟩ := iter_s hi1
      replace h : B_X1_dropWorst_2 a1 a2 σ w1 w2 = some r1 := h
      delta B_X1_dropWorst_2 at h
      refine g_iload (pc := 5) hC dX1_dropWorst_5 rfl ?_
      refine g_iload_n (pc := 7) hC dX1_dropWorst_7 rfl ?_
      refine g_icmp_ge (tgt := 60) (pc := 8) hC dX1_dropWorst_8 (by decide) (fun c4 => ?_) (fun c4 => ?_)
      · replace h := it_t c4 h
        refine g_mask [true, true, true, true, false] rfl ?_
        exact kx1 w1 (iter_r h hi1)
      · replace h := it_f c4 h
        refine g_aload_n (pc := 11) hC dX1_dropWorst_11 rfl ?_
        refine fg_X1_24_11 (pc := 12) hC dX1_dropWorst_12 ?_
        refine g_iload_n (pc := 15) hC dX1_dropWorst_15 rfl ?_
        refine g_aload_n (pc := 16) hC dX1_dropWorst_16 rfl ?_
        refine fg_X1_9_11 (pc := 17) hC dX1_dropWorst_17 ?_
        refine g_iload_n (pc := 20) hC dX1_dropWorst_20 rfl ?_
        refine g_iload (pc := 21) hC dX1_dropWorst_21 rfl ?_
        obtain ⟨v5, hc, h⟩ := cp_e h
        refine g_callNi (pc := 23) (As := [.int a1, .int w2]) (rest := [.ref (E.2.1 12), .int a1, .ref (E.2.1 6)]) hC (c_X11_cell l E a1 w2 σ v5 hc) mi_X11_cell ms_X11_cell lk_X1_40 rfl rfl (Nat.le_of_ble_eq_true rfl) ⟨by decide, by decide⟩ hab dX1_dropWorst_23 ?_
        obtain ⟨v6, ev6, nv6, h⟩ := rd_e h
        refine g_iald (pc := 26) hC 12 (by decide) (ar_12 _ _ _) nv6 dX1_dropWorst_26 ?_
        refine g_top ev6 ?_
        obtain ⟨v7, hc, h⟩ := cp_e h
        refine g_callVi (pc := 27) (As := [.int a1, .int v6]) (rest := []) hC (c_X2_relAt l E a1 v6 σ v7 hc) mi_X2_relAt mv_X2_relAt ob_6 rfl rfl lk_X1_89 rfl rfl (Nat.le_of_ble_eq_true rfl) ⟨by decide, by decide⟩ hab dX1_dropWorst_27 ?_
        refine g_aload_n (pc := 30) hC dX1_dropWorst_30 rfl ?_
        refine fg_X1_24_11 (pc := 31) hC dX1_dropWorst_31 ?_
        refine g_iload_n (pc := 34) hC dX1_dropWorst_34 rfl ?_
        refine g_aload_n (pc := 35) hC dX1_dropWorst_35 rfl ?_
        refine fg_X1_9_11 (pc := 36) hC dX1_dropWorst_36 ?_
        refine g_iload_n (pc := 39) hC dX1_dropWorst_39 rfl ?_
        refine g_iload_n (pc := 40) hC dX1_dropWorst_40 rfl ?_
        obtain ⟨v8, hc, h⟩ := cp_e h
        refine g_callNi (pc := 41) (As := [.int a1, .int w1]) (rest := [.ref (E.2.1 12), .int a1, .ref (E.2.1 6), .int v7]) hC (c_X11_cell l E a1 w1 σ v8 hc) mi_X11_cell ms_X11_cell lk_X1_40 rfl rfl (Nat.le_of_ble_eq_true rfl) ⟨by decide, by decide⟩ hab dX1_dropWorst_41 ?_
        obtain ⟨v9, ev9, nv9, h⟩ := rd_e h
        refine g_iald (pc := 44) hC 12 (by decide) (ar_12 _ _ _) nv9 dX1_dropWorst_44 ?_
        refine g_top ev9 ?_
        obtain ⟨v10, hc, h⟩ := cp_e h
        refine g_callVi (pc := 45) (As := [.int a1, .int v9]) (rest := [.int v7]) hC (c_X2_relAt l E a1 v9 σ v10 hc) mi_X2_relAt mv_X2_relAt ob_6 rfl rfl lk_X1_89 rfl rfl (Nat.le_of_ble_eq_true rfl) ⟨by decide, by decide⟩ hab dX1_dropWorst_45 ?_
        obtain ⟨v12, ev12, h⟩ := lt_e h
        have hJ54 : Gd l E K 0 0 o σ 54 [some (.ref (E.2.1 11)), some (.int a1), some (.int a2), some (.int v12), some (.int w2)] [] := by
          obtain ⟨v13, ev13, h⟩ := lt_e h
          refine g_iinc (v := v13) (lv2 := [some (.ref (E.2.1 11)), some (.int a1), some (.int a2), some (.int v12), some (.int v13)]) (pc := 54) hC dX1_dropWorst_54 rfl ev13 rfl (Or.inr rfl) (hN _ (by decide)) ?_
          refine g_goto (tgt := 5) (pc := 57) hC dX1_dropWorst_57 (by decide) ?_
          exact ih1 v12 v13 z1 (iter_l h hi1) kx1
        refine g_icmp_lt (tgt := 54) (pc := 48) hC dX1_dropWorst_48 (by decide) (fun c11 => ?_) (fun c11 => ?_)
        · have e9 := (iv_t c11 ev12)
          rw [e9] at hJ54
          exact hJ54
        · refine g_iload (pc := 51) hC dX1_dropWorst_51 rfl ?_
          refine g_istore_n (lv2 := [some (.ref (E.2.1 11)), some (.int a1), some (.int a2), some (.int w2), some (.int w2)]) (pc := 53) hC dX1_dropWorst_53 rfl (Or.inr rfl) (hN _ (by decide)) ?_
          have e9 := (iv_f c11 ev12)
          rw [e9] at hJ54
          exact hJ54
  obtain ⟨z1, hz1, h⟩ := lp_e h
  refine hL1 FU 0 1 z1 hz1 (fun v3 ez => ?_)
  replace h : C_X1_dropWorst_6 a1 a2 σ v3 = some σr := by rw [ez] at h; exact h
  delta C_X1_dropWorst_6 at h
  refine g_iload_n (pc := 60) hC dX1_dropWorst_60 rfl ?_
  refine g_istore (lv2 := [some (.ref (E.2.1 11)), some (.int a1), some (.int a2), some (.int v3), some (.int v3)]) (pc := 61) hC dX1_dropWorst_61 rfl (Or.inr rfl) (hN _ (by decide)) ?_
  have hL3 : ∀ (n : Nat) (w14 : Int32) (σ15 : uS) (z3 : uS), iter n (fun z => B_X1_dropWorst_4 a1 a2 z.1 z.2) (w14, σ15) = some z3 → (∀ (σ16 : uS), z3 = σ16 → Gd l E K 0 0 o σ16 101 [none, none, none, none, none] []) → Gd l E K 0 0 o σ15 63 [some (.ref (E.2.1 11)), some (.int a1), some (.int a2), none, some (.int w14)] [] := by
    intro n
    induction n with
    | zero =>
      intro w14 σ15 z3 hi
      exact (iter_0 hi).elim
    | succ n ih3 =>
      intro w14 σ15 z3 hi3 kx3
      obtain ⟨r3, h, hi3⟩ := iter_s hi3
      replace h : B_X1_dropWorst_4 a1 a2 w14 σ15 = some r3 := h
      delta B_X1_dropWorst_4 at h
      refine g_iload (pc := 63) hC dX1_dropWorst_63 rfl ?_
      refine g_iconst (pc := 65) hC ki_1 dX1_dropWorst_65 ?_
      refine g_iadd (pc := 66) hC dX1_dropWorst_66 ?_
      refine g_iload_n (pc := 67) hC dX1_dropWorst_67 rfl ?_
      refine g_icmp_ge (tgt := 101) (pc := 68) hC dX1_dropWorst_68 (by decide) (fun c17 => ?_) (fun c17 => ?_)
      · replace h := it_t c17 h
        refine g_mask [false, false, false, false, false] rfl ?_
        exact kx3 σ15 (iter_r h hi3)
      · replace h := it_f c17 h
        refine g_aload_n (pc := 71) hC dX1_dropWorst_71 rfl ?_
        refine fg_X1_9_11 (pc := 72) hC dX1_dropWorst_72 ?_
        refine g_iload_n (pc := 75) hC dX1_dropWorst_75 rfl ?_
        refine g_iload (pc := 76) hC dX1_dropWorst_76 rfl ?_
        obtain ⟨v18, hc, h⟩ := cp_e h
        refine g_callNi (pc := 78) (As := [.int a1, .int w14]) (rest := [.ref (E.2.1 12)]) hC (c_X11_cell l E a1 w14 σ15 v18 hc) mi_X11_cell ms_X11_cell lk_X1_40 rfl rfl (Nat.le_of_ble_eq_true rfl) ⟨by decide, by decide⟩ hab dX1_dropWorst_78 ?_
        refine g_aload_n (pc := 81) hC dX1_dropWorst_81 rfl ?_
        refine fg_X1_9_11 (pc := 82) hC dX1_dropWorst_82 ?_
        refine g_iload_n (pc := 85) hC dX1_dropWorst_85 rfl ?_
        refine g_iload (pc := 86) hC dX1_dropWorst_86 rfl ?_
        refine g_iconst (pc := 88) hC ki_1 dX1_dropWorst_88 ?_
        refine g_iadd (pc := 89) hC dX1_dropWorst_89 ?_
        obtain ⟨v19, hc, h⟩ := cp_e h
        refine g_callNi (pc := 90) (As := [.int a1, .int (w14 + 1)]) (rest := [.ref (E.2.1 12), .int v18, .ref (E.2.1 12)]) hC (c_X11_cell l E a1 (w14 + 1) σ15 v19 hc) mi_X11_cell ms_X11_cell lk_X1_40 rfl rfl (Nat.le_of_ble_eq_true rfl) ⟨by decide, by decide⟩ hab dX1_dropWorst_90 ?_
        obtain ⟨v20, ev20, nv20, h⟩ := rd_e h
        refine g_iald (pc := 93) hC 12 (by decide) (ar_12 _ _ _) nv20 dX1_dropWorst_93 ?_
        refine g_top ev20 ?_
        obtain ⟨σ21, eσ21, nσ21, h⟩ := wr_e h
        refine g_iast (pc := 94) hC 12 (by decide) (ar_12 _ _) nσ21 dX1_dropWorst_94 eσ21 ?_
        obtain ⟨v22, ev22, h⟩ := lt_e h
        refine g_iinc (v := v22) (lv2 := [some (.ref (E.2.1 11)), some (.int a1), some (.int a2), none, some (.int v22)]) (pc := 95) hC dX1_dropWorst_95 rfl ev22 rfl (Or.inr rfl) (hN _ (by decide)) ?_
        refine g_goto (tgt := 63) (pc := 98) hC dX1_dropWorst_98 (by decide) ?_
        exact ih3 v22 σ21 z3 (iter_l h hi3) kx3
  obtain ⟨z3, hz3, h⟩ := lp_e h
  refine g_mask [true, true, true, false, true] rfl ?_
  refine hL3 FU v3 σ z3 hz3 (fun σ16 ez => ?_)
  replace h : C_X1_dropWorst_5 σ16 = some σr := by rw [ez] at h; exact h
  delta C_X1_dropWorst_5 at h
  exact g_retv (pc := 101) hC h hR dX1_dropWorst_101
set_option maxRecDepth 20000 in
theorem c_X1_keepDips (l : Launch) (E : uE) (a1 : Int32) (σ : uS) (r : Int32) (σr : uS) (h : F_X1_keepDips a1 σ = some (r, σr)) : CtI l E yX1_keepDips cX1_keepDips 6 (some .int) 2 46 [.ref (E.2.1 11), .int a1] σ r σr := by
  refine enterI 4 [some (.ref (E.2.1 11)), some (.int a1), none, none, none, none] (by decide +kernel) rfl (Nat.le_of_ble_eq_true rfl) (fun o K hnL hC hab hR => ?_)
  have hC : Cx E K RX1 cX1_keepDips (some .int) 2 46 := hC
  have hN : ∀ k, k < 6 → k < K.2.2.2.2.2 := fun k hk => hnL ▸ hk
  delta F_X1_keepDips at h
  refine g_iconst (pc := 0) hC ki_5 dX1_keepDips_0 ?_
  refine g_aload_n (pc := 1) hC dX1_keepDips_1 rfl ?_
  refine fg_X1_28_11 (pc := 2) hC dX1_keepDips_2 ?_
  refine g_bipush (pc := 5) hC kb_7 dX1_keepDips_5 ?_
  obtain ⟨v1, hc, h⟩ := cp_e h
  refine g_callVi (pc := 7) (As := [.int 7]) (rest := [.int 5]) hC (c_X0_of l E 7 σ v1 hc) mi_X0_of mv_X0_of ob_4 rfl rfl lk_X1_62 rfl rfl (Nat.le_of_ble_eq_true rfl) ⟨by decide, by decide⟩ hab dX1_keepDips_7 ?_
  obtain ⟨v2, hc, h⟩ := cp_e h
  refine g_callSi (pc := 10) (As := [.int 5, .int v1]) (rest := []) hC (c_J9_min_7cf53 l E 5 v1 σ v2 hc) mi_J9_min_7cf53 ms_J9_min_7cf53 lk_X1_77 rfl rfl (Nat.le_of_ble_eq_true rfl) ⟨by decide, by decide⟩ hab dX1_keepDips_10 ?_
  refine g_istore_n (lv2 := [some (.ref (E.2.1 11)), some (.int a1), some (.int v2), none, none, none]) (pc := 13) hC dX1_keepDips_13 rfl (Or.inr rfl) (hN _ (by decide)) ?_
  refine g_aload_n (pc := 14) hC dX1_keepDips_14 rfl ?_
  refine fg_X1_28_11 (pc := 15) hC dX1_keepDips_15 ?_
  refine g_iconst (pc := 18) hC ki_5 dX1_keepDips_18 ?_
  obtain ⟨v3, hc, h⟩ := cp_e h
  refine g_callVi (pc := 19) (As := [.int 5]) (rest := []) hC (c_X0_of l E 5 σ v3 hc) mi_X0_of mv_X0_of ob_4 rfl rfl lk_X1_62 rfl rfl (Nat.le_of_ble_eq_true rfl) ⟨by decide, by decide⟩ hab dX1_keepDips_19 ?_
  refine g_istore_n (lv2 := [some (.ref (E.2.1 11)), some (.int a1), some (.int v2), some (.int v3), none, none]) (pc := 22) hC dX1_keepDips_22 rfl (Or.inr rfl) (hN _ (by decide)) ?_
  refine g_iconst (pc := 23) hC ki_0 dX1_keepDips_23 ?_
  refine g_istore (lv2 := [some (.ref (E.2.1 11)), some (.int a1), some (.int v2), some (.int v3), some (.int 0), none]) (pc := 24) hC dX1_keepDips_24 rfl (Or.inr rfl) (hN _ (by decide)) ?_
  refine g_aload_n (pc := 26) hC dX1_keepDips_26 rfl ?_
  refine fg_X1_28_11 (pc := 27) hC dX1_keepDips_27 ?_
  refine g_iconst (pc := 30) hC ki_4 dX1_keepDips_30 ?_
  obtain ⟨v4, hc, h⟩ := cp_e h
  refine g_callVi (pc := 31) (As := [.int 4]) (rest := []) hC (c_X0_of l E 4 σ v4 hc) mi_X0_of mv_X0_of ob_4 rfl rfl lk_X1_62 rfl rfl (Nat.le_of_ble_eq_true rfl) ⟨by decide, by decide⟩ hab dX1_keepDips_31 ?_
  refine g_istore (lv2 := [some (.ref (E.2.1 11)), some (.int a1), some (.int v2), some (.int v3), some (.int 0), some (.int v4)]) (pc := 34) hC dX1_keepDips_34 rfl (Or.inr rfl) (hN _ (by decide)) ?_
  have hL1 : ∀ (n : Nat) (w5 : Int32) (w6 : Int32) (σ7 : uS) (z1 : Int32 × uS), iter n (fun z => B_X1_keepDips_3 a1 v2 v3 z.1 z.2.1 z.2.2) (w5, w6, σ7) = some z1 → (∀ (v8 : Int32) (σ9 : uS), z1 = (v8, σ9) → Gd l E K 0 0 o σ9 90 [none, none, none, none, some (.int v8), none] []) → Gd l E K 0 0 o σ7 36 [some (.ref (E.2.1 11)), some (.int a1), some (.int v2), some (.int v3), some (.int w5), some (.int w6)] [] := by
    intro n
    induction n with
    | zero =>
      intro w5 w6 σ7 z1 hi
      exact (iter_0 hi).elim
    | succ n ih1 =>
      intro w5 w6 σ7 z1 hi1 kx1
      obtain ⟨r1, h, hi1⟩ := iter_s hi1
      replace h : B_X1_keepDips_3 a1 v2 v3 w5 w6 σ7 = some r1 := h
      delta B_X1_keepDips_3 at h
      refine g_iload (pc := 36) hC dX1_keepDips_36 rfl ?_
      refine g_iload_n (pc := 38) hC dX1_keepDips_38 rfl ?_
      refine g_icmp_gt (tgt := 90) (pc := 39) hC dX1_keepDips_39 (by decide) (fun c10 => ?_) (fun c10 => ?_)
      · replace h := it_t c10 h
        refine g_mask [false, false, false, false, true, false] rfl ?_
        exact kx1 w5 σ7 (iter_r h hi1)
      · replace h := it_f c10 h
        refine g_aload_n (pc := 42) hC dX1_keepDips_42 rfl ?_
        refine g_iload_n (pc := 43) hC dX1_keepDips_43 rfl ?_
        refine g_iload (pc := 44) hC dX1_keepDips_44 rfl ?_
        obtain ⟨v11, hc, h⟩ := cp_e h
        refine g_callVi (pc := 46) (As := [.int a1, .int w6]) (rest := []) hC (c_X1_isDip l E a1 w6 σ7 v11 hc) mi_X1_isDip mv_X1_isDip ob_11 rfl rfl lk_X1_82 rfl rfl (Nat.le_of_ble_eq_true rfl) ⟨by decide, by decide⟩ hab dX1_keepDips_46 ?_
        have hJ84 : ∀ (v19 : Int32) (σ20 : uS), J_X1_keepDips_2 w6 v19 σ20 = some r1 → Gd l E K 0 0 o σ20 84 [some (.ref (E.2.1 11)), some (.int a1), some (.int v2), some (.int v3), some (.int v19), some (.int w6)] [] := by
          intro v19 σ20 h
          delta J_X1_keepDips_2 at h
          obtain ⟨v21, ev21, h⟩ := lt_e h
          refine g_iinc (v := v21) (lv2 := [some (.ref (E.2.1 11)), some (.int a1), some (.int v2), some (.int v3), some (.int v19), some (.int v21)]) (pc := 84) hC dX1_keepDips_84 rfl ev21 rfl (Or.inr rfl) (hN _ (by decide)) ?_
          refine g_goto (tgt := 36) (pc := 87) hC dX1_keepDips_87 (by decide) ?_
          exact ih1 v19 v21 σ20 z1 (iter_l h hi1) kx1
        refine g_if_eq (tgt := 84) (pc := 49) hC dX1_keepDips_49 (by decide) (fun c12 => ?_) (fun c12 => ?_)
        · replace h := it_t c12 h
          exact hJ84 w5 σ7 h
        · replace h := it_f c12 h
          refine g_aload_n (pc := 52) hC dX1_keepDips_52 rfl ?_
          refine fg_X1_9_11 (pc := 53) hC dX1_keepDips_53 ?_
          refine g_iload_n (pc := 56) hC dX1_keepDips_56 rfl ?_
          refine g_iload (pc := 57) hC dX1_keepDips_57 rfl ?_
          obtain ⟨v13, hc, h⟩ := cp_e h
          refine g_callNi (pc := 59) (As := [.int a1, .int w5]) (rest := [.ref (E.2.1 12)]) hC (c_X11_cell l E a1 w5 σ7 v13 hc) mi_X11_cell ms_X11_cell lk_X1_40 rfl rfl (Nat.le_of_ble_eq_true rfl) ⟨by decide, by decide⟩ hab dX1_keepDips_59 ?_
          refine g_iload (pc := 62) hC dX1_keepDips_62 rfl ?_
          obtain ⟨σ14, eσ14, nσ14, h⟩ := wr_e h
          refine g_iast (pc := 64) hC 12 (by decide) (ar_12 _ _) nσ14 dX1_keepDips_64 eσ14 ?_
          obtain ⟨v15, ev15, h⟩ := lt_e h
          refine g_iinc (v := v15) (lv2 := [some (.ref (E.2.1 11)), some (.int a1), some (.int v2), some (.int v3), some (.int v15), some (.int w6)]) (pc := 65) hC dX1_keepDips_65 rfl ev15 rfl (Or.inr rfl) (hN _ (by decide)) ?_
          refine g_iload (pc := 68) hC dX1_keepDips_68 rfl ?_
          refine g_iload_n (pc := 70) hC dX1_keepDips_70 rfl ?_
          refine g_icmp_le (tgt := 84) (pc := 71) hC dX1_keepDips_71 (by decide) (fun c16 => ?_) (fun c16 => ?_)
          · replace h := it_t c16 h
            exact hJ84 v15 σ14 h
          · replace h := it_f c16 h
            refine g_aload_n (pc := 74) hC dX1_keepDips_74 rfl ?_
            refine g_iload_n (pc := 75) hC dX1_keepDips_75 rfl ?_
            refine g_iload (pc := 76) hC dX1_keepDips_76 rfl ?_
            obtain ⟨σ17, hc, h⟩ := cp_e h
            refine g_callVv (pc := 78) (As := [.int a1, .int v15]) (rest := []) hC (c_X1_dropWorst l E a1 v15 σ14 σ17 hc) mi_X1_dropWorst mv_X1_dropWorst ob_11 rfl rfl lk_X1_85 rfl rfl (Nat.le_of_ble_eq_true rfl) ⟨by decide, by decide⟩ hab dX1_keepDips_78 ?_
            obtain ⟨v18, ev18, h⟩ := lt_e h
            refine g_iinc (v := v18) (lv2 := [some (.ref (E.2.1 11)), some (.int a1), some (.int v2), some (.int v3), some (.int v18), some (.int w6)]) (pc := 81) hC dX1_keepDips_81 rfl ev18 rfl (Or.inr rfl) (hN _ (by decide)) ?_
            exact hJ84 v18 σ17 h
  obtain ⟨z1, hz1, h⟩ := lp_e h
  refine hL1 FU 0 v4 σ z1 hz1 (fun v8 σ9 ez => ?_)
  replace h : C_X1_keepDips_4 v8 σ9 = some (r, σr) := by rw [ez] at h; exact h
  delta C_X1_keepDips_4 at h
  refine g_iload (pc := 90) hC dX1_keepDips_90 rfl ?_
  exact g_ret (pc := 92) hC h hR dX1_keepDips_92
set_option maxRecDepth 20000 in
theorem c_X1_ownCost (l : Launch) (E : uE) (a1 : Int32) (a2 : Int32) (σ : uS) (r : Int32) (h : F_X1_ownCost a1 a2 σ = some r) : CtI l E yX1_ownCost cX1_ownCost 3 (some .int) 1 22 [.ref (E.2.1 11), .int a1, .int a2] σ r σ := by
  refine enterI 0 [some (.ref (E.2.1 11)), some (.int a1), some (.int a2)] (by decide +kernel) rfl (Nat.le_of_ble_eq_true rfl) (fun o K hnL hC hab hR => ?_)
  have hC : Cx E K RX1 cX1_ownCost (some .int) 1 22 := hC
  have hN : ∀ k, k < 3 → k < K.2.2.2.2.2 := fun k hk => hnL ▸ hk
  delta F_X1_ownCost at h
  refine g_iload_n (pc := 0) hC dX1_ownCost_0 rfl ?_
  have hJ37 : ∀ (v5 : Int32), J_X1_ownCost_1 v5 = some r → Gd l E K 0 0 o σ 37 [none, none, none] [.int v5] := by
    intro v5 h
    delta J_X1_ownCost_1 at h
    exact g_retp (pc := 37) hC h hR dX1_ownCost_37
  refine g_if_ne (tgt := 16) (pc := 1) hC dX1_ownCost_1 (by decide) (fun c1 => ?_) (fun c1 => ?_)
  · replace h := it_f c1 h
    refine g_aload_n (pc := 16) hC dX1_ownCost_16 rfl ?_
    refine fg_X1_24_11 (pc := 17) hC dX1_ownCost_17 ?_
    refine g_iload_n (pc := 20) hC dX1_ownCost_20 rfl ?_
    refine g_iload_n (pc := 21) hC dX1_ownCost_21 rfl ?_
    obtain ⟨v2, hc, h⟩ := cp_e h
    refine g_callVi (pc := 22) (As := [.int a1, .int a2]) (rest := []) hC (c_X2_relAt l E a1 a2 σ v2 hc) mi_X2_relAt mv_X2_relAt ob_6 rfl rfl lk_X1_89 rfl rfl (Nat.le_of_ble_eq_true rfl) ⟨by decide, by decide⟩ hab dX1_ownCost_22 ?_
    refine g_aload_n (pc := 25) hC dX1_ownCost_25 rfl ?_
    refine fg_X1_28_11 (pc := 26) hC dX1_ownCost_26 ?_
    refine g_bipush (pc := 29) hC kb_8 dX1_ownCost_29 ?_
    obtain ⟨v3, hc, h⟩ := cp_e h
    refine g_callVi (pc := 31) (As := [.int 8]) (rest := [.int v2]) hC (c_X0_of l E 8 σ v3 hc) mi_X0_of mv_X0_of ob_4 rfl rfl lk_X1_62 rfl rfl (Nat.le_of_ble_eq_true rfl) ⟨by decide, by decide⟩ hab dX1_ownCost_31 ?_
    refine g_iload_n (pc := 34) hC dX1_ownCost_34 rfl ?_
    refine g_imul (pc := 35) hC dX1_ownCost_35 ?_
    refine g_iadd (pc := 36) hC dX1_ownCost_36 ?_
    refine g_mask [false, false, false] rfl ?_
    exact hJ37 (v2 + (v3 * a2)) h
  · replace h := it_t c1 h
    refine g_aload_n (pc := 4) hC dX1_ownCost_4 rfl ?_
    refine fg_X1_28_11 (pc := 5) hC dX1_ownCost_5 ?_
    refine g_bipush (pc := 8) hC kb_9 dX1_ownCost_8 ?_
    obtain ⟨v4, hc, h⟩ := cp_e h
    refine g_callVi (pc := 10) (As := [.int 9]) (rest := []) hC (c_X0_of l E 9 σ v4 hc) mi_X0_of mv_X0_of ob_4 rfl rfl lk_X1_62 rfl rfl (Nat.le_of_ble_eq_true rfl) ⟨by decide, by decide⟩ hab dX1_ownCost_10 ?_
    refine g_goto (tgt := 37) (pc := 13) hC dX1_ownCost_13 (by decide) ?_
    refine g_mask [false, false, false] rfl ?_
    exact hJ37 v4 h
set_option maxRecDepth 20000 in
theorem c_X1_findHalf (l : Launch) (E : uE) (a1 : Int32) (a2 : Int32) (σ : uS) (r : Int32) (h : F_X1_findHalf a1 a2 σ = some r) : CtI l E yX1_findHalf cX1_findHalf 6 (some .int) 2 44 [.ref (E.2.1 11), .int a1, .int a2] σ r σ := by
  refine enterI 3 [some (.ref (E.2.1 11)), some (.int a1), some (.int a2), none, none, none] (by decide +kernel) rfl (Nat.le_of_ble_eq_true rfl) (fun o K hnL hC hab hR => ?_)
  have hC : Cx E K RX1 cX1_findHalf (some .int) 2 44 := hC
  have hN : ∀ k, k < 6 → k < K.2.2.2.2.2 := fun k hk => hnL ▸ hk
  delta F_X1_findHalf at h
  refine g_aload_n (pc := 0) hC dX1_findHalf_0 rfl ?_
  refine g_iload_n (pc := 1) hC dX1_findHalf_1 rfl ?_
  refine g_iload_n (pc := 2) hC dX1_findHalf_2 rfl ?_
  obtain ⟨v1, hc, h⟩ := cp_e h
  refine g_callVi (pc := 3) (As := [.int a1, .int a2]) (rest := []) hC (c_X1_lagOf l E a1 a2 σ v1 hc) mi_X1_lagOf mv_X1_lagOf ob_11 rfl rfl lk_X1_68 rfl rfl (Nat.le_of_ble_eq_true rfl) ⟨by decide, by decide⟩ hab dX1_findHalf_3 ?_
  refine g_istore_n (lv2 := [some (.ref (E.2.1 11)), some (.int a1), some (.int a2), some (.int v1), none, none]) (pc := 6) hC dX1_findHalf_6 rfl (Or.inr rfl) (hN _ (by decide)) ?_
  refine g_iconst (pc := 7) hC ki_0 dX1_findHalf_7 ?_
  refine g_istore (lv2 := [some (.ref (E.2.1 11)), some (.int a1), some (.int a2), some (.int v1), some (.int 0), none]) (pc := 8) hC dX1_findHalf_8 rfl (Or.inr rfl) (hN _ (by decide)) ?_
  have hL1 : ∀ (n : Nat) (w2 : Int32) (z1 : (Unit) ⊕ (Int32)), iter n (fun z => B_X1_findHalf_3 a1 a2 v1 σ z) w2 = some z1 → (z1 = .inl () → Gd l E K 0 0 o σ 66 [none, none, none, none, none, none] []) → (∀ q, z1 = .inr q → some q = some r) → Gd l E K 0 0 o σ 10 [some (.ref (E.2.1 11)), some (.int a1), some (.int a2), some (.int v1), some (.int w2), none] [] := by
    intro n
    induction n with
    | zero =>
      intro w2 z1 hi
      exact (iter_0 hi).elim
    | succ n ih1 =>
      intro w2 z1 hi1 kx1 kr1
      obtain ⟨r1, h, hi1⟩ := iter_s hi1
      replace h : B_X1_findHalf_3 a1 a2 v1 σ w2 = some r1 := h
      delta B_X1_findHalf_3 at h
      refine g_iload (pc := 10) hC dX1_findHalf_10 rfl ?_
      refine g_aload_n (pc := 12) hC dX1_findHalf_12 rfl ?_
      refine g_iload_n (pc := 13) hC dX1_findHalf_13 rfl ?_
      obtain ⟨v3, hc, h⟩ := cp_e h
      refine g_callVi (pc := 14) (As := [.int a1]) (rest := [.int w2]) hC (c_X1_sizeOf l E a1 σ v3 hc) mi_X1_sizeOf mv_X1_sizeOf ob_11 rfl rfl lk_X1_44 rfl rfl (Nat.le_of_ble_eq_true rfl) ⟨by decide, by decide⟩ hab dX1_findHalf_14 ?_
      refine g_icmp_ge (tgt := 66) (pc := 17) hC dX1_findHalf_17 (by decide) (fun c4 => ?_) (fun c4 => ?_)
      · replace h := it_t c4 h
        refine g_mask [false, false, false, false, false, false] rfl ?_
        exact kx1 (iter_r h hi1)
      · replace h := it_f c4 h
        refine g_aload_n (pc := 20) hC dX1_findHalf_20 rfl ?_
        refine g_iload_n (pc := 21) hC dX1_findHalf_21 rfl ?_
        refine g_iload (pc := 22) hC dX1_findHalf_22 rfl ?_
        obtain ⟨v5, hc, h⟩ := cp_e h
        refine g_callVi (pc := 24) (As := [.int a1, .int w2]) (rest := []) hC (c_X1_lagOf l E a1 w2 σ v5 hc) mi_X1_lagOf mv_X1_lagOf ob_11 rfl rfl lk_X1_68 rfl rfl (Nat.le_of_ble_eq_true rfl) ⟨by decide, by decide⟩ hab dX1_findHalf_24 ?_
        refine g_istore (lv2 := [some (.ref (E.2.1 11)), some (.int a1), some (.int a2), some (.int v1), some (.int w2), some (.int v5)]) (pc := 27) hC dX1_findHalf_27 rfl (Or.inr rfl) (hN _ (by decide)) ?_
        refine g_iload (pc := 29) hC dX1_findHalf_29 rfl ?_
        refine g_iload_n (pc := 31) hC dX1_findHalf_31 rfl ?_
        have hJ60 : J_X1_findHalf_2 w2 = some r1 → Gd l E K 0 0 o σ 60 [some (.ref (E.2.1 11)), some (.int a1), some (.int a2), some (.int v1), some (.int w2), none] [] := by
          intro h
          delta J_X1_findHalf_2 at h
          obtain ⟨v11, ev11, h⟩ := lt_e h
          refine g_iinc (v := v11) (lv2 := [some (.ref (E.2.1 11)), some (.int a1), some (.int a2), some (.int v1), some (.int v11), none]) (pc := 60) hC dX1_findHalf_60 rfl ev11 rfl (Or.inr rfl) (hN _ (by decide)) ?_
          refine g_goto (tgt := 10) (pc := 63) hC dX1_findHalf_63 (by decide) ?_
          exact ih1 v11 z1 (iter_l h hi1) kx1 kr1
        refine g_icmp_eq (tgt := 60) (pc := 32) hC dX1_findHalf_32 (by decide) (fun c6 => ?_) (fun c6 => ?_)
        · replace h := it_t c6 h
          refine g_mask [true, true, true, true, true, false] rfl ?_
          exact hJ60 h
        · replace h := it_f c6 h
          refine g_iload (pc := 35) hC dX1_findHalf_35 rfl ?_
          refine g_if_eq (tgt := 60) (pc := 37) hC dX1_findHalf_37 (by decide) (fun c7 => ?_) (fun c7 => ?_)
          · replace h := it_t c7 h
            refine g_mask [true, true, true, true, true, false] rfl ?_
            exact hJ60 h
          · replace h := it_f c7 h
            refine g_iload_n (pc := 40) hC dX1_findHalf_40 rfl ?_
            refine g_if_eq (tgt := 60) (pc := 41) hC dX1_findHalf_41 (by decide) (fun c8 => ?_) (fun c8 => ?_)
            · replace h := it_t c8 h
              refine g_mask [true, true, true, true, true, false] rfl ?_
              exact hJ60 h
            · replace h := it_f c8 h
              refine g_iload_n (pc := 44) hC dX1_findHalf_44 rfl ?_
              refine g_iconst (pc := 45) hC ki_2 dX1_findHalf_45 ?_
              refine g_iload (pc := 46) hC dX1_findHalf_46 rfl ?_
              refine g_imul (pc := 48) hC dX1_findHalf_48 ?_
              refine g_isub (pc := 49) hC dX1_findHalf_49 ?_
              obtain ⟨v9, hc, h⟩ := cp_e h
              refine g_callSi (pc := 50) (As := [.int (v1 - (2 * v5))]) (rest := []) hC (c_J9_abs_0f7a4 l E (v1 - (2 * v5)) σ v9 hc) mi_J9_abs_0f7a4 ms_J9_abs_0f7a4 lk_X1_92 rfl rfl (Nat.le_of_ble_eq_true rfl) ⟨by decide, by decide⟩ hab dX1_findHalf_50 ?_
              refine g_iconst (pc := 53) hC ki_1 dX1_findHalf_53 ?_
              refine g_icmp_gt (tgt := 60) (pc := 54) hC dX1_findHalf_54 (by decide) (fun c10 => ?_) (fun c10 => ?_)
              · replace h := it_t c10 h
                refine g_mask [true, true, true, true, true, false] rfl ?_
                exact hJ60 h
              · replace h := it_f c10 h
                refine g_iload (pc := 57) hC dX1_findHalf_57 rfl ?_
                exact g_retp (pc := 59) hC (kr1 _ (iter_r h hi1)) hR dX1_findHalf_59
  obtain ⟨z1, hz1, h⟩ := lp_e h
  refine hL1 FU 0 z1 hz1 (fun ez => ?_) (fun q ez => by rw [ez] at h; exact h)
  replace h : C_X1_findHalf_4 = some r := by rw [ez] at h; exact h
  delta C_X1_findHalf_4 at h
  refine g_iconst (pc := 66) hC ki_m1 dX1_findHalf_66 ?_
  exact g_retp (pc := 67) hC h hR dX1_findHalf_67
set_option maxRecDepth 20000 in
theorem c_X1_find (l : Launch) (E : uE) (σ : uS) (σr : uS) (h : F_X1_find σ = some σr) : CtV l E yX1_find cX1_find 4 3 71 [.ref (E.2.1 11)] σ σr := by
  refine enterV 3 [some (.ref (E.2.1 11)), none, none, none] (by decide +kernel) rfl (Nat.le_of_ble_eq_true rfl) (fun o K hnL hC hab hR => ?_)
  have hC : Cx E K RX1 cX1_find none 3 71 := hC
  have hN : ∀ k, k < 4 → k < K.2.2.2.2.2 := fun k hk => hnL ▸ hk
  delta F_X1_find at h
  refine g_aload_n (pc := 0) hC dX1_find_0 rfl ?_
  refine g_aload_n (pc := 1) hC dX1_find_1 rfl ?_
  refine fg_X1_24_11 (pc := 2) hC dX1_find_2 ?_
  obtain ⟨v1, hc, h⟩ := cp_e h
  refine g_callVi (pc := 5) (As := []) (rest := [.ref (E.2.1 11)]) hC (c_X2_size l E σ v1 hc) mi_X2_size mv_X2_size ob_6 rfl rfl lk_X1_51 rfl rfl (Nat.le_of_ble_eq_true rfl) ⟨by decide, by decide⟩ hab dX1_find_5 ?_
  obtain ⟨σ2, eσ2, h⟩ := pf_e h
  refine fp_X1_32_11 (pc := 8) hC dX1_find_8 eσ2 ?_
  refine g_iconst (pc := 11) hC ki_0 dX1_find_11 ?_
  refine g_istore_n (lv2 := [some (.ref (E.2.1 11)), some (.int 0), none, none]) (pc := 12) hC dX1_find_12 rfl (Or.inr rfl) (hN _ (by decide)) ?_
  have hL1 : ∀ (n : Nat) (w3 : Int32) (σ4 : uS) (z1 : uS), iter n (fun z => B_X1_find_6 z.1 z.2) (w3, σ4) = some z1 → (∀ (σ5 : uS), z1 = σ5 → Gd l E K 0 0 o σ5 127 [none, none, none, none] []) → Gd l E K 0 0 o σ4 13 [some (.ref (E.2.1 11)), some (.int w3), none, none] [] := by
    intro n
    induction n with
    | zero =>
      intro w3 σ4 z1 hi
      exact (iter_0 hi).elim
    | succ n ih1 =>
      intro w3 σ4 z1 hi1 kx1
      obtain ⟨r1, h, hi1⟩ := iter_s hi1
      replace h : B_X1_find_6 w3 σ4 = some r1 := h
      delta B_X1_find_6 at h
      refine g_iload_n (pc := 13) hC dX1_find_13 rfl ?_
      refine g_aload_n (pc := 14) hC dX1_find_14 rfl ?_
      refine fg_X1_32_11 (pc := 15) hC dX1_find_15 ?_
      refine g_icmp_ge (tgt := 127) (pc := 18) hC dX1_find_18 (by decide) (fun c6 => ?_) (fun c6 => ?_)
      · replace h := it_t c6 h
        refine g_mask [false, false, false, false] rfl ?_
        exact kx1 σ4 (iter_r h hi1)
      · replace h := it_f c6 h
        refine g_aload_n (pc := 21) hC dX1_find_21 rfl ?_
        refine fg_X1_24_11 (pc := 22) hC dX1_find_22 ?_
        refine g_iload_n (pc := 25) hC dX1_find_25 rfl ?_
        obtain ⟨v7, hc, h⟩ := cp_e h
        refine g_callVi (pc := 26) (As := [.int w3]) (rest := []) hC (c_X2_loudAt l E w3 σ4 v7 hc) mi_X2_loudAt mv_X2_loudAt ob_6 rfl rfl lk_X1_57 rfl rfl (Nat.le_of_ble_eq_true rfl) ⟨by decide, by decide⟩ hab dX1_find_26 ?_
        refine g_aload_n (pc := 29) hC dX1_find_29 rfl ?_
        refine fg_X1_28_11 (pc := 30) hC dX1_find_30 ?_
        refine g_bipush (pc := 33) hC kb_14 dX1_find_33 ?_
        obtain ⟨v8, hc, h⟩ := cp_e h
        refine g_callVi (pc := 35) (As := [.int 14]) (rest := [.int v7]) hC (c_X0_of l E 14 σ4 v8 hc) mi_X0_of mv_X0_of ob_4 rfl rfl lk_X1_62 rfl rfl (Nat.le_of_ble_eq_true rfl) ⟨by decide, by decide⟩ hab dX1_find_35 ?_
        have hJ50 : ∀ (v12 : Int32) (σ13 : uS), J_X1_find_5 w3 v12 σ13 = some r1 → Gd l E K 0 0 o σ13 50 [some (.ref (E.2.1 11)), some (.int w3), none, none] [.int v12] := by
          intro v12 σ13 h
          delta J_X1_find_5 at h
          refine g_istore_n (lv2 := [some (.ref (E.2.1 11)), some (.int w3), some (.int v12), none]) (pc := 50) hC dX1_find_50 rfl (Or.inr rfl) (hN _ (by decide)) ?_
          refine g_aload_n (pc := 51) hC dX1_find_51 rfl ?_
          refine fg_X1_9_11 (pc := 52) hC dX1_find_52 ?_
          refine g_iload_n (pc := 55) hC dX1_find_55 rfl ?_
          refine g_iload_n (pc := 56) hC dX1_find_56 rfl ?_
          obtain ⟨v14, hc, h⟩ := cp_e h
          refine g_callNi (pc := 57) (As := [.int w3, .int v12]) (rest := [.ref (E.2.1 12)]) hC (c_X11_cell l E w3 v12 σ13 v14 hc) mi_X11_cell ms_X11_cell lk_X1_40 rfl rfl (Nat.le_of_ble_eq_true rfl) ⟨by decide, by decide⟩ hab dX1_find_57 ?_
          refine g_iconst (pc := 60) hC ki_0 dX1_find_60 ?_
          obtain ⟨σ15, eσ15, nσ15, h⟩ := wr_e h
          refine g_iast (pc := 61) hC 12 (by decide) (ar_12 _ _) nσ15 dX1_find_61 eσ15 ?_
          refine g_aload_n (pc := 62) hC dX1_find_62 rfl ?_
          refine fg_X1_21_11 (pc := 63) hC dX1_find_63 ?_
          refine g_iload_n (pc := 66) hC dX1_find_66 rfl ?_
          refine g_iload_n (pc := 67) hC dX1_find_67 rfl ?_
          refine g_iconst (pc := 68) hC ki_1 dX1_find_68 ?_
          refine g_iadd (pc := 69) hC dX1_find_69 ?_
          obtain ⟨σ16, eσ16, nσ16, h⟩ := wr_e h
          refine g_iast (pc := 70) hC 15 (by decide) (ar_15 _ _) nσ16 dX1_find_70 eσ16 ?_
          refine g_iconst (pc := 71) hC ki_0 dX1_find_71 ?_
          refine g_istore_n (lv2 := [some (.ref (E.2.1 11)), some (.int w3), some (.int v12), some (.int 0)]) (pc := 72) hC dX1_find_72 rfl (Or.inr rfl) (hN _ (by decide)) ?_
          have hL2 : ∀ (n : Nat) (w17 : Int32) (σ18 : uS) (z2 : uS), iter n (fun z => B_X1_find_3 v12 w3 z.1 z.2) (w17, σ18) = some z2 → (∀ (σ19 : uS), z2 = σ19 → Gd l E K 0 0 o σ19 121 [some (.ref (E.2.1 11)), some (.int w3), none, none] []) → Gd l E K 0 0 o σ18 73 [some (.ref (E.2.1 11)), some (.int w3), some (.int v12), some (.int w17)] [] := by
            intro n
            induction n with
            | zero =>
              intro w17 σ18 z2 hi
              exact (iter_0 hi).elim
            | succ n ih2 =>
              intro w17 σ18 z2 hi2 kx2
              obtain ⟨r2, h, hi2⟩ := iter_s hi2
              replace h : B_X1_find_3 v12 w3 w17 σ18 = some r2 := h
              delta B_X1_find_3 at h
              refine g_iload_n (pc := 73) hC dX1_find_73 rfl ?_
              refine g_iload_n (pc := 74) hC dX1_find_74 rfl ?_
              refine g_icmp_gt (tgt := 121) (pc := 75) hC dX1_find_75 (by decide) (fun c20 => ?_) (fun c20 => ?_)
              · replace h := it_t c20 h
                refine g_mask [true, true, false, false] rfl ?_
                exact kx2 σ18 (iter_r h hi2)
              · replace h := it_f c20 h
                refine g_aload_n (pc := 78) hC dX1_find_78 rfl ?_
                refine fg_X1_15_11 (pc := 79) hC dX1_find_79 ?_
                refine g_iload_n (pc := 82) hC dX1_find_82 rfl ?_
                refine g_iload_n (pc := 83) hC dX1_find_83 rfl ?_
                obtain ⟨v21, hc, h⟩ := cp_e h
                refine g_callNi (pc := 84) (As := [.int w3, .int w17]) (rest := [.ref (E.2.1 13)]) hC (c_X11_cell l E w3 w17 σ18 v21 hc) mi_X11_cell ms_X11_cell lk_X1_40 rfl rfl (Nat.le_of_ble_eq_true rfl) ⟨by decide, by decide⟩ hab dX1_find_84 ?_
                refine g_aload_n (pc := 87) hC dX1_find_87 rfl ?_
                refine g_iload_n (pc := 88) hC dX1_find_88 rfl ?_
                refine g_aload_n (pc := 89) hC dX1_find_89 rfl ?_
                refine g_iload_n (pc := 90) hC dX1_find_90 rfl ?_
                refine g_iload_n (pc := 91) hC dX1_find_91 rfl ?_
                obtain ⟨v22, hc, h⟩ := cp_e h
                refine g_callVi (pc := 92) (As := [.int w3, .int w17]) (rest := [.int w3, .ref (E.2.1 11), .int v21, .ref (E.2.1 13)]) hC (c_X1_lagOf l E w3 w17 σ18 v22 hc) mi_X1_lagOf mv_X1_lagOf ob_11 rfl rfl lk_X1_68 rfl rfl (Nat.le_of_ble_eq_true rfl) ⟨by decide, by decide⟩ hab dX1_find_92 ?_
                obtain ⟨v23, hc, h⟩ := cp_e h
                refine g_callVi (pc := 95) (As := [.int w3, .int v22]) (rest := [.int v21, .ref (E.2.1 13)]) hC (c_X1_ownCost l E w3 v22 σ18 v23 hc) mi_X1_ownCost mv_X1_ownCost ob_11 rfl rfl lk_X1_71 rfl rfl (Nat.le_of_ble_eq_true rfl) ⟨by decide, by decide⟩ hab dX1_find_95 ?_
                obtain ⟨σ24, eσ24, nσ24, h⟩ := wr_e h
                refine g_iast (pc := 98) hC 13 (by decide) (ar_13 _ _) nσ24 dX1_find_98 eσ24 ?_
                refine g_aload_n (pc := 99) hC dX1_find_99 rfl ?_
                refine fg_X1_18_11 (pc := 100) hC dX1_find_100 ?_
                refine g_iload_n (pc := 103) hC dX1_find_103 rfl ?_
                refine g_iload_n (pc := 104) hC dX1_find_104 rfl ?_
                obtain ⟨v25, hc, h⟩ := cp_e h
                refine g_callNi (pc := 105) (As := [.int w3, .int w17]) (rest := [.ref (E.2.1 14)]) hC (c_X11_cell l E w3 w17 σ24 v25 hc) mi_X11_cell ms_X11_cell lk_X1_40 rfl rfl (Nat.le_of_ble_eq_true rfl) ⟨by decide, by decide⟩ hab dX1_find_105 ?_
                refine g_aload_n (pc := 108) hC dX1_find_108 rfl ?_
                refine g_iload_n (pc := 109) hC dX1_find_109 rfl ?_
                refine g_iload_n (pc := 110) hC dX1_find_110 rfl ?_
                obtain ⟨v26, hc, h⟩ := cp_e h
                refine g_callVi (pc := 111) (As := [.int w3, .int w17]) (rest := [.int v25, .ref (E.2.1 14)]) hC (c_X1_findHalf l E w3 w17 σ24 v26 hc) mi_X1_findHalf mv_X1_findHalf ob_11 rfl rfl lk_X1_74 rfl rfl (Nat.le_of_ble_eq_true rfl) ⟨by decide, by decide⟩ hab dX1_find_111 ?_
                obtain ⟨σ27, eσ27, nσ27, h⟩ := wr_e h
                refine g_iast (pc := 114) hC 14 (by decide) (ar_14 _ _) nσ27 dX1_find_114 eσ27 ?_
                obtain ⟨v28, ev28, h⟩ := lt_e h
                refine g_iinc (v := v28) (lv2 := [some (.ref (E.2.1 11)), some (.int w3), some (.int v12), some (.int v28)]) (pc := 115) hC dX1_find_115 rfl ev28 rfl (Or.inr rfl) (hN _ (by decide)) ?_
                refine g_goto (tgt := 73) (pc := 118) hC dX1_find_118 (by decide) ?_
                exact ih2 v28 σ27 z2 (iter_l h hi2) kx2
          obtain ⟨z2, hz2, h⟩ := lp_e h
          refine hL2 FU 0 σ16 z2 hz2 (fun σ19 ez => ?_)
          replace h : C_X1_find_4 w3 σ19 = some r1 := by rw [ez] at h; exact h
          delta C_X1_find_4 at h
          obtain ⟨v29, ev29, h⟩ := lt_e h
          refine g_iinc (v := v29) (lv2 := [some (.ref (E.2.1 11)), some (.int v29), none, none]) (pc := 121) hC dX1_find_121 rfl ev29 rfl (Or.inr rfl) (hN _ (by decide)) ?_
          refine g_goto (tgt := 13) (pc := 124) hC dX1_find_124 (by decide) ?_
          exact ih1 v29 σ19 z1 (iter_l h hi1) kx1
        refine g_icmp_ge (tgt := 45) (pc := 38) hC dX1_find_38 (by decide) (fun c9 => ?_) (fun c9 => ?_)
        · replace h := it_t c9 h
          refine g_aload_n (pc := 45) hC dX1_find_45 rfl ?_
          refine g_iload_n (pc := 46) hC dX1_find_46 rfl ?_
          obtain ⟨v11, σ10, hc, h⟩ := cl_e h
          refine g_callVi (pc := 47) (As := [.int w3]) (rest := []) hC (c_X1_keepDips l E w3 σ4 v11 σ10 hc) mi_X1_keepDips mv_X1_keepDips ob_11 rfl rfl lk_X1_65 rfl rfl (Nat.le_of_ble_eq_true rfl) ⟨by decide, by decide⟩ hab dX1_find_47 ?_
          exact hJ50 v11 σ10 h
        · replace h := it_f c9 h
          refine g_iconst (pc := 41) hC ki_0 dX1_find_41 ?_
          refine g_goto (tgt := 50) (pc := 42) hC dX1_find_42 (by decide) ?_
          exact hJ50 0 σ4 h
  obtain ⟨z1, hz1, h⟩ := lp_e h
  refine hL1 FU 0 σ2 z1 hz1 (fun σ5 ez => ?_)
  replace h : C_X1_find_7 σ5 = some σr := by rw [ez] at h; exact h
  delta C_X1_find_7 at h
  exact g_retv (pc := 127) hC h hR dX1_find_127
set_option maxRecDepth 20000 in
theorem c_X9_setBy_17_4 (l : Launch) (E : uE) (σ : uS) (σr : uS) (h : F_X9_setBy_17_4 σ = some σr) : CtV l E yX9_setBy cX9_setBy 2 1 23 [.ref (E.2.1 17), .ref (E.2.1 4)] σ σr := by
  refine enterV 0 [some (.ref (E.2.1 17)), some (.ref (E.2.1 4))] (by decide +kernel) rfl (Nat.le_of_ble_eq_true rfl) (fun o K hnL hC hab hR => ?_)
  have hC : Cx E K RX9 cX9_setBy none 1 23 := hC
  have hN : ∀ k, k < 2 → k < K.2.2.2.2.2 := fun k hk => hnL ▸ hk
  delta F_X9_setBy_17_4 at h
  refine g_aload_n (pc := 0) hC dX9_setBy_0 rfl ?_
  refine g_aload_n (pc := 1) hC dX9_setBy_1 rfl ?_
  refine g_bipush (pc := 2) hC kb_10 dX9_setBy_2 ?_
  obtain ⟨v1, hc, h⟩ := cp_e h
  refine g_callVi (pc := 4) (As := [.int 10]) (rest := [.ref (E.2.1 17)]) hC (c_X0_of l E 10 σ v1 hc) mi_X0_of mv_X0_of ob_4 rfl rfl lk_X9_23 rfl rfl (Nat.le_of_ble_eq_true rfl) ⟨by decide, by decide⟩ hab dX9_setBy_4 ?_
  refine g_aload_n (pc := 7) hC dX9_setBy_7 rfl ?_
  refine g_bipush (pc := 8) hC kb_11 dX9_setBy_8 ?_
  obtain ⟨v2, hc, h⟩ := cp_e h
  refine g_callVi (pc := 10) (As := [.int 11]) (rest := [.int v1, .ref (E.2.1 17)]) hC (c_X0_of l E 11 σ v2 hc) mi_X0_of mv_X0_of ob_4 rfl rfl lk_X9_23 rfl rfl (Nat.le_of_ble_eq_true rfl) ⟨by decide, by decide⟩ hab dX9_setBy_10 ?_
  refine g_aload_n (pc := 13) hC dX9_setBy_13 rfl ?_
  refine g_bipush (pc := 14) hC kb_12 dX9_setBy_14 ?_
  obtain ⟨v3, hc, h⟩ := cp_e h
  refine g_callVi (pc := 16) (As := [.int 12]) (rest := [.int v2, .int v1, .ref (E.2.1 17)]) hC (c_X0_of l E 12 σ v3 hc) mi_X0_of mv_X0_of ob_4 rfl rfl lk_X9_23 rfl rfl (Nat.le_of_ble_eq_true rfl) ⟨by decide, by decide⟩ hab dX9_setBy_16 ?_
  obtain ⟨σ4, hc, h⟩ := cp_e h
  refine g_callVv (pc := 19) (As := [.int v1, .int v2, .int v3]) (rest := []) hC (c_X9_set_17 l E v1 v2 v3 σ σ4 hc) mi_X9_set mv_X9_set ob_17 rfl rfl lk_X9_27 rfl rfl (Nat.le_of_ble_eq_true rfl) ⟨by decide, by decide⟩ hab dX9_setBy_19 ?_
  exact g_retv (pc := 22) hC h hR dX9_setBy_22
set_option maxRecDepth 20000 in
theorem c_X5_findHeads (l : Launch) (E : uE) (a1 : Int32) (σ : uS) (σr : uS) (h : F_X5_findHeads a1 σ = some σr) : CtV l E yX5_findHeads cX5_findHeads 8 2 44 [.ref (E.2.1 16), .int a1] σ σr := by
  refine enterV 6 [some (.ref (E.2.1 16)), some (.int a1), none, none, none, none, none, none] (by decide +kernel) rfl (Nat.le_of_ble_eq_true rfl) (fun o K hnL hC hab hR => ?_)
  have hC : Cx E K RX5 cX5_findHeads none 2 44 := hC
  have hN : ∀ k, k < 8 → k < K.2.2.2.2.2 := fun k hk => hnL ▸ hk
  delta F_X5_findHeads at h
  refine g_iconst (pc := 0) hC ki_0 dX5_findHeads_0 ?_
  refine g_istore_n (lv2 := [some (.ref (E.2.1 16)), some (.int a1), some (.int 0), none, none, none, none, none]) (pc := 1) hC dX5_findHeads_1 rfl (Or.inr rfl) (hN _ (by decide)) ?_
  have hL1 : ∀ (n : Nat) (w1 : Int32) (σ2 : uS) (z1 : uS), iter n (fun z => B_X5_findHeads_7 a1 z.1 z.2) (w1, σ2) = some z1 → (∀ (σ3 : uS), z1 = σ3 → Gd l E K 0 0 o σ3 190 [none, none, none, none, none, none, none, none] []) → Gd l E K 0 0 o σ2 2 [some (.ref (E.2.1 16)), some (.int a1), some (.int w1), none, none, none, none, none] [] := by
    intro n
    induction n with
    | zero =>
      intro w1 σ2 z1 hi
      exact (iter_0 hi).elim
    | succ n ih1 =>
      intro w1 σ2 z1 hi1 kx1
      obtain ⟨r1, h, hi1⟩ := iter_s hi1
      replace h : B_X5_findHeads_7 a1 w1 σ2 = some r1 := h
      delta B_X5_findHeads_7 at h
      refine g_iload_n (pc := 2) hC dX5_findHeads_2 rfl ?_
      refine g_aload_n (pc := 3) hC dX5_findHeads_3 rfl ?_
      refine fg_X5_46_16 (pc := 4) hC dX5_findHeads_4 ?_
      refine g_iload_n (pc := 7) hC dX5_findHeads_7 rfl ?_
      obtain ⟨v4, hc, h⟩ := cp_e h
      refine g_callVi (pc := 8) (As := [.int a1]) (rest := [.int w1]) hC (c_X1_sizeOf l E a1 σ2 v4 hc) mi_X1_sizeOf mv_X1_sizeOf ob_11 rfl rfl lk_X5_114 rfl rfl (Nat.le_of_ble_eq_true rfl) ⟨by decide, by decide⟩ hab dX5_findHeads_8 ?_
      refine g_icmp_ge (tgt := 190) (pc := 11) hC dX5_findHeads_11 (by decide) (fun c5 => ?_) (fun c5 => ?_)
      · replace h := it_t c5 h
        refine g_mask [false, false, false, false, false, false, false, false] rfl ?_
        exact kx1 σ2 (iter_r h hi1)
      · replace h := it_f c5 h
        refine g_aload_n (pc := 14) hC dX5_findHeads_14 rfl ?_
        refine fg_X5_46_16 (pc := 15) hC dX5_findHeads_15 ?_
        refine g_iload_n (pc := 18) hC dX5_findHeads_18 rfl ?_
        refine g_iload_n (pc := 19) hC dX5_findHeads_19 rfl ?_
        obtain ⟨v6, hc, h⟩ := cp_e h
        refine g_callVi (pc := 20) (As := [.int a1, .int w1]) (rest := []) hC (c_X1_lagOf l E a1 w1 σ2 v6 hc) mi_X1_lagOf mv_X1_lagOf ob_11 rfl rfl lk_X5_82 rfl rfl (Nat.le_of_ble_eq_true rfl) ⟨by decide, by decide⟩ hab dX5_findHeads_20 ?_
        refine g_istore_n (lv2 := [some (.ref (E.2.1 16)), some (.int a1), some (.int w1), some (.int v6), none, none, none, none]) (pc := 23) hC dX5_findHeads_23 rfl (Or.inr rfl) (hN _ (by decide)) ?_
        refine g_iconst (pc := 24) hC ki_0 dX5_findHeads_24 ?_
        refine g_istore (lv2 := [some (.ref (E.2.1 16)), some (.int a1), some (.int w1), some (.int v6), some (.int 0), none, none, none]) (pc := 25) hC dX5_findHeads_25 rfl (Or.inr rfl) (hN _ (by decide)) ?_
        refine g_iconst (pc := 27) hC ki_0 dX5_findHeads_27 ?_
        refine g_istore (lv2 := [some (.ref (E.2.1 16)), some (.int a1), some (.int w1), some (.int v6), some (.int 0), some (.int 0), none, none]) (pc := 28) hC dX5_findHeads_28 rfl (Or.inr rfl) (hN _ (by decide)) ?_
        refine g_iconst (pc := 30) hC ki_0 dX5_findHeads_30 ?_
        refine g_istore (lv2 := [some (.ref (E.2.1 16)), some (.int a1), some (.int w1), some (.int v6), some (.int 0), some (.int 0), some (.int 0), none]) (pc := 31) hC dX5_findHeads_31 rfl (Or.inr rfl) (hN _ (by decide)) ?_
        have hL2 : ∀ (n : Nat) (w7 : Int32) (w8 : Int32) (w9 : Int32) (z2 : Int32 × Int32), iter n (fun z => B_X5_findHeads_5 a1 v6 σ2 z.1 z.2.1 z.2.2) (w7, w8, w9) = some z2 → (∀ (v10 : Int32) (v11 : Int32), z2 = (v10, v11) → Gd l E K 0 0 o σ2 150 [some (.ref (E.2.1 16)), some (.int a1), some (.int w1), none, some (.int v10), some (.int v11), none, none] []) → Gd l E K 0 0 o σ2 33 [some (.ref (E.2.1 16)), some (.int a1), some (.int w1), some (.int v6), some (.int w7), some (.int w8), some (.int w9), none] [] := by
          intro n
          induction n with
          | zero =>
            intro w7 w8 w9 z2 hi
            exact (iter_0 hi).elim
          | succ n ih2 =>
            intro w7 w8 w9 z2 hi2 kx2
            obtain ⟨r2, h, hi2⟩ := iter_s hi2
            replace h : B_X5_findHeads_5 a1 v6 σ2 w7 w8 w9 = some r2 := h
            delta B_X5_findHeads_5 at h
            refine g_iload_n (pc := 33) hC dX5_findHeads_33 rfl ?_
            refine g_if_le (tgt := 150) (pc := 34) hC dX5_findHeads_34 (by decide) (fun c12 => ?_) (fun c12 => ?_)
            · replace h := it_t c12 h
              refine g_mask [true, true, true, false, true, true, false, false] rfl ?_
              exact kx2 w7 w8 (iter_r h hi2)
            · replace h := it_f c12 h
              refine g_iload (pc := 37) hC dX5_findHeads_37 rfl ?_
              refine g_aload_n (pc := 39) hC dX5_findHeads_39 rfl ?_
              refine fg_X5_46_16 (pc := 40) hC dX5_findHeads_40 ?_
              refine g_iload_n (pc := 43) hC dX5_findHeads_43 rfl ?_
              refine g_iconst (pc := 44) hC ki_1 dX5_findHeads_44 ?_
              refine g_isub (pc := 45) hC dX5_findHeads_45 ?_
              obtain ⟨v13, hc, h⟩ := cp_e h
              refine g_callVi (pc := 46) (As := [.int (a1 - 1)]) (rest := [.int w9]) hC (c_X1_sizeOf l E (a1 - 1) σ2 v13 hc) mi_X1_sizeOf mv_X1_sizeOf ob_11 rfl rfl lk_X5_114 rfl rfl (Nat.le_of_ble_eq_true rfl) ⟨by decide, by decide⟩ hab dX5_findHeads_46 ?_
              refine g_icmp_ge (tgt := 150) (pc := 49) hC dX5_findHeads_49 (by decide) (fun c14 => ?_) (fun c14 => ?_)
              · replace h := it_t c14 h
                refine g_mask [true, true, true, false, true, true, false, false] rfl ?_
                exact kx2 w7 w8 (iter_r h hi2)
              · replace h := it_f c14 h
                refine g_aload_n (pc := 52) hC dX5_findHeads_52 rfl ?_
                refine fg_X5_21_16 (pc := 53) hC dX5_findHeads_53 ?_
                refine g_iload_n (pc := 56) hC dX5_findHeads_56 rfl ?_
                refine g_iconst (pc := 57) hC ki_1 dX5_findHeads_57 ?_
                refine g_isub (pc := 58) hC dX5_findHeads_58 ?_
                refine g_iload (pc := 59) hC dX5_findHeads_59 rfl ?_
                obtain ⟨v15, hc, h⟩ := cp_e h
                refine g_callNi (pc := 61) (As := [.int (a1 - 1), .int w9]) (rest := [.ref (E.2.1 19)]) hC (c_X11_cell l E (a1 - 1) w9 σ2 v15 hc) mi_X11_cell ms_X11_cell lk_X5_108 rfl rfl (Nat.le_of_ble_eq_true rfl) ⟨by decide, by decide⟩ hab dX5_findHeads_61 ?_
                obtain ⟨v16, ev16, nv16, h⟩ := rd_e h
                refine g_iald (pc := 64) hC 19 (by decide) (ar_19 _ _ _) nv16 dX5_findHeads_64 ?_
                refine g_top ev16 ?_
                refine g_aload_n (pc := 65) hC dX5_findHeads_65 rfl ?_
                refine fg_X5_12_16 (pc := 66) hC dX5_findHeads_66 ?_
                refine g_aload_n (pc := 69) hC dX5_findHeads_69 rfl ?_
                refine fg_X5_46_16 (pc := 70) hC dX5_findHeads_70 ?_
                refine g_iload_n (pc := 73) hC dX5_findHeads_73 rfl ?_
                refine g_iconst (pc := 74) hC ki_1 dX5_findHeads_74 ?_
                refine g_isub (pc := 75) hC dX5_findHeads_75 ?_
                refine g_iload (pc := 76) hC dX5_findHeads_76 rfl ?_
                obtain ⟨v17, hc, h⟩ := cp_e h
                refine g_callVi (pc := 78) (As := [.int (a1 - 1), .int w9]) (rest := [.ref (E.2.1 17), .int v16]) hC (c_X1_lagOf l E (a1 - 1) w9 σ2 v17 hc) mi_X1_lagOf mv_X1_lagOf ob_11 rfl rfl lk_X5_82 rfl rfl (Nat.le_of_ble_eq_true rfl) ⟨by decide, by decide⟩ hab dX5_findHeads_78 ?_
                refine g_iload_n (pc := 81) hC dX5_findHeads_81 rfl ?_
                obtain ⟨v18, hc, h⟩ := cp_e h
                refine g_callVi (pc := 82) (As := [.int v17, .int v6]) (rest := [.int v16]) hC (c_X9_price_17 l E v17 v6 σ2 v18 hc) mi_X9_price mv_X9_price ob_17 rfl rfl lk_X5_135 rfl rfl (Nat.le_of_ble_eq_true rfl) ⟨by decide, by decide⟩ hab dX5_findHeads_82 ?_
                refine g_iadd (pc := 85) hC dX5_findHeads_85 ?_
                obtain ⟨v19, ev19, h⟩ := lt_e h
                refine g_top ev19 ?_
                refine g_istore (lv2 := [some (.ref (E.2.1 16)), some (.int a1), some (.int w1), some (.int v6), some (.int w7), some (.int w8), some (.int w9), some (.int v19)]) (pc := 86) hC dX5_findHeads_86 rfl (Or.inr rfl) (hN _ (by decide)) ?_
                refine g_iload (pc := 88) hC dX5_findHeads_88 rfl ?_
                have hJ144 : ∀ (v28 : Int32) (v29 : Int32), J_X5_findHeads_4 w9 v28 v29 = some r2 → Gd l E K 0 0 o σ2 144 [some (.ref (E.2.1 16)), some (.int a1), some (.int w1), some (.int v6), some (.int v28), some (.int v29), some (.int w9), none] [] := by
                  intro v28 v29 h
                  delta J_X5_findHeads_4 at h
                  obtain ⟨v30, ev30, h⟩ := lt_e h
                  refine g_iinc (v := v30) (lv2 := [some (.ref (E.2.1 16)), some (.int a1), some (.int w1), some (.int v6), some (.int v28), some (.int v29), some (.int v30), none]) (pc := 144) hC dX5_findHeads_144 rfl ev30 rfl (Or.inr rfl) (hN _ (by decide)) ?_
                  refine g_goto (tgt := 33) (pc := 147) hC dX5_findHeads_147 (by decide) ?_
                  exact ih2 v28 v29 v30 z2 (iter_l h hi2) kx2
                have hJ136 : J_X5_findHeads_3 v19 w9 = some r2 → Gd l E K 0 0 o σ2 136 [some (.ref (E.2.1 16)), some (.int a1), some (.int w1), some (.int v6), none, none, some (.int w9), some (.int v19)] [] := by
                  intro h
                  delta J_X5_findHeads_3 at h
                  refine g_iload (pc := 136) hC dX5_findHeads_136 rfl ?_
                  refine g_istore (lv2 := [some (.ref (E.2.1 16)), some (.int a1), some (.int w1), some (.int v6), some (.int v19), none, some (.int w9), some (.int v19)]) (pc := 138) hC dX5_findHeads_138 rfl (Or.inr rfl) (hN _ (by decide)) ?_
                  refine g_iload (pc := 140) hC dX5_findHeads_140 rfl ?_
                  refine g_istore (lv2 := [some (.ref (E.2.1 16)), some (.int a1), some (.int w1), some (.int v6), some (.int v19), some (.int w9), some (.int w9), some (.int v19)]) (pc := 142) hC dX5_findHeads_142 rfl (Or.inr rfl) (hN _ (by decide)) ?_
                  refine g_mask [true, true, true, true, true, true, true, false] rfl ?_
                  exact hJ144 v19 w9 h
                refine g_if_eq (tgt := 136) (pc := 90) hC dX5_findHeads_90 (by decide) (fun c20 => ?_) (fun c20 => ?_)
                · replace h := it_t c20 h
                  refine g_mask [true, true, true, true, false, false, true, true] rfl ?_
                  exact hJ136 h
                · replace h := it_f c20 h
                  refine g_iload (pc := 93) hC dX5_findHeads_93 rfl ?_
                  refine g_iload (pc := 95) hC dX5_findHeads_95 rfl ?_
                  refine g_icmp_lt (tgt := 136) (pc := 97) hC dX5_findHeads_97 (by decide) (fun c21 => ?_) (fun c21 => ?_)
                  · replace h := it_t c21 h
                    refine g_mask [true, true, true, true, false, false, true, true] rfl ?_
                    exact hJ136 h
                  · replace h := it_f c21 h
                    refine g_iload (pc := 100) hC dX5_findHeads_100 rfl ?_
                    refine g_iload (pc := 102) hC dX5_findHeads_102 rfl ?_
                    refine g_icmp_ne (tgt := 144) (pc := 104) hC dX5_findHeads_104 (by decide) (fun c22 => ?_) (fun c22 => ?_)
                    · replace h := it_f c22 h
                      refine g_mask [true, true, true, true, true, true, true, false] rfl ?_
                      exact hJ144 w7 w8 h
                    · replace h := it_t c22 h
                      refine g_aload_n (pc := 107) hC dX5_findHeads_107 rfl ?_
                      refine fg_X5_25_16 (pc := 108) hC dX5_findHeads_108 ?_
                      refine g_iload_n (pc := 111) hC dX5_findHeads_111 rfl ?_
                      refine g_iconst (pc := 112) hC ki_1 dX5_findHeads_112 ?_
                      refine g_isub (pc := 113) hC dX5_findHeads_113 ?_
                      refine g_iload (pc := 114) hC dX5_findHeads_114 rfl ?_
                      obtain ⟨v23, hc, h⟩ := cp_e h
                      refine g_callNi (pc := 116) (As := [.int (a1 - 1), .int w9]) (rest := [.ref (E.2.1 20)]) hC (c_X11_cell l E (a1 - 1) w9 σ2 v23 hc) mi_X11_cell ms_X11_cell lk_X5_108 rfl rfl (Nat.le_of_ble_eq_true rfl) ⟨by decide, by decide⟩ hab dX5_findHeads_116 ?_
                      obtain ⟨v24, ev24, nv24, h⟩ := rd_e h
                      refine g_iald (pc := 119) hC 20 (by decide) (ar_20 _ _ _) nv24 dX5_findHeads_119 ?_
                      refine g_top ev24 ?_
                      refine g_aload_n (pc := 120) hC dX5_findHeads_120 rfl ?_
                      refine fg_X5_25_16 (pc := 121) hC dX5_findHeads_121 ?_
                      refine g_iload_n (pc := 124) hC dX5_findHeads_124 rfl ?_
                      refine g_iconst (pc := 125) hC ki_1 dX5_findHeads_125 ?_
                      refine g_isub (pc := 126) hC dX5_findHeads_126 ?_
                      refine g_iload (pc := 127) hC dX5_findHeads_127 rfl ?_
                      obtain ⟨v25, hc, h⟩ := cp_e h
                      refine g_callNi (pc := 129) (As := [.int (a1 - 1), .int w8]) (rest := [.ref (E.2.1 20), .int v24]) hC (c_X11_cell l E (a1 - 1) w8 σ2 v25 hc) mi_X11_cell ms_X11_cell lk_X5_108 rfl rfl (Nat.le_of_ble_eq_true rfl) ⟨by decide, by decide⟩ hab dX5_findHeads_129 ?_
                      obtain ⟨v26, ev26, nv26, h⟩ := rd_e h
                      refine g_iald (pc := 132) hC 20 (by decide) (ar_20 _ _ _) nv26 dX5_findHeads_132 ?_
                      refine g_top ev26 ?_
                      refine g_icmp_ge (tgt := 144) (pc := 133) hC dX5_findHeads_133 (by decide) (fun c27 => ?_) (fun c27 => ?_)
                      · replace h := it_t c27 h
                        refine g_mask [true, true, true, true, true, true, true, false] rfl ?_
                        exact hJ144 w7 w8 h
                      · replace h := it_f c27 h
                        refine g_mask [true, true, true, true, false, false, true, true] rfl ?_
                        exact hJ136 h
        obtain ⟨z2, hz2, h⟩ := lp_e h
        refine hL2 FU 0 0 0 z2 hz2 (fun v10 v11 ez => ?_)
        replace h : C_X5_findHeads_6 a1 w1 σ2 v10 v11 = some r1 := by rw [ez] at h; exact h
        delta C_X5_findHeads_6 at h
        refine g_aload_n (pc := 150) hC dX5_findHeads_150 rfl ?_
        refine fg_X5_21_16 (pc := 151) hC dX5_findHeads_151 ?_
        refine g_iload_n (pc := 154) hC dX5_findHeads_154 rfl ?_
        refine g_iload_n (pc := 155) hC dX5_findHeads_155 rfl ?_
        obtain ⟨v31, hc, h⟩ := cp_e h
        refine g_callNi (pc := 156) (As := [.int a1, .int w1]) (rest := [.ref (E.2.1 19)]) hC (c_X11_cell l E a1 w1 σ2 v31 hc) mi_X11_cell ms_X11_cell lk_X5_108 rfl rfl (Nat.le_of_ble_eq_true rfl) ⟨by decide, by decide⟩ hab dX5_findHeads_156 ?_
        refine g_iload (pc := 159) hC dX5_findHeads_159 rfl ?_
        refine g_aload_n (pc := 161) hC dX5_findHeads_161 rfl ?_
        refine fg_X5_46_16 (pc := 162) hC dX5_findHeads_162 ?_
        refine g_iload_n (pc := 165) hC dX5_findHeads_165 rfl ?_
        refine g_iload_n (pc := 166) hC dX5_findHeads_166 rfl ?_
        obtain ⟨v32, hc, h⟩ := cp_e h
        refine g_callVi (pc := 167) (As := [.int a1, .int w1]) (rest := [.int v10, .int v31, .ref (E.2.1 19)]) hC (c_X1_ownOf l E a1 w1 σ2 v32 hc) mi_X1_ownOf mv_X1_ownOf ob_11 rfl rfl lk_X5_111 rfl rfl (Nat.le_of_ble_eq_true rfl) ⟨by decide, by decide⟩ hab dX5_findHeads_167 ?_
        refine g_iadd (pc := 170) hC dX5_findHeads_170 ?_
        obtain ⟨σ33, eσ33, nσ33, h⟩ := wr_e h
        refine g_iast (pc := 171) hC 19 (by decide) (ar_19 _ _) nσ33 dX5_findHeads_171 eσ33 ?_
        refine g_aload_n (pc := 172) hC dX5_findHeads_172 rfl ?_
        refine fg_X5_28_16 (pc := 173) hC dX5_findHeads_173 ?_
        refine g_iload_n (pc := 176) hC dX5_findHeads_176 rfl ?_
        refine g_iload_n (pc := 177) hC dX5_findHeads_177 rfl ?_
        obtain ⟨v34, hc, h⟩ := cp_e h
        refine g_callNi (pc := 178) (As := [.int a1, .int w1]) (rest := [.ref (E.2.1 21)]) hC (c_X11_cell l E a1 w1 σ33 v34 hc) mi_X11_cell ms_X11_cell lk_X5_108 rfl rfl (Nat.le_of_ble_eq_true rfl) ⟨by decide, by decide⟩ hab dX5_findHeads_178 ?_
        refine g_iload (pc := 181) hC dX5_findHeads_181 rfl ?_
        obtain ⟨σ35, eσ35, nσ35, h⟩ := wr_e h
        refine g_iast (pc := 183) hC 21 (by decide) (ar_21 _ _) nσ35 dX5_findHeads_183 eσ35 ?_
        obtain ⟨v36, ev36, h⟩ := lt_e h
        refine g_iinc (v := v36) (lv2 := [some (.ref (E.2.1 16)), some (.int a1), some (.int v36), none, some (.int v10), some (.int v11), none, none]) (pc := 184) hC dX5_findHeads_184 rfl ev36 rfl (Or.inr rfl) (hN _ (by decide)) ?_
        refine g_goto (tgt := 2) (pc := 187) hC dX5_findHeads_187 (by decide) ?_
        refine g_mask [true, true, true, false, false, false, false, false] rfl ?_
        exact ih1 v36 σ35 z1 (iter_l h hi1) kx1
  obtain ⟨z1, hz1, h⟩ := lp_e h
  refine hL1 FU 0 σ z1 hz1 (fun σ3 ez => ?_)
  replace h : C_X5_findHeads_8 σ3 = some σr := by rw [ez] at h; exact h
  delta C_X5_findHeads_8 at h
  exact g_retv (pc := 190) hC h hR dX5_findHeads_190
set_option maxRecDepth 20000 in
theorem c_X5_isAhead (l : Launch) (E : uE) (a1 : Int32) (a2 : Int32) (a3 : Int32) (σ : uS) (r : Int32) (h : F_X5_isAhead a1 a2 a3 σ = some r) : CtI l E yX5_isAhead cX5_isAhead 6 (some .boolean) 1 22 [.ref (E.2.1 16), .int a1, .int a2, .int a3] σ r σ := by
  refine enterI 2 [some (.ref (E.2.1 16)), some (.int a1), some (.int a2), some (.int a3), none, none] (by decide +kernel) rfl (Nat.le_of_ble_eq_true rfl) (fun o K hnL hC hab hR => ?_)
  have hC : Cx E K RX5 cX5_isAhead (some .boolean) 1 22 := hC
  have hN : ∀ k, k < 6 → k < K.2.2.2.2.2 := fun k hk => hnL ▸ hk
  delta F_X5_isAhead at h
  refine g_aload_n (pc := 0) hC dX5_isAhead_0 rfl ?_
  refine fg_X5_28_16 (pc := 1) hC dX5_isAhead_1 ?_
  refine g_iload_n (pc := 4) hC dX5_isAhead_4 rfl ?_
  refine g_iload_n (pc := 5) hC dX5_isAhead_5 rfl ?_
  obtain ⟨v1, hc, h⟩ := cp_e h
  refine g_callNi (pc := 6) (As := [.int a1, .int a2]) (rest := [.ref (E.2.1 21)]) hC (c_X11_cell l E a1 a2 σ v1 hc) mi_X11_cell ms_X11_cell lk_X5_108 rfl rfl (Nat.le_of_ble_eq_true rfl) ⟨by decide, by decide⟩ hab dX5_isAhead_6 ?_
  obtain ⟨v2, ev2, nv2, h⟩ := rd_e h
  refine g_iald (pc := 9) hC 21 (by decide) (ar_21 _ _ _) nv2 dX5_isAhead_9 ?_
  refine g_top ev2 ?_
  refine g_istore (lv2 := [some (.ref (E.2.1 16)), some (.int a1), some (.int a2), some (.int a3), some (.int v2), none]) (pc := 10) hC dX5_isAhead_10 rfl (Or.inr rfl) (hN _ (by decide)) ?_
  refine g_aload_n (pc := 12) hC dX5_isAhead_12 rfl ?_
  refine fg_X5_28_16 (pc := 13) hC dX5_isAhead_13 ?_
  refine g_iload_n (pc := 16) hC dX5_isAhead_16 rfl ?_
  refine g_iload_n (pc := 17) hC dX5_isAhead_17 rfl ?_
  obtain ⟨v3, hc, h⟩ := cp_e h
  refine g_callNi (pc := 18) (As := [.int a1, .int a3]) (rest := [.ref (E.2.1 21)]) hC (c_X11_cell l E a1 a3 σ v3 hc) mi_X11_cell ms_X11_cell lk_X5_108 rfl rfl (Nat.le_of_ble_eq_true rfl) ⟨by decide, by decide⟩ hab dX5_isAhead_18 ?_
  obtain ⟨v4, ev4, nv4, h⟩ := rd_e h
  refine g_iald (pc := 21) hC 21 (by decide) (ar_21 _ _ _) nv4 dX5_isAhead_21 ?_
  refine g_top ev4 ?_
  refine g_istore (lv2 := [some (.ref (E.2.1 16)), some (.int a1), some (.int a2), some (.int a3), some (.int v2), some (.int v4)]) (pc := 22) hC dX5_isAhead_22 rfl (Or.inr rfl) (hN _ (by decide)) ?_
  refine g_iload (pc := 24) hC dX5_isAhead_24 rfl ?_
  refine g_iload (pc := 26) hC dX5_isAhead_26 rfl ?_
  have hJ61 : J_X5_isAhead_1 a2 a3 = some r → Gd l E K 0 0 o σ 61 [none, none, some (.int a2), some (.int a3), none, none] [] := by
    intro h
    delta J_X5_isAhead_1 at h
    refine g_iload_n (pc := 61) hC dX5_isAhead_61 rfl ?_
    refine g_iload_n (pc := 62) hC dX5_isAhead_62 rfl ?_
    obtain ⟨v17, ev17, h⟩ := lt_e h
    have hJ71 : Gd l E K 0 0 o σ 71 [none, none, none, none, none, none] [.int v17] := by
      obtain ⟨h01, h⟩ := bz_e h
      exact g_retzp (pc := 71) hC h01 h hR dX5_isAhead_71
    refine g_icmp_ge (tgt := 70) (pc := 63) hC dX5_isAhead_63 (by decide) (fun c16 => ?_) (fun c16 => ?_)
    · refine g_iconst (pc := 70) hC ki_0 dX5_isAhead_70 ?_
      refine g_mask [false, false, false, false, false, false] rfl ?_
      exact g_top (iv_t c16 ev17) hJ71
    · refine g_iconst (pc := 66) hC ki_1 dX5_isAhead_66 ?_
      refine g_goto (tgt := 71) (pc := 67) hC dX5_isAhead_67 (by decide) ?_
      refine g_mask [false, false, false, false, false, false] rfl ?_
      exact g_top (iv_f c16 ev17) hJ71
  refine g_icmp_eq (tgt := 61) (pc := 28) hC dX5_isAhead_28 (by decide) (fun c5 => ?_) (fun c5 => ?_)
  · replace h := it_t c5 h
    refine g_mask [false, false, true, true, false, false] rfl ?_
    exact hJ61 h
  · replace h := it_f c5 h
    refine g_aload_n (pc := 31) hC dX5_isAhead_31 rfl ?_
    refine fg_X5_46_16 (pc := 32) hC dX5_isAhead_32 ?_
    refine g_iload_n (pc := 35) hC dX5_isAhead_35 rfl ?_
    refine g_iconst (pc := 36) hC ki_1 dX5_isAhead_36 ?_
    refine g_isub (pc := 37) hC dX5_isAhead_37 ?_
    refine g_iload (pc := 38) hC dX5_isAhead_38 rfl ?_
    obtain ⟨v6, hc, h⟩ := cp_e h
    refine g_callVi (pc := 40) (As := [.int (a1 - 1), .int v2]) (rest := []) hC (c_X1_has l E (a1 - 1) v2 σ v6 hc) mi_X1_has mv_X1_has ob_11 rfl rfl lk_X5_104 rfl rfl (Nat.le_of_ble_eq_true rfl) ⟨by decide, by decide⟩ hab dX5_isAhead_40 ?_
    refine g_if_eq (tgt := 61) (pc := 43) hC dX5_isAhead_43 (by decide) (fun c7 => ?_) (fun c7 => ?_)
    · replace h := it_t c7 h
      refine g_mask [false, false, true, true, false, false] rfl ?_
      exact hJ61 h
    · replace h := it_f c7 h
      refine g_aload_n (pc := 46) hC dX5_isAhead_46 rfl ?_
      refine fg_X5_46_16 (pc := 47) hC dX5_isAhead_47 ?_
      refine g_iload_n (pc := 50) hC dX5_isAhead_50 rfl ?_
      refine g_iconst (pc := 51) hC ki_1 dX5_isAhead_51 ?_
      refine g_isub (pc := 52) hC dX5_isAhead_52 ?_
      refine g_iload (pc := 53) hC dX5_isAhead_53 rfl ?_
      obtain ⟨v8, hc, h⟩ := cp_e h
      refine g_callVi (pc := 55) (As := [.int (a1 - 1), .int v4]) (rest := []) hC (c_X1_has l E (a1 - 1) v4 σ v8 hc) mi_X1_has mv_X1_has ob_11 rfl rfl lk_X5_104 rfl rfl (Nat.le_of_ble_eq_true rfl) ⟨by decide, by decide⟩ hab dX5_isAhead_55 ?_
      refine g_if_ne (tgt := 72) (pc := 58) hC dX5_isAhead_58 (by decide) (fun c9 => ?_) (fun c9 => ?_)
      · replace h := it_f c9 h
        refine g_aload_n (pc := 72) hC dX5_isAhead_72 rfl ?_
        refine fg_X5_25_16 (pc := 73) hC dX5_isAhead_73 ?_
        refine g_iload_n (pc := 76) hC dX5_isAhead_76 rfl ?_
        refine g_iconst (pc := 77) hC ki_1 dX5_isAhead_77 ?_
        refine g_isub (pc := 78) hC dX5_isAhead_78 ?_
        refine g_iload (pc := 79) hC dX5_isAhead_79 rfl ?_
        obtain ⟨v10, hc, h⟩ := cp_e h
        refine g_callNi (pc := 81) (As := [.int (a1 - 1), .int v2]) (rest := [.ref (E.2.1 20)]) hC (c_X11_cell l E (a1 - 1) v2 σ v10 hc) mi_X11_cell ms_X11_cell lk_X5_108 rfl rfl (Nat.le_of_ble_eq_true rfl) ⟨by decide, by decide⟩ hab dX5_isAhead_81 ?_
        obtain ⟨v11, ev11, nv11, h⟩ := rd_e h
        refine g_iald (pc := 84) hC 20 (by decide) (ar_20 _ _ _) nv11 dX5_isAhead_84 ?_
        refine g_top ev11 ?_
        refine g_aload_n (pc := 85) hC dX5_isAhead_85 rfl ?_
        refine fg_X5_25_16 (pc := 86) hC dX5_isAhead_86 ?_
        refine g_iload_n (pc := 89) hC dX5_isAhead_89 rfl ?_
        refine g_iconst (pc := 90) hC ki_1 dX5_isAhead_90 ?_
        refine g_isub (pc := 91) hC dX5_isAhead_91 ?_
        refine g_iload (pc := 92) hC dX5_isAhead_92 rfl ?_
        obtain ⟨v12, hc, h⟩ := cp_e h
        refine g_callNi (pc := 94) (As := [.int (a1 - 1), .int v4]) (rest := [.ref (E.2.1 20), .int v11]) hC (c_X11_cell l E (a1 - 1) v4 σ v12 hc) mi_X11_cell ms_X11_cell lk_X5_108 rfl rfl (Nat.le_of_ble_eq_true rfl) ⟨by decide, by decide⟩ hab dX5_isAhead_94 ?_
        obtain ⟨v13, ev13, nv13, h⟩ := rd_e h
        refine g_iald (pc := 97) hC 20 (by decide) (ar_20 _ _ _) nv13 dX5_isAhead_97 ?_
        refine g_top ev13 ?_
        obtain ⟨v15, ev15, h⟩ := lt_e h
        have hJ106 : Gd l E K 0 0 o σ 106 [none, none, none, none, none, none] [.int v15] := by
          obtain ⟨h01, h⟩ := bz_e h
          exact g_retzp (pc := 106) hC h01 h hR dX5_isAhead_106
        refine g_icmp_ge (tgt := 105) (pc := 98) hC dX5_isAhead_98 (by decide) (fun c14 => ?_) (fun c14 => ?_)
        · refine g_iconst (pc := 105) hC ki_0 dX5_isAhead_105 ?_
          refine g_mask [false, false, false, false, false, false] rfl ?_
          exact g_top (iv_t c14 ev15) hJ106
        · refine g_iconst (pc := 101) hC ki_1 dX5_isAhead_101 ?_
          refine g_goto (tgt := 106) (pc := 102) hC dX5_isAhead_102 (by decide) ?_
          refine g_mask [false, false, false, false, false, false] rfl ?_
          exact g_top (iv_f c14 ev15) hJ106
      · replace h := it_t c9 h
        refine g_mask [false, false, true, true, false, false] rfl ?_
        exact hJ61 h
set_option maxRecDepth 20000 in
theorem c_X5_findRanks (l : Launch) (E : uE) (a1 : Int32) (σ : uS) (σr : uS) (h : F_X5_findRanks a1 σ = some σr) : CtV l E yX5_findRanks cX5_findRanks 5 2 47 [.ref (E.2.1 16), .int a1] σ σr := by
  refine enterV 3 [some (.ref (E.2.1 16)), some (.int a1), none, none, none] (by decide +kernel) rfl (Nat.le_of_ble_eq_true rfl) (fun o K hnL hC hab hR => ?_)
  have hC : Cx E K RX5 cX5_findRanks none 2 47 := hC
  have hN : ∀ k, k < 5 → k < K.2.2.2.2.2 := fun k hk => hnL ▸ hk
  delta F_X5_findRanks at h
  refine g_iconst (pc := 0) hC ki_0 dX5_findRanks_0 ?_
  refine g_istore_n (lv2 := [some (.ref (E.2.1 16)), some (.int a1), some (.int 0), none, none]) (pc := 1) hC dX5_findRanks_1 rfl (Or.inr rfl) (hN _ (by decide)) ?_
  have hL1 : ∀ (n : Nat) (w1 : Int32) (σ2 : uS) (z1 : uS), iter n (fun z => B_X5_findRanks_6 a1 z.1 z.2) (w1, σ2) = some z1 → (∀ (σ3 : uS), z1 = σ3 → Gd l E K 0 0 o σ3 69 [none, none, none, none, none] []) → Gd l E K 0 0 o σ2 2 [some (.ref (E.2.1 16)), some (.int a1), some (.int w1), none, none] [] := by
    intro n
    induction n with
    | zero =>
      intro w1 σ2 z1 hi
      exact (iter_0 hi).elim
    | succ n ih1 =>
      intro w1 σ2 z1 hi1 kx1
      obtain ⟨r1, h, hi1⟩ := iter_s hi1
      replace h : B_X5_findRanks_6 a1 w1 σ2 = some r1 := h
      delta B_X5_findRanks_6 at h
      refine g_iload_n (pc := 2) hC dX5_findRanks_2 rfl ?_
      refine g_aload_n (pc := 3) hC dX5_findRanks_3 rfl ?_
      refine fg_X5_46_16 (pc := 4) hC dX5_findRanks_4 ?_
      refine g_iload_n (pc := 7) hC dX5_findRanks_7 rfl ?_
      obtain ⟨v4, hc, h⟩ := cp_e h
      refine g_callVi (pc := 8) (As := [.int a1]) (rest := [.int w1]) hC (c_X1_sizeOf l E a1 σ2 v4 hc) mi_X1_sizeOf mv_X1_sizeOf ob_11 rfl rfl lk_X5_114 rfl rfl (Nat.le_of_ble_eq_true rfl) ⟨by decide, by decide⟩ hab dX5_findRanks_8 ?_
      refine g_icmp_ge (tgt := 69) (pc := 11) hC dX5_findRanks_11 (by decide) (fun c5 => ?_) (fun c5 => ?_)
      · replace h := it_t c5 h
        refine g_mask [false, false, false, false, false] rfl ?_
        exact kx1 σ2 (iter_r h hi1)
      · replace h := it_f c5 h
        refine g_iconst (pc := 14) hC ki_0 dX5_findRanks_14 ?_
        refine g_istore_n (lv2 := [some (.ref (E.2.1 16)), some (.int a1), some (.int w1), some (.int 0), none]) (pc := 15) hC dX5_findRanks_15 rfl (Or.inr rfl) (hN _ (by decide)) ?_
        refine g_iconst (pc := 16) hC ki_0 dX5_findRanks_16 ?_
        refine g_istore (lv2 := [some (.ref (E.2.1 16)), some (.int a1), some (.int w1), some (.int 0), some (.int 0)]) (pc := 17) hC dX5_findRanks_17 rfl (Or.inr rfl) (hN _ (by decide)) ?_
        have hL2 : ∀ (n : Nat) (w6 : Int32) (w7 : Int32) (z2 : Int32), iter n (fun z => B_X5_findRanks_4 a1 w1 σ2 z.1 z.2) (w6, w7) = some z2 → (∀ (v8 : Int32), z2 = v8 → Gd l E K 0 0 o σ2 52 [some (.ref (E.2.1 16)), some (.int a1), some (.int w1), some (.int v8), none] []) → Gd l E K 0 0 o σ2 19 [some (.ref (E.2.1 16)), some (.int a1), some (.int w1), some (.int w6), some (.int w7)] [] := by
          intro n
          induction n with
          | zero =>
            intro w6 w7 z2 hi
            exact (iter_0 hi).elim
          | succ n ih2 =>
            intro w6 w7 z2 hi2 kx2
            obtain ⟨r2, h, hi2⟩ := iter_s hi2
            replace h : B_X5_findRanks_4 a1 w1 σ2 w6 w7 = some r2 := h
            delta B_X5_findRanks_4 at h
            refine g_iload (pc := 19) hC dX5_findRanks_19 rfl ?_
            refine g_aload_n (pc := 21) hC dX5_findRanks_21 rfl ?_
            refine fg_X5_46_16 (pc := 22) hC dX5_findRanks_22 ?_
            refine g_iload_n (pc := 25) hC dX5_findRanks_25 rfl ?_
            obtain ⟨v9, hc, h⟩ := cp_e h
            refine g_callVi (pc := 26) (As := [.int a1]) (rest := [.int w7]) hC (c_X1_sizeOf l E a1 σ2 v9 hc) mi_X1_sizeOf mv_X1_sizeOf ob_11 rfl rfl lk_X5_114 rfl rfl (Nat.le_of_ble_eq_true rfl) ⟨by decide, by decide⟩ hab dX5_findRanks_26 ?_
            refine g_icmp_ge (tgt := 52) (pc := 29) hC dX5_findRanks_29 (by decide) (fun c10 => ?_) (fun c10 => ?_)
            · replace h := it_t c10 h
              refine g_mask [true, true, true, true, false] rfl ?_
              exact kx2 w6 (iter_r h hi2)
            · replace h := it_f c10 h
              refine g_aload_n (pc := 32) hC dX5_findRanks_32 rfl ?_
              refine g_iload_n (pc := 33) hC dX5_findRanks_33 rfl ?_
              refine g_iload (pc := 34) hC dX5_findRanks_34 rfl ?_
              refine g_iload_n (pc := 36) hC dX5_findRanks_36 rfl ?_
              obtain ⟨v11, hc, h⟩ := cp_e h
              refine g_callVi (pc := 37) (As := [.int a1, .int w7, .int w1]) (rest := []) hC (c_X5_isAhead l E a1 w7 w1 σ2 v11 hc) mi_X5_isAhead mv_X5_isAhead ob_16 rfl rfl lk_X5_138 rfl rfl (Nat.le_of_ble_eq_true rfl) ⟨by decide, by decide⟩ hab dX5_findRanks_37 ?_
              have hJ46 : ∀ (v14 : Int32), J_X5_findRanks_3 w7 v14 = some r2 → Gd l E K 0 0 o σ2 46 [some (.ref (E.2.1 16)), some (.int a1), some (.int w1), some (.int v14), some (.int w7)] [] := by
                intro v14 h
                delta J_X5_findRanks_3 at h
                obtain ⟨v15, ev15, h⟩ := lt_e h
                refine g_iinc (v := v15) (lv2 := [some (.ref (E.2.1 16)), some (.int a1), some (.int w1), some (.int v14), some (.int v15)]) (pc := 46) hC dX5_findRanks_46 rfl ev15 rfl (Or.inr rfl) (hN _ (by decide)) ?_
                refine g_goto (tgt := 19) (pc := 49) hC dX5_findRanks_49 (by decide) ?_
                exact ih2 v14 v15 z2 (iter_l h hi2) kx2
              refine g_if_eq (tgt := 46) (pc := 40) hC dX5_findRanks_40 (by decide) (fun c12 => ?_) (fun c12 => ?_)
              · replace h := it_t c12 h
                exact hJ46 w6 h
              · replace h := it_f c12 h
                obtain ⟨v13, ev13, h⟩ := lt_e h
                refine g_iinc (v := v13) (lv2 := [some (.ref (E.2.1 16)), some (.int a1), some (.int w1), some (.int v13), some (.int w7)]) (pc := 43) hC dX5_findRanks_43 rfl ev13 rfl (Or.inr rfl) (hN _ (by decide)) ?_
                exact hJ46 v13 h
        obtain ⟨z2, hz2, h⟩ := lp_e h
        refine hL2 FU 0 0 z2 hz2 (fun v8 ez => ?_)
        replace h : C_X5_findRanks_5 a1 w1 σ2 v8 = some r1 := by rw [ez] at h; exact h
        delta C_X5_findRanks_5 at h
        refine g_aload_n (pc := 52) hC dX5_findRanks_52 rfl ?_
        refine fg_X5_25_16 (pc := 53) hC dX5_findRanks_53 ?_
        refine g_iload_n (pc := 56) hC dX5_findRanks_56 rfl ?_
        refine g_iload_n (pc := 57) hC dX5_findRanks_57 rfl ?_
        obtain ⟨v16, hc, h⟩ := cp_e h
        refine g_callNi (pc := 58) (As := [.int a1, .int w1]) (rest := [.ref (E.2.1 20)]) hC (c_X11_cell l E a1 w1 σ2 v16 hc) mi_X11_cell ms_X11_cell lk_X5_108 rfl rfl (Nat.le_of_ble_eq_true rfl) ⟨by decide, by decide⟩ hab dX5_findRanks_58 ?_
        refine g_iload_n (pc := 61) hC dX5_findRanks_61 rfl ?_
        obtain ⟨σ17, eσ17, nσ17, h⟩ := wr_e h
        refine g_iast (pc := 62) hC 20 (by decide) (ar_20 _ _) nσ17 dX5_findRanks_62 eσ17 ?_
        obtain ⟨v18, ev18, h⟩ := lt_e h
        refine g_iinc (v := v18) (lv2 := [some (.ref (E.2.1 16)), some (.int a1), some (.int v18), some (.int v8), none]) (pc := 63) hC dX5_findRanks_63 rfl ev18 rfl (Or.inr rfl) (hN _ (by decide)) ?_
        refine g_goto (tgt := 2) (pc := 66) hC dX5_findRanks_66 (by decide) ?_
        refine g_mask [true, true, true, false, false] rfl ?_
        exact ih1 v18 σ17 z1 (iter_l h hi1) kx1
  obtain ⟨z1, hz1, h⟩ := lp_e h
  refine hL1 FU 0 σ z1 hz1 (fun σ3 ez => ?_)
  replace h : C_X5_findRanks_7 σ3 = some σr := by rw [ez] at h; exact h
  delta C_X5_findRanks_7 at h
  exact g_retv (pc := 69) hC h hR dX5_findRanks_69
