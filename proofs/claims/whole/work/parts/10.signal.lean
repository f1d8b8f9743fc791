theorem kb_24 : (Int8.ofInt 24).toInt32 = 24 := by decide +kernel
theorem ki_0 : Int32.ofInt 0 = 0 := by decide +kernel
theorem ki_1 : Int32.ofInt 1 = 1 := by decide +kernel
theorem ks_400 : (Int16.ofInt 400).toInt32 = 400 := by decide +kernel
theorem ks_800 : (Int16.ofInt 800).toInt32 = 800 := by decide +kernel
def F_X7_size (σ : uS) : Option (Int32) :=
  some (σ 1 2)
set_option maxRecDepth 20000 in
theorem c_X7_size (l : Launch) (E : uE) (σ : uS) (r : Int32) (h : F_X7_size σ = some r) : CtI l E yX7_size cX7_size 1 (some .int) 0 0 [.ref (E.2.1 1)] σ r σ := by
  refine enterI 0 [some (.ref (E.2.1 1))] (by decide +kernel) rfl (Nat.le_of_ble_eq_true rfl) (fun o K hnL hC hab hR => ?_)
  have hC : Cx E K RX7 cX7_size (some .int) 0 0 := hC
  have hN : ∀ k, k < 1 → k < K.2.2.2.2.2 := fun k hk => hnL ▸ hk
  delta F_X7_size at h
  refine g_aload_n (pc := 0) hC dX7_size_0 rfl ?_
  refine fg_X7_18_1 (pc := 1) hC dX7_size_1 ?_
  exact g_retp (pc := 4) hC h hR dX7_size_4
def J_X7_has_2 (v3 : Int32) : Option (Int32) :=
  bz v3 (some v3)
def J_X7_has_1 : Option (Int32) :=
  J_X7_has_2 0
def F_X7_has (a1 : Int32) (σ : uS) : Option (Int32) :=
  if a1 < 0 then
    (J_X7_has_1)
  else
    (if (σ 1 2) ≤ a1 then
      (J_X7_has_1)
    else
      (J_X7_has_2 1))
set_option maxRecDepth 20000 in
theorem c_X7_has (l : Launch) (E : uE) (a1 : Int32) (σ : uS) (r : Int32) (h : F_X7_has a1 σ = some r) : CtI l E yX7_has cX7_has 2 (some .boolean) 0 0 [.ref (E.2.1 1), .int a1] σ r σ := by
  refine enterI 0 [some (.ref (E.2.1 1)), some (.int a1)] (by decide +kernel) rfl (Nat.le_of_ble_eq_true rfl) (fun o K hnL hC hab hR => ?_)
  have hC : Cx E K RX7 cX7_has (some .boolean) 0 0 := hC
  have hN : ∀ k, k < 2 → k < K.2.2.2.2.2 := fun k hk => hnL ▸ hk
  delta F_X7_has at h
  refine g_iload_n (pc := 0) hC dX7_has_0 rfl ?_
  have hJ17 : ∀ (v3 : Int32), J_X7_has_2 v3 = some r → Gd l E K 0 0 o σ 17 [none, none] [.int v3] := by
    intro v3 h
    delta J_X7_has_2 at h
    obtain ⟨h01, h⟩ := bz_e h
    exact g_retzp (pc := 17) hC h01 h hR dX7_has_17
  have hJ16 : J_X7_has_1 = some r → Gd l E K 0 0 o σ 16 [none, none] [] := by
    intro h
    delta J_X7_has_1 at h
    refine g_iconst (pc := 16) hC ki_0 dX7_has_16 ?_
    exact hJ17 0 h
  refine g_if_lt (tgt := 16) (pc := 1) hC dX7_has_1 (by decide) (fun c1 => ?_) (fun c1 => ?_)
  · replace h := it_t c1 h
    refine g_mask [false, false] rfl ?_
    exact hJ16 h
  · replace h := it_f c1 h
    refine g_iload_n (pc := 4) hC dX7_has_4 rfl ?_
    refine g_aload_n (pc := 5) hC dX7_has_5 rfl ?_
    refine fg_X7_18_1 (pc := 6) hC dX7_has_6 ?_
    refine g_icmp_ge (tgt := 16) (pc := 9) hC dX7_has_9 (by decide) (fun c2 => ?_) (fun c2 => ?_)
    · replace h := it_t c2 h
      refine g_mask [false, false] rfl ?_
      exact hJ16 h
    · replace h := it_f c2 h
      refine g_iconst (pc := 12) hC ki_1 dX7_has_12 ?_
      refine g_goto (tgt := 17) (pc := 13) hC dX7_has_13 (by decide) ?_
      refine g_mask [false, false] rfl ?_
      exact hJ17 1 h
def F_X7_hasRoom (a1 : Int32) (σ : uS) : Option (Int32) :=
  lt (if 800 < ((σ 1 2) + a1) then 0 else 1) fun v2 =>
  bz v2 (some v2)
set_option maxRecDepth 20000 in
theorem c_X7_hasRoom (l : Launch) (E : uE) (a1 : Int32) (σ : uS) (r : Int32) (h : F_X7_hasRoom a1 σ = some r) : CtI l E yX7_hasRoom cX7_hasRoom 2 (some .boolean) 0 0 [.ref (E.2.1 1), .int a1] σ r σ := by
  refine enterI 0 [some (.ref (E.2.1 1)), some (.int a1)] (by decide +kernel) rfl (Nat.le_of_ble_eq_true rfl) (fun o K hnL hC hab hR => ?_)
  have hC : Cx E K RX7 cX7_hasRoom (some .boolean) 0 0 := hC
  have hN : ∀ k, k < 2 → k < K.2.2.2.2.2 := fun k hk => hnL ▸ hk
  delta F_X7_hasRoom at h
  refine g_aload_n (pc := 0) hC dX7_hasRoom_0 rfl ?_
  refine fg_X7_18_1 (pc := 1) hC dX7_hasRoom_1 ?_
  refine g_iload_n (pc := 4) hC dX7_hasRoom_4 rfl ?_
  refine g_iadd (pc := 5) hC dX7_hasRoom_5 ?_
  refine g_sipush (pc := 6) hC ks_800 dX7_hasRoom_6 ?_
  obtain ⟨v2, ev2, h⟩ := lt_e h
  have hJ17 : Gd l E K 0 0 o σ 17 [none, none] [.int v2] := by
    obtain ⟨h01, h⟩ := bz_e h
    exact g_retzp (pc := 17) hC h01 h hR dX7_hasRoom_17
  refine g_icmp_gt (tgt := 16) (pc := 9) hC dX7_hasRoom_9 (by decide) (fun c1 => ?_) (fun c1 => ?_)
  · refine g_iconst (pc := 16) hC ki_0 dX7_hasRoom_16 ?_
    refine g_mask [false, false] rfl ?_
    exact g_top (iv_t c1 ev2) hJ17
  · refine g_iconst (pc := 12) hC ki_1 dX7_hasRoom_12 ?_
    refine g_goto (tgt := 17) (pc := 13) hC dX7_hasRoom_13 (by decide) ?_
    refine g_mask [false, false] rfl ?_
    exact g_top (iv_f c1 ev2) hJ17
def J_X7_at_2 (v4 : Int32) : Option (Int32) :=
  some v4
def J_X7_at_1 : Option (Int32) :=
  J_X7_at_2 0
def F_X7_at (a1 : Int32) (σ : uS) : Option (Int32) :=
  if a1 < 0 then
    (J_X7_at_1)
  else
    (if a1 < (σ 1 2) then
      (rd (σ 2) 800 a1 fun v3 =>
      J_X7_at_2 v3)
    else
      (J_X7_at_1))
set_option maxRecDepth 20000 in
theorem c_X7_at (l : Launch) (E : uE) (a1 : Int32) (σ : uS) (r : Int32) (h : F_X7_at a1 σ = some r) : CtI l E yX7_at cX7_at 2 (some .int) 0 0 [.ref (E.2.1 1), .int a1] σ r σ := by
  refine enterI 0 [some (.ref (E.2.1 1)), some (.int a1)] (by decide +kernel) rfl (Nat.le_of_ble_eq_true rfl) (fun o K hnL hC hab hR => ?_)
  have hC : Cx E K RX7 cX7_at (some .int) 0 0 := hC
  have hN : ∀ k, k < 2 → k < K.2.2.2.2.2 := fun k hk => hnL ▸ hk
  delta F_X7_at at h
  refine g_iload_n (pc := 0) hC dX7_at_0 rfl ?_
  have hJ22 : ∀ (v4 : Int32), J_X7_at_2 v4 = some r → Gd l E K 0 0 o σ 22 [none, none] [.int v4] := by
    intro v4 h
    delta J_X7_at_2 at h
    exact g_retp (pc := 22) hC h hR dX7_at_22
  have hJ12 : J_X7_at_1 = some r → Gd l E K 0 0 o σ 12 [none, none] [] := by
    intro h
    delta J_X7_at_1 at h
    refine g_iconst (pc := 12) hC ki_0 dX7_at_12 ?_
    refine g_goto (tgt := 22) (pc := 13) hC dX7_at_13 (by decide) ?_
    exact hJ22 0 h
  refine g_if_lt (tgt := 12) (pc := 1) hC dX7_at_1 (by decide) (fun c1 => ?_) (fun c1 => ?_)
  · replace h := it_t c1 h
    refine g_mask [false, false] rfl ?_
    exact hJ12 h
  · replace h := it_f c1 h
    refine g_iload_n (pc := 4) hC dX7_at_4 rfl ?_
    refine g_aload_n (pc := 5) hC dX7_at_5 rfl ?_
    refine fg_X7_18_1 (pc := 6) hC dX7_at_6 ?_
    refine g_icmp_lt (tgt := 16) (pc := 9) hC dX7_at_9 (by decide) (fun c2 => ?_) (fun c2 => ?_)
    · replace h := it_t c2 h
      refine g_aload_n (pc := 16) hC dX7_at_16 rfl ?_
      refine fg_X7_9_1 (pc := 17) hC dX7_at_17 ?_
      refine g_iload_n (pc := 20) hC dX7_at_20 rfl ?_
      obtain ⟨v3, ev3, nv3, h⟩ := rd_e h
      refine g_iald (pc := 21) hC 2 (by decide) (ar_2 _ _ _) nv3 dX7_at_21 ?_
      refine g_top ev3 ?_
      refine g_mask [false, false] rfl ?_
      exact hJ22 v3 h
    · replace h := it_f c2 h
      refine g_mask [false, false] rfl ?_
      exact hJ12 h
def J_X7_put_1 (σ4 : uS) : Option (uS) :=
  some σ4
def F_X7_put (a1 : Int32) (a2 : Int32) (σ : uS) : Option (uS) :=
  cp (F_X7_has a1 σ) fun v1 =>
  if v1 = 0 then
    (J_X7_put_1 σ)
  else
    (wr σ 2 800 a1 a2 fun σ3 =>
    J_X7_put_1 σ3)
set_option maxRecDepth 20000 in
theorem c_X7_put (l : Launch) (E : uE) (a1 : Int32) (a2 : Int32) (σ : uS) (σr : uS) (h : F_X7_put a1 a2 σ = some σr) : CtV l E yX7_put cX7_put 3 1 21 [.ref (E.2.1 1), .int a1, .int a2] σ σr := by
  refine enterV 0 [some (.ref (E.2.1 1)), some (.int a1), some (.int a2)] (by decide +kernel) rfl (Nat.le_of_ble_eq_true rfl) (fun o K hnL hC hab hR => ?_)
  have hC : Cx E K RX7 cX7_put none 1 21 := hC
  have hN : ∀ k, k < 3 → k < K.2.2.2.2.2 := fun k hk => hnL ▸ hk
  delta F_X7_put at h
  refine g_aload_n (pc := 0) hC dX7_put_0 rfl ?_
  refine g_iload_n (pc := 1) hC dX7_put_1 rfl ?_
  obtain ⟨v1, hc, h⟩ := cp_e h
  refine g_callVi (pc := 2) (As := [.int a1]) (rest := []) hC (c_X7_has l E a1 σ v1 hc) mi_X7_has mv_X7_has ob_1 rfl rfl lk_X7_22 rfl rfl (Nat.le_of_ble_eq_true rfl) ⟨by decide, by decide⟩ hab dX7_put_2 ?_
  have hJ15 : ∀ (σ4 : uS), J_X7_put_1 σ4 = some σr → Gd l E K 0 0 o σ4 15 [none, none, none] [] := by
    intro σ4 h
    delta J_X7_put_1 at h
    exact g_retv (pc := 15) hC h hR dX7_put_15
  refine g_if_eq (tgt := 15) (pc := 5) hC dX7_put_5 (by decide) (fun c2 => ?_) (fun c2 => ?_)
  · replace h := it_t c2 h
    refine g_mask [false, false, false] rfl ?_
    exact hJ15 σ h
  · replace h := it_f c2 h
    refine g_aload_n (pc := 8) hC dX7_put_8 rfl ?_
    refine fg_X7_9_1 (pc := 9) hC dX7_put_9 ?_
    refine g_iload_n (pc := 12) hC dX7_put_12 rfl ?_
    refine g_iload_n (pc := 13) hC dX7_put_13 rfl ?_
    obtain ⟨σ3, eσ3, nσ3, h⟩ := wr_e h
    refine g_iast (pc := 14) hC 2 (by decide) (ar_2 _ _) nσ3 dX7_put_14 eσ3 ?_
    refine g_mask [false, false, false] rfl ?_
    exact hJ15 σ3 h
def J_X7_append_1 (σ4 : uS) : Option (uS) :=
  some σ4
def F_X7_append (a1 : Int32) (σ : uS) : Option (uS) :=
  if 800 ≤ (σ 1 2) then
    (J_X7_append_1 σ)
  else
    (wr σ 2 800 (σ 1 2) a1 fun σ2 =>
    pf σ2 1 2 ((σ2 1 2) + 1) fun σ3 =>
    J_X7_append_1 σ3)
set_option maxRecDepth 20000 in
theorem c_X7_append (l : Launch) (E : uE) (a1 : Int32) (σ : uS) (σr : uS) (h : F_X7_append a1 σ = some σr) : CtV l E yX7_append cX7_append 2 0 0 [.ref (E.2.1 1), .int a1] σ σr := by
  refine enterV 0 [some (.ref (E.2.1 1)), some (.int a1)] (by decide +kernel) rfl (Nat.le_of_ble_eq_true rfl) (fun o K hnL hC hab hR => ?_)
  have hC : Cx E K RX7 cX7_append none 0 0 := hC
  have hN : ∀ k, k < 2 → k < K.2.2.2.2.2 := fun k hk => hnL ▸ hk
  delta F_X7_append at h
  refine g_aload_n (pc := 0) hC dX7_append_0 rfl ?_
  refine fg_X7_18_1 (pc := 1) hC dX7_append_1 ?_
  refine g_sipush (pc := 4) hC ks_800 dX7_append_4 ?_
  have hJ30 : ∀ (σ4 : uS), J_X7_append_1 σ4 = some σr → Gd l E K 0 0 o σ4 30 [none, none] [] := by
    intro σ4 h
    delta J_X7_append_1 at h
    exact g_retv (pc := 30) hC h hR dX7_append_30
  refine g_icmp_ge (tgt := 30) (pc := 7) hC dX7_append_7 (by decide) (fun c1 => ?_) (fun c1 => ?_)
  · replace h := it_t c1 h
    refine g_mask [false, false] rfl ?_
    exact hJ30 σ h
  · replace h := it_f c1 h
    refine g_aload_n (pc := 10) hC dX7_append_10 rfl ?_
    refine fg_X7_9_1 (pc := 11) hC dX7_append_11 ?_
    refine g_aload_n (pc := 14) hC dX7_append_14 rfl ?_
    refine fg_X7_18_1 (pc := 15) hC dX7_append_15 ?_
    refine g_iload_n (pc := 18) hC dX7_append_18 rfl ?_
    obtain ⟨σ2, eσ2, nσ2, h⟩ := wr_e h
    refine g_iast (pc := 19) hC 2 (by decide) (ar_2 _ _) nσ2 dX7_append_19 eσ2 ?_
    refine g_aload_n (pc := 20) hC dX7_append_20 rfl ?_
    refine g_dup (pc := 21) hC rfl dX7_append_21 ?_
    refine fg_X7_18_1 (pc := 22) hC dX7_append_22 ?_
    refine g_iconst (pc := 25) hC ki_1 dX7_append_25 ?_
    refine g_iadd (pc := 26) hC dX7_append_26 ?_
    obtain ⟨σ3, eσ3, h⟩ := pf_e h
    refine fp_X7_18_1 (pc := 27) hC dX7_append_27 eσ3 ?_
    refine g_mask [false, false] rfl ?_
    exact hJ30 σ3 h
def F_J9_max_7cf53 (a1 : Int32) (a2 : Int32) (σ : uS) : Option (Int32) :=
  lt (if a1 < a2 then a2 else a1) fun v2 =>
  some v2
set_option maxRecDepth 20000 in
theorem c_J9_max_7cf53 (l : Launch) (E : uE) (a1 : Int32) (a2 : Int32) (σ : uS) (r : Int32) (h : F_J9_max_7cf53 a1 a2 σ = some r) : CtI l E yJ9_max_7cf53 cJ9_max_7cf53 2 (some .int) 0 0 [.int a1, .int a2] σ r σ := by
  refine enterI 0 [some (.int a1), some (.int a2)] (by decide +kernel) rfl (Nat.le_of_ble_eq_true rfl) (fun o K hnL hC hab hR => ?_)
  have hC : Cx E K RJ9 cJ9_max_7cf53 (some .int) 0 0 := hC
  have hN : ∀ k, k < 2 → k < K.2.2.2.2.2 := fun k hk => hnL ▸ hk
  delta F_J9_max_7cf53 at h
  refine g_iload_n (pc := 0) hC dJ9_max_7cf53_0 rfl ?_
  refine g_iload_n (pc := 1) hC dJ9_max_7cf53_1 rfl ?_
  obtain ⟨v2, ev2, h⟩ := lt_e h
  have hJ10 : Gd l E K 0 0 o σ 10 [none, none] [.int v2] := by
    exact g_retp (pc := 10) hC h hR dJ9_max_7cf53_10
  refine g_icmp_lt (tgt := 9) (pc := 2) hC dJ9_max_7cf53_2 (by decide) (fun c1 => ?_) (fun c1 => ?_)
  · refine g_iload_n (pc := 9) hC dJ9_max_7cf53_9 rfl ?_
    refine g_mask [false, false] rfl ?_
    exact g_top (iv_t c1 ev2) hJ10
  · refine g_iload_n (pc := 5) hC dJ9_max_7cf53_5 rfl ?_
    refine g_goto (tgt := 10) (pc := 6) hC dJ9_max_7cf53_6 (by decide) ?_
    refine g_mask [false, false] rfl ?_
    exact g_top (iv_f c1 ev2) hJ10
def F_X7_drop (a1 : Int32) (σ : uS) : Option (uS) :=
  cp (F_J9_max_7cf53 0 ((σ 1 2) - a1) σ) fun v1 =>
  pf σ 1 2 v1 fun σ2 =>
  some σ2
set_option maxRecDepth 20000 in
theorem c_X7_drop (l : Launch) (E : uE) (a1 : Int32) (σ : uS) (σr : uS) (h : F_X7_drop a1 σ = some σr) : CtV l E yX7_drop cX7_drop 2 1 21 [.ref (E.2.1 1), .int a1] σ σr := by
  refine enterV 0 [some (.ref (E.2.1 1)), some (.int a1)] (by decide +kernel) rfl (Nat.le_of_ble_eq_true rfl) (fun o K hnL hC hab hR => ?_)
  have hC : Cx E K RX7 cX7_drop none 1 21 := hC
  have hN : ∀ k, k < 2 → k < K.2.2.2.2.2 := fun k hk => hnL ▸ hk
  delta F_X7_drop at h
  refine g_aload_n (pc := 0) hC dX7_drop_0 rfl ?_
  refine g_iconst (pc := 1) hC ki_0 dX7_drop_1 ?_
  refine g_aload_n (pc := 2) hC dX7_drop_2 rfl ?_
  refine fg_X7_18_1 (pc := 3) hC dX7_drop_3 ?_
  refine g_iload_n (pc := 6) hC dX7_drop_6 rfl ?_
  refine g_isub (pc := 7) hC dX7_drop_7 ?_
  obtain ⟨v1, hc, h⟩ := cp_e h
  refine g_callSi (pc := 8) (As := [.int 0, .int ((σ 1 2) - a1)]) (rest := [.ref (E.2.1 1)]) hC (c_J9_max_7cf53 l E 0 ((σ 1 2) - a1) σ v1 hc) mi_J9_max_7cf53 ms_J9_max_7cf53 lk_X7_26 rfl rfl (Nat.le_of_ble_eq_true rfl) ⟨by decide, by decide⟩ hab dX7_drop_8 ?_
  obtain ⟨σ2, eσ2, h⟩ := pf_e h
  refine fp_X7_18_1 (pc := 11) hC dX7_drop_11 eσ2 ?_
  exact g_retv (pc := 14) hC h hR dX7_drop_14
def B_X7_offItself_2 (a1 : Int32) (a2 : Int32) (a3 : Int32) (σ : uS) (w4 : Int32) (w5 : Int32) : Option ((Int32 × Int32) ⊕ (Int32)) :=
  if (a1 + a2) ≤ w5 then
    (some (.inr w4))
  else
    (rd (σ 2) 800 w5 fun v8 =>
    rd (σ 2) 800 (w5 + a3) fun v9 =>
    lt (v8 - v9) fun v10 =>
    lt (if 0 ≤ v10 then v10 else (-v10)) fun v12 =>
    lt (w4 + v12) fun v13 =>
    lt (w5 + 1) fun v14 =>
    some (.inl (v13, v14)))
def C_X7_offItself_3 (v6 : Int32) : Option (Int32) :=
  some v6
def J_X7_offItself_4 : Option (Int32) :=
  some 0
def F_X7_offItself (a1 : Int32) (a2 : Int32) (a3 : Int32) (σ : uS) : Option (Int32) :=
  if a1 < 0 then
    (J_X7_offItself_4)
  else
    (if a3 < 0 then
      (J_X7_offItself_4)
    else
      (if ((a1 + a2) + a3) ≤ (σ 1 2) then
        (lp (fun z => B_X7_offItself_2 a1 a2 a3 σ z.1 z.2) (0, a1) (fun z => C_X7_offItself_3 z))
      else
        (J_X7_offItself_4)))
set_option maxRecDepth 20000 in
theorem c_X7_offItself (l : Launch) (E : uE) (a1 : Int32) (a2 : Int32) (a3 : Int32) (σ : uS) (r : Int32) (h : F_X7_offItself a1 a2 a3 σ = some r) : CtI l E yX7_offItself cX7_offItself 7 (some .int) 0 0 [.ref (E.2.1 1), .int a1, .int a2, .int a3] σ r σ := by
  refine enterI 3 [some (.ref (E.2.1 1)), some (.int a1), some (.int a2), some (.int a3), none, none, none] (by decide +kernel) rfl (Nat.le_of_ble_eq_true rfl) (fun o K hnL hC hab hR => ?_)
  have hC : Cx E K RX7 cX7_offItself (some .int) 0 0 := hC
  have hN : ∀ k, k < 7 → k < K.2.2.2.2.2 := fun k hk => hnL ▸ hk
  delta F_X7_offItself at h
  refine g_iload_n (pc := 0) hC dX7_offItself_0 rfl ?_
  have hJ20 : J_X7_offItself_4 = some r → Gd l E K 0 0 o σ 20 [none, none, none, none, none, none, none] [] := by
    intro h
    delta J_X7_offItself_4 at h
    refine g_iconst (pc := 20) hC ki_0 dX7_offItself_20 ?_
    exact g_retp (pc := 21) hC h hR dX7_offItself_21
  refine g_if_lt (tgt := 20) (pc := 1) hC dX7_offItself_1 (by decide) (fun c1 => ?_) (fun c1 => ?_)
  · replace h := it_t c1 h
    refine g_mask [false, false, false, false, false, false, false] rfl ?_
    exact hJ20 h
  · replace h := it_f c1 h
    refine g_iload_n (pc := 4) hC dX7_offItself_4 rfl ?_
    refine g_if_lt (tgt := 20) (pc := 5) hC dX7_offItself_5 (by decide) (fun c2 => ?_) (fun c2 => ?_)
    · replace h := it_t c2 h
      refine g_mask [false, false, false, false, false, false, false] rfl ?_
      exact hJ20 h
    · replace h := it_f c2 h
      refine g_iload_n (pc := 8) hC dX7_offItself_8 rfl ?_
      refine g_iload_n (pc := 9) hC dX7_offItself_9 rfl ?_
      refine g_iadd (pc := 10) hC dX7_offItself_10 ?_
      refine g_iload_n (pc := 11) hC dX7_offItself_11 rfl ?_
      refine g_iadd (pc := 12) hC dX7_offItself_12 ?_
      refine g_aload_n (pc := 13) hC dX7_offItself_13 rfl ?_
      refine fg_X7_18_1 (pc := 14) hC dX7_offItself_14 ?_
      refine g_icmp_le (tgt := 22) (pc := 17) hC dX7_offItself_17 (by decide) (fun c3 => ?_) (fun c3 => ?_)
      · replace h := it_t c3 h
        refine g_iconst (pc := 22) hC ki_0 dX7_offItself_22 ?_
        refine g_istore (lv2 := [some (.ref (E.2.1 1)), some (.int a1), some (.int a2), some (.int a3), some (.int 0), none, none]) (pc := 23) hC dX7_offItself_23 rfl (Or.inr rfl) (hN _ (by decide)) ?_
        refine g_iload_n (pc := 25) hC dX7_offItself_25 rfl ?_
        refine g_istore (lv2 := [some (.ref (E.2.1 1)), some (.int a1), some (.int a2), some (.int a3), some (.int 0), some (.int a1), none]) (pc := 26) hC dX7_offItself_26 rfl (Or.inr rfl) (hN _ (by decide)) ?_
        have hL1 : ∀ (n : Nat) (w4 : Int32) (w5 : Int32) (z1 : Int32), iter n (fun z => B_X7_offItself_2 a1 a2 a3 σ z.1 z.2) (w4, w5) = some z1 → (∀ (v6 : Int32), z1 = v6 → Gd l E K 0 0 o σ 79 [none, none, none, none, some (.int v6), none, none] []) → Gd l E K 0 0 o σ 28 [some (.ref (E.2.1 1)), some (.int a1), some (.int a2), some (.int a3), some (.int w4), some (.int w5), none] [] := by
          intro n
          induction n with
          | zero =>
            intro w4 w5 z1 hi
            exact (iter_0 hi).elim
          | succ n ih1 =>
            intro w4 w5 z1 hi1 kx1
            obtain ⟨r1, h, hi1⟩ := iter_s hi1
            replace h : B_X7_offItself_2 a1 a2 a3 σ w4 w5 = some r1 := h
            delta B_X7_offItself_2 at h
            refine g_iload (pc := 28) hC dX7_offItself_28 rfl ?_
            refine g_iload_n (pc := 30) hC dX7_offItself_30 rfl ?_
            refine g_iload_n (pc := 31) hC dX7_offItself_31 rfl ?_
            refine g_iadd (pc := 32) hC dX7_offItself_32 ?_
            refine g_icmp_ge (tgt := 79) (pc := 33) hC dX7_offItself_33 (by decide) (fun c7 => ?_) (fun c7 => ?_)
            · replace h := it_t c7 h
              refine g_mask [false, false, false, false, true, false, false] rfl ?_
              exact kx1 w4 (iter_r h hi1)
            · replace h := it_f c7 h
              refine g_aload_n (pc := 36) hC dX7_offItself_36 rfl ?_
              refine fg_X7_9_1 (pc := 37) hC dX7_offItself_37 ?_
              refine g_iload (pc := 40) hC dX7_offItself_40 rfl ?_
              obtain ⟨v8, ev8, nv8, h⟩ := rd_e h
              refine g_iald (pc := 42) hC 2 (by decide) (ar_2 _ _ _) nv8 dX7_offItself_42 ?_
              refine g_top ev8 ?_
              refine g_aload_n (pc := 43) hC dX7_offItself_43 rfl ?_
              refine fg_X7_9_1 (pc := 44) hC dX7_offItself_44 ?_
              refine g_iload (pc := 47) hC dX7_offItself_47 rfl ?_
              refine g_iload_n (pc := 49) hC dX7_offItself_49 rfl ?_
              refine g_iadd (pc := 50) hC dX7_offItself_50 ?_
              obtain ⟨v9, ev9, nv9, h⟩ := rd_e h
              refine g_iald (pc := 51) hC 2 (by decide) (ar_2 _ _ _) nv9 dX7_offItself_51 ?_
              refine g_top ev9 ?_
              refine g_isub (pc := 52) hC dX7_offItself_52 ?_
              obtain ⟨v10, ev10, h⟩ := lt_e h
              refine g_top ev10 ?_
              refine g_istore (lv2 := [some (.ref (E.2.1 1)), some (.int a1), some (.int a2), some (.int a3), some (.int w4), some (.int w5), some (.int v10)]) (pc := 53) hC dX7_offItself_53 rfl (Or.inr rfl) (hN _ (by decide)) ?_
              refine g_iload (pc := 55) hC dX7_offItself_55 rfl ?_
              refine g_iload (pc := 57) hC dX7_offItself_57 rfl ?_
              obtain ⟨v12, ev12, h⟩ := lt_e h
              have hJ70 : Gd l E K 0 0 o σ 70 [some (.ref (E.2.1 1)), some (.int a1), some (.int a2), some (.int a3), none, some (.int w5), none] [.int v12, .int w4] := by
                refine g_iadd (pc := 70) hC dX7_offItself_70 ?_
                obtain ⟨v13, ev13, h⟩ := lt_e h
                refine g_top ev13 ?_
                refine g_istore (lv2 := [some (.ref (E.2.1 1)), some (.int a1), some (.int a2), some (.int a3), some (.int v13), some (.int w5), none]) (pc := 71) hC dX7_offItself_71 rfl (Or.inr rfl) (hN _ (by decide)) ?_
                obtain ⟨v14, ev14, h⟩ := lt_e h
                refine g_iinc (v := v14) (lv2 := [some (.ref (E.2.1 1)), some (.int a1), some (.int a2), some (.int a3), some (.int v13), some (.int v14), none]) (pc := 73) hC dX7_offItself_73 rfl ev14 rfl (Or.inr rfl) (hN _ (by decide)) ?_
                refine g_goto (tgt := 28) (pc := 76) hC dX7_offItself_76 (by decide) ?_
                exact ih1 v13 v14 z1 (iter_l h hi1) kx1
              refine g_if_ge (tgt := 68) (pc := 59) hC dX7_offItself_59 (by decide) (fun c11 => ?_) (fun c11 => ?_)
              · refine g_iload (pc := 68) hC dX7_offItself_68 rfl ?_
                refine g_mask [true, true, true, true, false, true, false] rfl ?_
                exact g_top (iv_t c11 ev12) hJ70
              · refine g_iload (pc := 62) hC dX7_offItself_62 rfl ?_
                refine g_ineg (pc := 64) hC dX7_offItself_64 ?_
                refine g_goto (tgt := 70) (pc := 65) hC dX7_offItself_65 (by decide) ?_
                refine g_mask [true, true, true, true, false, true, false] rfl ?_
                exact g_top (iv_f c11 ev12) hJ70
        obtain ⟨z1, hz1, h⟩ := lp_e h
        refine hL1 FU 0 a1 z1 hz1 (fun v6 ez => ?_)
        replace h : C_X7_offItself_3 v6 = some r := by rw [ez] at h; exact h
        delta C_X7_offItself_3 at h
        refine g_iload (pc := 79) hC dX7_offItself_79 rfl ?_
        exact g_retp (pc := 81) hC h hR dX7_offItself_81
      · replace h := it_f c3 h
        refine g_mask [false, false, false, false, false, false, false] rfl ?_
        exact hJ20 h
def F_J9_abs_0f7a4 (a1 : Int32) (σ : uS) : Option (Int32) :=
  lt (if 0 ≤ a1 then a1 else (-a1)) fun v2 =>
  some v2
set_option maxRecDepth 20000 in
theorem c_J9_abs_0f7a4 (l : Launch) (E : uE) (a1 : Int32) (σ : uS) (r : Int32) (h : F_J9_abs_0f7a4 a1 σ = some r) : CtI l E yJ9_abs_0f7a4 cJ9_abs_0f7a4 1 (some .int) 0 0 [.int a1] σ r σ := by
  refine enterI 0 [some (.int a1)] (by decide +kernel) rfl (Nat.le_of_ble_eq_true rfl) (fun o K hnL hC hab hR => ?_)
  have hC : Cx E K RJ9 cJ9_abs_0f7a4 (some .int) 0 0 := hC
  have hN : ∀ k, k < 1 → k < K.2.2.2.2.2 := fun k hk => hnL ▸ hk
  delta F_J9_abs_0f7a4 at h
  refine g_iload_n (pc := 0) hC dJ9_abs_0f7a4_0 rfl ?_
  obtain ⟨v2, ev2, h⟩ := lt_e h
  have hJ10 : Gd l E K 0 0 o σ 10 [none] [.int v2] := by
    exact g_retp (pc := 10) hC h hR dJ9_abs_0f7a4_10
  refine g_if_ge (tgt := 9) (pc := 1) hC dJ9_abs_0f7a4_1 (by decide) (fun c1 => ?_) (fun c1 => ?_)
  · refine g_iload_n (pc := 9) hC dJ9_abs_0f7a4_9 rfl ?_
    refine g_mask [false] rfl ?_
    exact g_top (iv_t c1 ev2) hJ10
  · refine g_iload_n (pc := 4) hC dJ9_abs_0f7a4_4 rfl ?_
    refine g_ineg (pc := 5) hC dJ9_abs_0f7a4_5 ?_
    refine g_goto (tgt := 10) (pc := 6) hC dJ9_abs_0f7a4_6 (by decide) ?_
    refine g_mask [false] rfl ?_
    exact g_top (iv_f c1 ev2) hJ10
def B_X7_loudness_2 (a1 : Int32) (a2 : Int32) (σ : uS) (w1 : Int32) (w2 : Int32) : Option ((Int32 × Int32) ⊕ (Int32)) :=
  if (a1 + a2) ≤ w2 then
    (some (.inr w1))
  else
    (cp (F_X7_at w2 σ) fun v5 =>
    cp (F_J9_abs_0f7a4 v5 σ) fun v6 =>
    lt (w1 + v6) fun v7 =>
    lt (w2 + 1) fun v8 =>
    some (.inl (v7, v8)))
def C_X7_loudness_3 (v3 : Int32) : Option (Int32) :=
  some v3
def F_X7_loudness (a1 : Int32) (a2 : Int32) (σ : uS) : Option (Int32) :=
  lp (fun z => B_X7_loudness_2 a1 a2 σ z.1 z.2) (0, a1) (fun z => C_X7_loudness_3 z)
set_option maxRecDepth 20000 in
theorem c_X7_loudness (l : Launch) (E : uE) (a1 : Int32) (a2 : Int32) (σ : uS) (r : Int32) (h : F_X7_loudness a1 a2 σ = some r) : CtI l E yX7_loudness cX7_loudness 5 (some .int) 1 21 [.ref (E.2.1 1), .int a1, .int a2] σ r σ := by
  refine enterI 2 [some (.ref (E.2.1 1)), some (.int a1), some (.int a2), none, none] (by decide +kernel) rfl (Nat.le_of_ble_eq_true rfl) (fun o K hnL hC hab hR => ?_)
  have hC : Cx E K RX7 cX7_loudness (some .int) 1 21 := hC
  have hN : ∀ k, k < 5 → k < K.2.2.2.2.2 := fun k hk => hnL ▸ hk
  delta F_X7_loudness at h
  refine g_iconst (pc := 0) hC ki_0 dX7_loudness_0 ?_
  refine g_istore_n (lv2 := [some (.ref (E.2.1 1)), some (.int a1), some (.int a2), some (.int 0), none]) (pc := 1) hC dX7_loudness_1 rfl (Or.inr rfl) (hN _ (by decide)) ?_
  refine g_iload_n (pc := 2) hC dX7_loudness_2 rfl ?_
  refine g_istore (lv2 := [some (.ref (E.2.1 1)), some (.int a1), some (.int a2), some (.int 0), some (.int a1)]) (pc := 3) hC dX7_loudness_3 rfl (Or.inr rfl) (hN _ (by decide)) ?_
  have hL1 : ∀ (n : Nat) (w1 : Int32) (w2 : Int32) (z1 : Int32), iter n (fun z => B_X7_loudness_2 a1 a2 σ z.1 z.2) (w1, w2) = some z1 → (∀ (v3 : Int32), z1 = v3 → Gd l E K 0 0 o σ 31 [none, none, none, some (.int v3), none] []) → Gd l E K 0 0 o σ 5 [some (.ref (E.2.1 1)), some (.int a1), some (.int a2), some (.int w1), some (.int w2)] [] := by
    intro n
    induction n with
    | zero =>
      intro w1 w2 z1 hi
      exact (iter_0 hi).elim
    | succ n ih1 =>
      intro w1 w2 z1 hi1 kx1
      obtain ⟨r1, h, hi1⟩ := iter_s hi1
      replace h : B_X7_loudness_2 a1 a2 σ w1 w2 = some r1 := h
      delta B_X7_loudness_2 at h
      refine g_iload (pc := 5) hC dX7_loudness_5 rfl ?_
      refine g_iload_n (pc := 7) hC dX7_loudness_7 rfl ?_
      refine g_iload_n (pc := 8) hC dX7_loudness_8 rfl ?_
      refine g_iadd (pc := 9) hC dX7_loudness_9 ?_
      refine g_icmp_ge (tgt := 31) (pc := 10) hC dX7_loudness_10 (by decide) (fun c4 => ?_) (fun c4 => ?_)
      · replace h := it_t c4 h
        refine g_mask [false, false, false, true, false] rfl ?_
        exact kx1 w1 (iter_r h hi1)
      · replace h := it_f c4 h
        refine g_iload_n (pc := 13) hC dX7_loudness_13 rfl ?_
        refine g_aload_n (pc := 14) hC dX7_loudness_14 rfl ?_
        refine g_iload (pc := 15) hC dX7_loudness_15 rfl ?_
        obtain ⟨v5, hc, h⟩ := cp_e h
        refine g_callVi (pc := 17) (As := [.int w2]) (rest := [.int w1]) hC (c_X7_at l E w2 σ v5 hc) mi_X7_at mv_X7_at ob_1 rfl rfl lk_X7_32 rfl rfl (Nat.le_of_ble_eq_true rfl) ⟨by decide, by decide⟩ hab dX7_loudness_17 ?_
        obtain ⟨v6, hc, h⟩ := cp_e h
        refine g_callSi (pc := 20) (As := [.int v5]) (rest := [.int w1]) hC (c_J9_abs_0f7a4 l E v5 σ v6 hc) mi_J9_abs_0f7a4 ms_J9_abs_0f7a4 lk_X7_36 rfl rfl (Nat.le_of_ble_eq_true rfl) ⟨by decide, by decide⟩ hab dX7_loudness_20 ?_
        refine g_iadd (pc := 23) hC dX7_loudness_23 ?_
        obtain ⟨v7, ev7, h⟩ := lt_e h
        refine g_top ev7 ?_
        refine g_istore_n (lv2 := [some (.ref (E.2.1 1)), some (.int a1), some (.int a2), some (.int v7), some (.int w2)]) (pc := 24) hC dX7_loudness_24 rfl (Or.inr rfl) (hN _ (by decide)) ?_
        obtain ⟨v8, ev8, h⟩ := lt_e h
        refine g_iinc (v := v8) (lv2 := [some (.ref (E.2.1 1)), some (.int a1), some (.int a2), some (.int v7), some (.int v8)]) (pc := 25) hC dX7_loudness_25 rfl ev8 rfl (Or.inr rfl) (hN _ (by decide)) ?_
        refine g_goto (tgt := 5) (pc := 28) hC dX7_loudness_28 (by decide) ?_
        exact ih1 v7 v8 z1 (iter_l h hi1) kx1
  obtain ⟨z1, hz1, h⟩ := lp_e h
  refine hL1 FU 0 a1 z1 hz1 (fun v3 ez => ?_)
  replace h : C_X7_loudness_3 v3 = some r := by rw [ez] at h; exact h
  delta C_X7_loudness_3 at h
  refine g_iload_n (pc := 31) hC dX7_loudness_31 rfl ?_
  exact g_retp (pc := 32) hC h hR dX7_loudness_32
def F_X7_tapeSize (σ : uS) : Option (Int32) :=
  some (σ 1 3)
set_option maxRecDepth 20000 in
theorem c_X7_tapeSize (l : Launch) (E : uE) (σ : uS) (r : Int32) (h : F_X7_tapeSize σ = some r) : CtI l E yX7_tapeSize cX7_tapeSize 1 (some .int) 0 0 [.ref (E.2.1 1)] σ r σ := by
  refine enterI 0 [some (.ref (E.2.1 1))] (by decide +kernel) rfl (Nat.le_of_ble_eq_true rfl) (fun o K hnL hC hab hR => ?_)
  have hC : Cx E K RX7 cX7_tapeSize (some .int) 0 0 := hC
  have hN : ∀ k, k < 1 → k < K.2.2.2.2.2 := fun k hk => hnL ▸ hk
  delta F_X7_tapeSize at h
  refine g_aload_n (pc := 0) hC dX7_tapeSize_0 rfl ?_
  refine fg_X7_39_1 (pc := 1) hC dX7_tapeSize_1 ?_
  exact g_retp (pc := 4) hC h hR dX7_tapeSize_4
def B_X7_tapeNumber_2 (a1 : Int32) (w1 : Int32) (σ2 : uS) : Option ((Int32 × uS) ⊕ (uS)) :=
  if w1 < 0 then
    (some (.inr σ2))
  else
    (if 400 ≤ (σ2 1 3) then
      (some (.inr σ2))
    else
      (wr σ2 3 400 (σ2 1 3) ((Int32.toInt8 (a1 >>> (w1 &&& 31))).toInt32) fun σ6 =>
      pf σ6 1 3 ((σ6 1 3) + 1) fun σ7 =>
      lt (w1 + (-8)) fun v8 =>
      some (.inl (v8, σ7))))
def C_X7_tapeNumber_3 (σ3 : uS) : Option (uS) :=
  some σ3
def F_X7_tapeNumber (a1 : Int32) (σ : uS) : Option (uS) :=
  lp (fun z => B_X7_tapeNumber_2 a1 z.1 z.2) (24, σ) (fun z => C_X7_tapeNumber_3 z)
set_option maxRecDepth 20000 in
theorem c_X7_tapeNumber (l : Launch) (E : uE) (a1 : Int32) (σ : uS) (σr : uS) (h : F_X7_tapeNumber a1 σ = some σr) : CtV l E yX7_tapeNumber cX7_tapeNumber 3 0 0 [.ref (E.2.1 1), .int a1] σ σr := by
  refine enterV 1 [some (.ref (E.2.1 1)), some (.int a1), none] (by decide +kernel) rfl (Nat.le_of_ble_eq_true rfl) (fun o K hnL hC hab hR => ?_)
  have hC : Cx E K RX7 cX7_tapeNumber none 0 0 := hC
  have hN : ∀ k, k < 3 → k < K.2.2.2.2.2 := fun k hk => hnL ▸ hk
  delta F_X7_tapeNumber at h
  refine g_bipush (pc := 0) hC kb_24 dX7_tapeNumber_0 ?_
  refine g_istore_n (lv2 := [some (.ref (E.2.1 1)), some (.int a1), some (.int 24)]) (pc := 2) hC dX7_tapeNumber_2 rfl (Or.inr rfl) (hN _ (by decide)) ?_
  have hL1 : ∀ (n : Nat) (w1 : Int32) (σ2 : uS) (z1 : uS), iter n (fun z => B_X7_tapeNumber_2 a1 z.1 z.2) (w1, σ2) = some z1 → (∀ (σ3 : uS), z1 = σ3 → Gd l E K 0 0 o σ3 46 [none, none, none] []) → Gd l E K 0 0 o σ2 3 [some (.ref (E.2.1 1)), some (.int a1), some (.int w1)] [] := by
    intro n
    induction n with
    | zero =>
      intro w1 σ2 z1 hi
      exact (iter_0 hi).elim
    | succ n ih1 =>
      intro w1 σ2 z1 hi1 kx1
      obtain ⟨r1, h, hi1⟩ := iter_s hi1
      replace h : B_X7_tapeNumber_2 a1 w1 σ2 = some r1 := h
      delta B_X7_tapeNumber_2 at h
      refine g_iload_n (pc := 3) hC dX7_tapeNumber_3 rfl ?_
      refine g_if_lt (tgt := 46) (pc := 4) hC dX7_tapeNumber_4 (by decide) (fun c4 => ?_) (fun c4 => ?_)
      · replace h := it_t c4 h
        refine g_mask [false, false, false] rfl ?_
        exact kx1 σ2 (iter_r h hi1)
      · replace h := it_f c4 h
        refine g_aload_n (pc := 7) hC dX7_tapeNumber_7 rfl ?_
        refine fg_X7_39_1 (pc := 8) hC dX7_tapeNumber_8 ?_
        refine g_sipush (pc := 11) hC ks_400 dX7_tapeNumber_11 ?_
        refine g_icmp_ge (tgt := 46) (pc := 14) hC dX7_tapeNumber_14 (by decide) (fun c5 => ?_) (fun c5 => ?_)
        · replace h := it_t c5 h
          refine g_mask [false, false, false] rfl ?_
          exact kx1 σ2 (iter_r h hi1)
        · replace h := it_f c5 h
          refine g_aload_n (pc := 17) hC dX7_tapeNumber_17 rfl ?_
          refine fg_X7_15_1 (pc := 18) hC dX7_tapeNumber_18 ?_
          refine g_aload_n (pc := 21) hC dX7_tapeNumber_21 rfl ?_
          refine fg_X7_39_1 (pc := 22) hC dX7_tapeNumber_22 ?_
          refine g_iload_n (pc := 25) hC dX7_tapeNumber_25 rfl ?_
          refine g_iload_n (pc := 26) hC dX7_tapeNumber_26 rfl ?_
          refine g_ishr (pc := 27) hC dX7_tapeNumber_27 ?_
          refine g_i2b (pc := 28) hC dX7_tapeNumber_28 ?_
          obtain ⟨σ6, eσ6, nσ6, h⟩ := wr_e h
          refine g_iast (pc := 29) hC 3 (by decide) (ar_3 _ _) nσ6 dX7_tapeNumber_29 eσ6 ?_
          refine g_aload_n (pc := 30) hC dX7_tapeNumber_30 rfl ?_
          refine g_dup (pc := 31) hC rfl dX7_tapeNumber_31 ?_
          refine fg_X7_39_1 (pc := 32) hC dX7_tapeNumber_32 ?_
          refine g_iconst (pc := 35) hC ki_1 dX7_tapeNumber_35 ?_
          refine g_iadd (pc := 36) hC dX7_tapeNumber_36 ?_
          obtain ⟨σ7, eσ7, h⟩ := pf_e h
          refine fp_X7_39_1 (pc := 37) hC dX7_tapeNumber_37 eσ7 ?_
          obtain ⟨v8, ev8, h⟩ := lt_e h
          refine g_iinc (v := v8) (lv2 := [some (.ref (E.2.1 1)), some (.int a1), some (.int v8)]) (pc := 40) hC dX7_tapeNumber_40 rfl ev8 rfl (Or.inr rfl) (hN _ (by decide)) ?_
          refine g_goto (tgt := 3) (pc := 43) hC dX7_tapeNumber_43 (by decide) ?_
          exact ih1 v8 σ7 z1 (iter_l h hi1) kx1
  obtain ⟨z1, hz1, h⟩ := lp_e h
  refine hL1 FU 24 σ z1 hz1 (fun σ3 ez => ?_)
  replace h : C_X7_tapeNumber_3 σ3 = some σr := by rw [ez] at h; exact h
  delta C_X7_tapeNumber_3 at h
  exact g_retv (pc := 46) hC h hR dX7_tapeNumber_46
def B_X7_appendFromTape_2 (a1 : Int32) (w1 : Int32) (σ2 : uS) : Option ((Int32 × uS) ⊕ (uS)) :=
  if a1 ≤ w1 then
    (some (.inr σ2))
  else
    (if (σ2 1 3) ≤ w1 then
      (some (.inr σ2))
    else
      (rd (σ2 3) 400 w1 fun v6 =>
      cp (F_X7_append v6 σ2) fun σ7 =>
      lt (w1 + 1) fun v8 =>
      some (.inl (v8, σ7))))
def C_X7_appendFromTape_3 (σ3 : uS) : Option (uS) :=
  pf σ3 1 3 0 fun σ9 =>
  some σ9
def F_X7_appendFromTape (a1 : Int32) (σ : uS) : Option (uS) :=
  lp (fun z => B_X7_appendFromTape_2 a1 z.1 z.2) (0, σ) (fun z => C_X7_appendFromTape_3 z)
set_option maxRecDepth 20000 in
theorem c_X7_appendFromTape (l : Launch) (E : uE) (a1 : Int32) (σ : uS) (σr : uS) (h : F_X7_appendFromTape a1 σ = some σr) : CtV l E yX7_appendFromTape cX7_appendFromTape 3 1 21 [.ref (E.2.1 1), .int a1] σ σr := by
  refine enterV 1 [some (.ref (E.2.1 1)), some (.int a1), none] (by decide +kernel) rfl (Nat.le_of_ble_eq_true rfl) (fun o K hnL hC hab hR => ?_)
  have hC : Cx E K RX7 cX7_appendFromTape none 1 21 := hC
  have hN : ∀ k, k < 3 → k < K.2.2.2.2.2 := fun k hk => hnL ▸ hk
  delta F_X7_appendFromTape at h
  refine g_iconst (pc := 0) hC ki_0 dX7_appendFromTape_0 ?_
  refine g_istore_n (lv2 := [some (.ref (E.2.1 1)), some (.int a1), some (.int 0)]) (pc := 1) hC dX7_appendFromTape_1 rfl (Or.inr rfl) (hN _ (by decide)) ?_
  have hL1 : ∀ (n : Nat) (w1 : Int32) (σ2 : uS) (z1 : uS), iter n (fun z => B_X7_appendFromTape_2 a1 z.1 z.2) (w1, σ2) = some z1 → (∀ (σ3 : uS), z1 = σ3 → Gd l E K 0 0 o σ3 31 [some (.ref (E.2.1 1)), none, none] []) → Gd l E K 0 0 o σ2 2 [some (.ref (E.2.1 1)), some (.int a1), some (.int w1)] [] := by
    intro n
    induction n with
    | zero =>
      intro w1 σ2 z1 hi
      exact (iter_0 hi).elim
    | succ n ih1 =>
      intro w1 σ2 z1 hi1 kx1
      obtain ⟨r1, h, hi1⟩ := iter_s hi1
      replace h : B_X7_appendFromTape_2 a1 w1 σ2 = some r1 := h
      delta B_X7_appendFromTape_2 at h
      refine g_iload_n (pc := 2) hC dX7_appendFromTape_2 rfl ?_
      refine g_iload_n (pc := 3) hC dX7_appendFromTape_3 rfl ?_
      refine g_icmp_ge (tgt := 31) (pc := 4) hC dX7_appendFromTape_4 (by decide) (fun c4 => ?_) (fun c4 => ?_)
      · replace h := it_t c4 h
        refine g_mask [true, false, false] rfl ?_
        exact kx1 σ2 (iter_r h hi1)
      · replace h := it_f c4 h
        refine g_iload_n (pc := 7) hC dX7_appendFromTape_7 rfl ?_
        refine g_aload_n (pc := 8) hC dX7_appendFromTape_8 rfl ?_
        refine fg_X7_39_1 (pc := 9) hC dX7_appendFromTape_9 ?_
        refine g_icmp_ge (tgt := 31) (pc := 12) hC dX7_appendFromTape_12 (by decide) (fun c5 => ?_) (fun c5 => ?_)
        · replace h := it_t c5 h
          refine g_mask [true, false, false] rfl ?_
          exact kx1 σ2 (iter_r h hi1)
        · replace h := it_f c5 h
          refine g_aload_n (pc := 15) hC dX7_appendFromTape_15 rfl ?_
          refine g_aload_n (pc := 16) hC dX7_appendFromTape_16 rfl ?_
          refine fg_X7_15_1 (pc := 17) hC dX7_appendFromTape_17 ?_
          refine g_iload_n (pc := 20) hC dX7_appendFromTape_20 rfl ?_
          obtain ⟨v6, ev6, nv6, h⟩ := rd_e h
          refine g_iald (pc := 21) hC 3 (by decide) (ar_3 _ _ _) nv6 dX7_appendFromTape_21 ?_
          refine g_top ev6 ?_
          obtain ⟨σ7, hc, h⟩ := cp_e h
          refine g_callVv (pc := 22) (As := [.int v6]) (rest := []) hC (c_X7_append l E v6 σ2 σ7 hc) mi_X7_append mv_X7_append ob_1 rfl rfl lk_X7_42 rfl rfl (Nat.le_of_ble_eq_true rfl) ⟨by decide, by decide⟩ hab dX7_appendFromTape_22 ?_
          obtain ⟨v8, ev8, h⟩ := lt_e h
          refine g_iinc (v := v8) (lv2 := [some (.ref (E.2.1 1)), some (.int a1), some (.int v8)]) (pc := 25) hC dX7_appendFromTape_25 rfl ev8 rfl (Or.inr rfl) (hN _ (by decide)) ?_
          refine g_goto (tgt := 2) (pc := 28) hC dX7_appendFromTape_28 (by decide) ?_
          exact ih1 v8 σ7 z1 (iter_l h hi1) kx1
  obtain ⟨z1, hz1, h⟩ := lp_e h
  refine hL1 FU 0 σ z1 hz1 (fun σ3 ez => ?_)
  replace h : C_X7_appendFromTape_3 σ3 = some σr := by rw [ez] at h; exact h
  delta C_X7_appendFromTape_3 at h
  refine g_aload_n (pc := 31) hC dX7_appendFromTape_31 rfl ?_
  refine g_iconst (pc := 32) hC ki_0 dX7_appendFromTape_32 ?_
  obtain ⟨σ9, eσ9, h⟩ := pf_e h
  refine fp_X7_39_1 (pc := 33) hC dX7_appendFromTape_33 eσ9 ?_
  exact g_retv (pc := 36) hC h hR dX7_appendFromTape_36
