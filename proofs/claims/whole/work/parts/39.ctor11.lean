theorem e_at (a : Nat × va_E) (r : va_W) (q : Nat × va_E) : (a :: (r ++ [q]))[r.length + 1]? = some q := by simp
theorem e_set (a : Nat × va_E) (r : va_W) (q z : Nat × va_E) : (a :: (r ++ [q])).set (r.length + 1) z = a :: (r ++ [z]) := by simp
def w1_X11 (t : uT) (u : Nat → Nat) : va_W := [(u 0, .inr (11, [.ref (u 1), .ref (u 4), .ref (u 6), .ref (u 11), .ref (u 16), .ref (u 27), .ref (u 34), .ref (u 38), .ref (u 44), .ref (u 51), .int 0, .int 0, .int 0])), (u 1, .inr (7, [.ref (u 2), .ref (u 3), .int 0, .int 0])), (u 2, .inl (t.1, 800, .inl (fun _ => 0))), (u 3, .inl (t.1, 400, .inl (fun _ => 0))), (u 4, .inr (0, [.ref (u 5)])), (u 5, .inl (t.1, 16, .inl u_first)), (u 6, .inr (2, [.ref (u 1), .ref (u 4), .ref (u 7), .ref (u 8), .ref (u 9), .ref (u 10)])), (u 7, .inl (t.1, 5000, .inl (fun _ => 0))), (u 8, .inl (t.1, 5000, .inl (fun _ => 0))), (u 9, .inl (t.1, 100, .inl (fun _ => 0))), (u 10, .inl (t.2.1, 100, .inl (fun _ => 0))), (u 11, .inr (1, [.ref (u 6), .ref (u 4), .ref (u 12), .ref (u 13), .ref (u 14), .ref (u 15), .int 0])), (u 12, .inl (t.1, 600, .inl (fun _ => 0))), (u 13, .inl (t.1, 600, .inl (fun _ => 0))), (u 14, .inl (t.1, 600, .inl (fun _ => 0))), (u 15, .inl (t.1, 100, .inl (fun _ => 0))), (u 16, .inr (5, [.ref (u 11), .ref (u 4), .ref (u 17), .ref (u 18), .ref (u 19), .ref (u 20), .ref (u 21), .ref (u 22), .ref (u 23), .ref (u 24), .ref (u 25), .ref (u 26), .int 0])), (u 17, .inr (9, [.int 0, .int 0, .int 0])), (u 18, .inr (9, [.int 0, .int 0, .int 0])), (u 19, .inl (t.1, 600, .inl (fun _ => 0))), (u 20, .inl (t.1, 600, .inl (fun _ => 0))), (u 21, .inl (t.1, 600, .inl (fun _ => 0))), (u 22, .inl (t.1, 600, .inl (fun _ => 0))), (u 23, .inl (t.1, 100, .inl (fun _ => 0))), (u 24, .inl (t.1, 100, .inl (fun _ => 0))), (u 25, .inl (t.1, 6, .inl (fun _ => 0))), (u 26, .inl (t.1, 6, .inl (fun _ => 0))), (u 27, .inr (6, [.ref (u 11), .ref (u 4), .ref (u 28), .ref (u 29), .ref (u 30), .ref (u 31), .ref (u 32), .ref (u 33)])), (u 28, .inr (9, [.int 0, .int 0, .int 0])), (u 29, .inl (t.1, 4848, .inl (fun _ => 0))), (u 30, .inl (t.1, 4848, .inl (fun _ => 0))), (u 31, .inl (t.1, 606, .inl (fun _ => 0))), (u 32, .inl (t.1, 6, .inl (fun _ => 0))), (u 33, .inl (t.1, 6, .inl (fun _ => 0))), (u 34, .inr (8, [.ref (u 16), .ref (u 1), .ref (u 4), .ref (u 35), .ref (u 36), .ref (u 37), .int 0])), (u 35, .inl (t.1, 100, .inl (fun _ => 0))), (u 36, .inl (t.1, 100, .inl (fun _ => 0))), (u 37, .inl (t.1, 100, .inl (fun _ => 0))), (u 38, .inr (4, [.ref (u 16), .ref (u 39), .ref (u 40), .ref (u 41), .ref (u 42), .ref (u 43), .int 0, .int 0, .int 0, .int 0])), (u 39, .inl (t.1, 100, .inl (fun _ => 0))), (u 40, .inl (t.1, 100, .inl (fun _ => 0))), (u 41, .inl (t.1, 100, .inl (fun _ => 0))), (u 42, .inl (t.1, 50, .inl (fun _ => 0))), (u 43, .inl (t.1, 50, .inl (fun _ => 0))), (u 44, .inr (3, [.ref (u 34), .ref (u 1), .ref (u 4), .ref (u 45), .ref (u 46), .ref (u 47), .ref (u 48), .ref (u 49), .ref (u 50), .int 0])), (u 45, .inl (t.1, 800, .inl (fun _ => 0))), (u 46, .inl (t.1, 800, .inl (fun _ => 0))), (u 47, .inl (t.1, 800, .inl (fun _ => 0))), (u 48, .inl (t.1, 800, .inl (fun _ => 0))), (u 49, .inl (t.1, 101, .inl (fun _ => 0))), (u 50, .inl (t.1, 100, .inl (fun _ => 0))), (u 51, .inr (10, [.ref (u 38), .ref (u 4), .ref (u 52), .ref (u 53), .ref (u 54), .int 0])), (u 52, .inl (t.1, 12, .inl (fun _ => 0))), (u 53, .inl (t.1, 12, .inl (fun _ => 0))), (u 54, .inl (t.1, 1313, .inl (fun _ => 0)))]
set_option maxHeartbeats 8000000 in
set_option maxRecDepth 100000 in
theorem ci_X11 (l : Launch) (D : va_G) (t : uT) (fa h0 : Nat) : CtC l D t fa yX11_init cX11_init 1 3 78 54 31761 [.ref h0] [(h0, .inr (11, [.null, .null, .null, .null, .null, .null, .null, .null, .null, .null, .int 0, .int 0, .int 0]))] h0 (w1_X11 t) := by
  intro sz
  refine va_MetF (cc := cX11_init) (maxL := 1) (ret := none) (by decide +kernel) rfl ?_
  intro p e s m args below meth c s₁ B hml hv
  obtain ⟨rfl, hsz, hP, hK, hD0, hZ⟩ := hv
  have hx := B.exec
  have hb := B.bytes
  have hr := B.returns
  have hlocks := B.notSynchronized
  have hts : ∀ w ∈ TG, w.before ([.ref h0] : List Value).toArray s = true := fun w hw => atoms_spec (ws := Cond.code yX11_init cX11_init 1 none :: TG) B.pre w (List.mem_cons_of_mem _ hw)
  have hown : s.vm.findClass RX11 = some m.cls := findClass_of_methodNamed B.named
  have hin : meth.name = "<init>" := (name_of_methodNamed B.named B.method).1
  subst hsz
  have hD := hD0.self (sz := s.heap.size)
  generalize hAe : va_A [(h0, .inr (11, [.null, .null, .null, .null, .null, .null, .null, .null, .null, .null, .int 0, .int 0, .int 0]))] s.heap.size = A at hD hZ ⊢
  have hA : ∀ q : Nat, s.heap.size ≤ q → A q := fun q h => by rw [← hAe]; exact Or.inr h
  have hS : va_S A s.heap s.heap [] := va_S.rf
  have hl := lv_entry ([.ref h0]) (n := 1) (Nat.le_of_ble_eq_true rfl)
  rw [lg_entry_eq]
  generalize (lg_sl ([.ref h0]) ++ List.replicate (1 - (lg_sl ([.ref h0])).length) Slot.unset).toArray = ls at hl ⊢
  have hl : lv_has ls 1 [(0, .ref h0)] := hl
  obtain ⟨r0, hr0⟩ : ∃ r : va_W, r = [] := ⟨_, rfl⟩
  replace hP : va_P D vwCl ((h0, .inr (11, [.null, .null, .null, .null, .null, .null, .null, .null, .null, .null, .int 0, .int 0, .int 0])) :: r0) s.heap := by rw [hr0]; exact hP
  replace hD : va_D A ((h0, .inr (11, [.null, .null, .null, .null, .null, .null, .null, .null, .null, .null, .int 0, .int 0, .int 0])) :: r0) := by rw [hr0]; exact hD
  refine lv_aload_n hx hb dX11_init_0 rfl (lv_at hl 0 rfl) ?_
  refine W.objInit hx hb hown (hts (.methodLink RX11 1 objectInit) (tg_1 (List.mem_of_getElem? (i := 25) rfl) rfl)) (hts (.instanceMethod objectInit) (tg_1 (List.mem_of_getElem? (i := 26) rfl) rfl)) (hts (Cond.code objectInit object_method_1_code 1 none) (tg_1 (List.mem_of_getElem? (i := 27) rfl) rfl)) rfl (by rw [hml]; exact hl.1) rfl dX11_init_1 (Nat.le_of_ble_eq_true rfl) (Nat.le_of_ble_eq_true rfl) ?_
  refine W.eq (g2 := F0 m 4 ls []) rfl ?_
  refine lv_aload_n hx hb dX11_init_4 rfl (lv_at hl 0 rfl) ?_
  refine va_new (ci := 7) (fs := [.null, .null, .int 0, .int 0]) (C := RX7) (T := TX7) (N := 4) hx hb hts in_X7 tyX7 tyX7_ok hown (hts _ (tg_1 (List.mem_of_getElem? (i := 28) rfl) rfl)) (hts _ (tg_1 (List.mem_of_getElem? (i := 29) rfl) rfl)) (hts _ (tg_1 (List.mem_of_getElem? (i := 2) rfl) rfl)) hK hP hD hS hA rfl z_X7 (Nat.le_of_ble_eq_true rfl) (Nat.le_of_ble_eq_true rfl) dX11_init_5 (fun q1 H hP2 hD2 hS2 => ?_)
  clear hP hD hS
  have hP : va_P D vwCl ((h0, .inr (11, [.null, .null, .null, .null, .null, .null, .null, .null, .null, .null, .int 0, .int 0, .int 0])) :: (r0 ++ [(q1, .inr (7, [.null, .null, .int 0, .int 0]))])) H := hP2
  have hD : va_D A ((h0, .inr (11, [.null, .null, .null, .null, .null, .null, .null, .null, .null, .null, .int 0, .int 0, .int 0])) :: (r0 ++ [(q1, .inr (7, [.null, .null, .int 0, .int 0]))])) := hD2
  have hS := hS2
  clear hP2 hD2 hS2
  refine W.widen (k := 1) (n := 4) (Nat.le_of_ble_eq_true rfl) (Nat.le_of_ble_eq_true rfl) ?_
  refine lv_dup hx hb dX11_init_8 rfl ?_
  replace hP : va_P D vwCl (((h0, .inr (11, [.null, .null, .null, .null, .null, .null, .null, .null, .null, .null, .int 0, .int 0, .int 0])) :: r0) ++ [(q1, .inr (7, [.null, .null, .int 0, .int 0]))]) H := hP
  replace hD : va_D A (((h0, .inr (11, [.null, .null, .null, .null, .null, .null, .null, .null, .null, .null, .int 0, .int 0, .int 0])) :: r0) ++ [(q1, .inr (7, [.null, .null, .int 0, .int 0]))]) := hD
  have hPc := e_P hP
  have hFc := e_F hD hS hA
  have hDc := e_D hD
  refine va_callv (va_runIN (As := []) (rest := [.ref q1, .ref h0]) ⟨hx, hb, hml, hown, hts⟩ (ci_X7 l D t fa q1 H.size) ⟨va_cnB 0 hts (tg_good (tg_1 (List.mem_of_getElem? (i := 32) rfl) rfl)) rfl rfl rfl (hZ.2.2.2.2 _ (List.mem_of_getElem? (i := 0) rfl)) (hts _ (tg_1 (List.mem_of_getElem? (i := 2) rfl) rfl)) (by decide +kernel) ⟨Nat.le_of_ble_eq_true rfl, Nat.le_of_ble_eq_true rfl⟩, rfl, (hts _ (tg_1 (List.mem_of_getElem? (i := 31) rfl) rfl))⟩ ⟨c_Pc.blind, fun U hU hW => ⟨rfl, by rw [hU], by rw [hU]; exact hPc, va_K.moved hW.alike hK, hDc.weaken (fun _ _ _ _ => trivial), c_Z.to hZ hS hFc hU hW⟩⟩ rfl rfl hl.1 rfl (lv_room (Nat.le_of_ble_eq_true rfl)) dX11_init_9 ⟨Nat.le_of_ble_eq_true rfl, Nat.le_of_ble_eq_true rfl⟩) hS (fun q _ h => hFc q h) hFc (fun u2 t1 H1 locs ht hvm hw hB hz1 hk1 hS => ?_)
  obtain ⟨hP1, hD1⟩ := hB
  rw [ht] at hP1
  try dsimp only at hw
  obtain ⟨hPn, hDn⟩ := e_J hP hD hk1 hFc hP1 hD1
  clear hPc hFc hDc hP1 hD1 hk1 hz1 ht hvm t1 hP hD
  subst hw
  generalize H1 = Hu2 at hPn hS ⊢
  have hP := hPn
  have hD := hDn
  clear hPn hDn
  obtain ⟨r1, hr1⟩ : ∃ r : va_W, r = r0 ++ w1_X7 t u2 := ⟨_, rfl⟩
  replace hP : va_P D vwCl ((h0, .inr (11, [.null, .null, .null, .null, .null, .null, .null, .null, .null, .null, .int 0, .int 0, .int 0])) :: r1) Hu2 := by rw [hr1]; exact hP
  replace hD : va_D A ((h0, .inr (11, [.null, .null, .null, .null, .null, .null, .null, .null, .null, .null, .int 0, .int 0, .int 0])) :: r1) := by rw [hr1]; exact hD
  refine W.widen (k := 3) (n := 1204) (Nat.le_of_ble_eq_true rfl) (Nat.le_of_ble_eq_true rfl) ?_
  refine va_putF (D := D) (ci := 11) (v := .ref (u2 0)) (C := RX11) (T := TX11) (N := 13) hx hb hts in_X11 tyX11 tyX11_ok nmX11 hown hK hP hD hS 0 rfl rfl 0 (by decide) (hts _ fl_X11_10) (fun _ h9 => h9) rfl hin rfl (ty := tyX11 0) (tyX11_ok 0 (by decide)) rfl rfl (Nat.le_of_ble_eq_true rfl) dX11_init_12 (fun H locs hP2 hD2 hS2 => ?_)
  clear hP hD hS
  have hP : va_P D vwCl ((h0, .inr (11, [.ref (u2 0), .null, .null, .null, .null, .null, .null, .null, .null, .null, .int 0, .int 0, .int 0])) :: r1) H := hP2
  have hD : va_D A ((h0, .inr (11, [.ref (u2 0), .null, .null, .null, .null, .null, .null, .null, .null, .null, .int 0, .int 0, .int 0])) :: r1) := hD2
  have hS := hS2
  clear hP2 hD2 hS2
  refine lv_aload_n hx hb dX11_init_15 rfl (lv_at hl 0 rfl) ?_
  refine va_new (ci := 0) (fs := [.null]) (C := RX0) (T := TX0) (N := 1) hx hb hts in_X0 tyX0 tyX0_ok hown (hts _ (tg_1 (List.mem_of_getElem? (i := 48) rfl) rfl)) (hts _ (tg_1 (List.mem_of_getElem? (i := 49) rfl) rfl)) (hts _ (tg_1 (List.mem_of_getElem? (i := 3) rfl) rfl)) hK hP hD hS hA rfl z_X0 (Nat.le_of_ble_eq_true rfl) (Nat.le_of_ble_eq_true rfl) dX11_init_16 (fun q3 H hP2 hD2 hS2 => ?_)
  clear hP hD hS
  have hP : va_P D vwCl ((h0, .inr (11, [.ref (u2 0), .null, .null, .null, .null, .null, .null, .null, .null, .null, .int 0, .int 0, .int 0])) :: (r1 ++ [(q3, .inr (0, [.null]))])) H := hP2
  have hD : va_D A ((h0, .inr (11, [.ref (u2 0), .null, .null, .null, .null, .null, .null, .null, .null, .null, .int 0, .int 0, .int 0])) :: (r1 ++ [(q3, .inr (0, [.null]))])) := hD2
  have hS := hS2
  clear hP2 hD2 hS2
  refine W.widen (k := 4) (n := 1205) (Nat.le_of_ble_eq_true rfl) (Nat.le_of_ble_eq_true rfl) ?_
  refine lv_dup hx hb dX11_init_19 rfl ?_
  replace hP : va_P D vwCl (((h0, .inr (11, [.ref (u2 0), .null, .null, .null, .null, .null, .null, .null, .null, .null, .int 0, .int 0, .int 0])) :: r1) ++ [(q3, .inr (0, [.null]))]) H := hP
  replace hD : va_D A (((h0, .inr (11, [.ref (u2 0), .null, .null, .null, .null, .null, .null, .null, .null, .null, .int 0, .int 0, .int 0])) :: r1) ++ [(q3, .inr (0, [.null]))]) := hD
  have hPc := e_P hP
  have hFc := e_F hD hS hA
  have hDc := e_D hD
  refine va_callv (va_runI (As := []) (rest := [.ref q3, .ref h0]) ⟨hx, hb, hml, hown, hts⟩ (ci_X0 l D t fa q3 H.size) (cwI 0 hts (tg_good (tg_1 (List.mem_of_getElem? (i := 52) rfl) rfl)) rfl rfl rfl (hts _ (tg_1 (List.mem_of_getElem? (i := 3) rfl) rfl)) (hts _ (tg_1 (List.mem_of_getElem? (i := 50) rfl) rfl)) (hts _ (tg_1 (List.mem_of_getElem? (i := 51) rfl) rfl)) rfl (by decide +kernel) ⟨Nat.le_of_ble_eq_true rfl, Nat.le_of_ble_eq_true rfl⟩) ⟨c_Pc.blind, fun U hU hW => ⟨rfl, by rw [hU], by rw [hU]; exact hPc, va_K.moved hW.alike hK, hDc.weaken (fun _ _ _ _ => trivial), c_Z.to hZ hS hFc hU hW⟩⟩ rfl rfl hl.1 rfl (lv_room (Nat.le_of_ble_eq_true rfl)) dX11_init_20 ⟨Nat.le_of_ble_eq_true rfl, Nat.le_of_ble_eq_true rfl⟩) hS (fun q _ h => hFc q h) hFc (fun u4 t1 H1 locs ht hvm hw hB hz1 hk1 hS => ?_)
  obtain ⟨hP1, hD1⟩ := hB
  rw [ht] at hP1
  try dsimp only at hw
  obtain ⟨hPn, hDn⟩ := e_J hP hD hk1 hFc hP1 hD1
  clear hPc hFc hDc hP1 hD1 hk1 hz1 ht hvm t1 hP hD
  subst hw
  generalize H1 = Hu4 at hPn hS ⊢
  have hP := hPn
  have hD := hDn
  clear hPn hDn
  obtain ⟨r2, hr2⟩ : ∃ r : va_W, r = r1 ++ w1_X0 t u4 := ⟨_, rfl⟩
  replace hP : va_P D vwCl ((h0, .inr (11, [.ref (u2 0), .null, .null, .null, .null, .null, .null, .null, .null, .null, .int 0, .int 0, .int 0])) :: r2) Hu4 := by rw [hr2]; exact hP
  replace hD : va_D A ((h0, .inr (11, [.ref (u2 0), .null, .null, .null, .null, .null, .null, .null, .null, .null, .int 0, .int 0, .int 0])) :: r2) := by rw [hr2]; exact hD
  refine W.widen (k := 5) (n := 1221) (Nat.le_of_ble_eq_true rfl) (Nat.le_of_ble_eq_true rfl) ?_
  refine va_putF (D := D) (ci := 11) (v := .ref (u4 0)) (C := RX11) (T := TX11) (N := 13) hx hb hts in_X11 tyX11 tyX11_ok nmX11 hown hK hP hD hS 0 rfl rfl 1 (by decide) (hts _ fl_X11_19) (fun _ h9 => h9) rfl hin rfl (ty := tyX11 1) (tyX11_ok 1 (by decide)) rfl rfl (Nat.le_of_ble_eq_true rfl) dX11_init_23 (fun H locs hP2 hD2 hS2 => ?_)
  clear hP hD hS
  have hP : va_P D vwCl ((h0, .inr (11, [.ref (u2 0), .ref (u4 0), .null, .null, .null, .null, .null, .null, .null, .null, .int 0, .int 0, .int 0])) :: r2) H := hP2
  have hD : va_D A ((h0, .inr (11, [.ref (u2 0), .ref (u4 0), .null, .null, .null, .null, .null, .null, .null, .null, .int 0, .int 0, .int 0])) :: r2) := hD2
  have hS := hS2
  clear hP2 hD2 hS2
  refine lv_aload_n hx hb dX11_init_26 rfl (lv_at hl 0 rfl) ?_
  refine va_new (ci := 2) (fs := [.null, .null, .null, .null, .null, .null]) (C := RX2) (T := TX2) (N := 6) hx hb hts in_X2 tyX2 tyX2_ok hown (hts _ (tg_1 (List.mem_of_getElem? (i := 60) rfl) rfl)) (hts _ (tg_1 (List.mem_of_getElem? (i := 61) rfl) rfl)) (hts _ (tg_1 (List.mem_of_getElem? (i := 4) rfl) rfl)) hK hP hD hS hA rfl z_X2 (Nat.le_of_ble_eq_true rfl) (Nat.le_of_ble_eq_true rfl) dX11_init_27 (fun q5 H hP2 hD2 hS2 => ?_)
  clear hP hD hS
  have hP : va_P D vwCl ((h0, .inr (11, [.ref (u2 0), .ref (u4 0), .null, .null, .null, .null, .null, .null, .null, .null, .int 0, .int 0, .int 0])) :: (r2 ++ [(q5, .inr (2, [.null, .null, .null, .null, .null, .null]))])) H := hP2
  have hD : va_D A ((h0, .inr (11, [.ref (u2 0), .ref (u4 0), .null, .null, .null, .null, .null, .null, .null, .null, .int 0, .int 0, .int 0])) :: (r2 ++ [(q5, .inr (2, [.null, .null, .null, .null, .null, .null]))])) := hD2
  have hS := hS2
  clear hP2 hD2 hS2
  refine W.widen (k := 6) (n := 1227) (Nat.le_of_ble_eq_true rfl) (Nat.le_of_ble_eq_true rfl) ?_
  refine lv_dup hx hb dX11_init_30 rfl ?_
  refine lv_aload_n hx hb dX11_init_31 rfl (lv_at hl 0 rfl) ?_
  refine va_get (C := RX11) (T := TX11) (N := 13) hx hb hts in_X11 hown hK hP 0 rfl rfl 0 (by decide) (hts _ fl_X11_10) (fun _ h9 => h9) (v := .ref (u2 0)) rfl dX11_init_32 ?_
  refine lv_aload_n hx hb dX11_init_35 rfl (lv_at hl 0 rfl) ?_
  refine va_get (C := RX11) (T := TX11) (N := 13) hx hb hts in_X11 hown hK hP 0 rfl rfl 1 (by decide) (hts _ fl_X11_19) (fun _ h9 => h9) (v := .ref (u4 0)) rfl dX11_init_36 ?_
  replace hP : va_P D vwCl (((h0, .inr (11, [.ref (u2 0), .ref (u4 0), .null, .null, .null, .null, .null, .null, .null, .null, .int 0, .int 0, .int 0])) :: r2) ++ [(q5, .inr (2, [.null, .null, .null, .null, .null, .null]))]) H := hP
  replace hD : va_D A (((h0, .inr (11, [.ref (u2 0), .ref (u4 0), .null, .null, .null, .null, .null, .null, .null, .null, .int 0, .int 0, .int 0])) :: r2) ++ [(q5, .inr (2, [.null, .null, .null, .null, .null, .null]))]) := hD
  have hPc := e_P hP
  have hFc := e_F hD hS hA
  have hDc := e_D hD
  refine va_callv (va_runI (As := [.ref (u2 0), .ref (u4 0)]) (rest := [.ref q5, .ref h0]) ⟨hx, hb, hml, hown, hts⟩ (ci_X2 l D t fa q5 (u2 0) (u4 0) H.size) (cwI 2 hts (tg_good (tg_1 (List.mem_of_getElem? (i := 64) rfl) rfl)) rfl rfl rfl (hts _ (tg_1 (List.mem_of_getElem? (i := 4) rfl) rfl)) (hts _ (tg_1 (List.mem_of_getElem? (i := 62) rfl) rfl)) (hts _ (tg_1 (List.mem_of_getElem? (i := 63) rfl) rfl)) rfl (by decide +kernel) ⟨Nat.le_of_ble_eq_true rfl, Nat.le_of_ble_eq_true rfl⟩) ⟨c_Pc.blind, fun U hU hW => ⟨rfl, by rw [hU], by rw [hU]; exact hPc, va_K.moved hW.alike hK, hDc.weaken (fun _ _ _ _ => trivial), c_Z.to hZ hS hFc hU hW⟩⟩ rfl rfl hl.1 rfl (lv_room (Nat.le_of_ble_eq_true rfl)) dX11_init_39 ⟨Nat.le_of_ble_eq_true rfl, Nat.le_of_ble_eq_true rfl⟩) hS (fun q _ h => hFc q h) hFc (fun u6 t1 H1 locs ht hvm hw hB hz1 hk1 hS => ?_)
  obtain ⟨hP1, hD1⟩ := hB
  rw [ht] at hP1
  try dsimp only at hw
  obtain ⟨hPn, hDn⟩ := e_J hP hD hk1 hFc hP1 hD1
  clear hPc hFc hDc hP1 hD1 hk1 hz1 ht hvm t1 hP hD
  subst hw
  generalize H1 = Hu6 at hPn hS ⊢
  have hP := hPn
  have hD := hDn
  clear hPn hDn
  obtain ⟨r3, hr3⟩ : ∃ r : va_W, r = r2 ++ w1_X2 t (u2 0) (u4 0) u6 := ⟨_, rfl⟩
  replace hP : va_P D vwCl ((h0, .inr (11, [.ref (u2 0), .ref (u4 0), .null, .null, .null, .null, .null, .null, .null, .null, .int 0, .int 0, .int 0])) :: r3) Hu6 := by rw [hr3]; exact hP
  replace hD : va_D A ((h0, .inr (11, [.ref (u2 0), .ref (u4 0), .null, .null, .null, .null, .null, .null, .null, .null, .int 0, .int 0, .int 0])) :: r3) := by rw [hr3]; exact hD
  refine W.widen (k := 10) (n := 11427) (Nat.le_of_ble_eq_true rfl) (Nat.le_of_ble_eq_true rfl) ?_
  refine va_putF (D := D) (ci := 11) (v := .ref (u6 0)) (C := RX11) (T := TX11) (N := 13) hx hb hts in_X11 tyX11 tyX11_ok nmX11 hown hK hP hD hS 0 rfl rfl 2 (by decide) (hts _ fl_X11_28) (fun _ h9 => h9) rfl hin rfl (ty := tyX11 2) (tyX11_ok 2 (by decide)) rfl rfl (Nat.le_of_ble_eq_true rfl) dX11_init_42 (fun H locs hP2 hD2 hS2 => ?_)
  clear hP hD hS
  have hP : va_P D vwCl ((h0, .inr (11, [.ref (u2 0), .ref (u4 0), .ref (u6 0), .null, .null, .null, .null, .null, .null, .null, .int 0, .int 0, .int 0])) :: r3) H := hP2
  have hD : va_D A ((h0, .inr (11, [.ref (u2 0), .ref (u4 0), .ref (u6 0), .null, .null, .null, .null, .null, .null, .null, .int 0, .int 0, .int 0])) :: r3) := hD2
  have hS := hS2
  clear hP2 hD2 hS2
  refine lv_aload_n hx hb dX11_init_45 rfl (lv_at hl 0 rfl) ?_
  refine va_new (ci := 1) (fs := [.null, .null, .null, .null, .null, .null, .int 0]) (C := RX1) (T := TX1) (N := 7) hx hb hts in_X1 tyX1 tyX1_ok hown (hts _ (tg_1 (List.mem_of_getElem? (i := 86) rfl) rfl)) (hts _ (tg_1 (List.mem_of_getElem? (i := 87) rfl) rfl)) (hts _ (tg_1 (List.mem_of_getElem? (i := 5) rfl) rfl)) hK hP hD hS hA rfl z_X1 (Nat.le_of_ble_eq_true rfl) (Nat.le_of_ble_eq_true rfl) dX11_init_46 (fun q7 H hP2 hD2 hS2 => ?_)
  clear hP hD hS
  have hP : va_P D vwCl ((h0, .inr (11, [.ref (u2 0), .ref (u4 0), .ref (u6 0), .null, .null, .null, .null, .null, .null, .null, .int 0, .int 0, .int 0])) :: (r3 ++ [(q7, .inr (1, [.null, .null, .null, .null, .null, .null, .int 0]))])) H := hP2
  have hD : va_D A ((h0, .inr (11, [.ref (u2 0), .ref (u4 0), .ref (u6 0), .null, .null, .null, .null, .null, .null, .null, .int 0, .int 0, .int 0])) :: (r3 ++ [(q7, .inr (1, [.null, .null, .null, .null, .null, .null, .int 0]))])) := hD2
  have hS := hS2
  clear hP2 hD2 hS2
  refine W.widen (k := 11) (n := 11434) (Nat.le_of_ble_eq_true rfl) (Nat.le_of_ble_eq_true rfl) ?_
  refine lv_dup hx hb dX11_init_49 rfl ?_
  refine lv_aload_n hx hb dX11_init_50 rfl (lv_at hl 0 rfl) ?_
  refine va_get (C := RX11) (T := TX11) (N := 13) hx hb hts in_X11 hown hK hP 0 rfl rfl 2 (by decide) (hts _ fl_X11_28) (fun _ h9 => h9) (v := .ref (u6 0)) rfl dX11_init_51 ?_
  refine lv_aload_n hx hb dX11_init_54 rfl (lv_at hl 0 rfl) ?_
  refine va_get (C := RX11) (T := TX11) (N := 13) hx hb hts in_X11 hown hK hP 0 rfl rfl 1 (by decide) (hts _ fl_X11_19) (fun _ h9 => h9) (v := .ref (u4 0)) rfl dX11_init_55 ?_
  replace hP : va_P D vwCl (((h0, .inr (11, [.ref (u2 0), .ref (u4 0), .ref (u6 0), .null, .null, .null, .null, .null, .null, .null, .int 0, .int 0, .int 0])) :: r3) ++ [(q7, .inr (1, [.null, .null, .null, .null, .null, .null, .int 0]))]) H := hP
  replace hD : va_D A (((h0, .inr (11, [.ref (u2 0), .ref (u4 0), .ref (u6 0), .null, .null, .null, .null, .null, .null, .null, .int 0, .int 0, .int 0])) :: r3) ++ [(q7, .inr (1, [.null, .null, .null, .null, .null, .null, .int 0]))]) := hD
  have hPc := e_P hP
  have hFc := e_F hD hS hA
  have hDc := e_D hD
  refine va_callv (va_runI (As := [.ref (u6 0), .ref (u4 0)]) (rest := [.ref q7, .ref h0]) ⟨hx, hb, hml, hown, hts⟩ (ci_X1 l D t fa q7 (u6 0) (u4 0) H.size) (cwI 2 hts (tg_good (tg_1 (List.mem_of_getElem? (i := 90) rfl) rfl)) rfl rfl rfl (hts _ (tg_1 (List.mem_of_getElem? (i := 5) rfl) rfl)) (hts _ (tg_1 (List.mem_of_getElem? (i := 88) rfl) rfl)) (hts _ (tg_1 (List.mem_of_getElem? (i := 89) rfl) rfl)) rfl (by decide +kernel) ⟨Nat.le_of_ble_eq_true rfl, Nat.le_of_ble_eq_true rfl⟩) ⟨c_Pc.blind, fun U hU hW => ⟨rfl, by rw [hU], by rw [hU]; exact hPc, va_K.moved hW.alike hK, hDc.weaken (fun _ _ _ _ => trivial), c_Z.to hZ hS hFc hU hW⟩⟩ rfl rfl hl.1 rfl (lv_room (Nat.le_of_ble_eq_true rfl)) dX11_init_58 ⟨Nat.le_of_ble_eq_true rfl, Nat.le_of_ble_eq_true rfl⟩) hS (fun q _ h => hFc q h) hFc (fun u8 t1 H1 locs ht hvm hw hB hz1 hk1 hS => ?_)
  obtain ⟨hP1, hD1⟩ := hB
  rw [ht] at hP1
  try dsimp only at hw
  obtain ⟨hPn, hDn⟩ := e_J hP hD hk1 hFc hP1 hD1
  clear hPc hFc hDc hP1 hD1 hk1 hz1 ht hvm t1 hP hD
  subst hw
  generalize H1 = Hu8 at hPn hS ⊢
  have hP := hPn
  have hD := hDn
  clear hPn hDn
  obtain ⟨r4, hr4⟩ : ∃ r : va_W, r = r3 ++ w1_X1 t (u6 0) (u4 0) u8 := ⟨_, rfl⟩
  replace hP : va_P D vwCl ((h0, .inr (11, [.ref (u2 0), .ref (u4 0), .ref (u6 0), .null, .null, .null, .null, .null, .null, .null, .int 0, .int 0, .int 0])) :: r4) Hu8 := by rw [hr4]; exact hP
  replace hD : va_D A ((h0, .inr (11, [.ref (u2 0), .ref (u4 0), .ref (u6 0), .null, .null, .null, .null, .null, .null, .null, .int 0, .int 0, .int 0])) :: r4) := by rw [hr4]; exact hD
  refine W.widen (k := 15) (n := 13334) (Nat.le_of_ble_eq_true rfl) (Nat.le_of_ble_eq_true rfl) ?_
  refine va_putF (D := D) (ci := 11) (v := .ref (u8 0)) (C := RX11) (T := TX11) (N := 13) hx hb hts in_X11 tyX11 tyX11_ok nmX11 hown hK hP hD hS 0 rfl rfl 3 (by decide) (hts _ fl_X11_37) (fun _ h9 => h9) rfl hin rfl (ty := tyX11 3) (tyX11_ok 3 (by decide)) rfl rfl (Nat.le_of_ble_eq_true rfl) dX11_init_61 (fun H locs hP2 hD2 hS2 => ?_)
  clear hP hD hS
  have hP : va_P D vwCl ((h0, .inr (11, [.ref (u2 0), .ref (u4 0), .ref (u6 0), .ref (u8 0), .null, .null, .null, .null, .null, .null, .int 0, .int 0, .int 0])) :: r4) H := hP2
  have hD : va_D A ((h0, .inr (11, [.ref (u2 0), .ref (u4 0), .ref (u6 0), .ref (u8 0), .null, .null, .null, .null, .null, .null, .int 0, .int 0, .int 0])) :: r4) := hD2
  have hS := hS2
  clear hP2 hD2 hS2
  refine lv_aload_n hx hb dX11_init_64 rfl (lv_at hl 0 rfl) ?_
  refine va_new (ci := 5) (fs := [.null, .null, .null, .null, .null, .null, .null, .null, .null, .null, .null, .null, .int 0]) (C := RX5) (T := TX5) (N := 13) hx hb hts in_X5 tyX5 tyX5_ok hown (hts _ (tg_1 (List.mem_of_getElem? (i := 114) rfl) rfl)) (hts _ (tg_1 (List.mem_of_getElem? (i := 115) rfl) rfl)) (hts _ (tg_1 (List.mem_of_getElem? (i := 6) rfl) rfl)) hK hP hD hS hA rfl z_X5 (Nat.le_of_ble_eq_true rfl) (Nat.le_of_ble_eq_true rfl) dX11_init_65 (fun q9 H hP2 hD2 hS2 => ?_)
  clear hP hD hS
  have hP : va_P D vwCl ((h0, .inr (11, [.ref (u2 0), .ref (u4 0), .ref (u6 0), .ref (u8 0), .null, .null, .null, .null, .null, .null, .int 0, .int 0, .int 0])) :: (r4 ++ [(q9, .inr (5, [.null, .null, .null, .null, .null, .null, .null, .null, .null, .null, .null, .null, .int 0]))])) H := hP2
  have hD : va_D A ((h0, .inr (11, [.ref (u2 0), .ref (u4 0), .ref (u6 0), .ref (u8 0), .null, .null, .null, .null, .null, .null, .int 0, .int 0, .int 0])) :: (r4 ++ [(q9, .inr (5, [.null, .null, .null, .null, .null, .null, .null, .null, .null, .null, .null, .null, .int 0]))])) := hD2
  have hS := hS2
  clear hP2 hD2 hS2
  refine W.widen (k := 16) (n := 13347) (Nat.le_of_ble_eq_true rfl) (Nat.le_of_ble_eq_true rfl) ?_
  refine lv_dup hx hb dX11_init_68 rfl ?_
  refine lv_aload_n hx hb dX11_init_69 rfl (lv_at hl 0 rfl) ?_
  refine va_get (C := RX11) (T := TX11) (N := 13) hx hb hts in_X11 hown hK hP 0 rfl rfl 3 (by decide) (hts _ fl_X11_37) (fun _ h9 => h9) (v := .ref (u8 0)) rfl dX11_init_70 ?_
  refine lv_aload_n hx hb dX11_init_73 rfl (lv_at hl 0 rfl) ?_
  refine va_get (C := RX11) (T := TX11) (N := 13) hx hb hts in_X11 hown hK hP 0 rfl rfl 1 (by decide) (hts _ fl_X11_19) (fun _ h9 => h9) (v := .ref (u4 0)) rfl dX11_init_74 ?_
  replace hP : va_P D vwCl (((h0, .inr (11, [.ref (u2 0), .ref (u4 0), .ref (u6 0), .ref (u8 0), .null, .null, .null, .null, .null, .null, .int 0, .int 0, .int 0])) :: r4) ++ [(q9, .inr (5, [.null, .null, .null, .null, .null, .null, .null, .null, .null, .null, .null, .null, .int 0]))]) H := hP
  replace hD : va_D A (((h0, .inr (11, [.ref (u2 0), .ref (u4 0), .ref (u6 0), .ref (u8 0), .null, .null, .null, .null, .null, .null, .int 0, .int 0, .int 0])) :: r4) ++ [(q9, .inr (5, [.null, .null, .null, .null, .null, .null, .null, .null, .null, .null, .null, .null, .int 0]))]) := hD
  have hPc := e_P hP
  have hFc := e_F hD hS hA
  have hDc := e_D hD
  refine va_callv (va_runI (As := [.ref (u8 0), .ref (u4 0)]) (rest := [.ref q9, .ref h0]) ⟨hx, hb, hml, hown, hts⟩ (ci_X5 l D t fa q9 (u8 0) (u4 0) H.size) (cwI 2 hts (tg_good (tg_1 (List.mem_of_getElem? (i := 118) rfl) rfl)) rfl rfl rfl (hts _ (tg_1 (List.mem_of_getElem? (i := 6) rfl) rfl)) (hts _ (tg_1 (List.mem_of_getElem? (i := 116) rfl) rfl)) (hts _ (tg_1 (List.mem_of_getElem? (i := 117) rfl) rfl)) rfl (by decide +kernel) ⟨Nat.le_of_ble_eq_true rfl, Nat.le_of_ble_eq_true rfl⟩) ⟨c_Pc.blind, fun U hU hW => ⟨rfl, by rw [hU], by rw [hU]; exact hPc, va_K.moved hW.alike hK, hDc.weaken (fun _ _ _ _ => trivial), c_Z.to hZ hS hFc hU hW⟩⟩ rfl rfl hl.1 rfl (lv_room (Nat.le_of_ble_eq_true rfl)) dX11_init_77 ⟨Nat.le_of_ble_eq_true rfl, Nat.le_of_ble_eq_true rfl⟩) hS (fun q _ h => hFc q h) hFc (fun u10 t1 H1 locs ht hvm hw hB hz1 hk1 hS => ?_)
  obtain ⟨hP1, hD1⟩ := hB
  rw [ht] at hP1
  try dsimp only at hw
  obtain ⟨hPn, hDn⟩ := e_J hP hD hk1 hFc hP1 hD1
  clear hPc hFc hDc hP1 hD1 hk1 hz1 ht hvm t1 hP hD
  subst hw
  generalize H1 = Hu10 at hPn hS ⊢
  have hP := hPn
  have hD := hDn
  clear hPn hDn
  obtain ⟨r5, hr5⟩ : ∃ r : va_W, r = r4 ++ w1_X5 t (u8 0) (u4 0) u10 := ⟨_, rfl⟩
  replace hP : va_P D vwCl ((h0, .inr (11, [.ref (u2 0), .ref (u4 0), .ref (u6 0), .ref (u8 0), .null, .null, .null, .null, .null, .null, .int 0, .int 0, .int 0])) :: r5) Hu10 := by rw [hr5]; exact hP
  replace hD : va_D A ((h0, .inr (11, [.ref (u2 0), .ref (u4 0), .ref (u6 0), .ref (u8 0), .null, .null, .null, .null, .null, .null, .int 0, .int 0, .int 0])) :: r5) := by rw [hr5]; exact hD
  refine W.widen (k := 26) (n := 15965) (Nat.le_of_ble_eq_true rfl) (Nat.le_of_ble_eq_true rfl) ?_
  refine va_putF (D := D) (ci := 11) (v := .ref (u10 0)) (C := RX11) (T := TX11) (N := 13) hx hb hts in_X11 tyX11 tyX11_ok nmX11 hown hK hP hD hS 0 rfl rfl 4 (by decide) (hts _ fl_X11_46) (fun _ h9 => h9) rfl hin rfl (ty := tyX11 4) (tyX11_ok 4 (by decide)) rfl rfl (Nat.le_of_ble_eq_true rfl) dX11_init_80 (fun H locs hP2 hD2 hS2 => ?_)
  clear hP hD hS
  have hP : va_P D vwCl ((h0, .inr (11, [.ref (u2 0), .ref (u4 0), .ref (u6 0), .ref (u8 0), .ref (u10 0), .null, .null, .null, .null, .null, .int 0, .int 0, .int 0])) :: r5) H := hP2
  have hD : va_D A ((h0, .inr (11, [.ref (u2 0), .ref (u4 0), .ref (u6 0), .ref (u8 0), .ref (u10 0), .null, .null, .null, .null, .null, .int 0, .int 0, .int 0])) :: r5) := hD2
  have hS := hS2
  clear hP2 hD2 hS2
  refine lv_aload_n hx hb dX11_init_83 rfl (lv_at hl 0 rfl) ?_
  refine va_new (ci := 6) (fs := [.null, .null, .null, .null, .null, .null, .null, .null]) (C := RX6) (T := TX6) (N := 8) hx hb hts in_X6 tyX6 tyX6_ok hown (hts _ (tg_1 (List.mem_of_getElem? (i := 176) rfl) rfl)) (hts _ (tg_1 (List.mem_of_getElem? (i := 177) rfl) rfl)) (hts _ (tg_1 (List.mem_of_getElem? (i := 8) rfl) rfl)) hK hP hD hS hA rfl z_X6 (Nat.le_of_ble_eq_true rfl) (Nat.le_of_ble_eq_true rfl) dX11_init_84 (fun q11 H hP2 hD2 hS2 => ?_)
  clear hP hD hS
  have hP : va_P D vwCl ((h0, .inr (11, [.ref (u2 0), .ref (u4 0), .ref (u6 0), .ref (u8 0), .ref (u10 0), .null, .null, .null, .null, .null, .int 0, .int 0, .int 0])) :: (r5 ++ [(q11, .inr (6, [.null, .null, .null, .null, .null, .null, .null, .null]))])) H := hP2
  have hD : va_D A ((h0, .inr (11, [.ref (u2 0), .ref (u4 0), .ref (u6 0), .ref (u8 0), .ref (u10 0), .null, .null, .null, .null, .null, .int 0, .int 0, .int 0])) :: (r5 ++ [(q11, .inr (6, [.null, .null, .null, .null, .null, .null, .null, .null]))])) := hD2
  have hS := hS2
  clear hP2 hD2 hS2
  refine W.widen (k := 27) (n := 15973) (Nat.le_of_ble_eq_true rfl) (Nat.le_of_ble_eq_true rfl) ?_
  refine lv_dup hx hb dX11_init_87 rfl ?_
  refine lv_aload_n hx hb dX11_init_88 rfl (lv_at hl 0 rfl) ?_
  refine va_get (C := RX11) (T := TX11) (N := 13) hx hb hts in_X11 hown hK hP 0 rfl rfl 3 (by decide) (hts _ fl_X11_37) (fun _ h9 => h9) (v := .ref (u8 0)) rfl dX11_init_89 ?_
  refine lv_aload_n hx hb dX11_init_92 rfl (lv_at hl 0 rfl) ?_
  refine va_get (C := RX11) (T := TX11) (N := 13) hx hb hts in_X11 hown hK hP 0 rfl rfl 1 (by decide) (hts _ fl_X11_19) (fun _ h9 => h9) (v := .ref (u4 0)) rfl dX11_init_93 ?_
  replace hP : va_P D vwCl (((h0, .inr (11, [.ref (u2 0), .ref (u4 0), .ref (u6 0), .ref (u8 0), .ref (u10 0), .null, .null, .null, .null, .null, .int 0, .int 0, .int 0])) :: r5) ++ [(q11, .inr (6, [.null, .null, .null, .null, .null, .null, .null, .null]))]) H := hP
  replace hD : va_D A (((h0, .inr (11, [.ref (u2 0), .ref (u4 0), .ref (u6 0), .ref (u8 0), .ref (u10 0), .null, .null, .null, .null, .null, .int 0, .int 0, .int 0])) :: r5) ++ [(q11, .inr (6, [.null, .null, .null, .null, .null, .null, .null, .null]))]) := hD
  have hPc := e_P hP
  have hFc := e_F hD hS hA
  have hDc := e_D hD
  refine va_callv (va_runI (As := [.ref (u8 0), .ref (u4 0)]) (rest := [.ref q11, .ref h0]) ⟨hx, hb, hml, hown, hts⟩ (ci_X6 l D t fa q11 (u8 0) (u4 0) H.size) (cwI 2 hts (tg_good (tg_1 (List.mem_of_getElem? (i := 180) rfl) rfl)) rfl rfl rfl (hts _ (tg_1 (List.mem_of_getElem? (i := 8) rfl) rfl)) (hts _ (tg_1 (List.mem_of_getElem? (i := 178) rfl) rfl)) (hts _ (tg_1 (List.mem_of_getElem? (i := 179) rfl) rfl)) rfl (by decide +kernel) ⟨Nat.le_of_ble_eq_true rfl, Nat.le_of_ble_eq_true rfl⟩) ⟨c_Pc.blind, fun U hU hW => ⟨rfl, by rw [hU], by rw [hU]; exact hPc, va_K.moved hW.alike hK, hDc.weaken (fun _ _ _ _ => trivial), c_Z.to hZ hS hFc hU hW⟩⟩ rfl rfl hl.1 rfl (lv_room (Nat.le_of_ble_eq_true rfl)) dX11_init_96 ⟨Nat.le_of_ble_eq_true rfl, Nat.le_of_ble_eq_true rfl⟩) hS (fun q _ h => hFc q h) hFc (fun u12 t1 H1 locs ht hvm hw hB hz1 hk1 hS => ?_)
  obtain ⟨hP1, hD1⟩ := hB
  rw [ht] at hP1
  try dsimp only at hw
  obtain ⟨hPn, hDn⟩ := e_J hP hD hk1 hFc hP1 hD1
  clear hPc hFc hDc hP1 hD1 hk1 hz1 ht hvm t1 hP hD
  subst hw
  generalize H1 = Hu12 at hPn hS ⊢
  have hP := hPn
  have hD := hDn
  clear hPn hDn
  obtain ⟨r6, hr6⟩ : ∃ r : va_W, r = r5 ++ w1_X6 t (u8 0) (u4 0) u12 := ⟨_, rfl⟩
  replace hP : va_P D vwCl ((h0, .inr (11, [.ref (u2 0), .ref (u4 0), .ref (u6 0), .ref (u8 0), .ref (u10 0), .null, .null, .null, .null, .null, .int 0, .int 0, .int 0])) :: r6) Hu12 := by rw [hr6]; exact hP
  replace hD : va_D A ((h0, .inr (11, [.ref (u2 0), .ref (u4 0), .ref (u6 0), .ref (u8 0), .ref (u10 0), .null, .null, .null, .null, .null, .int 0, .int 0, .int 0])) :: r6) := by rw [hr6]; exact hD
  refine W.widen (k := 33) (n := 26290) (Nat.le_of_ble_eq_true rfl) (Nat.le_of_ble_eq_true rfl) ?_
  refine va_putF (D := D) (ci := 11) (v := .ref (u12 0)) (C := RX11) (T := TX11) (N := 13) hx hb hts in_X11 tyX11 tyX11_ok nmX11 hown hK hP hD hS 0 rfl rfl 5 (by decide) (hts _ fl_X11_53) (fun _ h9 => h9) rfl hin rfl (ty := tyX11 5) (tyX11_ok 5 (by decide)) rfl rfl (Nat.le_of_ble_eq_true rfl) dX11_init_99 (fun H locs hP2 hD2 hS2 => ?_)
  clear hP hD hS
  have hP : va_P D vwCl ((h0, .inr (11, [.ref (u2 0), .ref (u4 0), .ref (u6 0), .ref (u8 0), .ref (u10 0), .ref (u12 0), .null, .null, .null, .null, .int 0, .int 0, .int 0])) :: r6) H := hP2
  have hD : va_D A ((h0, .inr (11, [.ref (u2 0), .ref (u4 0), .ref (u6 0), .ref (u8 0), .ref (u10 0), .ref (u12 0), .null, .null, .null, .null, .int 0, .int 0, .int 0])) :: r6) := hD2
  have hS := hS2
  clear hP2 hD2 hS2
  refine lv_aload_n hx hb dX11_init_102 rfl (lv_at hl 0 rfl) ?_
  refine va_new (ci := 8) (fs := [.null, .null, .null, .null, .null, .null, .int 0]) (C := RX8) (T := TX8) (N := 7) hx hb hts in_X8 tyX8 tyX8_ok hown (hts _ (tg_1 (List.mem_of_getElem? (i := 209) rfl) rfl)) (hts _ (tg_1 (List.mem_of_getElem? (i := 210) rfl) rfl)) (hts _ (tg_1 (List.mem_of_getElem? (i := 9) rfl) rfl)) hK hP hD hS hA rfl z_X8 (Nat.le_of_ble_eq_true rfl) (Nat.le_of_ble_eq_true rfl) dX11_init_103 (fun q13 H hP2 hD2 hS2 => ?_)
  clear hP hD hS
  have hP : va_P D vwCl ((h0, .inr (11, [.ref (u2 0), .ref (u4 0), .ref (u6 0), .ref (u8 0), .ref (u10 0), .ref (u12 0), .null, .null, .null, .null, .int 0, .int 0, .int 0])) :: (r6 ++ [(q13, .inr (8, [.null, .null, .null, .null, .null, .null, .int 0]))])) H := hP2
  have hD : va_D A ((h0, .inr (11, [.ref (u2 0), .ref (u4 0), .ref (u6 0), .ref (u8 0), .ref (u10 0), .ref (u12 0), .null, .null, .null, .null, .int 0, .int 0, .int 0])) :: (r6 ++ [(q13, .inr (8, [.null, .null, .null, .null, .null, .null, .int 0]))])) := hD2
  have hS := hS2
  clear hP2 hD2 hS2
  refine W.widen (k := 34) (n := 26297) (Nat.le_of_ble_eq_true rfl) (Nat.le_of_ble_eq_true rfl) ?_
  refine lv_dup hx hb dX11_init_106 rfl ?_
  refine lv_aload_n hx hb dX11_init_107 rfl (lv_at hl 0 rfl) ?_
  refine va_get (C := RX11) (T := TX11) (N := 13) hx hb hts in_X11 hown hK hP 0 rfl rfl 4 (by decide) (hts _ fl_X11_46) (fun _ h9 => h9) (v := .ref (u10 0)) rfl dX11_init_108 ?_
  refine lv_aload_n hx hb dX11_init_111 rfl (lv_at hl 0 rfl) ?_
  refine va_get (C := RX11) (T := TX11) (N := 13) hx hb hts in_X11 hown hK hP 0 rfl rfl 0 (by decide) (hts _ fl_X11_10) (fun _ h9 => h9) (v := .ref (u2 0)) rfl dX11_init_112 ?_
  refine lv_aload_n hx hb dX11_init_115 rfl (lv_at hl 0 rfl) ?_
  refine va_get (C := RX11) (T := TX11) (N := 13) hx hb hts in_X11 hown hK hP 0 rfl rfl 1 (by decide) (hts _ fl_X11_19) (fun _ h9 => h9) (v := .ref (u4 0)) rfl dX11_init_116 ?_
  replace hP : va_P D vwCl (((h0, .inr (11, [.ref (u2 0), .ref (u4 0), .ref (u6 0), .ref (u8 0), .ref (u10 0), .ref (u12 0), .null, .null, .null, .null, .int 0, .int 0, .int 0])) :: r6) ++ [(q13, .inr (8, [.null, .null, .null, .null, .null, .null, .int 0]))]) H := hP
  replace hD : va_D A (((h0, .inr (11, [.ref (u2 0), .ref (u4 0), .ref (u6 0), .ref (u8 0), .ref (u10 0), .ref (u12 0), .null, .null, .null, .null, .int 0, .int 0, .int 0])) :: r6) ++ [(q13, .inr (8, [.null, .null, .null, .null, .null, .null, .int 0]))]) := hD
  have hPc := e_P hP
  have hFc := e_F hD hS hA
  have hDc := e_D hD
  refine va_callv (va_runI (As := [.ref (u10 0), .ref (u2 0), .ref (u4 0)]) (rest := [.ref q13, .ref h0]) ⟨hx, hb, hml, hown, hts⟩ (ci_X8 l D t fa q13 (u10 0) (u2 0) (u4 0) H.size) (cwI 3 hts (tg_good (tg_1 (List.mem_of_getElem? (i := 213) rfl) rfl)) rfl rfl rfl (hts _ (tg_1 (List.mem_of_getElem? (i := 9) rfl) rfl)) (hts _ (tg_1 (List.mem_of_getElem? (i := 211) rfl) rfl)) (hts _ (tg_1 (List.mem_of_getElem? (i := 212) rfl) rfl)) rfl (by decide +kernel) ⟨Nat.le_of_ble_eq_true rfl, Nat.le_of_ble_eq_true rfl⟩) ⟨c_Pc.blind, fun U hU hW => ⟨rfl, by rw [hU], by rw [hU]; exact hPc, va_K.moved hW.alike hK, hDc.weaken (fun _ _ _ _ => trivial), c_Z.to hZ hS hFc hU hW⟩⟩ rfl rfl hl.1 rfl (lv_room (Nat.le_of_ble_eq_true rfl)) dX11_init_119 ⟨Nat.le_of_ble_eq_true rfl, Nat.le_of_ble_eq_true rfl⟩) hS (fun q _ h => hFc q h) hFc (fun u14 t1 H1 locs ht hvm hw hB hz1 hk1 hS => ?_)
  obtain ⟨hP1, hD1⟩ := hB
  rw [ht] at hP1
  try dsimp only at hw
  obtain ⟨hPn, hDn⟩ := e_J hP hD hk1 hFc hP1 hD1
  clear hPc hFc hDc hP1 hD1 hk1 hz1 ht hvm t1 hP hD
  subst hw
  generalize H1 = Hu14 at hPn hS ⊢
  have hP := hPn
  have hD := hDn
  clear hPn hDn
  obtain ⟨r7, hr7⟩ : ∃ r : va_W, r = r6 ++ w1_X8 t (u10 0) (u2 0) (u4 0) u14 := ⟨_, rfl⟩
  replace hP : va_P D vwCl ((h0, .inr (11, [.ref (u2 0), .ref (u4 0), .ref (u6 0), .ref (u8 0), .ref (u10 0), .ref (u12 0), .null, .null, .null, .null, .int 0, .int 0, .int 0])) :: r7) Hu14 := by rw [hr7]; exact hP
  replace hD : va_D A ((h0, .inr (11, [.ref (u2 0), .ref (u4 0), .ref (u6 0), .ref (u8 0), .ref (u10 0), .ref (u12 0), .null, .null, .null, .null, .int 0, .int 0, .int 0])) :: r7) := by rw [hr7]; exact hD
  refine W.widen (k := 37) (n := 26597) (Nat.le_of_ble_eq_true rfl) (Nat.le_of_ble_eq_true rfl) ?_
  refine va_putF (D := D) (ci := 11) (v := .ref (u14 0)) (C := RX11) (T := TX11) (N := 13) hx hb hts in_X11 tyX11 tyX11_ok nmX11 hown hK hP hD hS 0 rfl rfl 6 (by decide) (hts _ fl_X11_62) (fun _ h9 => h9) rfl hin rfl (ty := tyX11 6) (tyX11_ok 6 (by decide)) rfl rfl (Nat.le_of_ble_eq_true rfl) dX11_init_122 (fun H locs hP2 hD2 hS2 => ?_)
  clear hP hD hS
  have hP : va_P D vwCl ((h0, .inr (11, [.ref (u2 0), .ref (u4 0), .ref (u6 0), .ref (u8 0), .ref (u10 0), .ref (u12 0), .ref (u14 0), .null, .null, .null, .int 0, .int 0, .int 0])) :: r7) H := hP2
  have hD : va_D A ((h0, .inr (11, [.ref (u2 0), .ref (u4 0), .ref (u6 0), .ref (u8 0), .ref (u10 0), .ref (u12 0), .ref (u14 0), .null, .null, .null, .int 0, .int 0, .int 0])) :: r7) := hD2
  have hS := hS2
  clear hP2 hD2 hS2
  refine lv_aload_n hx hb dX11_init_125 rfl (lv_at hl 0 rfl) ?_
  refine va_new (ci := 4) (fs := [.null, .null, .null, .null, .null, .null, .int 0, .int 0, .int 0, .int 0]) (C := RX4) (T := TX4) (N := 10) hx hb hts in_X4 tyX4 tyX4_ok hown (hts _ (tg_1 (List.mem_of_getElem? (i := 237) rfl) rfl)) (hts _ (tg_1 (List.mem_of_getElem? (i := 238) rfl) rfl)) (hts _ (tg_1 (List.mem_of_getElem? (i := 10) rfl) rfl)) hK hP hD hS hA rfl z_X4 (Nat.le_of_ble_eq_true rfl) (Nat.le_of_ble_eq_true rfl) dX11_init_126 (fun q15 H hP2 hD2 hS2 => ?_)
  clear hP hD hS
  have hP : va_P D vwCl ((h0, .inr (11, [.ref (u2 0), .ref (u4 0), .ref (u6 0), .ref (u8 0), .ref (u10 0), .ref (u12 0), .ref (u14 0), .null, .null, .null, .int 0, .int 0, .int 0])) :: (r7 ++ [(q15, .inr (4, [.null, .null, .null, .null, .null, .null, .int 0, .int 0, .int 0, .int 0]))])) H := hP2
  have hD : va_D A ((h0, .inr (11, [.ref (u2 0), .ref (u4 0), .ref (u6 0), .ref (u8 0), .ref (u10 0), .ref (u12 0), .ref (u14 0), .null, .null, .null, .int 0, .int 0, .int 0])) :: (r7 ++ [(q15, .inr (4, [.null, .null, .null, .null, .null, .null, .int 0, .int 0, .int 0, .int 0]))])) := hD2
  have hS := hS2
  clear hP2 hD2 hS2
  refine W.widen (k := 38) (n := 26607) (Nat.le_of_ble_eq_true rfl) (Nat.le_of_ble_eq_true rfl) ?_
  refine lv_dup hx hb dX11_init_129 rfl ?_
  refine lv_aload_n hx hb dX11_init_130 rfl (lv_at hl 0 rfl) ?_
  refine va_get (C := RX11) (T := TX11) (N := 13) hx hb hts in_X11 hown hK hP 0 rfl rfl 4 (by decide) (hts _ fl_X11_46) (fun _ h9 => h9) (v := .ref (u10 0)) rfl dX11_init_131 ?_
  replace hP : va_P D vwCl (((h0, .inr (11, [.ref (u2 0), .ref (u4 0), .ref (u6 0), .ref (u8 0), .ref (u10 0), .ref (u12 0), .ref (u14 0), .null, .null, .null, .int 0, .int 0, .int 0])) :: r7) ++ [(q15, .inr (4, [.null, .null, .null, .null, .null, .null, .int 0, .int 0, .int 0, .int 0]))]) H := hP
  replace hD : va_D A (((h0, .inr (11, [.ref (u2 0), .ref (u4 0), .ref (u6 0), .ref (u8 0), .ref (u10 0), .ref (u12 0), .ref (u14 0), .null, .null, .null, .int 0, .int 0, .int 0])) :: r7) ++ [(q15, .inr (4, [.null, .null, .null, .null, .null, .null, .int 0, .int 0, .int 0, .int 0]))]) := hD
  have hPc := e_P hP
  have hFc := e_F hD hS hA
  have hDc := e_D hD
  refine va_callv (va_runI (As := [.ref (u10 0)]) (rest := [.ref q15, .ref h0]) ⟨hx, hb, hml, hown, hts⟩ (ci_X4 l D t fa q15 (u10 0) H.size) (cwI 1 hts (tg_good (tg_2 (List.mem_of_getElem? (i := 1) rfl) rfl)) rfl rfl rfl (hts _ (tg_1 (List.mem_of_getElem? (i := 10) rfl) rfl)) (hts _ (tg_1 (List.mem_of_getElem? (i := 239) rfl) rfl)) (hts _ (tg_2 (List.mem_of_getElem? (i := 0) rfl) rfl)) rfl (by decide +kernel) ⟨Nat.le_of_ble_eq_true rfl, Nat.le_of_ble_eq_true rfl⟩) ⟨c_Pc.blind, fun U hU hW => ⟨rfl, by rw [hU], by rw [hU]; exact hPc, va_K.moved hW.alike hK, hDc.weaken (fun _ _ _ _ => trivial), c_Z.to hZ hS hFc hU hW⟩⟩ rfl rfl hl.1 rfl (lv_room (Nat.le_of_ble_eq_true rfl)) dX11_init_134 ⟨Nat.le_of_ble_eq_true rfl, Nat.le_of_ble_eq_true rfl⟩) hS (fun q _ h => hFc q h) hFc (fun u16 t1 H1 locs ht hvm hw hB hz1 hk1 hS => ?_)
  obtain ⟨hP1, hD1⟩ := hB
  rw [ht] at hP1
  try dsimp only at hw
  obtain ⟨hPn, hDn⟩ := e_J hP hD hk1 hFc hP1 hD1
  clear hPc hFc hDc hP1 hD1 hk1 hz1 ht hvm t1 hP hD
  subst hw
  generalize H1 = Hu16 at hPn hS ⊢
  have hP := hPn
  have hD := hDn
  clear hPn hDn
  obtain ⟨r8, hr8⟩ : ∃ r : va_W, r = r7 ++ w1_X4 t (u10 0) u16 := ⟨_, rfl⟩
  replace hP : va_P D vwCl ((h0, .inr (11, [.ref (u2 0), .ref (u4 0), .ref (u6 0), .ref (u8 0), .ref (u10 0), .ref (u12 0), .ref (u14 0), .null, .null, .null, .int 0, .int 0, .int 0])) :: r8) Hu16 := by rw [hr8]; exact hP
  replace hD : va_D A ((h0, .inr (11, [.ref (u2 0), .ref (u4 0), .ref (u6 0), .ref (u8 0), .ref (u10 0), .ref (u12 0), .ref (u14 0), .null, .null, .null, .int 0, .int 0, .int 0])) :: r8) := by rw [hr8]; exact hD
  refine W.widen (k := 43) (n := 27007) (Nat.le_of_ble_eq_true rfl) (Nat.le_of_ble_eq_true rfl) ?_
  refine va_putF (D := D) (ci := 11) (v := .ref (u16 0)) (C := RX11) (T := TX11) (N := 13) hx hb hts in_X11 tyX11 tyX11_ok nmX11 hown hK hP hD hS 0 rfl rfl 7 (by decide) (hts _ fl_X11_71) (fun _ h9 => h9) rfl hin rfl (ty := tyX11 7) (tyX11_ok 7 (by decide)) rfl rfl (Nat.le_of_ble_eq_true rfl) dX11_init_137 (fun H locs hP2 hD2 hS2 => ?_)
  clear hP hD hS
  have hP : va_P D vwCl ((h0, .inr (11, [.ref (u2 0), .ref (u4 0), .ref (u6 0), .ref (u8 0), .ref (u10 0), .ref (u12 0), .ref (u14 0), .ref (u16 0), .null, .null, .int 0, .int 0, .int 0])) :: r8) H := hP2
  have hD : va_D A ((h0, .inr (11, [.ref (u2 0), .ref (u4 0), .ref (u6 0), .ref (u8 0), .ref (u10 0), .ref (u12 0), .ref (u14 0), .ref (u16 0), .null, .null, .int 0, .int 0, .int 0])) :: r8) := hD2
  have hS := hS2
  clear hP2 hD2 hS2
  refine lv_aload_n hx hb dX11_init_140 rfl (lv_at hl 0 rfl) ?_
  refine va_new (ci := 3) (fs := [.null, .null, .null, .null, .null, .null, .null, .null, .null, .int 0]) (C := RX3) (T := TX3) (N := 10) hx hb hts in_X3 tyX3 tyX3_ok hown (hts _ (tg_2 (List.mem_of_getElem? (i := 34) rfl) rfl)) (hts _ (tg_2 (List.mem_of_getElem? (i := 35) rfl) rfl)) (hts _ (tg_1 (List.mem_of_getElem? (i := 11) rfl) rfl)) hK hP hD hS hA rfl z_X3 (Nat.le_of_ble_eq_true rfl) (Nat.le_of_ble_eq_true rfl) dX11_init_141 (fun q17 H hP2 hD2 hS2 => ?_)
  clear hP hD hS
  have hP : va_P D vwCl ((h0, .inr (11, [.ref (u2 0), .ref (u4 0), .ref (u6 0), .ref (u8 0), .ref (u10 0), .ref (u12 0), .ref (u14 0), .ref (u16 0), .null, .null, .int 0, .int 0, .int 0])) :: (r8 ++ [(q17, .inr (3, [.null, .null, .null, .null, .null, .null, .null, .null, .null, .int 0]))])) H := hP2
  have hD : va_D A ((h0, .inr (11, [.ref (u2 0), .ref (u4 0), .ref (u6 0), .ref (u8 0), .ref (u10 0), .ref (u12 0), .ref (u14 0), .ref (u16 0), .null, .null, .int 0, .int 0, .int 0])) :: (r8 ++ [(q17, .inr (3, [.null, .null, .null, .null, .null, .null, .null, .null, .null, .int 0]))])) := hD2
  have hS := hS2
  clear hP2 hD2 hS2
  refine W.widen (k := 44) (n := 27017) (Nat.le_of_ble_eq_true rfl) (Nat.le_of_ble_eq_true rfl) ?_
  refine lv_dup hx hb dX11_init_144 rfl ?_
  refine lv_aload_n hx hb dX11_init_145 rfl (lv_at hl 0 rfl) ?_
  refine va_get (C := RX11) (T := TX11) (N := 13) hx hb hts in_X11 hown hK hP 0 rfl rfl 6 (by decide) (hts _ fl_X11_62) (fun _ h9 => h9) (v := .ref (u14 0)) rfl dX11_init_146 ?_
  refine lv_aload_n hx hb dX11_init_149 rfl (lv_at hl 0 rfl) ?_
  refine va_get (C := RX11) (T := TX11) (N := 13) hx hb hts in_X11 hown hK hP 0 rfl rfl 0 (by decide) (hts _ fl_X11_10) (fun _ h9 => h9) (v := .ref (u2 0)) rfl dX11_init_150 ?_
  refine lv_aload_n hx hb dX11_init_153 rfl (lv_at hl 0 rfl) ?_
  refine va_get (C := RX11) (T := TX11) (N := 13) hx hb hts in_X11 hown hK hP 0 rfl rfl 1 (by decide) (hts _ fl_X11_19) (fun _ h9 => h9) (v := .ref (u4 0)) rfl dX11_init_154 ?_
  replace hP : va_P D vwCl (((h0, .inr (11, [.ref (u2 0), .ref (u4 0), .ref (u6 0), .ref (u8 0), .ref (u10 0), .ref (u12 0), .ref (u14 0), .ref (u16 0), .null, .null, .int 0, .int 0, .int 0])) :: r8) ++ [(q17, .inr (3, [.null, .null, .null, .null, .null, .null, .null, .null, .null, .int 0]))]) H := hP
  replace hD : va_D A (((h0, .inr (11, [.ref (u2 0), .ref (u4 0), .ref (u6 0), .ref (u8 0), .ref (u10 0), .ref (u12 0), .ref (u14 0), .ref (u16 0), .null, .null, .int 0, .int 0, .int 0])) :: r8) ++ [(q17, .inr (3, [.null, .null, .null, .null, .null, .null, .null, .null, .null, .int 0]))]) := hD
  have hPc := e_P hP
  have hFc := e_F hD hS hA
  have hDc := e_D hD
  refine va_callv (va_runI (As := [.ref (u14 0), .ref (u2 0), .ref (u4 0)]) (rest := [.ref q17, .ref h0]) ⟨hx, hb, hml, hown, hts⟩ (ci_X3 l D t fa q17 (u14 0) (u2 0) (u4 0) H.size) (cwI 3 hts (tg_good (tg_2 (List.mem_of_getElem? (i := 38) rfl) rfl)) rfl rfl rfl (hts _ (tg_1 (List.mem_of_getElem? (i := 11) rfl) rfl)) (hts _ (tg_2 (List.mem_of_getElem? (i := 36) rfl) rfl)) (hts _ (tg_2 (List.mem_of_getElem? (i := 37) rfl) rfl)) rfl (by decide +kernel) ⟨Nat.le_of_ble_eq_true rfl, Nat.le_of_ble_eq_true rfl⟩) ⟨c_Pc.blind, fun U hU hW => ⟨rfl, by rw [hU], by rw [hU]; exact hPc, va_K.moved hW.alike hK, hDc.weaken (fun _ _ _ _ => trivial), c_Z.to hZ hS hFc hU hW⟩⟩ rfl rfl hl.1 rfl (lv_room (Nat.le_of_ble_eq_true rfl)) dX11_init_157 ⟨Nat.le_of_ble_eq_true rfl, Nat.le_of_ble_eq_true rfl⟩) hS (fun q _ h => hFc q h) hFc (fun u18 t1 H1 locs ht hvm hw hB hz1 hk1 hS => ?_)
  obtain ⟨hP1, hD1⟩ := hB
  rw [ht] at hP1
  try dsimp only at hw
  obtain ⟨hPn, hDn⟩ := e_J hP hD hk1 hFc hP1 hD1
  clear hPc hFc hDc hP1 hD1 hk1 hz1 ht hvm t1 hP hD
  subst hw
  generalize H1 = Hu18 at hPn hS ⊢
  have hP := hPn
  have hD := hDn
  clear hPn hDn
  obtain ⟨r9, hr9⟩ : ∃ r : va_W, r = r8 ++ w1_X3 t (u14 0) (u2 0) (u4 0) u18 := ⟨_, rfl⟩
  replace hP : va_P D vwCl ((h0, .inr (11, [.ref (u2 0), .ref (u4 0), .ref (u6 0), .ref (u8 0), .ref (u10 0), .ref (u12 0), .ref (u14 0), .ref (u16 0), .null, .null, .int 0, .int 0, .int 0])) :: r9) Hu18 := by rw [hr9]; exact hP
  replace hD : va_D A ((h0, .inr (11, [.ref (u2 0), .ref (u4 0), .ref (u6 0), .ref (u8 0), .ref (u10 0), .ref (u12 0), .ref (u14 0), .ref (u16 0), .null, .null, .int 0, .int 0, .int 0])) :: r9) := by rw [hr9]; exact hD
  refine W.widen (k := 50) (n := 30418) (Nat.le_of_ble_eq_true rfl) (Nat.le_of_ble_eq_true rfl) ?_
  refine va_putF (D := D) (ci := 11) (v := .ref (u18 0)) (C := RX11) (T := TX11) (N := 13) hx hb hts in_X11 tyX11 tyX11_ok nmX11 hown hK hP hD hS 0 rfl rfl 8 (by decide) (hts _ fl_X11_80) (fun _ h9 => h9) rfl hin rfl (ty := tyX11 8) (tyX11_ok 8 (by decide)) rfl rfl (Nat.le_of_ble_eq_true rfl) dX11_init_160 (fun H locs hP2 hD2 hS2 => ?_)
  clear hP hD hS
  have hP : va_P D vwCl ((h0, .inr (11, [.ref (u2 0), .ref (u4 0), .ref (u6 0), .ref (u8 0), .ref (u10 0), .ref (u12 0), .ref (u14 0), .ref (u16 0), .ref (u18 0), .null, .int 0, .int 0, .int 0])) :: r9) H := hP2
  have hD : va_D A ((h0, .inr (11, [.ref (u2 0), .ref (u4 0), .ref (u6 0), .ref (u8 0), .ref (u10 0), .ref (u12 0), .ref (u14 0), .ref (u16 0), .ref (u18 0), .null, .int 0, .int 0, .int 0])) :: r9) := hD2
  have hS := hS2
  clear hP2 hD2 hS2
  refine lv_aload_n hx hb dX11_init_163 rfl (lv_at hl 0 rfl) ?_
  refine va_new (ci := 10) (fs := [.null, .null, .null, .null, .null, .int 0]) (C := RX10) (T := TX10) (N := 6) hx hb hts in_X10 tyX10 tyX10_ok hown (hts _ (tg_2 (List.mem_of_getElem? (i := 71) rfl) rfl)) (hts _ (tg_2 (List.mem_of_getElem? (i := 72) rfl) rfl)) (hts _ (tg_1 (List.mem_of_getElem? (i := 12) rfl) rfl)) hK hP hD hS hA rfl z_X10 (Nat.le_of_ble_eq_true rfl) (Nat.le_of_ble_eq_true rfl) dX11_init_164 (fun q19 H hP2 hD2 hS2 => ?_)
  clear hP hD hS
  have hP : va_P D vwCl ((h0, .inr (11, [.ref (u2 0), .ref (u4 0), .ref (u6 0), .ref (u8 0), .ref (u10 0), .ref (u12 0), .ref (u14 0), .ref (u16 0), .ref (u18 0), .null, .int 0, .int 0, .int 0])) :: (r9 ++ [(q19, .inr (10, [.null, .null, .null, .null, .null, .int 0]))])) H := hP2
  have hD : va_D A ((h0, .inr (11, [.ref (u2 0), .ref (u4 0), .ref (u6 0), .ref (u8 0), .ref (u10 0), .ref (u12 0), .ref (u14 0), .ref (u16 0), .ref (u18 0), .null, .int 0, .int 0, .int 0])) :: (r9 ++ [(q19, .inr (10, [.null, .null, .null, .null, .null, .int 0]))])) := hD2
  have hS := hS2
  clear hP2 hD2 hS2
  refine W.widen (k := 51) (n := 30424) (Nat.le_of_ble_eq_true rfl) (Nat.le_of_ble_eq_true rfl) ?_
  refine lv_dup hx hb dX11_init_167 rfl ?_
  refine lv_aload_n hx hb dX11_init_168 rfl (lv_at hl 0 rfl) ?_
  refine va_get (C := RX11) (T := TX11) (N := 13) hx hb hts in_X11 hown hK hP 0 rfl rfl 7 (by decide) (hts _ fl_X11_71) (fun _ h9 => h9) (v := .ref (u16 0)) rfl dX11_init_169 ?_
  refine lv_aload_n hx hb dX11_init_172 rfl (lv_at hl 0 rfl) ?_
  refine va_get (C := RX11) (T := TX11) (N := 13) hx hb hts in_X11 hown hK hP 0 rfl rfl 1 (by decide) (hts _ fl_X11_19) (fun _ h9 => h9) (v := .ref (u4 0)) rfl dX11_init_173 ?_
  replace hP : va_P D vwCl (((h0, .inr (11, [.ref (u2 0), .ref (u4 0), .ref (u6 0), .ref (u8 0), .ref (u10 0), .ref (u12 0), .ref (u14 0), .ref (u16 0), .ref (u18 0), .null, .int 0, .int 0, .int 0])) :: r9) ++ [(q19, .inr (10, [.null, .null, .null, .null, .null, .int 0]))]) H := hP
  replace hD : va_D A (((h0, .inr (11, [.ref (u2 0), .ref (u4 0), .ref (u6 0), .ref (u8 0), .ref (u10 0), .ref (u12 0), .ref (u14 0), .ref (u16 0), .ref (u18 0), .null, .int 0, .int 0, .int 0])) :: r9) ++ [(q19, .inr (10, [.null, .null, .null, .null, .null, .int 0]))]) := hD
  have hPc := e_P hP
  have hFc := e_F hD hS hA
  have hDc := e_D hD
  refine va_callv (va_runI (As := [.ref (u16 0), .ref (u4 0)]) (rest := [.ref q19, .ref h0]) ⟨hx, hb, hml, hown, hts⟩ (ci_X10 l D t fa q19 (u16 0) (u4 0) H.size) (cwI 2 hts (tg_good (tg_2 (List.mem_of_getElem? (i := 75) rfl) rfl)) rfl rfl rfl (hts _ (tg_1 (List.mem_of_getElem? (i := 12) rfl) rfl)) (hts _ (tg_2 (List.mem_of_getElem? (i := 73) rfl) rfl)) (hts _ (tg_2 (List.mem_of_getElem? (i := 74) rfl) rfl)) rfl (by decide +kernel) ⟨Nat.le_of_ble_eq_true rfl, Nat.le_of_ble_eq_true rfl⟩) ⟨c_Pc.blind, fun U hU hW => ⟨rfl, by rw [hU], by rw [hU]; exact hPc, va_K.moved hW.alike hK, hDc.weaken (fun _ _ _ _ => trivial), c_Z.to hZ hS hFc hU hW⟩⟩ rfl rfl hl.1 rfl (lv_room (Nat.le_of_ble_eq_true rfl)) dX11_init_176 ⟨Nat.le_of_ble_eq_true rfl, Nat.le_of_ble_eq_true rfl⟩) hS (fun q _ h => hFc q h) hFc (fun u20 t1 H1 locs ht hvm hw hB hz1 hk1 hS => ?_)
  obtain ⟨hP1, hD1⟩ := hB
  rw [ht] at hP1
  try dsimp only at hw
  obtain ⟨hPn, hDn⟩ := e_J hP hD hk1 hFc hP1 hD1
  clear hPc hFc hDc hP1 hD1 hk1 hz1 ht hvm t1 hP hD
  subst hw
  generalize H1 = Hu20 at hPn hS ⊢
  have hP := hPn
  have hD := hDn
  clear hPn hDn
  obtain ⟨r10, hr10⟩ : ∃ r : va_W, r = r9 ++ w1_X10 t (u16 0) (u4 0) u20 := ⟨_, rfl⟩
  replace hP : va_P D vwCl ((h0, .inr (11, [.ref (u2 0), .ref (u4 0), .ref (u6 0), .ref (u8 0), .ref (u10 0), .ref (u12 0), .ref (u14 0), .ref (u16 0), .ref (u18 0), .null, .int 0, .int 0, .int 0])) :: r10) Hu20 := by rw [hr10]; exact hP
  replace hD : va_D A ((h0, .inr (11, [.ref (u2 0), .ref (u4 0), .ref (u6 0), .ref (u8 0), .ref (u10 0), .ref (u12 0), .ref (u14 0), .ref (u16 0), .ref (u18 0), .null, .int 0, .int 0, .int 0])) :: r10) := by rw [hr10]; exact hD
  refine W.widen (k := 54) (n := 31761) (Nat.le_of_ble_eq_true rfl) (Nat.le_of_ble_eq_true rfl) ?_
  refine va_putF (D := D) (ci := 11) (v := .ref (u20 0)) (C := RX11) (T := TX11) (N := 13) hx hb hts in_X11 tyX11 tyX11_ok nmX11 hown hK hP hD hS 0 rfl rfl 9 (by decide) (hts _ fl_X11_89) (fun _ h9 => h9) rfl hin rfl (ty := tyX11 9) (tyX11_ok 9 (by decide)) rfl rfl (Nat.le_of_ble_eq_true rfl) dX11_init_179 (fun H locs hP2 hD2 hS2 => ?_)
  clear hP hD hS
  have hP : va_P D vwCl ((h0, .inr (11, [.ref (u2 0), .ref (u4 0), .ref (u6 0), .ref (u8 0), .ref (u10 0), .ref (u12 0), .ref (u14 0), .ref (u16 0), .ref (u18 0), .ref (u20 0), .int 0, .int 0, .int 0])) :: r10) H := hP2
  have hD : va_D A ((h0, .inr (11, [.ref (u2 0), .ref (u4 0), .ref (u6 0), .ref (u8 0), .ref (u10 0), .ref (u12 0), .ref (u14 0), .ref (u16 0), .ref (u18 0), .ref (u20 0), .int 0, .int 0, .int 0])) :: r10) := hD2
  have hS := hS2
  clear hP2 hD2 hS2
  subst hr0 hr1 hr2 hr3 hr4 hr5 hr6 hr7 hr8 hr9 hr10
  subst hAe
  exact W.vret hx hb hr (fun t9 ht hW => ⟨⟨(fun k => ([h0, (u2 0), (u2 1), (u2 2), (u4 0), (u4 1), (u6 0), (u6 1), (u6 2), (u6 3), (u6 4), (u8 0), (u8 1), (u8 2), (u8 3), (u8 4), (u10 0), (u10 1), (u10 2), (u10 3), (u10 4), (u10 5), (u10 6), (u10 7), (u10 8), (u10 9), (u10 10), (u12 0), (u12 1), (u12 2), (u12 3), (u12 4), (u12 5), (u12 6), (u14 0), (u14 1), (u14 2), (u14 3), (u16 0), (u16 1), (u16 2), (u16 3), (u16 4), (u16 5), (u18 0), (u18 1), (u18 2), (u18 3), (u18 4), (u18 5), (u18 6), (u20 0), (u20 1), (u20 2), (u20 3)] : List Nat).getD k 0), rfl, rfl, by rw [ht]; exact hP, hD⟩, hS.F ht⟩) hS.2.2 dX11_init_182
