theorem z_X0 : ∀ j, j < 1 → defaultValue (tyX0 j) = vp_V [.null] j := fun j hj => match j, hj with
  | 0, _ => rfl
  | k + 1, h => absurd h (by omega)
theorem z_X1 : ∀ j, j < 7 → defaultValue (tyX1 j) = vp_V [.null, .null, .null, .null, .null, .null, .int 0] j := fun j hj => match j, hj with
  | 0, _ => rfl
  | 1, _ => rfl
  | 2, _ => rfl
  | 3, _ => rfl
  | 4, _ => rfl
  | 5, _ => rfl
  | 6, _ => rfl
  | k + 7, h => absurd h (by omega)
theorem z_X2 : ∀ j, j < 6 → defaultValue (tyX2 j) = vp_V [.null, .null, .null, .null, .null, .null] j := fun j hj => match j, hj with
  | 0, _ => rfl
  | 1, _ => rfl
  | 2, _ => rfl
  | 3, _ => rfl
  | 4, _ => rfl
  | 5, _ => rfl
  | k + 6, h => absurd h (by omega)
theorem z_X3 : ∀ j, j < 10 → defaultValue (tyX3 j) = vp_V [.null, .null, .null, .null, .null, .null, .null, .null, .null, .int 0] j := fun j hj => match j, hj with
  | 0, _ => rfl
  | 1, _ => rfl
  | 2, _ => rfl
  | 3, _ => rfl
  | 4, _ => rfl
  | 5, _ => rfl
  | 6, _ => rfl
  | 7, _ => rfl
  | 8, _ => rfl
  | 9, _ => rfl
  | k + 10, h => absurd h (by omega)
theorem z_X4 : ∀ j, j < 10 → defaultValue (tyX4 j) = vp_V [.null, .null, .null, .null, .null, .null, .int 0, .int 0, .int 0, .int 0] j := fun j hj => match j, hj with
  | 0, _ => rfl
  | 1, _ => rfl
  | 2, _ => rfl
  | 3, _ => rfl
  | 4, _ => rfl
  | 5, _ => rfl
  | 6, _ => rfl
  | 7, _ => rfl
  | 8, _ => rfl
  | 9, _ => rfl
  | k + 10, h => absurd h (by omega)
theorem z_X5 : ∀ j, j < 13 → defaultValue (tyX5 j) = vp_V [.null, .null, .null, .null, .null, .null, .null, .null, .null, .null, .null, .null, .int 0] j := fun j hj => match j, hj with
  | 0, _ => rfl
  | 1, _ => rfl
  | 2, _ => rfl
  | 3, _ => rfl
  | 4, _ => rfl
  | 5, _ => rfl
  | 6, _ => rfl
  | 7, _ => rfl
  | 8, _ => rfl
  | 9, _ => rfl
  | 10, _ => rfl
  | 11, _ => rfl
  | 12, _ => rfl
  | k + 13, h => absurd h (by omega)
theorem z_X6 : ∀ j, j < 8 → defaultValue (tyX6 j) = vp_V [.null, .null, .null, .null, .null, .null, .null, .null] j := fun j hj => match j, hj with
  | 0, _ => rfl
  | 1, _ => rfl
  | 2, _ => rfl
  | 3, _ => rfl
  | 4, _ => rfl
  | 5, _ => rfl
  | 6, _ => rfl
  | 7, _ => rfl
  | k + 8, h => absurd h (by omega)
theorem z_X7 : ∀ j, j < 4 → defaultValue (tyX7 j) = vp_V [.null, .null, .int 0, .int 0] j := fun j hj => match j, hj with
  | 0, _ => rfl
  | 1, _ => rfl
  | 2, _ => rfl
  | 3, _ => rfl
  | k + 4, h => absurd h (by omega)
theorem z_X8 : ∀ j, j < 7 → defaultValue (tyX8 j) = vp_V [.null, .null, .null, .null, .null, .null, .int 0] j := fun j hj => match j, hj with
  | 0, _ => rfl
  | 1, _ => rfl
  | 2, _ => rfl
  | 3, _ => rfl
  | 4, _ => rfl
  | 5, _ => rfl
  | 6, _ => rfl
  | k + 7, h => absurd h (by omega)
theorem z_X9 : ∀ j, j < 3 → defaultValue (tyX9 j) = vp_V [.int 0, .int 0, .int 0] j := fun j hj => match j, hj with
  | 0, _ => rfl
  | 1, _ => rfl
  | 2, _ => rfl
  | k + 3, h => absurd h (by omega)
theorem z_X10 : ∀ j, j < 6 → defaultValue (tyX10 j) = vp_V [.null, .null, .null, .null, .null, .int 0] j := fun j hj => match j, hj with
  | 0, _ => rfl
  | 1, _ => rfl
  | 2, _ => rfl
  | 3, _ => rfl
  | 4, _ => rfl
  | 5, _ => rfl
  | k + 6, h => absurd h (by omega)
theorem z_X11 : ∀ j, j < 13 → defaultValue (tyX11 j) = vp_V [.null, .null, .null, .null, .null, .null, .null, .null, .null, .null, .int 0, .int 0, .int 0] j := fun j hj => match j, hj with
  | 0, _ => rfl
  | 1, _ => rfl
  | 2, _ => rfl
  | 3, _ => rfl
  | 4, _ => rfl
  | 5, _ => rfl
  | 6, _ => rfl
  | 7, _ => rfl
  | 8, _ => rfl
  | 9, _ => rfl
  | 10, _ => rfl
  | 11, _ => rfl
  | 12, _ => rfl
  | k + 13, h => absurd h (by omega)
theorem z_X12 : ∀ j, j < 50 → defaultValue (tyX12 j) = vp_V [.null, .null, .null, .null, .null, .null, .int 0, .int 0, .int 0, .int 0, .int 0, .null, .null, .null, .null, .null, .null, .int 0, .null, .null, .null, .int 0, .int 0, .int 0, .null, .null, .null, .null, .null, .null, .null, .int 0, .null, .int 0, .null, .null, .null, .null, .int 0, .null, .null, .null, .int 0, .null, .null, .null, .null, .null, .null, .int 0] j := fun j hj => match j, hj with
  | 0, _ => rfl
  | 1, _ => rfl
  | 2, _ => rfl
  | 3, _ => rfl
  | 4, _ => rfl
  | 5, _ => rfl
  | 6, _ => rfl
  | 7, _ => rfl
  | 8, _ => rfl
  | 9, _ => rfl
  | 10, _ => rfl
  | 11, _ => rfl
  | 12, _ => rfl
  | 13, _ => rfl
  | 14, _ => rfl
  | 15, _ => rfl
  | 16, _ => rfl
  | 17, _ => rfl
  | 18, _ => rfl
  | 19, _ => rfl
  | 20, _ => rfl
  | 21, _ => rfl
  | 22, _ => rfl
  | 23, _ => rfl
  | 24, _ => rfl
  | 25, _ => rfl
  | 26, _ => rfl
  | 27, _ => rfl
  | 28, _ => rfl
  | 29, _ => rfl
  | 30, _ => rfl
  | 31, _ => rfl
  | 32, _ => rfl
  | 33, _ => rfl
  | 34, _ => rfl
  | 35, _ => rfl
  | 36, _ => rfl
  | 37, _ => rfl
  | 38, _ => rfl
  | 39, _ => rfl
  | 40, _ => rfl
  | 41, _ => rfl
  | 42, _ => rfl
  | 43, _ => rfl
  | 44, _ => rfl
  | 45, _ => rfl
  | 46, _ => rfl
  | 47, _ => rfl
  | 48, _ => rfl
  | 49, _ => rfl
  | k + 50, h => absurd h (by omega)
def w1_X7 (t : uT) (u : Nat → Nat) : va_W := [(u 0, .inr (7, [.ref (u 1), .ref (u 2), .int 0, .int 0])), (u 1, .inl (t.1, 800, .inl (fun _ => 0))), (u 2, .inl (t.1, 400, .inl (fun _ => 0)))]
set_option maxHeartbeats 8000000 in
set_option maxRecDepth 100000 in
theorem ci_X7 (l : Launch) (D : va_G) (t : uT) (fa h0 : Nat) : CtC l D t fa yX7_init cX7_init 1 1 20 2 1200 [.ref h0] [(h0, .inr (7, [.null, .null, .int 0, .int 0]))] h0 (w1_X7 t) := by
  intro sz
  refine va_MetF (cc := cX7_init) (maxL := 1) (ret := none) (by decide +kernel) rfl ?_
  intro p e s m args below meth c s₁ B hml hv
  obtain ⟨rfl, hsz, hP, hK, hD0, hZ⟩ := hv
  have hx := B.exec
  have hb := B.bytes
  have hr := B.returns
  have hlocks := B.notSynchronized
  have hts : ∀ w ∈ TG, w.before ([.ref h0] : List Value).toArray s = true := fun w hw => atoms_spec (ws := Cond.code yX7_init cX7_init 1 none :: TG) B.pre w (List.mem_cons_of_mem _ hw)
  have hown : s.vm.findClass RX7 = some m.cls := findClass_of_methodNamed B.named
  have hin : meth.name = "<init>" := (name_of_methodNamed B.named B.method).1
  subst hsz
  have hD := hD0.self (sz := s.heap.size)
  generalize hAe : va_A [(h0, .inr (7, [.null, .null, .int 0, .int 0]))] s.heap.size = A at hD hZ ⊢
  have hA : ∀ q : Nat, s.heap.size ≤ q → A q := fun q h => by rw [← hAe]; exact Or.inr h
  have hS : va_S A s.heap s.heap [] := va_S.rf
  have hl := lv_entry ([.ref h0]) (n := 1) (Nat.le_of_ble_eq_true rfl)
  rw [lg_entry_eq]
  generalize (lg_sl ([.ref h0]) ++ List.replicate (1 - (lg_sl ([.ref h0])).length) Slot.unset).toArray = ls at hl ⊢
  have hl : lv_has ls 1 [(0, .ref h0)] := hl
  refine lv_aload_n hx hb dX7_init_0 rfl (lv_at hl 0 rfl) ?_
  refine W.objInit hx hb hown (hts (.methodLink RX7 3 objectInit) (tg_1 (List.mem_of_getElem? (i := 33) rfl) rfl)) (hts (.instanceMethod objectInit) (tg_1 (List.mem_of_getElem? (i := 26) rfl) rfl)) (hts (Cond.code objectInit object_method_1_code 1 none) (tg_1 (List.mem_of_getElem? (i := 27) rfl) rfl)) rfl (by rw [hml]; exact hl.1) rfl dX7_init_1 (Nat.le_of_ble_eq_true rfl) (Nat.le_of_ble_eq_true rfl) ?_
  refine W.eq (g2 := F0 m 4 ls []) rfl ?_
  refine lv_aload_n hx hb dX7_init_4 rfl (lv_at hl 0 rfl) ?_
  refine lv_sipush (v := 800) hx hb dX7_init_5 (by decide) ?_
  refine c_newa (atype := .int) (ty := .int) hx hb (hts _ (tg_1 (List.mem_of_getElem? (i := 47) rfl) rfl)) rfl hK hP hD hS hA 0 rfl (fun _ h => h) (a0 := (800, .inl (fun _ => 0))) (fun _ => rfl) (by decide) (N' := 800) (by decide +kernel) (Nat.le_of_ble_eq_true rfl) (Nat.le_of_ble_eq_true rfl) (Nat.le_of_ble_eq_true rfl) dX7_init_8 (fun q1 H hP hD hS => ?_)
  have hP : va_P D vwCl [(h0, .inr (7, [.null, .null, .int 0, .int 0])), (q1, .inl (t.1, 800, .inl (fun _ => 0)))] H := hP
  have hD : va_D A [(h0, .inr (7, [.null, .null, .int 0, .int 0])), (q1, .inl (t.1, 800, .inl (fun _ => 0)))] := hD
  refine W.widen (k := 1) (n := 800) (Nat.le_of_ble_eq_true rfl) (Nat.le_of_ble_eq_true rfl) ?_
  refine va_putF (D := D) (ci := 7) (v := .ref q1) (C := RX7) (T := TX7) (N := 4) hx hb hts in_X7 tyX7 tyX7_ok nmX7 hown hK hP hD hS 0 rfl rfl 0 (by decide) (hts _ fl_X7_9) (fun _ h9 => h9) rfl hin rfl (ty := tyX7 0) (tyX7_ok 0 (by decide)) rfl rfl (Nat.le_of_ble_eq_true rfl) dX7_init_10 (fun H locs hP hD hS => ?_)
  have hP : va_P D vwCl [(h0, .inr (7, [.ref q1, .null, .int 0, .int 0])), (q1, .inl (t.1, 800, .inl (fun _ => 0)))] H := hP
  have hD : va_D A [(h0, .inr (7, [.ref q1, .null, .int 0, .int 0])), (q1, .inl (t.1, 800, .inl (fun _ => 0)))] := hD
  refine lv_aload_n hx hb dX7_init_13 rfl (lv_at hl 0 rfl) ?_
  refine lv_sipush (v := 400) hx hb dX7_init_14 (by decide) ?_
  refine c_newa (atype := .int) (ty := .int) hx hb (hts _ (tg_1 (List.mem_of_getElem? (i := 47) rfl) rfl)) rfl hK hP hD hS hA 0 rfl (fun _ h => h) (a0 := (400, .inl (fun _ => 0))) (fun _ => rfl) (by decide) (N' := 400) (by decide +kernel) (Nat.le_of_ble_eq_true rfl) (Nat.le_of_ble_eq_true rfl) (Nat.le_of_ble_eq_true rfl) dX7_init_17 (fun q2 H hP hD hS => ?_)
  have hP : va_P D vwCl [(h0, .inr (7, [.ref q1, .null, .int 0, .int 0])), (q1, .inl (t.1, 800, .inl (fun _ => 0))), (q2, .inl (t.1, 400, .inl (fun _ => 0)))] H := hP
  have hD : va_D A [(h0, .inr (7, [.ref q1, .null, .int 0, .int 0])), (q1, .inl (t.1, 800, .inl (fun _ => 0))), (q2, .inl (t.1, 400, .inl (fun _ => 0)))] := hD
  refine W.widen (k := 2) (n := 1200) (Nat.le_of_ble_eq_true rfl) (Nat.le_of_ble_eq_true rfl) ?_
  refine va_putF (D := D) (ci := 7) (v := .ref q2) (C := RX7) (T := TX7) (N := 4) hx hb hts in_X7 tyX7 tyX7_ok nmX7 hown hK hP hD hS 0 rfl rfl 1 (by decide) (hts _ fl_X7_15) (fun _ h9 => h9) rfl hin rfl (ty := tyX7 1) (tyX7_ok 1 (by decide)) rfl rfl (Nat.le_of_ble_eq_true rfl) dX7_init_19 (fun H locs hP hD hS => ?_)
  have hP : va_P D vwCl [(h0, .inr (7, [.ref q1, .ref q2, .int 0, .int 0])), (q1, .inl (t.1, 800, .inl (fun _ => 0))), (q2, .inl (t.1, 400, .inl (fun _ => 0)))] H := hP
  have hD : va_D A [(h0, .inr (7, [.ref q1, .ref q2, .int 0, .int 0])), (q1, .inl (t.1, 800, .inl (fun _ => 0))), (q2, .inl (t.1, 400, .inl (fun _ => 0)))] := hD
  have hP9 := hP.sub (ws' := [(h0, .inr (7, [.ref q1, .ref q2, .int 0, .int 0])), (q1, .inl (t.1, 800, .inl (fun _ => 0))), (q2, .inl (t.1, 400, .inl (fun _ => 0)))]) [0, 1, 2] rfl
  have hD9 := hD.sub (ws' := [(h0, .inr (7, [.ref q1, .ref q2, .int 0, .int 0])), (q1, .inl (t.1, 800, .inl (fun _ => 0))), (q2, .inl (t.1, 400, .inl (fun _ => 0)))]) [0, 1, 2] (by decide) rfl
  subst hAe
  exact W.vret hx hb hr (fun t9 ht hW => ⟨⟨(fun k => ([h0, q1, q2] : List Nat).getD k 0), rfl, rfl, by rw [ht]; exact hP9, hD9⟩, hS.F ht⟩) hS.2.2 dX7_init_22
def w1_X9 (t : uT) (u : Nat → Nat) : va_W := [(u 0, .inr (9, [.int 0, .int 0, .int 0]))]
set_option maxHeartbeats 8000000 in
set_option maxRecDepth 100000 in
theorem ci_X9 (l : Launch) (D : va_G) (t : uT) (fa h0 : Nat) : CtC l D t fa yX9_init cX9_init 1 1 20 0 0 [.ref h0] [(h0, .inr (9, [.int 0, .int 0, .int 0]))] h0 (w1_X9 t) := by
  intro sz
  refine va_MetF (cc := cX9_init) (maxL := 1) (ret := none) (by decide +kernel) rfl ?_
  intro p e s m args below meth c s₁ B hml hv
  obtain ⟨rfl, hsz, hP, hK, hD0, hZ⟩ := hv
  have hx := B.exec
  have hb := B.bytes
  have hr := B.returns
  have hlocks := B.notSynchronized
  have hts : ∀ w ∈ TG, w.before ([.ref h0] : List Value).toArray s = true := fun w hw => atoms_spec (ws := Cond.code yX9_init cX9_init 1 none :: TG) B.pre w (List.mem_cons_of_mem _ hw)
  have hown : s.vm.findClass RX9 = some m.cls := findClass_of_methodNamed B.named
  have hin : meth.name = "<init>" := (name_of_methodNamed B.named B.method).1
  subst hsz
  have hD := hD0.self (sz := s.heap.size)
  generalize hAe : va_A [(h0, .inr (9, [.int 0, .int 0, .int 0]))] s.heap.size = A at hD hZ ⊢
  have hA : ∀ q : Nat, s.heap.size ≤ q → A q := fun q h => by rw [← hAe]; exact Or.inr h
  have hS : va_S A s.heap s.heap [] := va_S.rf
  have hl := lv_entry ([.ref h0]) (n := 1) (Nat.le_of_ble_eq_true rfl)
  rw [lg_entry_eq]
  generalize (lg_sl ([.ref h0]) ++ List.replicate (1 - (lg_sl ([.ref h0])).length) Slot.unset).toArray = ls at hl ⊢
  have hl : lv_has ls 1 [(0, .ref h0)] := hl
  refine lv_aload_n hx hb dX9_init_0 rfl (lv_at hl 0 rfl) ?_
  refine W.objInit hx hb hown (hts (.methodLink RX9 3 objectInit) (tg_1 (List.mem_of_getElem? (i := 125) rfl) rfl)) (hts (.instanceMethod objectInit) (tg_1 (List.mem_of_getElem? (i := 26) rfl) rfl)) (hts (Cond.code objectInit object_method_1_code 1 none) (tg_1 (List.mem_of_getElem? (i := 27) rfl) rfl)) rfl (by rw [hml]; exact hl.1) rfl dX9_init_1 (Nat.le_of_ble_eq_true rfl) (Nat.le_of_ble_eq_true rfl) ?_
  refine W.eq (g2 := F0 m 4 ls []) rfl ?_
  have hP9 := hP.sub (ws' := [(h0, .inr (9, [.int 0, .int 0, .int 0]))]) [0] rfl
  have hD9 := hD.sub (ws' := [(h0, .inr (9, [.int 0, .int 0, .int 0]))]) [0] (by decide) rfl
  subst hAe
  exact W.vret hx hb hr (fun t9 ht hW => ⟨⟨(fun k => ([h0] : List Nat).getD k 0), rfl, rfl, by rw [ht]; exact hP9, hD9⟩, hS.F ht⟩) hS.2.2 dX9_init_4
def w1_X2 (t : uT) (a0 : Nat) (a1 : Nat) (u : Nat → Nat) : va_W := [(u 0, .inr (2, [.ref a0, .ref a1, .ref (u 1), .ref (u 2), .ref (u 3), .ref (u 4)])), (u 1, .inl (t.1, 5000, .inl (fun _ => 0))), (u 2, .inl (t.1, 5000, .inl (fun _ => 0))), (u 3, .inl (t.1, 100, .inl (fun _ => 0))), (u 4, .inl (t.2.1, 100, .inl (fun _ => 0)))]
set_option maxHeartbeats 8000000 in
set_option maxRecDepth 100000 in
theorem ci_X2 (l : Launch) (D : va_G) (t : uT) (fa h0 : Nat) (a0 : Nat) (a1 : Nat) : CtC l D t fa yX2_init cX2_init 3 1 20 4 10200 [.ref h0, .ref a0, .ref a1] [(h0, .inr (2, [.null, .null, .null, .null, .null, .null]))] h0 (w1_X2 t a0 a1) := by
  intro sz
  refine va_MetF (cc := cX2_init) (maxL := 3) (ret := none) (by decide +kernel) rfl ?_
  intro p e s m args below meth c s₁ B hml hv
  obtain ⟨rfl, hsz, hP, hK, hD0, hZ⟩ := hv
  have hx := B.exec
  have hb := B.bytes
  have hr := B.returns
  have hlocks := B.notSynchronized
  have hts : ∀ w ∈ TG, w.before ([.ref h0, .ref a0, .ref a1] : List Value).toArray s = true := fun w hw => atoms_spec (ws := Cond.code yX2_init cX2_init 3 none :: TG) B.pre w (List.mem_cons_of_mem _ hw)
  have hown : s.vm.findClass RX2 = some m.cls := findClass_of_methodNamed B.named
  have hin : meth.name = "<init>" := (name_of_methodNamed B.named B.method).1
  subst hsz
  have hD := hD0.self (sz := s.heap.size)
  generalize hAe : va_A [(h0, .inr (2, [.null, .null, .null, .null, .null, .null]))] s.heap.size = A at hD hZ ⊢
  have hA : ∀ q : Nat, s.heap.size ≤ q → A q := fun q h => by rw [← hAe]; exact Or.inr h
  have hS : va_S A s.heap s.heap [] := va_S.rf
  have hl := lv_entry ([.ref h0, .ref a0, .ref a1]) (n := 3) (Nat.le_of_ble_eq_true rfl)
  rw [lg_entry_eq]
  generalize (lg_sl ([.ref h0, .ref a0, .ref a1]) ++ List.replicate (3 - (lg_sl ([.ref h0, .ref a0, .ref a1])).length) Slot.unset).toArray = ls at hl ⊢
  have hl : lv_has ls 3 [(0, .ref h0), (1, .ref a0), (2, .ref a1)] := hl
  refine lv_aload_n hx hb dX2_init_0 rfl (lv_at hl 0 rfl) ?_
  refine W.objInit hx hb hown (hts (.methodLink RX2 3 objectInit) (tg_1 (List.mem_of_getElem? (i := 65) rfl) rfl)) (hts (.instanceMethod objectInit) (tg_1 (List.mem_of_getElem? (i := 26) rfl) rfl)) (hts (Cond.code objectInit object_method_1_code 1 none) (tg_1 (List.mem_of_getElem? (i := 27) rfl) rfl)) rfl (by rw [hml]; exact hl.1) rfl dX2_init_1 (Nat.le_of_ble_eq_true rfl) (Nat.le_of_ble_eq_true rfl) ?_
  refine W.eq (g2 := F0 m 4 ls []) rfl ?_
  refine lv_aload_n hx hb dX2_init_4 rfl (lv_at hl 0 rfl) ?_
  refine lv_sipush (v := 5000) hx hb dX2_init_5 (by decide) ?_
  refine c_newa (atype := .int) (ty := .int) hx hb (hts _ (tg_1 (List.mem_of_getElem? (i := 47) rfl) rfl)) rfl hK hP hD hS hA 0 rfl (fun _ h => h) (a0 := (5000, .inl (fun _ => 0))) (fun _ => rfl) (by decide) (N' := 5000) (by decide +kernel) (Nat.le_of_ble_eq_true rfl) (Nat.le_of_ble_eq_true rfl) (Nat.le_of_ble_eq_true rfl) dX2_init_8 (fun q1 H hP hD hS => ?_)
  have hP : va_P D vwCl [(h0, .inr (2, [.null, .null, .null, .null, .null, .null])), (q1, .inl (t.1, 5000, .inl (fun _ => 0)))] H := hP
  have hD : va_D A [(h0, .inr (2, [.null, .null, .null, .null, .null, .null])), (q1, .inl (t.1, 5000, .inl (fun _ => 0)))] := hD
  refine W.widen (k := 1) (n := 5000) (Nat.le_of_ble_eq_true rfl) (Nat.le_of_ble_eq_true rfl) ?_
  refine va_putF (D := D) (ci := 2) (v := .ref q1) (C := RX2) (T := TX2) (N := 6) hx hb hts in_X2 tyX2 tyX2_ok nmX2 hown hK hP hD hS 0 rfl rfl 2 (by decide) (hts _ fl_X2_9) (fun _ h9 => h9) rfl hin rfl (ty := tyX2 2) (tyX2_ok 2 (by decide)) rfl rfl (Nat.le_of_ble_eq_true rfl) dX2_init_10 (fun H locs hP hD hS => ?_)
  have hP : va_P D vwCl [(h0, .inr (2, [.null, .null, .ref q1, .null, .null, .null])), (q1, .inl (t.1, 5000, .inl (fun _ => 0)))] H := hP
  have hD : va_D A [(h0, .inr (2, [.null, .null, .ref q1, .null, .null, .null])), (q1, .inl (t.1, 5000, .inl (fun _ => 0)))] := hD
  refine lv_aload_n hx hb dX2_init_13 rfl (lv_at hl 0 rfl) ?_
  refine lv_sipush (v := 5000) hx hb dX2_init_14 (by decide) ?_
  refine c_newa (atype := .int) (ty := .int) hx hb (hts _ (tg_1 (List.mem_of_getElem? (i := 47) rfl) rfl)) rfl hK hP hD hS hA 0 rfl (fun _ h => h) (a0 := (5000, .inl (fun _ => 0))) (fun _ => rfl) (by decide) (N' := 5000) (by decide +kernel) (Nat.le_of_ble_eq_true rfl) (Nat.le_of_ble_eq_true rfl) (Nat.le_of_ble_eq_true rfl) dX2_init_17 (fun q2 H hP hD hS => ?_)
  have hP : va_P D vwCl [(h0, .inr (2, [.null, .null, .ref q1, .null, .null, .null])), (q1, .inl (t.1, 5000, .inl (fun _ => 0))), (q2, .inl (t.1, 5000, .inl (fun _ => 0)))] H := hP
  have hD : va_D A [(h0, .inr (2, [.null, .null, .ref q1, .null, .null, .null])), (q1, .inl (t.1, 5000, .inl (fun _ => 0))), (q2, .inl (t.1, 5000, .inl (fun _ => 0)))] := hD
  refine W.widen (k := 2) (n := 10000) (Nat.le_of_ble_eq_true rfl) (Nat.le_of_ble_eq_true rfl) ?_
  refine va_putF (D := D) (ci := 2) (v := .ref q2) (C := RX2) (T := TX2) (N := 6) hx hb hts in_X2 tyX2 tyX2_ok nmX2 hown hK hP hD hS 0 rfl rfl 3 (by decide) (hts _ fl_X2_15) (fun _ h9 => h9) rfl hin rfl (ty := tyX2 3) (tyX2_ok 3 (by decide)) rfl rfl (Nat.le_of_ble_eq_true rfl) dX2_init_19 (fun H locs hP hD hS => ?_)
  have hP : va_P D vwCl [(h0, .inr (2, [.null, .null, .ref q1, .ref q2, .null, .null])), (q1, .inl (t.1, 5000, .inl (fun _ => 0))), (q2, .inl (t.1, 5000, .inl (fun _ => 0)))] H := hP
  have hD : va_D A [(h0, .inr (2, [.null, .null, .ref q1, .ref q2, .null, .null])), (q1, .inl (t.1, 5000, .inl (fun _ => 0))), (q2, .inl (t.1, 5000, .inl (fun _ => 0)))] := hD
  refine lv_aload_n hx hb dX2_init_22 rfl (lv_at hl 0 rfl) ?_
  refine lv_bipush (v := 100) hx hb dX2_init_23 (by decide) ?_
  refine c_newa (atype := .int) (ty := .int) hx hb (hts _ (tg_1 (List.mem_of_getElem? (i := 47) rfl) rfl)) rfl hK hP hD hS hA 0 rfl (fun _ h => h) (a0 := (100, .inl (fun _ => 0))) (fun _ => rfl) (by decide) (N' := 100) (by decide +kernel) (Nat.le_of_ble_eq_true rfl) (Nat.le_of_ble_eq_true rfl) (Nat.le_of_ble_eq_true rfl) dX2_init_25 (fun q3 H hP hD hS => ?_)
  have hP : va_P D vwCl [(h0, .inr (2, [.null, .null, .ref q1, .ref q2, .null, .null])), (q1, .inl (t.1, 5000, .inl (fun _ => 0))), (q2, .inl (t.1, 5000, .inl (fun _ => 0))), (q3, .inl (t.1, 100, .inl (fun _ => 0)))] H := hP
  have hD : va_D A [(h0, .inr (2, [.null, .null, .ref q1, .ref q2, .null, .null])), (q1, .inl (t.1, 5000, .inl (fun _ => 0))), (q2, .inl (t.1, 5000, .inl (fun _ => 0))), (q3, .inl (t.1, 100, .inl (fun _ => 0)))] := hD
  refine W.widen (k := 3) (n := 10100) (Nat.le_of_ble_eq_true rfl) (Nat.le_of_ble_eq_true rfl) ?_
  refine va_putF (D := D) (ci := 2) (v := .ref q3) (C := RX2) (T := TX2) (N := 6) hx hb hts in_X2 tyX2 tyX2_ok nmX2 hown hK hP hD hS 0 rfl rfl 4 (by decide) (hts _ fl_X2_18) (fun _ h9 => h9) rfl hin rfl (ty := tyX2 4) (tyX2_ok 4 (by decide)) rfl rfl (Nat.le_of_ble_eq_true rfl) dX2_init_27 (fun H locs hP hD hS => ?_)
  have hP : va_P D vwCl [(h0, .inr (2, [.null, .null, .ref q1, .ref q2, .ref q3, .null])), (q1, .inl (t.1, 5000, .inl (fun _ => 0))), (q2, .inl (t.1, 5000, .inl (fun _ => 0))), (q3, .inl (t.1, 100, .inl (fun _ => 0)))] H := hP
  have hD : va_D A [(h0, .inr (2, [.null, .null, .ref q1, .ref q2, .ref q3, .null])), (q1, .inl (t.1, 5000, .inl (fun _ => 0))), (q2, .inl (t.1, 5000, .inl (fun _ => 0))), (q3, .inl (t.1, 100, .inl (fun _ => 0)))] := hD
  refine lv_aload_n hx hb dX2_init_30 rfl (lv_at hl 0 rfl) ?_
  refine lv_bipush (v := 100) hx hb dX2_init_31 (by decide) ?_
  refine c_newa (atype := .boolean) (ty := .boolean) hx hb (hts _ (tg_1 (List.mem_of_getElem? (i := 85) rfl) rfl)) rfl hK hP hD hS hA 1 rfl (fun _ h => h) (a0 := (100, .inl (fun _ => 0))) (fun _ => rfl) (by decide) (N' := 100) (by decide +kernel) (Nat.le_of_ble_eq_true rfl) (Nat.le_of_ble_eq_true rfl) (Nat.le_of_ble_eq_true rfl) dX2_init_33 (fun q4 H hP hD hS => ?_)
  have hP : va_P D vwCl [(h0, .inr (2, [.null, .null, .ref q1, .ref q2, .ref q3, .null])), (q1, .inl (t.1, 5000, .inl (fun _ => 0))), (q2, .inl (t.1, 5000, .inl (fun _ => 0))), (q3, .inl (t.1, 100, .inl (fun _ => 0))), (q4, .inl (t.2.1, 100, .inl (fun _ => 0)))] H := hP
  have hD : va_D A [(h0, .inr (2, [.null, .null, .ref q1, .ref q2, .ref q3, .null])), (q1, .inl (t.1, 5000, .inl (fun _ => 0))), (q2, .inl (t.1, 5000, .inl (fun _ => 0))), (q3, .inl (t.1, 100, .inl (fun _ => 0))), (q4, .inl (t.2.1, 100, .inl (fun _ => 0)))] := hD
  refine W.widen (k := 4) (n := 10200) (Nat.le_of_ble_eq_true rfl) (Nat.le_of_ble_eq_true rfl) ?_
  refine va_putF (D := D) (ci := 2) (v := .ref q4) (C := RX2) (T := TX2) (N := 6) hx hb hts in_X2 tyX2 tyX2_ok nmX2 hown hK hP hD hS 0 rfl rfl 5 (by decide) (hts _ fl_X2_21) (fun _ h9 => h9) rfl hin rfl (ty := tyX2 5) (tyX2_ok 5 (by decide)) rfl rfl (Nat.le_of_ble_eq_true rfl) dX2_init_35 (fun H locs hP hD hS => ?_)
  have hP : va_P D vwCl [(h0, .inr (2, [.null, .null, .ref q1, .ref q2, .ref q3, .ref q4])), (q1, .inl (t.1, 5000, .inl (fun _ => 0))), (q2, .inl (t.1, 5000, .inl (fun _ => 0))), (q3, .inl (t.1, 100, .inl (fun _ => 0))), (q4, .inl (t.2.1, 100, .inl (fun _ => 0)))] H := hP
  have hD : va_D A [(h0, .inr (2, [.null, .null, .ref q1, .ref q2, .ref q3, .ref q4])), (q1, .inl (t.1, 5000, .inl (fun _ => 0))), (q2, .inl (t.1, 5000, .inl (fun _ => 0))), (q3, .inl (t.1, 100, .inl (fun _ => 0))), (q4, .inl (t.2.1, 100, .inl (fun _ => 0)))] := hD
  refine lv_aload_n hx hb dX2_init_38 rfl (lv_at hl 0 rfl) ?_
  refine lv_aload_n hx hb dX2_init_39 rfl (lv_at hl 1 rfl) ?_
  refine va_putF (D := D) (ci := 2) (v := .ref a0) (C := RX2) (T := TX2) (N := 6) hx hb hts in_X2 tyX2 tyX2_ok nmX2 hown hK hP hD hS 0 rfl rfl 0 (by decide) (hts _ fl_X2_25) (fun _ h9 => h9) rfl hin rfl (ty := tyX2 0) (tyX2_ok 0 (by decide)) rfl rfl (Nat.le_of_ble_eq_true rfl) dX2_init_40 (fun H locs hP hD hS => ?_)
  have hP : va_P D vwCl [(h0, .inr (2, [.ref a0, .null, .ref q1, .ref q2, .ref q3, .ref q4])), (q1, .inl (t.1, 5000, .inl (fun _ => 0))), (q2, .inl (t.1, 5000, .inl (fun _ => 0))), (q3, .inl (t.1, 100, .inl (fun _ => 0))), (q4, .inl (t.2.1, 100, .inl (fun _ => 0)))] H := hP
  have hD : va_D A [(h0, .inr (2, [.ref a0, .null, .ref q1, .ref q2, .ref q3, .ref q4])), (q1, .inl (t.1, 5000, .inl (fun _ => 0))), (q2, .inl (t.1, 5000, .inl (fun _ => 0))), (q3, .inl (t.1, 100, .inl (fun _ => 0))), (q4, .inl (t.2.1, 100, .inl (fun _ => 0)))] := hD
  refine lv_aload_n hx hb dX2_init_43 rfl (lv_at hl 0 rfl) ?_
  refine lv_aload_n hx hb dX2_init_44 rfl (lv_at hl 2 rfl) ?_
  refine va_putF (D := D) (ci := 2) (v := .ref a1) (C := RX2) (T := TX2) (N := 6) hx hb hts in_X2 tyX2 tyX2_ok nmX2 hown hK hP hD hS 0 rfl rfl 1 (by decide) (hts _ fl_X2_29) (fun _ h9 => h9) rfl hin rfl (ty := tyX2 1) (tyX2_ok 1 (by decide)) rfl rfl (Nat.le_of_ble_eq_true rfl) dX2_init_45 (fun H locs hP hD hS => ?_)
  have hP : va_P D vwCl [(h0, .inr (2, [.ref a0, .ref a1, .ref q1, .ref q2, .ref q3, .ref q4])), (q1, .inl (t.1, 5000, .inl (fun _ => 0))), (q2, .inl (t.1, 5000, .inl (fun _ => 0))), (q3, .inl (t.1, 100, .inl (fun _ => 0))), (q4, .inl (t.2.1, 100, .inl (fun _ => 0)))] H := hP
  have hD : va_D A [(h0, .inr (2, [.ref a0, .ref a1, .ref q1, .ref q2, .ref q3, .ref q4])), (q1, .inl (t.1, 5000, .inl (fun _ => 0))), (q2, .inl (t.1, 5000, .inl (fun _ => 0))), (q3, .inl (t.1, 100, .inl (fun _ => 0))), (q4, .inl (t.2.1, 100, .inl (fun _ => 0)))] := hD
  have hP9 := hP.sub (ws' := [(h0, .inr (2, [.ref a0, .ref a1, .ref q1, .ref q2, .ref q3, .ref q4])), (q1, .inl (t.1, 5000, .inl (fun _ => 0))), (q2, .inl (t.1, 5000, .inl (fun _ => 0))), (q3, .inl (t.1, 100, .inl (fun _ => 0))), (q4, .inl (t.2.1, 100, .inl (fun _ => 0)))]) [0, 1, 2, 3, 4] rfl
  have hD9 := hD.sub (ws' := [(h0, .inr (2, [.ref a0, .ref a1, .ref q1, .ref q2, .ref q3, .ref q4])), (q1, .inl (t.1, 5000, .inl (fun _ => 0))), (q2, .inl (t.1, 5000, .inl (fun _ => 0))), (q3, .inl (t.1, 100, .inl (fun _ => 0))), (q4, .inl (t.2.1, 100, .inl (fun _ => 0)))]) [0, 1, 2, 3, 4] (by decide) rfl
  subst hAe
  exact W.vret hx hb hr (fun t9 ht hW => ⟨⟨(fun k => ([h0, q1, q2, q3, q4] : List Nat).getD k 0), rfl, rfl, by rw [ht]; exact hP9, hD9⟩, hS.F ht⟩) hS.2.2 dX2_init_48
def w1_X0 (t : uT) (u : Nat → Nat) : va_W := [(u 0, .inr (0, [.ref (u 1)])), (u 1, .inl (t.1, 16, .inl u_first))]
theorem b_i : ∀ i : Fin 16, ((Int32.ofNat i).toNatClampNeg = i ∧ (¬ (16 : Int32) ≤ Int32.ofNat i) ∧ Int32.ofNat i + Int32.ofInt 1 = Int32.ofNat (i + 1 : Nat) ∧ vin (Int32.ofNat i) 16 = true) := by decide +kernel
set_option maxHeartbeats 8000000 in
theorem x0_loop {l : Launch} {D : va_G} {t : uT} {fa h0 q1 : Nat} {p : Program} {e : Env} {R : Room} {s : State} {m : MethodId} {below : List Frame} {meth : Method} {c : Code} {A : Nat → Prop} (hx : p.tables.exec = Jvm.exec) (hb : c.code = cX0_init) (hr : meth.sig.returnType = none) (hlocks : meth.locks = false) (hown : s.vm.findClass RX0 = some m.cls) (hts : ∀ w ∈ TG, w.before ([.ref h0] : List Value).toArray s = true) (hK : va_K D vwCl (c_ty t) s) (hA : ∀ q : Nat, s.heap.size ≤ q → A q) (hZ : c_Z fa A s s.heap) {Q : State → Prop} (hQ : Q = MQ below (c_Q D (w1_X0 t) h0 A) ([.ref h0] : List Value).toArray s 1 16 A) : ∀ (n i : Nat), i + n = 16 → ∀ {H : Heap} {locs : List Loc}, va_P D vwCl [(h0, .inr (0, [.ref q1])), (q1, .inl (t.1, 16, .inl (b_up i)))] H → va_D A [(h0, .inr (0, [.ref q1])), (q1, .inl (t.1, 16, .inl (b_up i)))] → va_S A s.heap H locs → ∀ (ls : Array Slot), lv_has ls 2 [(1, .int (Int32.ofNat i)), (0, .ref h0)] → W p l e R s m ([.ref h0] : List Value).toArray below meth c H locs 1 16 Q (F0 m 14 ls []) := by
  intro n
  induction n with
  | zero =>
    intro i hi H locs hP hD hS ls hl
    obtain rfl : i = 16 := by omega
    refine lv_iload_n hx hb dX0_init_14 rfl (lv_at hl 0 rfl) ?_
    refine lv_bipush (v := 16) hx hb dX0_init_15 (by decide) ?_
    refine lv_icmp_ge (tgt := 37) hx hb dX0_init_17 (by decide) (fun _ => ?_) (fun h => absurd (by decide) h)
    rw [b_up_16] at hP hD
    subst hQ
    exact W.vret hx hb hr (fun t9 ht hW => ⟨⟨(fun k => ([h0, q1] : List Nat).getD k 0), rfl, rfl, by rw [ht]; exact hP, hD⟩, hS.F ht⟩) hS.2.2 dX0_init_37
  | succ n ih =>
    intro i hi H locs hP hD hS ls hl
    obtain ⟨b1, b2, b3, b4⟩ := b_i ⟨i, by omega⟩
    simp only at b1 b2 b3 b4
    refine lv_iload_n hx hb dX0_init_14 rfl (lv_at hl 0 rfl) ?_
    refine lv_bipush (v := 16) hx hb dX0_init_15 (by decide) ?_
    refine lv_icmp_ge (tgt := 37) hx hb dX0_init_17 (by decide) (fun h => absurd h b2) (fun _ => ?_)
    refine lv_aload_n hx hb dX0_init_20 rfl (lv_at hl 1 rfl) ?_
    refine va_get (C := RX0) (T := TX0) (N := 1) hx hb hts in_X0 hown hK hP 0 rfl rfl 0 (by decide) (hts _ fl_X0_9) (fun _ h9 => h9) (v := .ref q1) rfl dX0_init_21 ?_
    refine lv_iload_n hx hb dX0_init_24 rfl (lv_at hl 0 rfl) ?_
    refine va_gets hx hb hZ.1 hS hown (hts (Cond.fieldLink RX0 13 "PitchMarks$Bounds" "FIRST" "[I") (tg_1 (List.mem_of_getElem? (i := 54) rfl) rfl)) (fun _ h9 => h9) dX0_init_25 ?_
    refine lv_iload_n hx hb dX0_init_28 rfl (lv_at hl 0 rfl) ?_
    refine va_sld hx hb hZ.2.1 hZ.2.2.2.1 hZ.2.2.1 hS (vin_in b4) dX0_init_29 ?_
    refine va_iast hx hb hK hP hD hS 1 0 rfl rfl (vin_in b4) dX0_init_30 (fun H locs hP hD hS => ?_)
    rw [b1, b_up_s] at hP hD
    refine lv_iinc (k := 0) (x := Int32.ofNat i) (v := Int32.ofNat (i + 1)) (lv' := [(1, .int (Int32.ofNat (i + 1))), (0, .ref h0)]) hx hb dX0_init_31 hl rfl b3 (by decide) rfl (fun ls hl => ?_)
    refine lv_goto (tgt := 14) hx hb dX0_init_34 (by decide) ?_
    exact ih (i + 1) (by omega) hP hD hS ls hl
set_option maxHeartbeats 8000000 in
set_option maxRecDepth 100000 in
theorem ci_X0 (l : Launch) (D : va_G) (t : uT) (fa h0 : Nat) : CtC l D t fa yX0_init cX0_init 2 1 20 1 16 [.ref h0] [(h0, .inr (0, [.null]))] h0 (w1_X0 t) := by
  intro sz
  refine va_MetF (cc := cX0_init) (maxL := 2) (ret := none) (by decide +kernel) rfl ?_
  intro p e s m args below meth c s₁ B hml hv
  obtain ⟨rfl, hsz, hP, hK, hD0, hZ⟩ := hv
  have hx := B.exec
  have hb := B.bytes
  have hr := B.returns
  have hlocks := B.notSynchronized
  have hts : ∀ w ∈ TG, w.before ([.ref h0] : List Value).toArray s = true := fun w hw => atoms_spec (ws := Cond.code yX0_init cX0_init 2 none :: TG) B.pre w (List.mem_cons_of_mem _ hw)
  have hown : s.vm.findClass RX0 = some m.cls := findClass_of_methodNamed B.named
  have hin : meth.name = "<init>" := (name_of_methodNamed B.named B.method).1
  subst hsz
  have hD := hD0.self (sz := s.heap.size)
  generalize hAe : va_A [(h0, .inr (0, [.null]))] s.heap.size = A at hD hZ ⊢
  have hA : ∀ q : Nat, s.heap.size ≤ q → A q := fun q h => by rw [← hAe]; exact Or.inr h
  have hS : va_S A s.heap s.heap [] := va_S.rf
  have hl := lv_entry ([.ref h0]) (n := 2) (Nat.le_of_ble_eq_true rfl)
  rw [lg_entry_eq]
  generalize (lg_sl ([.ref h0]) ++ List.replicate (2 - (lg_sl ([.ref h0])).length) Slot.unset).toArray = ls at hl ⊢
  have hl : lv_has ls 2 [(0, .ref h0)] := hl
  refine lv_aload_n hx hb dX0_init_0 rfl (lv_at hl 0 rfl) ?_
  refine W.objInit hx hb hown (hts (.methodLink RX0 1 objectInit) (tg_1 (List.mem_of_getElem? (i := 53) rfl) rfl)) (hts (.instanceMethod objectInit) (tg_1 (List.mem_of_getElem? (i := 26) rfl) rfl)) (hts (Cond.code objectInit object_method_1_code 1 none) (tg_1 (List.mem_of_getElem? (i := 27) rfl) rfl)) rfl (by rw [hml]; exact hl.1) rfl dX0_init_1 (Nat.le_of_ble_eq_true rfl) (Nat.le_of_ble_eq_true rfl) ?_
  refine W.eq (g2 := F0 m 4 ls []) rfl ?_
  refine lv_aload_n hx hb dX0_init_4 rfl (lv_at hl 0 rfl) ?_
  refine lv_bipush (v := 16) hx hb dX0_init_5 (by decide) ?_
  refine c_newa (atype := .int) (ty := .int) hx hb (hts _ (tg_1 (List.mem_of_getElem? (i := 47) rfl) rfl)) rfl hK hP hD hS hA 0 rfl (fun _ h => h) (a0 := (16, .inl (fun _ => 0))) (fun _ => rfl) (by decide) (N' := 16) (by decide +kernel) (Nat.le_of_ble_eq_true rfl) (Nat.le_of_ble_eq_true rfl) (Nat.le_of_ble_eq_true rfl) dX0_init_7 (fun q1 H hP hD hS => ?_)
  have hP : va_P D vwCl [(h0, .inr (0, [.null])), (q1, .inl (t.1, 16, .inl (fun _ => 0)))] H := hP
  have hD : va_D A [(h0, .inr (0, [.null])), (q1, .inl (t.1, 16, .inl (fun _ => 0)))] := hD
  refine W.widen (k := 1) (n := 16) (Nat.le_of_ble_eq_true rfl) (Nat.le_of_ble_eq_true rfl) ?_
  refine va_putF (D := D) (ci := 0) (v := .ref q1) (C := RX0) (T := TX0) (N := 1) hx hb hts in_X0 tyX0 tyX0_ok nmX0 hown hK hP hD hS 0 rfl rfl 0 (by decide) (hts _ fl_X0_9) (fun _ h9 => h9) rfl hin rfl (ty := tyX0 0) (tyX0_ok 0 (by decide)) rfl rfl (Nat.le_of_ble_eq_true rfl) dX0_init_9 (fun H locs hP hD hS => ?_)
  have hP : va_P D vwCl [(h0, .inr (0, [.ref q1])), (q1, .inl (t.1, 16, .inl (fun _ => 0)))] H := hP
  have hD : va_D A [(h0, .inr (0, [.ref q1])), (q1, .inl (t.1, 16, .inl (fun _ => 0)))] := hD
  refine lv_iconst (v := 0) hx hb dX0_init_12 (by decide) ?_
  refine lv_istore_n (lv' := [(1, .int 0), (0, .ref h0)]) hx hb dX0_init_13 rfl hl (by decide) rfl (fun ls hl => ?_)
  rw [b_up_z] at hP hD
  have hl : lv_has ls 2 [(1, .int (Int32.ofNat 0)), (0, .ref h0)] := hl
  refine x0_loop hx hb hr hlocks hown hts hK hA hZ (hAe ▸ rfl) 16 0 rfl hP hD hS ls hl
def w1_X1 (t : uT) (a0 : Nat) (a1 : Nat) (u : Nat → Nat) : va_W := [(u 0, .inr (1, [.ref a0, .ref a1, .ref (u 1), .ref (u 2), .ref (u 3), .ref (u 4), .int 0])), (u 1, .inl (t.1, 600, .inl (fun _ => 0))), (u 2, .inl (t.1, 600, .inl (fun _ => 0))), (u 3, .inl (t.1, 600, .inl (fun _ => 0))), (u 4, .inl (t.1, 100, .inl (fun _ => 0)))]
set_option maxHeartbeats 8000000 in
set_option maxRecDepth 100000 in
theorem ci_X1 (l : Launch) (D : va_G) (t : uT) (fa h0 : Nat) (a0 : Nat) (a1 : Nat) : CtC l D t fa yX1_init cX1_init 3 1 20 4 1900 [.ref h0, .ref a0, .ref a1] [(h0, .inr (1, [.null, .null, .null, .null, .null, .null, .int 0]))] h0 (w1_X1 t a0 a1) := by
  intro sz
  refine va_MetF (cc := cX1_init) (maxL := 3) (ret := none) (by decide +kernel) rfl ?_
  intro p e s m args below meth c s₁ B hml hv
  obtain ⟨rfl, hsz, hP, hK, hD0, hZ⟩ := hv
  have hx := B.exec
  have hb := B.bytes
  have hr := B.returns
  have hlocks := B.notSynchronized
  have hts : ∀ w ∈ TG, w.before ([.ref h0, .ref a0, .ref a1] : List Value).toArray s = true := fun w hw => atoms_spec (ws := Cond.code yX1_init cX1_init 3 none :: TG) B.pre w (List.mem_cons_of_mem _ hw)
  have hown : s.vm.findClass RX1 = some m.cls := findClass_of_methodNamed B.named
  have hin : meth.name = "<init>" := (name_of_methodNamed B.named B.method).1
  subst hsz
  have hD := hD0.self (sz := s.heap.size)
  generalize hAe : va_A [(h0, .inr (1, [.null, .null, .null, .null, .null, .null, .int 0]))] s.heap.size = A at hD hZ ⊢
  have hA : ∀ q : Nat, s.heap.size ≤ q → A q := fun q h => by rw [← hAe]; exact Or.inr h
  have hS : va_S A s.heap s.heap [] := va_S.rf
  have hl := lv_entry ([.ref h0, .ref a0, .ref a1]) (n := 3) (Nat.le_of_ble_eq_true rfl)
  rw [lg_entry_eq]
  generalize (lg_sl ([.ref h0, .ref a0, .ref a1]) ++ List.replicate (3 - (lg_sl ([.ref h0, .ref a0, .ref a1])).length) Slot.unset).toArray = ls at hl ⊢
  have hl : lv_has ls 3 [(0, .ref h0), (1, .ref a0), (2, .ref a1)] := hl
  refine lv_aload_n hx hb dX1_init_0 rfl (lv_at hl 0 rfl) ?_
  refine W.objInit hx hb hown (hts (.methodLink RX1 3 objectInit) (tg_1 (List.mem_of_getElem? (i := 91) rfl) rfl)) (hts (.instanceMethod objectInit) (tg_1 (List.mem_of_getElem? (i := 26) rfl) rfl)) (hts (Cond.code objectInit object_method_1_code 1 none) (tg_1 (List.mem_of_getElem? (i := 27) rfl) rfl)) rfl (by rw [hml]; exact hl.1) rfl dX1_init_1 (Nat.le_of_ble_eq_true rfl) (Nat.le_of_ble_eq_true rfl) ?_
  refine W.eq (g2 := F0 m 4 ls []) rfl ?_
  refine lv_aload_n hx hb dX1_init_4 rfl (lv_at hl 0 rfl) ?_
  refine lv_sipush (v := 600) hx hb dX1_init_5 (by decide) ?_
  refine c_newa (atype := .int) (ty := .int) hx hb (hts _ (tg_1 (List.mem_of_getElem? (i := 47) rfl) rfl)) rfl hK hP hD hS hA 0 rfl (fun _ h => h) (a0 := (600, .inl (fun _ => 0))) (fun _ => rfl) (by decide) (N' := 600) (by decide +kernel) (Nat.le_of_ble_eq_true rfl) (Nat.le_of_ble_eq_true rfl) (Nat.le_of_ble_eq_true rfl) dX1_init_8 (fun q1 H hP hD hS => ?_)
  have hP : va_P D vwCl [(h0, .inr (1, [.null, .null, .null, .null, .null, .null, .int 0])), (q1, .inl (t.1, 600, .inl (fun _ => 0)))] H := hP
  have hD : va_D A [(h0, .inr (1, [.null, .null, .null, .null, .null, .null, .int 0])), (q1, .inl (t.1, 600, .inl (fun _ => 0)))] := hD
  refine W.widen (k := 1) (n := 600) (Nat.le_of_ble_eq_true rfl) (Nat.le_of_ble_eq_true rfl) ?_
  refine va_putF (D := D) (ci := 1) (v := .ref q1) (C := RX1) (T := TX1) (N := 7) hx hb hts in_X1 tyX1 tyX1_ok nmX1 hown hK hP hD hS 0 rfl rfl 2 (by decide) (hts _ fl_X1_9) (fun _ h9 => h9) rfl hin rfl (ty := tyX1 2) (tyX1_ok 2 (by decide)) rfl rfl (Nat.le_of_ble_eq_true rfl) dX1_init_10 (fun H locs hP hD hS => ?_)
  have hP : va_P D vwCl [(h0, .inr (1, [.null, .null, .ref q1, .null, .null, .null, .int 0])), (q1, .inl (t.1, 600, .inl (fun _ => 0)))] H := hP
  have hD : va_D A [(h0, .inr (1, [.null, .null, .ref q1, .null, .null, .null, .int 0])), (q1, .inl (t.1, 600, .inl (fun _ => 0)))] := hD
  refine lv_aload_n hx hb dX1_init_13 rfl (lv_at hl 0 rfl) ?_
  refine lv_sipush (v := 600) hx hb dX1_init_14 (by decide) ?_
  refine c_newa (atype := .int) (ty := .int) hx hb (hts _ (tg_1 (List.mem_of_getElem? (i := 47) rfl) rfl)) rfl hK hP hD hS hA 0 rfl (fun _ h => h) (a0 := (600, .inl (fun _ => 0))) (fun _ => rfl) (by decide) (N' := 600) (by decide +kernel) (Nat.le_of_ble_eq_true rfl) (Nat.le_of_ble_eq_true rfl) (Nat.le_of_ble_eq_true rfl) dX1_init_17 (fun q2 H hP hD hS => ?_)
  have hP : va_P D vwCl [(h0, .inr (1, [.null, .null, .ref q1, .null, .null, .null, .int 0])), (q1, .inl (t.1, 600, .inl (fun _ => 0))), (q2, .inl (t.1, 600, .inl (fun _ => 0)))] H := hP
  have hD : va_D A [(h0, .inr (1, [.null, .null, .ref q1, .null, .null, .null, .int 0])), (q1, .inl (t.1, 600, .inl (fun _ => 0))), (q2, .inl (t.1, 600, .inl (fun _ => 0)))] := hD
  refine W.widen (k := 2) (n := 1200) (Nat.le_of_ble_eq_true rfl) (Nat.le_of_ble_eq_true rfl) ?_
  refine va_putF (D := D) (ci := 1) (v := .ref q2) (C := RX1) (T := TX1) (N := 7) hx hb hts in_X1 tyX1 tyX1_ok nmX1 hown hK hP hD hS 0 rfl rfl 3 (by decide) (hts _ fl_X1_15) (fun _ h9 => h9) rfl hin rfl (ty := tyX1 3) (tyX1_ok 3 (by decide)) rfl rfl (Nat.le_of_ble_eq_true rfl) dX1_init_19 (fun H locs hP hD hS => ?_)
  have hP : va_P D vwCl [(h0, .inr (1, [.null, .null, .ref q1, .ref q2, .null, .null, .int 0])), (q1, .inl (t.1, 600, .inl (fun _ => 0))), (q2, .inl (t.1, 600, .inl (fun _ => 0)))] H := hP
  have hD : va_D A [(h0, .inr (1, [.null, .null, .ref q1, .ref q2, .null, .null, .int 0])), (q1, .inl (t.1, 600, .inl (fun _ => 0))), (q2, .inl (t.1, 600, .inl (fun _ => 0)))] := hD
  refine lv_aload_n hx hb dX1_init_22 rfl (lv_at hl 0 rfl) ?_
  refine lv_sipush (v := 600) hx hb dX1_init_23 (by decide) ?_
  refine c_newa (atype := .int) (ty := .int) hx hb (hts _ (tg_1 (List.mem_of_getElem? (i := 47) rfl) rfl)) rfl hK hP hD hS hA 0 rfl (fun _ h => h) (a0 := (600, .inl (fun _ => 0))) (fun _ => rfl) (by decide) (N' := 600) (by decide +kernel) (Nat.le_of_ble_eq_true rfl) (Nat.le_of_ble_eq_true rfl) (Nat.le_of_ble_eq_true rfl) dX1_init_26 (fun q3 H hP hD hS => ?_)
  have hP : va_P D vwCl [(h0, .inr (1, [.null, .null, .ref q1, .ref q2, .null, .null, .int 0])), (q1, .inl (t.1, 600, .inl (fun _ => 0))), (q2, .inl (t.1, 600, .inl (fun _ => 0))), (q3, .inl (t.1, 600, .inl (fun _ => 0)))] H := hP
  have hD : va_D A [(h0, .inr (1, [.null, .null, .ref q1, .ref q2, .null, .null, .int 0])), (q1, .inl (t.1, 600, .inl (fun _ => 0))), (q2, .inl (t.1, 600, .inl (fun _ => 0))), (q3, .inl (t.1, 600, .inl (fun _ => 0)))] := hD
  refine W.widen (k := 3) (n := 1800) (Nat.le_of_ble_eq_true rfl) (Nat.le_of_ble_eq_true rfl) ?_
  refine va_putF (D := D) (ci := 1) (v := .ref q3) (C := RX1) (T := TX1) (N := 7) hx hb hts in_X1 tyX1 tyX1_ok nmX1 hown hK hP hD hS 0 rfl rfl 4 (by decide) (hts _ fl_X1_18) (fun _ h9 => h9) rfl hin rfl (ty := tyX1 4) (tyX1_ok 4 (by decide)) rfl rfl (Nat.le_of_ble_eq_true rfl) dX1_init_28 (fun H locs hP hD hS => ?_)
  have hP : va_P D vwCl [(h0, .inr (1, [.null, .null, .ref q1, .ref q2, .ref q3, .null, .int 0])), (q1, .inl (t.1, 600, .inl (fun _ => 0))), (q2, .inl (t.1, 600, .inl (fun _ => 0))), (q3, .inl (t.1, 600, .inl (fun _ => 0)))] H := hP
  have hD : va_D A [(h0, .inr (1, [.null, .null, .ref q1, .ref q2, .ref q3, .null, .int 0])), (q1, .inl (t.1, 600, .inl (fun _ => 0))), (q2, .inl (t.1, 600, .inl (fun _ => 0))), (q3, .inl (t.1, 600, .inl (fun _ => 0)))] := hD
  refine lv_aload_n hx hb dX1_init_31 rfl (lv_at hl 0 rfl) ?_
  refine lv_bipush (v := 100) hx hb dX1_init_32 (by decide) ?_
  refine c_newa (atype := .int) (ty := .int) hx hb (hts _ (tg_1 (List.mem_of_getElem? (i := 47) rfl) rfl)) rfl hK hP hD hS hA 0 rfl (fun _ h => h) (a0 := (100, .inl (fun _ => 0))) (fun _ => rfl) (by decide) (N' := 100) (by decide +kernel) (Nat.le_of_ble_eq_true rfl) (Nat.le_of_ble_eq_true rfl) (Nat.le_of_ble_eq_true rfl) dX1_init_34 (fun q4 H hP hD hS => ?_)
  have hP : va_P D vwCl [(h0, .inr (1, [.null, .null, .ref q1, .ref q2, .ref q3, .null, .int 0])), (q1, .inl (t.1, 600, .inl (fun _ => 0))), (q2, .inl (t.1, 600, .inl (fun _ => 0))), (q3, .inl (t.1, 600, .inl (fun _ => 0))), (q4, .inl (t.1, 100, .inl (fun _ => 0)))] H := hP
  have hD : va_D A [(h0, .inr (1, [.null, .null, .ref q1, .ref q2, .ref q3, .null, .int 0])), (q1, .inl (t.1, 600, .inl (fun _ => 0))), (q2, .inl (t.1, 600, .inl (fun _ => 0))), (q3, .inl (t.1, 600, .inl (fun _ => 0))), (q4, .inl (t.1, 100, .inl (fun _ => 0)))] := hD
  refine W.widen (k := 4) (n := 1900) (Nat.le_of_ble_eq_true rfl) (Nat.le_of_ble_eq_true rfl) ?_
  refine va_putF (D := D) (ci := 1) (v := .ref q4) (C := RX1) (T := TX1) (N := 7) hx hb hts in_X1 tyX1 tyX1_ok nmX1 hown hK hP hD hS 0 rfl rfl 5 (by decide) (hts _ fl_X1_21) (fun _ h9 => h9) rfl hin rfl (ty := tyX1 5) (tyX1_ok 5 (by decide)) rfl rfl (Nat.le_of_ble_eq_true rfl) dX1_init_36 (fun H locs hP hD hS => ?_)
  have hP : va_P D vwCl [(h0, .inr (1, [.null, .null, .ref q1, .ref q2, .ref q3, .ref q4, .int 0])), (q1, .inl (t.1, 600, .inl (fun _ => 0))), (q2, .inl (t.1, 600, .inl (fun _ => 0))), (q3, .inl (t.1, 600, .inl (fun _ => 0))), (q4, .inl (t.1, 100, .inl (fun _ => 0)))] H := hP
  have hD : va_D A [(h0, .inr (1, [.null, .null, .ref q1, .ref q2, .ref q3, .ref q4, .int 0])), (q1, .inl (t.1, 600, .inl (fun _ => 0))), (q2, .inl (t.1, 600, .inl (fun _ => 0))), (q3, .inl (t.1, 600, .inl (fun _ => 0))), (q4, .inl (t.1, 100, .inl (fun _ => 0)))] := hD
  refine lv_aload_n hx hb dX1_init_39 rfl (lv_at hl 0 rfl) ?_
  refine lv_aload_n hx hb dX1_init_40 rfl (lv_at hl 1 rfl) ?_
  refine va_putF (D := D) (ci := 1) (v := .ref a0) (C := RX1) (T := TX1) (N := 7) hx hb hts in_X1 tyX1 tyX1_ok nmX1 hown hK hP hD hS 0 rfl rfl 0 (by decide) (hts _ fl_X1_24) (fun _ h9 => h9) rfl hin rfl (ty := tyX1 0) (tyX1_ok 0 (by decide)) rfl rfl (Nat.le_of_ble_eq_true rfl) dX1_init_41 (fun H locs hP hD hS => ?_)
  have hP : va_P D vwCl [(h0, .inr (1, [.ref a0, .null, .ref q1, .ref q2, .ref q3, .ref q4, .int 0])), (q1, .inl (t.1, 600, .inl (fun _ => 0))), (q2, .inl (t.1, 600, .inl (fun _ => 0))), (q3, .inl (t.1, 600, .inl (fun _ => 0))), (q4, .inl (t.1, 100, .inl (fun _ => 0)))] H := hP
  have hD : va_D A [(h0, .inr (1, [.ref a0, .null, .ref q1, .ref q2, .ref q3, .ref q4, .int 0])), (q1, .inl (t.1, 600, .inl (fun _ => 0))), (q2, .inl (t.1, 600, .inl (fun _ => 0))), (q3, .inl (t.1, 600, .inl (fun _ => 0))), (q4, .inl (t.1, 100, .inl (fun _ => 0)))] := hD
  refine lv_aload_n hx hb dX1_init_44 rfl (lv_at hl 0 rfl) ?_
  refine lv_aload_n hx hb dX1_init_45 rfl (lv_at hl 2 rfl) ?_
  refine va_putF (D := D) (ci := 1) (v := .ref a1) (C := RX1) (T := TX1) (N := 7) hx hb hts in_X1 tyX1 tyX1_ok nmX1 hown hK hP hD hS 0 rfl rfl 1 (by decide) (hts _ fl_X1_28) (fun _ h9 => h9) rfl hin rfl (ty := tyX1 1) (tyX1_ok 1 (by decide)) rfl rfl (Nat.le_of_ble_eq_true rfl) dX1_init_46 (fun H locs hP hD hS => ?_)
  have hP : va_P D vwCl [(h0, .inr (1, [.ref a0, .ref a1, .ref q1, .ref q2, .ref q3, .ref q4, .int 0])), (q1, .inl (t.1, 600, .inl (fun _ => 0))), (q2, .inl (t.1, 600, .inl (fun _ => 0))), (q3, .inl (t.1, 600, .inl (fun _ => 0))), (q4, .inl (t.1, 100, .inl (fun _ => 0)))] H := hP
  have hD : va_D A [(h0, .inr (1, [.ref a0, .ref a1, .ref q1, .ref q2, .ref q3, .ref q4, .int 0])), (q1, .inl (t.1, 600, .inl (fun _ => 0))), (q2, .inl (t.1, 600, .inl (fun _ => 0))), (q3, .inl (t.1, 600, .inl (fun _ => 0))), (q4, .inl (t.1, 100, .inl (fun _ => 0)))] := hD
  have hP9 := hP.sub (ws' := [(h0, .inr (1, [.ref a0, .ref a1, .ref q1, .ref q2, .ref q3, .ref q4, .int 0])), (q1, .inl (t.1, 600, .inl (fun _ => 0))), (q2, .inl (t.1, 600, .inl (fun _ => 0))), (q3, .inl (t.1, 600, .inl (fun _ => 0))), (q4, .inl (t.1, 100, .inl (fun _ => 0)))]) [0, 1, 2, 3, 4] rfl
  have hD9 := hD.sub (ws' := [(h0, .inr (1, [.ref a0, .ref a1, .ref q1, .ref q2, .ref q3, .ref q4, .int 0])), (q1, .inl (t.1, 600, .inl (fun _ => 0))), (q2, .inl (t.1, 600, .inl (fun _ => 0))), (q3, .inl (t.1, 600, .inl (fun _ => 0))), (q4, .inl (t.1, 100, .inl (fun _ => 0)))]) [0, 1, 2, 3, 4] (by decide) rfl
  subst hAe
  exact W.vret hx hb hr (fun t9 ht hW => ⟨⟨(fun k => ([h0, q1, q2, q3, q4] : List Nat).getD k 0), rfl, rfl, by rw [ht]; exact hP9, hD9⟩, hS.F ht⟩) hS.2.2 dX1_init_49
def w1_X5 (t : uT) (a0 : Nat) (a1 : Nat) (u : Nat → Nat) : va_W := [(u 0, .inr (5, [.ref a0, .ref a1, .ref (u 1), .ref (u 2), .ref (u 3), .ref (u 4), .ref (u 5), .ref (u 6), .ref (u 7), .ref (u 8), .ref (u 9), .ref (u 10), .int 0])), (u 1, .inr (9, [.int 0, .int 0, .int 0])), (u 2, .inr (9, [.int 0, .int 0, .int 0])), (u 3, .inl (t.1, 600, .inl (fun _ => 0))), (u 4, .inl (t.1, 600, .inl (fun _ => 0))), (u 5, .inl (t.1, 600, .inl (fun _ => 0))), (u 6, .inl (t.1, 600, .inl (fun _ => 0))), (u 7, .inl (t.1, 100, .inl (fun _ => 0))), (u 8, .inl (t.1, 100, .inl (fun _ => 0))), (u 9, .inl (t.1, 6, .inl (fun _ => 0))), (u 10, .inl (t.1, 6, .inl (fun _ => 0)))]
set_option maxHeartbeats 8000000 in
set_option maxRecDepth 100000 in
theorem ci_X5 (l : Launch) (D : va_G) (t : uT) (fa h0 : Nat) (a0 : Nat) (a1 : Nat) : CtC l D t fa yX5_init cX5_init 3 2 48 10 2618 [.ref h0, .ref a0, .ref a1] [(h0, .inr (5, [.null, .null, .null, .null, .null, .null, .null, .null, .null, .null, .null, .null, .int 0]))] h0 (w1_X5 t a0 a1) := by
  intro sz
  refine va_MetF (cc := cX5_init) (maxL := 3) (ret := none) (by decide +kernel) rfl ?_
  intro p e s m args below meth c s₁ B hml hv
  obtain ⟨rfl, hsz, hP, hK, hD0, hZ⟩ := hv
  have hx := B.exec
  have hb := B.bytes
  have hr := B.returns
  have hlocks := B.notSynchronized
  have hts : ∀ w ∈ TG, w.before ([.ref h0, .ref a0, .ref a1] : List Value).toArray s = true := fun w hw => atoms_spec (ws := Cond.code yX5_init cX5_init 3 none :: TG) B.pre w (List.mem_cons_of_mem _ hw)
  have hown : s.vm.findClass RX5 = some m.cls := findClass_of_methodNamed B.named
  have hin : meth.name = "<init>" := (name_of_methodNamed B.named B.method).1
  subst hsz
  have hD := hD0.self (sz := s.heap.size)
  generalize hAe : va_A [(h0, .inr (5, [.null, .null, .null, .null, .null, .null, .null, .null, .null, .null, .null, .null, .int 0]))] s.heap.size = A at hD hZ ⊢
  have hA : ∀ q : Nat, s.heap.size ≤ q → A q := fun q h => by rw [← hAe]; exact Or.inr h
  have hS : va_S A s.heap s.heap [] := va_S.rf
  have hl := lv_entry ([.ref h0, .ref a0, .ref a1]) (n := 3) (Nat.le_of_ble_eq_true rfl)
  rw [lg_entry_eq]
  generalize (lg_sl ([.ref h0, .ref a0, .ref a1]) ++ List.replicate (3 - (lg_sl ([.ref h0, .ref a0, .ref a1])).length) Slot.unset).toArray = ls at hl ⊢
  have hl : lv_has ls 3 [(0, .ref h0), (1, .ref a0), (2, .ref a1)] := hl
  refine lv_aload_n hx hb dX5_init_0 rfl (lv_at hl 0 rfl) ?_
  refine W.objInit hx hb hown (hts (.methodLink RX5 3 objectInit) (tg_1 (List.mem_of_getElem? (i := 119) rfl) rfl)) (hts (.instanceMethod objectInit) (tg_1 (List.mem_of_getElem? (i := 26) rfl) rfl)) (hts (Cond.code objectInit object_method_1_code 1 none) (tg_1 (List.mem_of_getElem? (i := 27) rfl) rfl)) rfl (by rw [hml]; exact hl.1) rfl dX5_init_1 (Nat.le_of_ble_eq_true rfl) (Nat.le_of_ble_eq_true rfl) ?_
  refine W.eq (g2 := F0 m 4 ls []) rfl ?_
  refine lv_aload_n hx hb dX5_init_4 rfl (lv_at hl 0 rfl) ?_
  refine va_new (ci := 9) (fs := [.int 0, .int 0, .int 0]) (C := RX9) (T := TX9) (N := 3) hx hb hts in_X9 tyX9 tyX9_ok hown (hts _ (tg_1 (List.mem_of_getElem? (i := 120) rfl) rfl)) (hts _ (tg_1 (List.mem_of_getElem? (i := 121) rfl) rfl)) (hts _ (tg_1 (List.mem_of_getElem? (i := 7) rfl) rfl)) hK hP hD hS hA rfl z_X9 (Nat.le_of_ble_eq_true rfl) (Nat.le_of_ble_eq_true rfl) dX5_init_5 (fun q1 H hP hD hS => ?_)
  have hP : va_P D vwCl [(h0, .inr (5, [.null, .null, .null, .null, .null, .null, .null, .null, .null, .null, .null, .null, .int 0])), (q1, .inr (9, [.int 0, .int 0, .int 0]))] H := hP
  have hD : va_D A [(h0, .inr (5, [.null, .null, .null, .null, .null, .null, .null, .null, .null, .null, .null, .null, .int 0])), (q1, .inr (9, [.int 0, .int 0, .int 0]))] := hD
  refine W.widen (k := 1) (n := 3) (Nat.le_of_ble_eq_true rfl) (Nat.le_of_ble_eq_true rfl) ?_
  refine lv_dup hx hb dX5_init_8 rfl ?_
  have hPc := hP.sub (ws' := [(q1, .inr (9, [.int 0, .int 0, .int 0]))]) [1] rfl
  have hFc := va_free (wc := [(q1, .inr (9, [.int 0, .int 0, .int 0]))]) hD hS hA [1] rfl
  have hDc := hD.sub (ws' := [(q1, .inr (9, [.int 0, .int 0, .int 0]))]) [1] (by decide) rfl
  refine va_callv (va_runIN (As := []) (rest := [.ref q1, .ref h0]) ⟨hx, hb, hml, hown, hts⟩ (ci_X9 l D t fa q1 H.size) ⟨va_cnB 0 hts (tg_good (tg_1 (List.mem_of_getElem? (i := 124) rfl) rfl)) rfl rfl rfl (hZ.2.2.2.2 _ (List.mem_of_getElem? (i := 1) rfl)) (hts _ (tg_1 (List.mem_of_getElem? (i := 7) rfl) rfl)) (by decide +kernel) ⟨Nat.le_of_ble_eq_true rfl, Nat.le_of_ble_eq_true rfl⟩, rfl, (hts _ (tg_1 (List.mem_of_getElem? (i := 123) rfl) rfl))⟩ ⟨c_Pc.blind, fun U hU hW => ⟨rfl, by rw [hU], by rw [hU]; exact hPc, va_K.moved hW.alike hK, hDc.weaken (fun _ _ _ _ => trivial), c_Z.to hZ hS hFc hU hW⟩⟩ rfl rfl hl.1 rfl (lv_room (Nat.le_of_ble_eq_true rfl)) dX5_init_9 ⟨Nat.le_of_ble_eq_true rfl, Nat.le_of_ble_eq_true rfl⟩) hS (fun q _ h => hFc q h) hFc (fun u2 t1 H1 locs ht hvm hw hB hz1 hk1 hS => ?_)
  obtain ⟨hP1, hD1⟩ := hB
  rw [ht] at hP1
  try dsimp only at hw
  obtain ⟨hPn, hDn⟩ := va_join (wr := [(h0, .inr (5, [.null, .null, .null, .null, .null, .null, .null, .null, .null, .null, .null, .null, .int 0]))]) (w1 := w1_X9 t u2) hP hD [1] [0] rfl rfl (by decide) (by decide) hk1 hFc hP1 hD1
  clear hPc hFc hDc hP1 hD1 hk1 hz1 ht hvm t1 hP hD
  subst hw
  generalize H1 = Hu2 at hPn hS ⊢
  have hP := hPn
  have hD := hDn
  clear hPn hDn
  have hP : va_P D vwCl [(h0, .inr (5, [.null, .null, .null, .null, .null, .null, .null, .null, .null, .null, .null, .null, .int 0])), ((u2 0), .inr (9, [.int 0, .int 0, .int 0]))] Hu2 := hP
  have hD : va_D A [(h0, .inr (5, [.null, .null, .null, .null, .null, .null, .null, .null, .null, .null, .null, .null, .int 0])), ((u2 0), .inr (9, [.int 0, .int 0, .int 0]))] := hD
  refine W.widen (k := 1) (n := 3) (Nat.le_of_ble_eq_true rfl) (Nat.le_of_ble_eq_true rfl) ?_
  refine va_putF (D := D) (ci := 5) (v := .ref (u2 0)) (C := RX5) (T := TX5) (N := 13) hx hb hts in_X5 tyX5 tyX5_ok nmX5 hown hK hP hD hS 0 rfl rfl 2 (by decide) (hts _ fl_X5_12) (fun _ h9 => h9) rfl hin rfl (ty := tyX5 2) (tyX5_ok 2 (by decide)) rfl rfl (Nat.le_of_ble_eq_true rfl) dX5_init_12 (fun H locs hP hD hS => ?_)
  have hP : va_P D vwCl [(h0, .inr (5, [.null, .null, .ref (u2 0), .null, .null, .null, .null, .null, .null, .null, .null, .null, .int 0])), ((u2 0), .inr (9, [.int 0, .int 0, .int 0]))] H := hP
  have hD : va_D A [(h0, .inr (5, [.null, .null, .ref (u2 0), .null, .null, .null, .null, .null, .null, .null, .null, .null, .int 0])), ((u2 0), .inr (9, [.int 0, .int 0, .int 0]))] := hD
  refine lv_aload_n hx hb dX5_init_15 rfl (lv_at hl 0 rfl) ?_
  refine va_new (ci := 9) (fs := [.int 0, .int 0, .int 0]) (C := RX9) (T := TX9) (N := 3) hx hb hts in_X9 tyX9 tyX9_ok hown (hts _ (tg_1 (List.mem_of_getElem? (i := 120) rfl) rfl)) (hts _ (tg_1 (List.mem_of_getElem? (i := 121) rfl) rfl)) (hts _ (tg_1 (List.mem_of_getElem? (i := 7) rfl) rfl)) hK hP hD hS hA rfl z_X9 (Nat.le_of_ble_eq_true rfl) (Nat.le_of_ble_eq_true rfl) dX5_init_16 (fun q3 H hP hD hS => ?_)
  have hP : va_P D vwCl [(h0, .inr (5, [.null, .null, .ref (u2 0), .null, .null, .null, .null, .null, .null, .null, .null, .null, .int 0])), ((u2 0), .inr (9, [.int 0, .int 0, .int 0])), (q3, .inr (9, [.int 0, .int 0, .int 0]))] H := hP
  have hD : va_D A [(h0, .inr (5, [.null, .null, .ref (u2 0), .null, .null, .null, .null, .null, .null, .null, .null, .null, .int 0])), ((u2 0), .inr (9, [.int 0, .int 0, .int 0])), (q3, .inr (9, [.int 0, .int 0, .int 0]))] := hD
  refine W.widen (k := 2) (n := 6) (Nat.le_of_ble_eq_true rfl) (Nat.le_of_ble_eq_true rfl) ?_
  refine lv_dup hx hb dX5_init_19 rfl ?_
  have hPc := hP.sub (ws' := [(q3, .inr (9, [.int 0, .int 0, .int 0]))]) [2] rfl
  have hFc := va_free (wc := [(q3, .inr (9, [.int 0, .int 0, .int 0]))]) hD hS hA [2] rfl
  have hDc := hD.sub (ws' := [(q3, .inr (9, [.int 0, .int 0, .int 0]))]) [2] (by decide) rfl
  refine va_callv (va_runIN (As := []) (rest := [.ref q3, .ref h0]) ⟨hx, hb, hml, hown, hts⟩ (ci_X9 l D t fa q3 H.size) ⟨va_cnB 0 hts (tg_good (tg_1 (List.mem_of_getElem? (i := 124) rfl) rfl)) rfl rfl rfl (hZ.2.2.2.2 _ (List.mem_of_getElem? (i := 1) rfl)) (hts _ (tg_1 (List.mem_of_getElem? (i := 7) rfl) rfl)) (by decide +kernel) ⟨Nat.le_of_ble_eq_true rfl, Nat.le_of_ble_eq_true rfl⟩, rfl, (hts _ (tg_1 (List.mem_of_getElem? (i := 123) rfl) rfl))⟩ ⟨c_Pc.blind, fun U hU hW => ⟨rfl, by rw [hU], by rw [hU]; exact hPc, va_K.moved hW.alike hK, hDc.weaken (fun _ _ _ _ => trivial), c_Z.to hZ hS hFc hU hW⟩⟩ rfl rfl hl.1 rfl (lv_room (Nat.le_of_ble_eq_true rfl)) dX5_init_20 ⟨Nat.le_of_ble_eq_true rfl, Nat.le_of_ble_eq_true rfl⟩) hS (fun q _ h => hFc q h) hFc (fun u4 t1 H1 locs ht hvm hw hB hz1 hk1 hS => ?_)
  obtain ⟨hP1, hD1⟩ := hB
  rw [ht] at hP1
  try dsimp only at hw
  obtain ⟨hPn, hDn⟩ := va_join (wr := [(h0, .inr (5, [.null, .null, .ref (u2 0), .null, .null, .null, .null, .null, .null, .null, .null, .null, .int 0])), ((u2 0), .inr (9, [.int 0, .int 0, .int 0]))]) (w1 := w1_X9 t u4) hP hD [2] [0, 1] rfl rfl (by decide) (by decide) hk1 hFc hP1 hD1
  clear hPc hFc hDc hP1 hD1 hk1 hz1 ht hvm t1 hP hD
  subst hw
  generalize H1 = Hu4 at hPn hS ⊢
  have hP := hPn
  have hD := hDn
  clear hPn hDn
  have hP : va_P D vwCl [(h0, .inr (5, [.null, .null, .ref (u2 0), .null, .null, .null, .null, .null, .null, .null, .null, .null, .int 0])), ((u2 0), .inr (9, [.int 0, .int 0, .int 0])), ((u4 0), .inr (9, [.int 0, .int 0, .int 0]))] Hu4 := hP
  have hD : va_D A [(h0, .inr (5, [.null, .null, .ref (u2 0), .null, .null, .null, .null, .null, .null, .null, .null, .null, .int 0])), ((u2 0), .inr (9, [.int 0, .int 0, .int 0])), ((u4 0), .inr (9, [.int 0, .int 0, .int 0]))] := hD
  refine W.widen (k := 2) (n := 6) (Nat.le_of_ble_eq_true rfl) (Nat.le_of_ble_eq_true rfl) ?_
  refine va_putF (D := D) (ci := 5) (v := .ref (u4 0)) (C := RX5) (T := TX5) (N := 13) hx hb hts in_X5 tyX5 tyX5_ok nmX5 hown hK hP hD hS 0 rfl rfl 3 (by decide) (hts _ fl_X5_18) (fun _ h9 => h9) rfl hin rfl (ty := tyX5 3) (tyX5_ok 3 (by decide)) rfl rfl (Nat.le_of_ble_eq_true rfl) dX5_init_23 (fun H locs hP hD hS => ?_)
  have hP : va_P D vwCl [(h0, .inr (5, [.null, .null, .ref (u2 0), .ref (u4 0), .null, .null, .null, .null, .null, .null, .null, .null, .int 0])), ((u2 0), .inr (9, [.int 0, .int 0, .int 0])), ((u4 0), .inr (9, [.int 0, .int 0, .int 0]))] H := hP
  have hD : va_D A [(h0, .inr (5, [.null, .null, .ref (u2 0), .ref (u4 0), .null, .null, .null, .null, .null, .null, .null, .null, .int 0])), ((u2 0), .inr (9, [.int 0, .int 0, .int 0])), ((u4 0), .inr (9, [.int 0, .int 0, .int 0]))] := hD
  refine lv_aload_n hx hb dX5_init_26 rfl (lv_at hl 0 rfl) ?_
  refine lv_sipush (v := 600) hx hb dX5_init_27 (by decide) ?_
  refine c_newa (atype := .int) (ty := .int) hx hb (hts _ (tg_1 (List.mem_of_getElem? (i := 47) rfl) rfl)) rfl hK hP hD hS hA 0 rfl (fun _ h => h) (a0 := (600, .inl (fun _ => 0))) (fun _ => rfl) (by decide) (N' := 600) (by decide +kernel) (Nat.le_of_ble_eq_true rfl) (Nat.le_of_ble_eq_true rfl) (Nat.le_of_ble_eq_true rfl) dX5_init_30 (fun q5 H hP hD hS => ?_)
  have hP : va_P D vwCl [(h0, .inr (5, [.null, .null, .ref (u2 0), .ref (u4 0), .null, .null, .null, .null, .null, .null, .null, .null, .int 0])), ((u2 0), .inr (9, [.int 0, .int 0, .int 0])), ((u4 0), .inr (9, [.int 0, .int 0, .int 0])), (q5, .inl (t.1, 600, .inl (fun _ => 0)))] H := hP
  have hD : va_D A [(h0, .inr (5, [.null, .null, .ref (u2 0), .ref (u4 0), .null, .null, .null, .null, .null, .null, .null, .null, .int 0])), ((u2 0), .inr (9, [.int 0, .int 0, .int 0])), ((u4 0), .inr (9, [.int 0, .int 0, .int 0])), (q5, .inl (t.1, 600, .inl (fun _ => 0)))] := hD
  refine W.widen (k := 3) (n := 606) (Nat.le_of_ble_eq_true rfl) (Nat.le_of_ble_eq_true rfl) ?_
  refine va_putF (D := D) (ci := 5) (v := .ref q5) (C := RX5) (T := TX5) (N := 13) hx hb hts in_X5 tyX5 tyX5_ok nmX5 hown hK hP hD hS 0 rfl rfl 4 (by decide) (hts _ fl_X5_21) (fun _ h9 => h9) rfl hin rfl (ty := tyX5 4) (tyX5_ok 4 (by decide)) rfl rfl (Nat.le_of_ble_eq_true rfl) dX5_init_32 (fun H locs hP hD hS => ?_)
  have hP : va_P D vwCl [(h0, .inr (5, [.null, .null, .ref (u2 0), .ref (u4 0), .ref q5, .null, .null, .null, .null, .null, .null, .null, .int 0])), ((u2 0), .inr (9, [.int 0, .int 0, .int 0])), ((u4 0), .inr (9, [.int 0, .int 0, .int 0])), (q5, .inl (t.1, 600, .inl (fun _ => 0)))] H := hP
  have hD : va_D A [(h0, .inr (5, [.null, .null, .ref (u2 0), .ref (u4 0), .ref q5, .null, .null, .null, .null, .null, .null, .null, .int 0])), ((u2 0), .inr (9, [.int 0, .int 0, .int 0])), ((u4 0), .inr (9, [.int 0, .int 0, .int 0])), (q5, .inl (t.1, 600, .inl (fun _ => 0)))] := hD
  refine lv_aload_n hx hb dX5_init_35 rfl (lv_at hl 0 rfl) ?_
  refine lv_sipush (v := 600) hx hb dX5_init_36 (by decide) ?_
  refine c_newa (atype := .int) (ty := .int) hx hb (hts _ (tg_1 (List.mem_of_getElem? (i := 47) rfl) rfl)) rfl hK hP hD hS hA 0 rfl (fun _ h => h) (a0 := (600, .inl (fun _ => 0))) (fun _ => rfl) (by decide) (N' := 600) (by decide +kernel) (Nat.le_of_ble_eq_true rfl) (Nat.le_of_ble_eq_true rfl) (Nat.le_of_ble_eq_true rfl) dX5_init_39 (fun q6 H hP hD hS => ?_)
  have hP : va_P D vwCl [(h0, .inr (5, [.null, .null, .ref (u2 0), .ref (u4 0), .ref q5, .null, .null, .null, .null, .null, .null, .null, .int 0])), ((u2 0), .inr (9, [.int 0, .int 0, .int 0])), ((u4 0), .inr (9, [.int 0, .int 0, .int 0])), (q5, .inl (t.1, 600, .inl (fun _ => 0))), (q6, .inl (t.1, 600, .inl (fun _ => 0)))] H := hP
  have hD : va_D A [(h0, .inr (5, [.null, .null, .ref (u2 0), .ref (u4 0), .ref q5, .null, .null, .null, .null, .null, .null, .null, .int 0])), ((u2 0), .inr (9, [.int 0, .int 0, .int 0])), ((u4 0), .inr (9, [.int 0, .int 0, .int 0])), (q5, .inl (t.1, 600, .inl (fun _ => 0))), (q6, .inl (t.1, 600, .inl (fun _ => 0)))] := hD
  refine W.widen (k := 4) (n := 1206) (Nat.le_of_ble_eq_true rfl) (Nat.le_of_ble_eq_true rfl) ?_
  refine va_putF (D := D) (ci := 5) (v := .ref q6) (C := RX5) (T := TX5) (N := 13) hx hb hts in_X5 tyX5 tyX5_ok nmX5 hown hK hP hD hS 0 rfl rfl 5 (by decide) (hts _ fl_X5_25) (fun _ h9 => h9) rfl hin rfl (ty := tyX5 5) (tyX5_ok 5 (by decide)) rfl rfl (Nat.le_of_ble_eq_true rfl) dX5_init_41 (fun H locs hP hD hS => ?_)
  have hP : va_P D vwCl [(h0, .inr (5, [.null, .null, .ref (u2 0), .ref (u4 0), .ref q5, .ref q6, .null, .null, .null, .null, .null, .null, .int 0])), ((u2 0), .inr (9, [.int 0, .int 0, .int 0])), ((u4 0), .inr (9, [.int 0, .int 0, .int 0])), (q5, .inl (t.1, 600, .inl (fun _ => 0))), (q6, .inl (t.1, 600, .inl (fun _ => 0)))] H := hP
  have hD : va_D A [(h0, .inr (5, [.null, .null, .ref (u2 0), .ref (u4 0), .ref q5, .ref q6, .null, .null, .null, .null, .null, .null, .int 0])), ((u2 0), .inr (9, [.int 0, .int 0, .int 0])), ((u4 0), .inr (9, [.int 0, .int 0, .int 0])), (q5, .inl (t.1, 600, .inl (fun _ => 0))), (q6, .inl (t.1, 600, .inl (fun _ => 0)))] := hD
  refine lv_aload_n hx hb dX5_init_44 rfl (lv_at hl 0 rfl) ?_
  refine lv_sipush (v := 600) hx hb dX5_init_45 (by decide) ?_
  refine c_newa (atype := .int) (ty := .int) hx hb (hts _ (tg_1 (List.mem_of_getElem? (i := 47) rfl) rfl)) rfl hK hP hD hS hA 0 rfl (fun _ h => h) (a0 := (600, .inl (fun _ => 0))) (fun _ => rfl) (by decide) (N' := 600) (by decide +kernel) (Nat.le_of_ble_eq_true rfl) (Nat.le_of_ble_eq_true rfl) (Nat.le_of_ble_eq_true rfl) dX5_init_48 (fun q7 H hP hD hS => ?_)
  have hP : va_P D vwCl [(h0, .inr (5, [.null, .null, .ref (u2 0), .ref (u4 0), .ref q5, .ref q6, .null, .null, .null, .null, .null, .null, .int 0])), ((u2 0), .inr (9, [.int 0, .int 0, .int 0])), ((u4 0), .inr (9, [.int 0, .int 0, .int 0])), (q5, .inl (t.1, 600, .inl (fun _ => 0))), (q6, .inl (t.1, 600, .inl (fun _ => 0))), (q7, .inl (t.1, 600, .inl (fun _ => 0)))] H := hP
  have hD : va_D A [(h0, .inr (5, [.null, .null, .ref (u2 0), .ref (u4 0), .ref q5, .ref q6, .null, .null, .null, .null, .null, .null, .int 0])), ((u2 0), .inr (9, [.int 0, .int 0, .int 0])), ((u4 0), .inr (9, [.int 0, .int 0, .int 0])), (q5, .inl (t.1, 600, .inl (fun _ => 0))), (q6, .inl (t.1, 600, .inl (fun _ => 0))), (q7, .inl (t.1, 600, .inl (fun _ => 0)))] := hD
  refine W.widen (k := 5) (n := 1806) (Nat.le_of_ble_eq_true rfl) (Nat.le_of_ble_eq_true rfl) ?_
  refine va_putF (D := D) (ci := 5) (v := .ref q7) (C := RX5) (T := TX5) (N := 13) hx hb hts in_X5 tyX5 tyX5_ok nmX5 hown hK hP hD hS 0 rfl rfl 6 (by decide) (hts _ fl_X5_28) (fun _ h9 => h9) rfl hin rfl (ty := tyX5 6) (tyX5_ok 6 (by decide)) rfl rfl (Nat.le_of_ble_eq_true rfl) dX5_init_50 (fun H locs hP hD hS => ?_)
  have hP : va_P D vwCl [(h0, .inr (5, [.null, .null, .ref (u2 0), .ref (u4 0), .ref q5, .ref q6, .ref q7, .null, .null, .null, .null, .null, .int 0])), ((u2 0), .inr (9, [.int 0, .int 0, .int 0])), ((u4 0), .inr (9, [.int 0, .int 0, .int 0])), (q5, .inl (t.1, 600, .inl (fun _ => 0))), (q6, .inl (t.1, 600, .inl (fun _ => 0))), (q7, .inl (t.1, 600, .inl (fun _ => 0)))] H := hP
  have hD : va_D A [(h0, .inr (5, [.null, .null, .ref (u2 0), .ref (u4 0), .ref q5, .ref q6, .ref q7, .null, .null, .null, .null, .null, .int 0])), ((u2 0), .inr (9, [.int 0, .int 0, .int 0])), ((u4 0), .inr (9, [.int 0, .int 0, .int 0])), (q5, .inl (t.1, 600, .inl (fun _ => 0))), (q6, .inl (t.1, 600, .inl (fun _ => 0))), (q7, .inl (t.1, 600, .inl (fun _ => 0)))] := hD
  refine lv_aload_n hx hb dX5_init_53 rfl (lv_at hl 0 rfl) ?_
  refine lv_sipush (v := 600) hx hb dX5_init_54 (by decide) ?_
  refine c_newa (atype := .int) (ty := .int) hx hb (hts _ (tg_1 (List.mem_of_getElem? (i := 47) rfl) rfl)) rfl hK hP hD hS hA 0 rfl (fun _ h => h) (a0 := (600, .inl (fun _ => 0))) (fun _ => rfl) (by decide) (N' := 600) (by decide +kernel) (Nat.le_of_ble_eq_true rfl) (Nat.le_of_ble_eq_true rfl) (Nat.le_of_ble_eq_true rfl) dX5_init_57 (fun q8 H hP hD hS => ?_)
  have hP : va_P D vwCl [(h0, .inr (5, [.null, .null, .ref (u2 0), .ref (u4 0), .ref q5, .ref q6, .ref q7, .null, .null, .null, .null, .null, .int 0])), ((u2 0), .inr (9, [.int 0, .int 0, .int 0])), ((u4 0), .inr (9, [.int 0, .int 0, .int 0])), (q5, .inl (t.1, 600, .inl (fun _ => 0))), (q6, .inl (t.1, 600, .inl (fun _ => 0))), (q7, .inl (t.1, 600, .inl (fun _ => 0))), (q8, .inl (t.1, 600, .inl (fun _ => 0)))] H := hP
  have hD : va_D A [(h0, .inr (5, [.null, .null, .ref (u2 0), .ref (u4 0), .ref q5, .ref q6, .ref q7, .null, .null, .null, .null, .null, .int 0])), ((u2 0), .inr (9, [.int 0, .int 0, .int 0])), ((u4 0), .inr (9, [.int 0, .int 0, .int 0])), (q5, .inl (t.1, 600, .inl (fun _ => 0))), (q6, .inl (t.1, 600, .inl (fun _ => 0))), (q7, .inl (t.1, 600, .inl (fun _ => 0))), (q8, .inl (t.1, 600, .inl (fun _ => 0)))] := hD
  refine W.widen (k := 6) (n := 2406) (Nat.le_of_ble_eq_true rfl) (Nat.le_of_ble_eq_true rfl) ?_
  refine va_putF (D := D) (ci := 5) (v := .ref q8) (C := RX5) (T := TX5) (N := 13) hx hb hts in_X5 tyX5 tyX5_ok nmX5 hown hK hP hD hS 0 rfl rfl 7 (by decide) (hts _ fl_X5_31) (fun _ h9 => h9) rfl hin rfl (ty := tyX5 7) (tyX5_ok 7 (by decide)) rfl rfl (Nat.le_of_ble_eq_true rfl) dX5_init_59 (fun H locs hP hD hS => ?_)
  have hP : va_P D vwCl [(h0, .inr (5, [.null, .null, .ref (u2 0), .ref (u4 0), .ref q5, .ref q6, .ref q7, .ref q8, .null, .null, .null, .null, .int 0])), ((u2 0), .inr (9, [.int 0, .int 0, .int 0])), ((u4 0), .inr (9, [.int 0, .int 0, .int 0])), (q5, .inl (t.1, 600, .inl (fun _ => 0))), (q6, .inl (t.1, 600, .inl (fun _ => 0))), (q7, .inl (t.1, 600, .inl (fun _ => 0))), (q8, .inl (t.1, 600, .inl (fun _ => 0)))] H := hP
  have hD : va_D A [(h0, .inr (5, [.null, .null, .ref (u2 0), .ref (u4 0), .ref q5, .ref q6, .ref q7, .ref q8, .null, .null, .null, .null, .int 0])), ((u2 0), .inr (9, [.int 0, .int 0, .int 0])), ((u4 0), .inr (9, [.int 0, .int 0, .int 0])), (q5, .inl (t.1, 600, .inl (fun _ => 0))), (q6, .inl (t.1, 600, .inl (fun _ => 0))), (q7, .inl (t.1, 600, .inl (fun _ => 0))), (q8, .inl (t.1, 600, .inl (fun _ => 0)))] := hD
  refine lv_aload_n hx hb dX5_init_62 rfl (lv_at hl 0 rfl) ?_
  refine lv_bipush (v := 100) hx hb dX5_init_63 (by decide) ?_
  refine c_newa (atype := .int) (ty := .int) hx hb (hts _ (tg_1 (List.mem_of_getElem? (i := 47) rfl) rfl)) rfl hK hP hD hS hA 0 rfl (fun _ h => h) (a0 := (100, .inl (fun _ => 0))) (fun _ => rfl) (by decide) (N' := 100) (by decide +kernel) (Nat.le_of_ble_eq_true rfl) (Nat.le_of_ble_eq_true rfl) (Nat.le_of_ble_eq_true rfl) dX5_init_65 (fun q9 H hP hD hS => ?_)
  have hP : va_P D vwCl [(h0, .inr (5, [.null, .null, .ref (u2 0), .ref (u4 0), .ref q5, .ref q6, .ref q7, .ref q8, .null, .null, .null, .null, .int 0])), ((u2 0), .inr (9, [.int 0, .int 0, .int 0])), ((u4 0), .inr (9, [.int 0, .int 0, .int 0])), (q5, .inl (t.1, 600, .inl (fun _ => 0))), (q6, .inl (t.1, 600, .inl (fun _ => 0))), (q7, .inl (t.1, 600, .inl (fun _ => 0))), (q8, .inl (t.1, 600, .inl (fun _ => 0))), (q9, .inl (t.1, 100, .inl (fun _ => 0)))] H := hP
  have hD : va_D A [(h0, .inr (5, [.null, .null, .ref (u2 0), .ref (u4 0), .ref q5, .ref q6, .ref q7, .ref q8, .null, .null, .null, .null, .int 0])), ((u2 0), .inr (9, [.int 0, .int 0, .int 0])), ((u4 0), .inr (9, [.int 0, .int 0, .int 0])), (q5, .inl (t.1, 600, .inl (fun _ => 0))), (q6, .inl (t.1, 600, .inl (fun _ => 0))), (q7, .inl (t.1, 600, .inl (fun _ => 0))), (q8, .inl (t.1, 600, .inl (fun _ => 0))), (q9, .inl (t.1, 100, .inl (fun _ => 0)))] := hD
  refine W.widen (k := 7) (n := 2506) (Nat.le_of_ble_eq_true rfl) (Nat.le_of_ble_eq_true rfl) ?_
  refine va_putF (D := D) (ci := 5) (v := .ref q9) (C := RX5) (T := TX5) (N := 13) hx hb hts in_X5 tyX5 tyX5_ok nmX5 hown hK hP hD hS 0 rfl rfl 8 (by decide) (hts _ fl_X5_34) (fun _ h9 => h9) rfl hin rfl (ty := tyX5 8) (tyX5_ok 8 (by decide)) rfl rfl (Nat.le_of_ble_eq_true rfl) dX5_init_67 (fun H locs hP hD hS => ?_)
  have hP : va_P D vwCl [(h0, .inr (5, [.null, .null, .ref (u2 0), .ref (u4 0), .ref q5, .ref q6, .ref q7, .ref q8, .ref q9, .null, .null, .null, .int 0])), ((u2 0), .inr (9, [.int 0, .int 0, .int 0])), ((u4 0), .inr (9, [.int 0, .int 0, .int 0])), (q5, .inl (t.1, 600, .inl (fun _ => 0))), (q6, .inl (t.1, 600, .inl (fun _ => 0))), (q7, .inl (t.1, 600, .inl (fun _ => 0))), (q8, .inl (t.1, 600, .inl (fun _ => 0))), (q9, .inl (t.1, 100, .inl (fun _ => 0)))] H := hP
  have hD : va_D A [(h0, .inr (5, [.null, .null, .ref (u2 0), .ref (u4 0), .ref q5, .ref q6, .ref q7, .ref q8, .ref q9, .null, .null, .null, .int 0])), ((u2 0), .inr (9, [.int 0, .int 0, .int 0])), ((u4 0), .inr (9, [.int 0, .int 0, .int 0])), (q5, .inl (t.1, 600, .inl (fun _ => 0))), (q6, .inl (t.1, 600, .inl (fun _ => 0))), (q7, .inl (t.1, 600, .inl (fun _ => 0))), (q8, .inl (t.1, 600, .inl (fun _ => 0))), (q9, .inl (t.1, 100, .inl (fun _ => 0)))] := hD
  refine lv_aload_n hx hb dX5_init_70 rfl (lv_at hl 0 rfl) ?_
  refine lv_bipush (v := 100) hx hb dX5_init_71 (by decide) ?_
  refine c_newa (atype := .int) (ty := .int) hx hb (hts _ (tg_1 (List.mem_of_getElem? (i := 47) rfl) rfl)) rfl hK hP hD hS hA 0 rfl (fun _ h => h) (a0 := (100, .inl (fun _ => 0))) (fun _ => rfl) (by decide) (N' := 100) (by decide +kernel) (Nat.le_of_ble_eq_true rfl) (Nat.le_of_ble_eq_true rfl) (Nat.le_of_ble_eq_true rfl) dX5_init_73 (fun q10 H hP hD hS => ?_)
  have hP : va_P D vwCl [(h0, .inr (5, [.null, .null, .ref (u2 0), .ref (u4 0), .ref q5, .ref q6, .ref q7, .ref q8, .ref q9, .null, .null, .null, .int 0])), ((u2 0), .inr (9, [.int 0, .int 0, .int 0])), ((u4 0), .inr (9, [.int 0, .int 0, .int 0])), (q5, .inl (t.1, 600, .inl (fun _ => 0))), (q6, .inl (t.1, 600, .inl (fun _ => 0))), (q7, .inl (t.1, 600, .inl (fun _ => 0))), (q8, .inl (t.1, 600, .inl (fun _ => 0))), (q9, .inl (t.1, 100, .inl (fun _ => 0))), (q10, .inl (t.1, 100, .inl (fun _ => 0)))] H := hP
  have hD : va_D A [(h0, .inr (5, [.null, .null, .ref (u2 0), .ref (u4 0), .ref q5, .ref q6, .ref q7, .ref q8, .ref q9, .null, .null, .null, .int 0])), ((u2 0), .inr (9, [.int 0, .int 0, .int 0])), ((u4 0), .inr (9, [.int 0, .int 0, .int 0])), (q5, .inl (t.1, 600, .inl (fun _ => 0))), (q6, .inl (t.1, 600, .inl (fun _ => 0))), (q7, .inl (t.1, 600, .inl (fun _ => 0))), (q8, .inl (t.1, 600, .inl (fun _ => 0))), (q9, .inl (t.1, 100, .inl (fun _ => 0))), (q10, .inl (t.1, 100, .inl (fun _ => 0)))] := hD
  refine W.widen (k := 8) (n := 2606) (Nat.le_of_ble_eq_true rfl) (Nat.le_of_ble_eq_true rfl) ?_
  refine va_putF (D := D) (ci := 5) (v := .ref q10) (C := RX5) (T := TX5) (N := 13) hx hb hts in_X5 tyX5 tyX5_ok nmX5 hown hK hP hD hS 0 rfl rfl 9 (by decide) (hts _ fl_X5_37) (fun _ h9 => h9) rfl hin rfl (ty := tyX5 9) (tyX5_ok 9 (by decide)) rfl rfl (Nat.le_of_ble_eq_true rfl) dX5_init_75 (fun H locs hP hD hS => ?_)
  have hP : va_P D vwCl [(h0, .inr (5, [.null, .null, .ref (u2 0), .ref (u4 0), .ref q5, .ref q6, .ref q7, .ref q8, .ref q9, .ref q10, .null, .null, .int 0])), ((u2 0), .inr (9, [.int 0, .int 0, .int 0])), ((u4 0), .inr (9, [.int 0, .int 0, .int 0])), (q5, .inl (t.1, 600, .inl (fun _ => 0))), (q6, .inl (t.1, 600, .inl (fun _ => 0))), (q7, .inl (t.1, 600, .inl (fun _ => 0))), (q8, .inl (t.1, 600, .inl (fun _ => 0))), (q9, .inl (t.1, 100, .inl (fun _ => 0))), (q10, .inl (t.1, 100, .inl (fun _ => 0)))] H := hP
  have hD : va_D A [(h0, .inr (5, [.null, .null, .ref (u2 0), .ref (u4 0), .ref q5, .ref q6, .ref q7, .ref q8, .ref q9, .ref q10, .null, .null, .int 0])), ((u2 0), .inr (9, [.int 0, .int 0, .int 0])), ((u4 0), .inr (9, [.int 0, .int 0, .int 0])), (q5, .inl (t.1, 600, .inl (fun _ => 0))), (q6, .inl (t.1, 600, .inl (fun _ => 0))), (q7, .inl (t.1, 600, .inl (fun _ => 0))), (q8, .inl (t.1, 600, .inl (fun _ => 0))), (q9, .inl (t.1, 100, .inl (fun _ => 0))), (q10, .inl (t.1, 100, .inl (fun _ => 0)))] := hD
  refine lv_aload_n hx hb dX5_init_78 rfl (lv_at hl 0 rfl) ?_
  refine lv_bipush (v := 6) hx hb dX5_init_79 (by decide) ?_
  refine c_newa (atype := .int) (ty := .int) hx hb (hts _ (tg_1 (List.mem_of_getElem? (i := 47) rfl) rfl)) rfl hK hP hD hS hA 0 rfl (fun _ h => h) (a0 := (6, .inl (fun _ => 0))) (fun _ => rfl) (by decide) (N' := 6) (by decide +kernel) (Nat.le_of_ble_eq_true rfl) (Nat.le_of_ble_eq_true rfl) (Nat.le_of_ble_eq_true rfl) dX5_init_81 (fun q11 H hP hD hS => ?_)
  have hP : va_P D vwCl [(h0, .inr (5, [.null, .null, .ref (u2 0), .ref (u4 0), .ref q5, .ref q6, .ref q7, .ref q8, .ref q9, .ref q10, .null, .null, .int 0])), ((u2 0), .inr (9, [.int 0, .int 0, .int 0])), ((u4 0), .inr (9, [.int 0, .int 0, .int 0])), (q5, .inl (t.1, 600, .inl (fun _ => 0))), (q6, .inl (t.1, 600, .inl (fun _ => 0))), (q7, .inl (t.1, 600, .inl (fun _ => 0))), (q8, .inl (t.1, 600, .inl (fun _ => 0))), (q9, .inl (t.1, 100, .inl (fun _ => 0))), (q10, .inl (t.1, 100, .inl (fun _ => 0))), (q11, .inl (t.1, 6, .inl (fun _ => 0)))] H := hP
  have hD : va_D A [(h0, .inr (5, [.null, .null, .ref (u2 0), .ref (u4 0), .ref q5, .ref q6, .ref q7, .ref q8, .ref q9, .ref q10, .null, .null, .int 0])), ((u2 0), .inr (9, [.int 0, .int 0, .int 0])), ((u4 0), .inr (9, [.int 0, .int 0, .int 0])), (q5, .inl (t.1, 600, .inl (fun _ => 0))), (q6, .inl (t.1, 600, .inl (fun _ => 0))), (q7, .inl (t.1, 600, .inl (fun _ => 0))), (q8, .inl (t.1, 600, .inl (fun _ => 0))), (q9, .inl (t.1, 100, .inl (fun _ => 0))), (q10, .inl (t.1, 100, .inl (fun _ => 0))), (q11, .inl (t.1, 6, .inl (fun _ => 0)))] := hD
  refine W.widen (k := 9) (n := 2612) (Nat.le_of_ble_eq_true rfl) (Nat.le_of_ble_eq_true rfl) ?_
  refine va_putF (D := D) (ci := 5) (v := .ref q11) (C := RX5) (T := TX5) (N := 13) hx hb hts in_X5 tyX5 tyX5_ok nmX5 hown hK hP hD hS 0 rfl rfl 10 (by decide) (hts _ fl_X5_40) (fun _ h9 => h9) rfl hin rfl (ty := tyX5 10) (tyX5_ok 10 (by decide)) rfl rfl (Nat.le_of_ble_eq_true rfl) dX5_init_83 (fun H locs hP hD hS => ?_)
  have hP : va_P D vwCl [(h0, .inr (5, [.null, .null, .ref (u2 0), .ref (u4 0), .ref q5, .ref q6, .ref q7, .ref q8, .ref q9, .ref q10, .ref q11, .null, .int 0])), ((u2 0), .inr (9, [.int 0, .int 0, .int 0])), ((u4 0), .inr (9, [.int 0, .int 0, .int 0])), (q5, .inl (t.1, 600, .inl (fun _ => 0))), (q6, .inl (t.1, 600, .inl (fun _ => 0))), (q7, .inl (t.1, 600, .inl (fun _ => 0))), (q8, .inl (t.1, 600, .inl (fun _ => 0))), (q9, .inl (t.1, 100, .inl (fun _ => 0))), (q10, .inl (t.1, 100, .inl (fun _ => 0))), (q11, .inl (t.1, 6, .inl (fun _ => 0)))] H := hP
  have hD : va_D A [(h0, .inr (5, [.null, .null, .ref (u2 0), .ref (u4 0), .ref q5, .ref q6, .ref q7, .ref q8, .ref q9, .ref q10, .ref q11, .null, .int 0])), ((u2 0), .inr (9, [.int 0, .int 0, .int 0])), ((u4 0), .inr (9, [.int 0, .int 0, .int 0])), (q5, .inl (t.1, 600, .inl (fun _ => 0))), (q6, .inl (t.1, 600, .inl (fun _ => 0))), (q7, .inl (t.1, 600, .inl (fun _ => 0))), (q8, .inl (t.1, 600, .inl (fun _ => 0))), (q9, .inl (t.1, 100, .inl (fun _ => 0))), (q10, .inl (t.1, 100, .inl (fun _ => 0))), (q11, .inl (t.1, 6, .inl (fun _ => 0)))] := hD
  refine lv_aload_n hx hb dX5_init_86 rfl (lv_at hl 0 rfl) ?_
  refine lv_bipush (v := 6) hx hb dX5_init_87 (by decide) ?_
  refine c_newa (atype := .int) (ty := .int) hx hb (hts _ (tg_1 (List.mem_of_getElem? (i := 47) rfl) rfl)) rfl hK hP hD hS hA 0 rfl (fun _ h => h) (a0 := (6, .inl (fun _ => 0))) (fun _ => rfl) (by decide) (N' := 6) (by decide +kernel) (Nat.le_of_ble_eq_true rfl) (Nat.le_of_ble_eq_true rfl) (Nat.le_of_ble_eq_true rfl) dX5_init_89 (fun q12 H hP hD hS => ?_)
  have hP : va_P D vwCl [(h0, .inr (5, [.null, .null, .ref (u2 0), .ref (u4 0), .ref q5, .ref q6, .ref q7, .ref q8, .ref q9, .ref q10, .ref q11, .null, .int 0])), ((u2 0), .inr (9, [.int 0, .int 0, .int 0])), ((u4 0), .inr (9, [.int 0, .int 0, .int 0])), (q5, .inl (t.1, 600, .inl (fun _ => 0))), (q6, .inl (t.1, 600, .inl (fun _ => 0))), (q7, .inl (t.1, 600, .inl (fun _ => 0))), (q8, .inl (t.1, 600, .inl (fun _ => 0))), (q9, .inl (t.1, 100, .inl (fun _ => 0))), (q10, .inl (t.1, 100, .inl (fun _ => 0))), (q11, .inl (t.1, 6, .inl (fun _ => 0))), (q12, .inl (t.1, 6, .inl (fun _ => 0)))] H := hP
  have hD : va_D A [(h0, .inr (5, [.null, .null, .ref (u2 0), .ref (u4 0), .ref q5, .ref q6, .ref q7, .ref q8, .ref q9, .ref q10, .ref q11, .null, .int 0])), ((u2 0), .inr (9, [.int 0, .int 0, .int 0])), ((u4 0), .inr (9, [.int 0, .int 0, .int 0])), (q5, .inl (t.1, 600, .inl (fun _ => 0))), (q6, .inl (t.1, 600, .inl (fun _ => 0))), (q7, .inl (t.1, 600, .inl (fun _ => 0))), (q8, .inl (t.1, 600, .inl (fun _ => 0))), (q9, .inl (t.1, 100, .inl (fun _ => 0))), (q10, .inl (t.1, 100, .inl (fun _ => 0))), (q11, .inl (t.1, 6, .inl (fun _ => 0))), (q12, .inl (t.1, 6, .inl (fun _ => 0)))] := hD
  refine W.widen (k := 10) (n := 2618) (Nat.le_of_ble_eq_true rfl) (Nat.le_of_ble_eq_true rfl) ?_
  refine va_putF (D := D) (ci := 5) (v := .ref q12) (C := RX5) (T := TX5) (N := 13) hx hb hts in_X5 tyX5 tyX5_ok nmX5 hown hK hP hD hS 0 rfl rfl 11 (by decide) (hts _ fl_X5_43) (fun _ h9 => h9) rfl hin rfl (ty := tyX5 11) (tyX5_ok 11 (by decide)) rfl rfl (Nat.le_of_ble_eq_true rfl) dX5_init_91 (fun H locs hP hD hS => ?_)
  have hP : va_P D vwCl [(h0, .inr (5, [.null, .null, .ref (u2 0), .ref (u4 0), .ref q5, .ref q6, .ref q7, .ref q8, .ref q9, .ref q10, .ref q11, .ref q12, .int 0])), ((u2 0), .inr (9, [.int 0, .int 0, .int 0])), ((u4 0), .inr (9, [.int 0, .int 0, .int 0])), (q5, .inl (t.1, 600, .inl (fun _ => 0))), (q6, .inl (t.1, 600, .inl (fun _ => 0))), (q7, .inl (t.1, 600, .inl (fun _ => 0))), (q8, .inl (t.1, 600, .inl (fun _ => 0))), (q9, .inl (t.1, 100, .inl (fun _ => 0))), (q10, .inl (t.1, 100, .inl (fun _ => 0))), (q11, .inl (t.1, 6, .inl (fun _ => 0))), (q12, .inl (t.1, 6, .inl (fun _ => 0)))] H := hP
  have hD : va_D A [(h0, .inr (5, [.null, .null, .ref (u2 0), .ref (u4 0), .ref q5, .ref q6, .ref q7, .ref q8, .ref q9, .ref q10, .ref q11, .ref q12, .int 0])), ((u2 0), .inr (9, [.int 0, .int 0, .int 0])), ((u4 0), .inr (9, [.int 0, .int 0, .int 0])), (q5, .inl (t.1, 600, .inl (fun _ => 0))), (q6, .inl (t.1, 600, .inl (fun _ => 0))), (q7, .inl (t.1, 600, .inl (fun _ => 0))), (q8, .inl (t.1, 600, .inl (fun _ => 0))), (q9, .inl (t.1, 100, .inl (fun _ => 0))), (q10, .inl (t.1, 100, .inl (fun _ => 0))), (q11, .inl (t.1, 6, .inl (fun _ => 0))), (q12, .inl (t.1, 6, .inl (fun _ => 0)))] := hD
  refine lv_aload_n hx hb dX5_init_94 rfl (lv_at hl 0 rfl) ?_
  refine lv_aload_n hx hb dX5_init_95 rfl (lv_at hl 1 rfl) ?_
  refine va_putF (D := D) (ci := 5) (v := .ref a0) (C := RX5) (T := TX5) (N := 13) hx hb hts in_X5 tyX5 tyX5_ok nmX5 hown hK hP hD hS 0 rfl rfl 0 (by decide) (hts _ fl_X5_46) (fun _ h9 => h9) rfl hin rfl (ty := tyX5 0) (tyX5_ok 0 (by decide)) rfl rfl (Nat.le_of_ble_eq_true rfl) dX5_init_96 (fun H locs hP hD hS => ?_)
  have hP : va_P D vwCl [(h0, .inr (5, [.ref a0, .null, .ref (u2 0), .ref (u4 0), .ref q5, .ref q6, .ref q7, .ref q8, .ref q9, .ref q10, .ref q11, .ref q12, .int 0])), ((u2 0), .inr (9, [.int 0, .int 0, .int 0])), ((u4 0), .inr (9, [.int 0, .int 0, .int 0])), (q5, .inl (t.1, 600, .inl (fun _ => 0))), (q6, .inl (t.1, 600, .inl (fun _ => 0))), (q7, .inl (t.1, 600, .inl (fun _ => 0))), (q8, .inl (t.1, 600, .inl (fun _ => 0))), (q9, .inl (t.1, 100, .inl (fun _ => 0))), (q10, .inl (t.1, 100, .inl (fun _ => 0))), (q11, .inl (t.1, 6, .inl (fun _ => 0))), (q12, .inl (t.1, 6, .inl (fun _ => 0)))] H := hP
  have hD : va_D A [(h0, .inr (5, [.ref a0, .null, .ref (u2 0), .ref (u4 0), .ref q5, .ref q6, .ref q7, .ref q8, .ref q9, .ref q10, .ref q11, .ref q12, .int 0])), ((u2 0), .inr (9, [.int 0, .int 0, .int 0])), ((u4 0), .inr (9, [.int 0, .int 0, .int 0])), (q5, .inl (t.1, 600, .inl (fun _ => 0))), (q6, .inl (t.1, 600, .inl (fun _ => 0))), (q7, .inl (t.1, 600, .inl (fun _ => 0))), (q8, .inl (t.1, 600, .inl (fun _ => 0))), (q9, .inl (t.1, 100, .inl (fun _ => 0))), (q10, .inl (t.1, 100, .inl (fun _ => 0))), (q11, .inl (t.1, 6, .inl (fun _ => 0))), (q12, .inl (t.1, 6, .inl (fun _ => 0)))] := hD
  refine lv_aload_n hx hb dX5_init_99 rfl (lv_at hl 0 rfl) ?_
  refine lv_aload_n hx hb dX5_init_100 rfl (lv_at hl 2 rfl) ?_
  refine va_putF (D := D) (ci := 5) (v := .ref a1) (C := RX5) (T := TX5) (N := 13) hx hb hts in_X5 tyX5 tyX5_ok nmX5 hown hK hP hD hS 0 rfl rfl 1 (by decide) (hts _ fl_X5_50) (fun _ h9 => h9) rfl hin rfl (ty := tyX5 1) (tyX5_ok 1 (by decide)) rfl rfl (Nat.le_of_ble_eq_true rfl) dX5_init_101 (fun H locs hP hD hS => ?_)
  have hP : va_P D vwCl [(h0, .inr (5, [.ref a0, .ref a1, .ref (u2 0), .ref (u4 0), .ref q5, .ref q6, .ref q7, .ref q8, .ref q9, .ref q10, .ref q11, .ref q12, .int 0])), ((u2 0), .inr (9, [.int 0, .int 0, .int 0])), ((u4 0), .inr (9, [.int 0, .int 0, .int 0])), (q5, .inl (t.1, 600, .inl (fun _ => 0))), (q6, .inl (t.1, 600, .inl (fun _ => 0))), (q7, .inl (t.1, 600, .inl (fun _ => 0))), (q8, .inl (t.1, 600, .inl (fun _ => 0))), (q9, .inl (t.1, 100, .inl (fun _ => 0))), (q10, .inl (t.1, 100, .inl (fun _ => 0))), (q11, .inl (t.1, 6, .inl (fun _ => 0))), (q12, .inl (t.1, 6, .inl (fun _ => 0)))] H := hP
  have hD : va_D A [(h0, .inr (5, [.ref a0, .ref a1, .ref (u2 0), .ref (u4 0), .ref q5, .ref q6, .ref q7, .ref q8, .ref q9, .ref q10, .ref q11, .ref q12, .int 0])), ((u2 0), .inr (9, [.int 0, .int 0, .int 0])), ((u4 0), .inr (9, [.int 0, .int 0, .int 0])), (q5, .inl (t.1, 600, .inl (fun _ => 0))), (q6, .inl (t.1, 600, .inl (fun _ => 0))), (q7, .inl (t.1, 600, .inl (fun _ => 0))), (q8, .inl (t.1, 600, .inl (fun _ => 0))), (q9, .inl (t.1, 100, .inl (fun _ => 0))), (q10, .inl (t.1, 100, .inl (fun _ => 0))), (q11, .inl (t.1, 6, .inl (fun _ => 0))), (q12, .inl (t.1, 6, .inl (fun _ => 0)))] := hD
  have hP9 := hP.sub (ws' := [(h0, .inr (5, [.ref a0, .ref a1, .ref (u2 0), .ref (u4 0), .ref q5, .ref q6, .ref q7, .ref q8, .ref q9, .ref q10, .ref q11, .ref q12, .int 0])), ((u2 0), .inr (9, [.int 0, .int 0, .int 0])), ((u4 0), .inr (9, [.int 0, .int 0, .int 0])), (q5, .inl (t.1, 600, .inl (fun _ => 0))), (q6, .inl (t.1, 600, .inl (fun _ => 0))), (q7, .inl (t.1, 600, .inl (fun _ => 0))), (q8, .inl (t.1, 600, .inl (fun _ => 0))), (q9, .inl (t.1, 100, .inl (fun _ => 0))), (q10, .inl (t.1, 100, .inl (fun _ => 0))), (q11, .inl (t.1, 6, .inl (fun _ => 0))), (q12, .inl (t.1, 6, .inl (fun _ => 0)))]) [0, 1, 2, 3, 4, 5, 6, 7, 8, 9, 10] rfl
  have hD9 := hD.sub (ws' := [(h0, .inr (5, [.ref a0, .ref a1, .ref (u2 0), .ref (u4 0), .ref q5, .ref q6, .ref q7, .ref q8, .ref q9, .ref q10, .ref q11, .ref q12, .int 0])), ((u2 0), .inr (9, [.int 0, .int 0, .int 0])), ((u4 0), .inr (9, [.int 0, .int 0, .int 0])), (q5, .inl (t.1, 600, .inl (fun _ => 0))), (q6, .inl (t.1, 600, .inl (fun _ => 0))), (q7, .inl (t.1, 600, .inl (fun _ => 0))), (q8, .inl (t.1, 600, .inl (fun _ => 0))), (q9, .inl (t.1, 100, .inl (fun _ => 0))), (q10, .inl (t.1, 100, .inl (fun _ => 0))), (q11, .inl (t.1, 6, .inl (fun _ => 0))), (q12, .inl (t.1, 6, .inl (fun _ => 0)))]) [0, 1, 2, 3, 4, 5, 6, 7, 8, 9, 10] (by decide) rfl
  subst hAe
  exact W.vret hx hb hr (fun t9 ht hW => ⟨⟨(fun k => ([h0, (u2 0), (u4 0), q5, q6, q7, q8, q9, q10, q11, q12] : List Nat).getD k 0), rfl, rfl, by rw [ht]; exact hP9, hD9⟩, hS.F ht⟩) hS.2.2 dX5_init_104
def w1_X6 (t : uT) (a0 : Nat) (a1 : Nat) (u : Nat → Nat) : va_W := [(u 0, .inr (6, [.ref a0, .ref a1, .ref (u 1), .ref (u 2), .ref (u 3), .ref (u 4), .ref (u 5), .ref (u 6)])), (u 1, .inr (9, [.int 0, .int 0, .int 0])), (u 2, .inl (t.1, 4848, .inl (fun _ => 0))), (u 3, .inl (t.1, 4848, .inl (fun _ => 0))), (u 4, .inl (t.1, 606, .inl (fun _ => 0))), (u 5, .inl (t.1, 6, .inl (fun _ => 0))), (u 6, .inl (t.1, 6, .inl (fun _ => 0)))]
set_option maxHeartbeats 8000000 in
set_option maxRecDepth 100000 in
theorem ci_X6 (l : Launch) (D : va_G) (t : uT) (fa h0 : Nat) (a0 : Nat) (a1 : Nat) : CtC l D t fa yX6_init cX6_init 3 2 48 6 10317 [.ref h0, .ref a0, .ref a1] [(h0, .inr (6, [.null, .null, .null, .null, .null, .null, .null, .null]))] h0 (w1_X6 t a0 a1) := by
  intro sz
  refine va_MetF (cc := cX6_init) (maxL := 3) (ret := none) (by decide +kernel) rfl ?_
  intro p e s m args below meth c s₁ B hml hv
  obtain ⟨rfl, hsz, hP, hK, hD0, hZ⟩ := hv
  have hx := B.exec
  have hb := B.bytes
  have hr := B.returns
  have hlocks := B.notSynchronized
  have hts : ∀ w ∈ TG, w.before ([.ref h0, .ref a0, .ref a1] : List Value).toArray s = true := fun w hw => atoms_spec (ws := Cond.code yX6_init cX6_init 3 none :: TG) B.pre w (List.mem_cons_of_mem _ hw)
  have hown : s.vm.findClass RX6 = some m.cls := findClass_of_methodNamed B.named
  have hin : meth.name = "<init>" := (name_of_methodNamed B.named B.method).1
  subst hsz
  have hD := hD0.self (sz := s.heap.size)
  generalize hAe : va_A [(h0, .inr (6, [.null, .null, .null, .null, .null, .null, .null, .null]))] s.heap.size = A at hD hZ ⊢
  have hA : ∀ q : Nat, s.heap.size ≤ q → A q := fun q h => by rw [← hAe]; exact Or.inr h
  have hS : va_S A s.heap s.heap [] := va_S.rf
  have hl := lv_entry ([.ref h0, .ref a0, .ref a1]) (n := 3) (Nat.le_of_ble_eq_true rfl)
  rw [lg_entry_eq]
  generalize (lg_sl ([.ref h0, .ref a0, .ref a1]) ++ List.replicate (3 - (lg_sl ([.ref h0, .ref a0, .ref a1])).length) Slot.unset).toArray = ls at hl ⊢
  have hl : lv_has ls 3 [(0, .ref h0), (1, .ref a0), (2, .ref a1)] := hl
  refine lv_aload_n hx hb dX6_init_0 rfl (lv_at hl 0 rfl) ?_
  refine W.objInit hx hb hown (hts (.methodLink RX6 3 objectInit) (tg_1 (List.mem_of_getElem? (i := 181) rfl) rfl)) (hts (.instanceMethod objectInit) (tg_1 (List.mem_of_getElem? (i := 26) rfl) rfl)) (hts (Cond.code objectInit object_method_1_code 1 none) (tg_1 (List.mem_of_getElem? (i := 27) rfl) rfl)) rfl (by rw [hml]; exact hl.1) rfl dX6_init_1 (Nat.le_of_ble_eq_true rfl) (Nat.le_of_ble_eq_true rfl) ?_
  refine W.eq (g2 := F0 m 4 ls []) rfl ?_
  refine lv_aload_n hx hb dX6_init_4 rfl (lv_at hl 0 rfl) ?_
  refine va_new (ci := 9) (fs := [.int 0, .int 0, .int 0]) (C := RX9) (T := TX9) (N := 3) hx hb hts in_X9 tyX9 tyX9_ok hown (hts _ (tg_1 (List.mem_of_getElem? (i := 182) rfl) rfl)) (hts _ (tg_1 (List.mem_of_getElem? (i := 121) rfl) rfl)) (hts _ (tg_1 (List.mem_of_getElem? (i := 7) rfl) rfl)) hK hP hD hS hA rfl z_X9 (Nat.le_of_ble_eq_true rfl) (Nat.le_of_ble_eq_true rfl) dX6_init_5 (fun q1 H hP hD hS => ?_)
  have hP : va_P D vwCl [(h0, .inr (6, [.null, .null, .null, .null, .null, .null, .null, .null])), (q1, .inr (9, [.int 0, .int 0, .int 0]))] H := hP
  have hD : va_D A [(h0, .inr (6, [.null, .null, .null, .null, .null, .null, .null, .null])), (q1, .inr (9, [.int 0, .int 0, .int 0]))] := hD
  refine W.widen (k := 1) (n := 3) (Nat.le_of_ble_eq_true rfl) (Nat.le_of_ble_eq_true rfl) ?_
  refine lv_dup hx hb dX6_init_8 rfl ?_
  have hPc := hP.sub (ws' := [(q1, .inr (9, [.int 0, .int 0, .int 0]))]) [1] rfl
  have hFc := va_free (wc := [(q1, .inr (9, [.int 0, .int 0, .int 0]))]) hD hS hA [1] rfl
  have hDc := hD.sub (ws' := [(q1, .inr (9, [.int 0, .int 0, .int 0]))]) [1] (by decide) rfl
  refine va_callv (va_runIN (As := []) (rest := [.ref q1, .ref h0]) ⟨hx, hb, hml, hown, hts⟩ (ci_X9 l D t fa q1 H.size) ⟨va_cnB 0 hts (tg_good (tg_1 (List.mem_of_getElem? (i := 124) rfl) rfl)) rfl rfl rfl (hZ.2.2.2.2 _ (List.mem_of_getElem? (i := 2) rfl)) (hts _ (tg_1 (List.mem_of_getElem? (i := 7) rfl) rfl)) (by decide +kernel) ⟨Nat.le_of_ble_eq_true rfl, Nat.le_of_ble_eq_true rfl⟩, rfl, (hts _ (tg_1 (List.mem_of_getElem? (i := 123) rfl) rfl))⟩ ⟨c_Pc.blind, fun U hU hW => ⟨rfl, by rw [hU], by rw [hU]; exact hPc, va_K.moved hW.alike hK, hDc.weaken (fun _ _ _ _ => trivial), c_Z.to hZ hS hFc hU hW⟩⟩ rfl rfl hl.1 rfl (lv_room (Nat.le_of_ble_eq_true rfl)) dX6_init_9 ⟨Nat.le_of_ble_eq_true rfl, Nat.le_of_ble_eq_true rfl⟩) hS (fun q _ h => hFc q h) hFc (fun u2 t1 H1 locs ht hvm hw hB hz1 hk1 hS => ?_)
  obtain ⟨hP1, hD1⟩ := hB
  rw [ht] at hP1
  try dsimp only at hw
  obtain ⟨hPn, hDn⟩ := va_join (wr := [(h0, .inr (6, [.null, .null, .null, .null, .null, .null, .null, .null]))]) (w1 := w1_X9 t u2) hP hD [1] [0] rfl rfl (by decide) (by decide) hk1 hFc hP1 hD1
  clear hPc hFc hDc hP1 hD1 hk1 hz1 ht hvm t1 hP hD
  subst hw
  generalize H1 = Hu2 at hPn hS ⊢
  have hP := hPn
  have hD := hDn
  clear hPn hDn
  have hP : va_P D vwCl [(h0, .inr (6, [.null, .null, .null, .null, .null, .null, .null, .null])), ((u2 0), .inr (9, [.int 0, .int 0, .int 0]))] Hu2 := hP
  have hD : va_D A [(h0, .inr (6, [.null, .null, .null, .null, .null, .null, .null, .null])), ((u2 0), .inr (9, [.int 0, .int 0, .int 0]))] := hD
  refine W.widen (k := 1) (n := 3) (Nat.le_of_ble_eq_true rfl) (Nat.le_of_ble_eq_true rfl) ?_
  refine va_putF (D := D) (ci := 6) (v := .ref (u2 0)) (C := RX6) (T := TX6) (N := 8) hx hb hts in_X6 tyX6 tyX6_ok nmX6 hown hK hP hD hS 0 rfl rfl 2 (by decide) (hts _ fl_X6_12) (fun _ h9 => h9) rfl hin rfl (ty := tyX6 2) (tyX6_ok 2 (by decide)) rfl rfl (Nat.le_of_ble_eq_true rfl) dX6_init_12 (fun H locs hP hD hS => ?_)
  have hP : va_P D vwCl [(h0, .inr (6, [.null, .null, .ref (u2 0), .null, .null, .null, .null, .null])), ((u2 0), .inr (9, [.int 0, .int 0, .int 0]))] H := hP
  have hD : va_D A [(h0, .inr (6, [.null, .null, .ref (u2 0), .null, .null, .null, .null, .null])), ((u2 0), .inr (9, [.int 0, .int 0, .int 0]))] := hD
  refine lv_aload_n hx hb dX6_init_15 rfl (lv_at hl 0 rfl) ?_
  refine lv_sipush (v := 4848) hx hb dX6_init_16 (by decide) ?_
  refine c_newa (atype := .int) (ty := .int) hx hb (hts _ (tg_1 (List.mem_of_getElem? (i := 47) rfl) rfl)) rfl hK hP hD hS hA 0 rfl (fun _ h => h) (a0 := (4848, .inl (fun _ => 0))) (fun _ => rfl) (by decide) (N' := 4848) (by decide +kernel) (Nat.le_of_ble_eq_true rfl) (Nat.le_of_ble_eq_true rfl) (Nat.le_of_ble_eq_true rfl) dX6_init_19 (fun q3 H hP hD hS => ?_)
  have hP : va_P D vwCl [(h0, .inr (6, [.null, .null, .ref (u2 0), .null, .null, .null, .null, .null])), ((u2 0), .inr (9, [.int 0, .int 0, .int 0])), (q3, .inl (t.1, 4848, .inl (fun _ => 0)))] H := hP
  have hD : va_D A [(h0, .inr (6, [.null, .null, .ref (u2 0), .null, .null, .null, .null, .null])), ((u2 0), .inr (9, [.int 0, .int 0, .int 0])), (q3, .inl (t.1, 4848, .inl (fun _ => 0)))] := hD
  refine W.widen (k := 2) (n := 4851) (Nat.le_of_ble_eq_true rfl) (Nat.le_of_ble_eq_true rfl) ?_
  refine va_putF (D := D) (ci := 6) (v := .ref q3) (C := RX6) (T := TX6) (N := 8) hx hb hts in_X6 tyX6 tyX6_ok nmX6 hown hK hP hD hS 0 rfl rfl 3 (by decide) (hts _ fl_X6_18) (fun _ h9 => h9) rfl hin rfl (ty := tyX6 3) (tyX6_ok 3 (by decide)) rfl rfl (Nat.le_of_ble_eq_true rfl) dX6_init_21 (fun H locs hP hD hS => ?_)
  have hP : va_P D vwCl [(h0, .inr (6, [.null, .null, .ref (u2 0), .ref q3, .null, .null, .null, .null])), ((u2 0), .inr (9, [.int 0, .int 0, .int 0])), (q3, .inl (t.1, 4848, .inl (fun _ => 0)))] H := hP
  have hD : va_D A [(h0, .inr (6, [.null, .null, .ref (u2 0), .ref q3, .null, .null, .null, .null])), ((u2 0), .inr (9, [.int 0, .int 0, .int 0])), (q3, .inl (t.1, 4848, .inl (fun _ => 0)))] := hD
  refine lv_aload_n hx hb dX6_init_24 rfl (lv_at hl 0 rfl) ?_
  refine lv_sipush (v := 4848) hx hb dX6_init_25 (by decide) ?_
  refine c_newa (atype := .int) (ty := .int) hx hb (hts _ (tg_1 (List.mem_of_getElem? (i := 47) rfl) rfl)) rfl hK hP hD hS hA 0 rfl (fun _ h => h) (a0 := (4848, .inl (fun _ => 0))) (fun _ => rfl) (by decide) (N' := 4848) (by decide +kernel) (Nat.le_of_ble_eq_true rfl) (Nat.le_of_ble_eq_true rfl) (Nat.le_of_ble_eq_true rfl) dX6_init_28 (fun q4 H hP hD hS => ?_)
  have hP : va_P D vwCl [(h0, .inr (6, [.null, .null, .ref (u2 0), .ref q3, .null, .null, .null, .null])), ((u2 0), .inr (9, [.int 0, .int 0, .int 0])), (q3, .inl (t.1, 4848, .inl (fun _ => 0))), (q4, .inl (t.1, 4848, .inl (fun _ => 0)))] H := hP
  have hD : va_D A [(h0, .inr (6, [.null, .null, .ref (u2 0), .ref q3, .null, .null, .null, .null])), ((u2 0), .inr (9, [.int 0, .int 0, .int 0])), (q3, .inl (t.1, 4848, .inl (fun _ => 0))), (q4, .inl (t.1, 4848, .inl (fun _ => 0)))] := hD
  refine W.widen (k := 3) (n := 9699) (Nat.le_of_ble_eq_true rfl) (Nat.le_of_ble_eq_true rfl) ?_
  refine va_putF (D := D) (ci := 6) (v := .ref q4) (C := RX6) (T := TX6) (N := 8) hx hb hts in_X6 tyX6 tyX6_ok nmX6 hown hK hP hD hS 0 rfl rfl 4 (by decide) (hts _ fl_X6_22) (fun _ h9 => h9) rfl hin rfl (ty := tyX6 4) (tyX6_ok 4 (by decide)) rfl rfl (Nat.le_of_ble_eq_true rfl) dX6_init_30 (fun H locs hP hD hS => ?_)
  have hP : va_P D vwCl [(h0, .inr (6, [.null, .null, .ref (u2 0), .ref q3, .ref q4, .null, .null, .null])), ((u2 0), .inr (9, [.int 0, .int 0, .int 0])), (q3, .inl (t.1, 4848, .inl (fun _ => 0))), (q4, .inl (t.1, 4848, .inl (fun _ => 0)))] H := hP
  have hD : va_D A [(h0, .inr (6, [.null, .null, .ref (u2 0), .ref q3, .ref q4, .null, .null, .null])), ((u2 0), .inr (9, [.int 0, .int 0, .int 0])), (q3, .inl (t.1, 4848, .inl (fun _ => 0))), (q4, .inl (t.1, 4848, .inl (fun _ => 0)))] := hD
  refine lv_aload_n hx hb dX6_init_33 rfl (lv_at hl 0 rfl) ?_
  refine lv_sipush (v := 606) hx hb dX6_init_34 (by decide) ?_
  refine c_newa (atype := .int) (ty := .int) hx hb (hts _ (tg_1 (List.mem_of_getElem? (i := 47) rfl) rfl)) rfl hK hP hD hS hA 0 rfl (fun _ h => h) (a0 := (606, .inl (fun _ => 0))) (fun _ => rfl) (by decide) (N' := 606) (by decide +kernel) (Nat.le_of_ble_eq_true rfl) (Nat.le_of_ble_eq_true rfl) (Nat.le_of_ble_eq_true rfl) dX6_init_37 (fun q5 H hP hD hS => ?_)
  have hP : va_P D vwCl [(h0, .inr (6, [.null, .null, .ref (u2 0), .ref q3, .ref q4, .null, .null, .null])), ((u2 0), .inr (9, [.int 0, .int 0, .int 0])), (q3, .inl (t.1, 4848, .inl (fun _ => 0))), (q4, .inl (t.1, 4848, .inl (fun _ => 0))), (q5, .inl (t.1, 606, .inl (fun _ => 0)))] H := hP
  have hD : va_D A [(h0, .inr (6, [.null, .null, .ref (u2 0), .ref q3, .ref q4, .null, .null, .null])), ((u2 0), .inr (9, [.int 0, .int 0, .int 0])), (q3, .inl (t.1, 4848, .inl (fun _ => 0))), (q4, .inl (t.1, 4848, .inl (fun _ => 0))), (q5, .inl (t.1, 606, .inl (fun _ => 0)))] := hD
  refine W.widen (k := 4) (n := 10305) (Nat.le_of_ble_eq_true rfl) (Nat.le_of_ble_eq_true rfl) ?_
  refine va_putF (D := D) (ci := 6) (v := .ref q5) (C := RX6) (T := TX6) (N := 8) hx hb hts in_X6 tyX6 tyX6_ok nmX6 hown hK hP hD hS 0 rfl rfl 5 (by decide) (hts _ fl_X6_25) (fun _ h9 => h9) rfl hin rfl (ty := tyX6 5) (tyX6_ok 5 (by decide)) rfl rfl (Nat.le_of_ble_eq_true rfl) dX6_init_39 (fun H locs hP hD hS => ?_)
  have hP : va_P D vwCl [(h0, .inr (6, [.null, .null, .ref (u2 0), .ref q3, .ref q4, .ref q5, .null, .null])), ((u2 0), .inr (9, [.int 0, .int 0, .int 0])), (q3, .inl (t.1, 4848, .inl (fun _ => 0))), (q4, .inl (t.1, 4848, .inl (fun _ => 0))), (q5, .inl (t.1, 606, .inl (fun _ => 0)))] H := hP
  have hD : va_D A [(h0, .inr (6, [.null, .null, .ref (u2 0), .ref q3, .ref q4, .ref q5, .null, .null])), ((u2 0), .inr (9, [.int 0, .int 0, .int 0])), (q3, .inl (t.1, 4848, .inl (fun _ => 0))), (q4, .inl (t.1, 4848, .inl (fun _ => 0))), (q5, .inl (t.1, 606, .inl (fun _ => 0)))] := hD
  refine lv_aload_n hx hb dX6_init_42 rfl (lv_at hl 0 rfl) ?_
  refine lv_bipush (v := 6) hx hb dX6_init_43 (by decide) ?_
  refine c_newa (atype := .int) (ty := .int) hx hb (hts _ (tg_1 (List.mem_of_getElem? (i := 47) rfl) rfl)) rfl hK hP hD hS hA 0 rfl (fun _ h => h) (a0 := (6, .inl (fun _ => 0))) (fun _ => rfl) (by decide) (N' := 6) (by decide +kernel) (Nat.le_of_ble_eq_true rfl) (Nat.le_of_ble_eq_true rfl) (Nat.le_of_ble_eq_true rfl) dX6_init_45 (fun q6 H hP hD hS => ?_)
  have hP : va_P D vwCl [(h0, .inr (6, [.null, .null, .ref (u2 0), .ref q3, .ref q4, .ref q5, .null, .null])), ((u2 0), .inr (9, [.int 0, .int 0, .int 0])), (q3, .inl (t.1, 4848, .inl (fun _ => 0))), (q4, .inl (t.1, 4848, .inl (fun _ => 0))), (q5, .inl (t.1, 606, .inl (fun _ => 0))), (q6, .inl (t.1, 6, .inl (fun _ => 0)))] H := hP
  have hD : va_D A [(h0, .inr (6, [.null, .null, .ref (u2 0), .ref q3, .ref q4, .ref q5, .null, .null])), ((u2 0), .inr (9, [.int 0, .int 0, .int 0])), (q3, .inl (t.1, 4848, .inl (fun _ => 0))), (q4, .inl (t.1, 4848, .inl (fun _ => 0))), (q5, .inl (t.1, 606, .inl (fun _ => 0))), (q6, .inl (t.1, 6, .inl (fun _ => 0)))] := hD
  refine W.widen (k := 5) (n := 10311) (Nat.le_of_ble_eq_true rfl) (Nat.le_of_ble_eq_true rfl) ?_
  refine va_putF (D := D) (ci := 6) (v := .ref q6) (C := RX6) (T := TX6) (N := 8) hx hb hts in_X6 tyX6 tyX6_ok nmX6 hown hK hP hD hS 0 rfl rfl 6 (by decide) (hts _ fl_X6_28) (fun _ h9 => h9) rfl hin rfl (ty := tyX6 6) (tyX6_ok 6 (by decide)) rfl rfl (Nat.le_of_ble_eq_true rfl) dX6_init_47 (fun H locs hP hD hS => ?_)
  have hP : va_P D vwCl [(h0, .inr (6, [.null, .null, .ref (u2 0), .ref q3, .ref q4, .ref q5, .ref q6, .null])), ((u2 0), .inr (9, [.int 0, .int 0, .int 0])), (q3, .inl (t.1, 4848, .inl (fun _ => 0))), (q4, .inl (t.1, 4848, .inl (fun _ => 0))), (q5, .inl (t.1, 606, .inl (fun _ => 0))), (q6, .inl (t.1, 6, .inl (fun _ => 0)))] H := hP
  have hD : va_D A [(h0, .inr (6, [.null, .null, .ref (u2 0), .ref q3, .ref q4, .ref q5, .ref q6, .null])), ((u2 0), .inr (9, [.int 0, .int 0, .int 0])), (q3, .inl (t.1, 4848, .inl (fun _ => 0))), (q4, .inl (t.1, 4848, .inl (fun _ => 0))), (q5, .inl (t.1, 606, .inl (fun _ => 0))), (q6, .inl (t.1, 6, .inl (fun _ => 0)))] := hD
  refine lv_aload_n hx hb dX6_init_50 rfl (lv_at hl 0 rfl) ?_
  refine lv_bipush (v := 6) hx hb dX6_init_51 (by decide) ?_
  refine c_newa (atype := .int) (ty := .int) hx hb (hts _ (tg_1 (List.mem_of_getElem? (i := 47) rfl) rfl)) rfl hK hP hD hS hA 0 rfl (fun _ h => h) (a0 := (6, .inl (fun _ => 0))) (fun _ => rfl) (by decide) (N' := 6) (by decide +kernel) (Nat.le_of_ble_eq_true rfl) (Nat.le_of_ble_eq_true rfl) (Nat.le_of_ble_eq_true rfl) dX6_init_53 (fun q7 H hP hD hS => ?_)
  have hP : va_P D vwCl [(h0, .inr (6, [.null, .null, .ref (u2 0), .ref q3, .ref q4, .ref q5, .ref q6, .null])), ((u2 0), .inr (9, [.int 0, .int 0, .int 0])), (q3, .inl (t.1, 4848, .inl (fun _ => 0))), (q4, .inl (t.1, 4848, .inl (fun _ => 0))), (q5, .inl (t.1, 606, .inl (fun _ => 0))), (q6, .inl (t.1, 6, .inl (fun _ => 0))), (q7, .inl (t.1, 6, .inl (fun _ => 0)))] H := hP
  have hD : va_D A [(h0, .inr (6, [.null, .null, .ref (u2 0), .ref q3, .ref q4, .ref q5, .ref q6, .null])), ((u2 0), .inr (9, [.int 0, .int 0, .int 0])), (q3, .inl (t.1, 4848, .inl (fun _ => 0))), (q4, .inl (t.1, 4848, .inl (fun _ => 0))), (q5, .inl (t.1, 606, .inl (fun _ => 0))), (q6, .inl (t.1, 6, .inl (fun _ => 0))), (q7, .inl (t.1, 6, .inl (fun _ => 0)))] := hD
  refine W.widen (k := 6) (n := 10317) (Nat.le_of_ble_eq_true rfl) (Nat.le_of_ble_eq_true rfl) ?_
  refine va_putF (D := D) (ci := 6) (v := .ref q7) (C := RX6) (T := TX6) (N := 8) hx hb hts in_X6 tyX6 tyX6_ok nmX6 hown hK hP hD hS 0 rfl rfl 7 (by decide) (hts _ fl_X6_31) (fun _ h9 => h9) rfl hin rfl (ty := tyX6 7) (tyX6_ok 7 (by decide)) rfl rfl (Nat.le_of_ble_eq_true rfl) dX6_init_55 (fun H locs hP hD hS => ?_)
  have hP : va_P D vwCl [(h0, .inr (6, [.null, .null, .ref (u2 0), .ref q3, .ref q4, .ref q5, .ref q6, .ref q7])), ((u2 0), .inr (9, [.int 0, .int 0, .int 0])), (q3, .inl (t.1, 4848, .inl (fun _ => 0))), (q4, .inl (t.1, 4848, .inl (fun _ => 0))), (q5, .inl (t.1, 606, .inl (fun _ => 0))), (q6, .inl (t.1, 6, .inl (fun _ => 0))), (q7, .inl (t.1, 6, .inl (fun _ => 0)))] H := hP
  have hD : va_D A [(h0, .inr (6, [.null, .null, .ref (u2 0), .ref q3, .ref q4, .ref q5, .ref q6, .ref q7])), ((u2 0), .inr (9, [.int 0, .int 0, .int 0])), (q3, .inl (t.1, 4848, .inl (fun _ => 0))), (q4, .inl (t.1, 4848, .inl (fun _ => 0))), (q5, .inl (t.1, 606, .inl (fun _ => 0))), (q6, .inl (t.1, 6, .inl (fun _ => 0))), (q7, .inl (t.1, 6, .inl (fun _ => 0)))] := hD
  refine lv_aload_n hx hb dX6_init_58 rfl (lv_at hl 0 rfl) ?_
  refine lv_aload_n hx hb dX6_init_59 rfl (lv_at hl 1 rfl) ?_
  refine va_putF (D := D) (ci := 6) (v := .ref a0) (C := RX6) (T := TX6) (N := 8) hx hb hts in_X6 tyX6 tyX6_ok nmX6 hown hK hP hD hS 0 rfl rfl 0 (by decide) (hts _ fl_X6_34) (fun _ h9 => h9) rfl hin rfl (ty := tyX6 0) (tyX6_ok 0 (by decide)) rfl rfl (Nat.le_of_ble_eq_true rfl) dX6_init_60 (fun H locs hP hD hS => ?_)
  have hP : va_P D vwCl [(h0, .inr (6, [.ref a0, .null, .ref (u2 0), .ref q3, .ref q4, .ref q5, .ref q6, .ref q7])), ((u2 0), .inr (9, [.int 0, .int 0, .int 0])), (q3, .inl (t.1, 4848, .inl (fun _ => 0))), (q4, .inl (t.1, 4848, .inl (fun _ => 0))), (q5, .inl (t.1, 606, .inl (fun _ => 0))), (q6, .inl (t.1, 6, .inl (fun _ => 0))), (q7, .inl (t.1, 6, .inl (fun _ => 0)))] H := hP
  have hD : va_D A [(h0, .inr (6, [.ref a0, .null, .ref (u2 0), .ref q3, .ref q4, .ref q5, .ref q6, .ref q7])), ((u2 0), .inr (9, [.int 0, .int 0, .int 0])), (q3, .inl (t.1, 4848, .inl (fun _ => 0))), (q4, .inl (t.1, 4848, .inl (fun _ => 0))), (q5, .inl (t.1, 606, .inl (fun _ => 0))), (q6, .inl (t.1, 6, .inl (fun _ => 0))), (q7, .inl (t.1, 6, .inl (fun _ => 0)))] := hD
  refine lv_aload_n hx hb dX6_init_63 rfl (lv_at hl 0 rfl) ?_
  refine lv_aload_n hx hb dX6_init_64 rfl (lv_at hl 2 rfl) ?_
  refine va_putF (D := D) (ci := 6) (v := .ref a1) (C := RX6) (T := TX6) (N := 8) hx hb hts in_X6 tyX6 tyX6_ok nmX6 hown hK hP hD hS 0 rfl rfl 1 (by decide) (hts _ fl_X6_38) (fun _ h9 => h9) rfl hin rfl (ty := tyX6 1) (tyX6_ok 1 (by decide)) rfl rfl (Nat.le_of_ble_eq_true rfl) dX6_init_65 (fun H locs hP hD hS => ?_)
  have hP : va_P D vwCl [(h0, .inr (6, [.ref a0, .ref a1, .ref (u2 0), .ref q3, .ref q4, .ref q5, .ref q6, .ref q7])), ((u2 0), .inr (9, [.int 0, .int 0, .int 0])), (q3, .inl (t.1, 4848, .inl (fun _ => 0))), (q4, .inl (t.1, 4848, .inl (fun _ => 0))), (q5, .inl (t.1, 606, .inl (fun _ => 0))), (q6, .inl (t.1, 6, .inl (fun _ => 0))), (q7, .inl (t.1, 6, .inl (fun _ => 0)))] H := hP
  have hD : va_D A [(h0, .inr (6, [.ref a0, .ref a1, .ref (u2 0), .ref q3, .ref q4, .ref q5, .ref q6, .ref q7])), ((u2 0), .inr (9, [.int 0, .int 0, .int 0])), (q3, .inl (t.1, 4848, .inl (fun _ => 0))), (q4, .inl (t.1, 4848, .inl (fun _ => 0))), (q5, .inl (t.1, 606, .inl (fun _ => 0))), (q6, .inl (t.1, 6, .inl (fun _ => 0))), (q7, .inl (t.1, 6, .inl (fun _ => 0)))] := hD
  have hP9 := hP.sub (ws' := [(h0, .inr (6, [.ref a0, .ref a1, .ref (u2 0), .ref q3, .ref q4, .ref q5, .ref q6, .ref q7])), ((u2 0), .inr (9, [.int 0, .int 0, .int 0])), (q3, .inl (t.1, 4848, .inl (fun _ => 0))), (q4, .inl (t.1, 4848, .inl (fun _ => 0))), (q5, .inl (t.1, 606, .inl (fun _ => 0))), (q6, .inl (t.1, 6, .inl (fun _ => 0))), (q7, .inl (t.1, 6, .inl (fun _ => 0)))]) [0, 1, 2, 3, 4, 5, 6] rfl
  have hD9 := hD.sub (ws' := [(h0, .inr (6, [.ref a0, .ref a1, .ref (u2 0), .ref q3, .ref q4, .ref q5, .ref q6, .ref q7])), ((u2 0), .inr (9, [.int 0, .int 0, .int 0])), (q3, .inl (t.1, 4848, .inl (fun _ => 0))), (q4, .inl (t.1, 4848, .inl (fun _ => 0))), (q5, .inl (t.1, 606, .inl (fun _ => 0))), (q6, .inl (t.1, 6, .inl (fun _ => 0))), (q7, .inl (t.1, 6, .inl (fun _ => 0)))]) [0, 1, 2, 3, 4, 5, 6] (by decide) rfl
  subst hAe
  exact W.vret hx hb hr (fun t9 ht hW => ⟨⟨(fun k => ([h0, (u2 0), q3, q4, q5, q6, q7] : List Nat).getD k 0), rfl, rfl, by rw [ht]; exact hP9, hD9⟩, hS.F ht⟩) hS.2.2 dX6_init_68
def w1_X8 (t : uT) (a0 : Nat) (a1 : Nat) (a2 : Nat) (u : Nat → Nat) : va_W := [(u 0, .inr (8, [.ref a0, .ref a1, .ref a2, .ref (u 1), .ref (u 2), .ref (u 3), .int 0])), (u 1, .inl (t.1, 100, .inl (fun _ => 0))), (u 2, .inl (t.1, 100, .inl (fun _ => 0))), (u 3, .inl (t.1, 100, .inl (fun _ => 0)))]
set_option maxHeartbeats 8000000 in
set_option maxRecDepth 100000 in
theorem ci_X8 (l : Launch) (D : va_G) (t : uT) (fa h0 : Nat) (a0 : Nat) (a1 : Nat) (a2 : Nat) : CtC l D t fa yX8_init cX8_init 4 1 20 3 300 [.ref h0, .ref a0, .ref a1, .ref a2] [(h0, .inr (8, [.null, .null, .null, .null, .null, .null, .int 0]))] h0 (w1_X8 t a0 a1 a2) := by
  intro sz
  refine va_MetF (cc := cX8_init) (maxL := 4) (ret := none) (by decide +kernel) rfl ?_
  intro p e s m args below meth c s₁ B hml hv
  obtain ⟨rfl, hsz, hP, hK, hD0, hZ⟩ := hv
  have hx := B.exec
  have hb := B.bytes
  have hr := B.returns
  have hlocks := B.notSynchronized
  have hts : ∀ w ∈ TG, w.before ([.ref h0, .ref a0, .ref a1, .ref a2] : List Value).toArray s = true := fun w hw => atoms_spec (ws := Cond.code yX8_init cX8_init 4 none :: TG) B.pre w (List.mem_cons_of_mem _ hw)
  have hown : s.vm.findClass RX8 = some m.cls := findClass_of_methodNamed B.named
  have hin : meth.name = "<init>" := (name_of_methodNamed B.named B.method).1
  subst hsz
  have hD := hD0.self (sz := s.heap.size)
  generalize hAe : va_A [(h0, .inr (8, [.null, .null, .null, .null, .null, .null, .int 0]))] s.heap.size = A at hD hZ ⊢
  have hA : ∀ q : Nat, s.heap.size ≤ q → A q := fun q h => by rw [← hAe]; exact Or.inr h
  have hS : va_S A s.heap s.heap [] := va_S.rf
  have hl := lv_entry ([.ref h0, .ref a0, .ref a1, .ref a2]) (n := 4) (Nat.le_of_ble_eq_true rfl)
  rw [lg_entry_eq]
  generalize (lg_sl ([.ref h0, .ref a0, .ref a1, .ref a2]) ++ List.replicate (4 - (lg_sl ([.ref h0, .ref a0, .ref a1, .ref a2])).length) Slot.unset).toArray = ls at hl ⊢
  have hl : lv_has ls 4 [(0, .ref h0), (1, .ref a0), (2, .ref a1), (3, .ref a2)] := hl
  refine lv_aload_n hx hb dX8_init_0 rfl (lv_at hl 0 rfl) ?_
  refine W.objInit hx hb hown (hts (.methodLink RX8 3 objectInit) (tg_1 (List.mem_of_getElem? (i := 214) rfl) rfl)) (hts (.instanceMethod objectInit) (tg_1 (List.mem_of_getElem? (i := 26) rfl) rfl)) (hts (Cond.code objectInit object_method_1_code 1 none) (tg_1 (List.mem_of_getElem? (i := 27) rfl) rfl)) rfl (by rw [hml]; exact hl.1) rfl dX8_init_1 (Nat.le_of_ble_eq_true rfl) (Nat.le_of_ble_eq_true rfl) ?_
  refine W.eq (g2 := F0 m 4 ls []) rfl ?_
  refine lv_aload_n hx hb dX8_init_4 rfl (lv_at hl 0 rfl) ?_
  refine lv_bipush (v := 100) hx hb dX8_init_5 (by decide) ?_
  refine c_newa (atype := .int) (ty := .int) hx hb (hts _ (tg_1 (List.mem_of_getElem? (i := 47) rfl) rfl)) rfl hK hP hD hS hA 0 rfl (fun _ h => h) (a0 := (100, .inl (fun _ => 0))) (fun _ => rfl) (by decide) (N' := 100) (by decide +kernel) (Nat.le_of_ble_eq_true rfl) (Nat.le_of_ble_eq_true rfl) (Nat.le_of_ble_eq_true rfl) dX8_init_7 (fun q1 H hP hD hS => ?_)
  have hP : va_P D vwCl [(h0, .inr (8, [.null, .null, .null, .null, .null, .null, .int 0])), (q1, .inl (t.1, 100, .inl (fun _ => 0)))] H := hP
  have hD : va_D A [(h0, .inr (8, [.null, .null, .null, .null, .null, .null, .int 0])), (q1, .inl (t.1, 100, .inl (fun _ => 0)))] := hD
  refine W.widen (k := 1) (n := 100) (Nat.le_of_ble_eq_true rfl) (Nat.le_of_ble_eq_true rfl) ?_
  refine va_putF (D := D) (ci := 8) (v := .ref q1) (C := RX8) (T := TX8) (N := 7) hx hb hts in_X8 tyX8 tyX8_ok nmX8 hown hK hP hD hS 0 rfl rfl 3 (by decide) (hts _ fl_X8_9) (fun _ h9 => h9) rfl hin rfl (ty := tyX8 3) (tyX8_ok 3 (by decide)) rfl rfl (Nat.le_of_ble_eq_true rfl) dX8_init_9 (fun H locs hP hD hS => ?_)
  have hP : va_P D vwCl [(h0, .inr (8, [.null, .null, .null, .ref q1, .null, .null, .int 0])), (q1, .inl (t.1, 100, .inl (fun _ => 0)))] H := hP
  have hD : va_D A [(h0, .inr (8, [.null, .null, .null, .ref q1, .null, .null, .int 0])), (q1, .inl (t.1, 100, .inl (fun _ => 0)))] := hD
  refine lv_aload_n hx hb dX8_init_12 rfl (lv_at hl 0 rfl) ?_
  refine lv_bipush (v := 100) hx hb dX8_init_13 (by decide) ?_
  refine c_newa (atype := .int) (ty := .int) hx hb (hts _ (tg_1 (List.mem_of_getElem? (i := 47) rfl) rfl)) rfl hK hP hD hS hA 0 rfl (fun _ h => h) (a0 := (100, .inl (fun _ => 0))) (fun _ => rfl) (by decide) (N' := 100) (by decide +kernel) (Nat.le_of_ble_eq_true rfl) (Nat.le_of_ble_eq_true rfl) (Nat.le_of_ble_eq_true rfl) dX8_init_15 (fun q2 H hP hD hS => ?_)
  have hP : va_P D vwCl [(h0, .inr (8, [.null, .null, .null, .ref q1, .null, .null, .int 0])), (q1, .inl (t.1, 100, .inl (fun _ => 0))), (q2, .inl (t.1, 100, .inl (fun _ => 0)))] H := hP
  have hD : va_D A [(h0, .inr (8, [.null, .null, .null, .ref q1, .null, .null, .int 0])), (q1, .inl (t.1, 100, .inl (fun _ => 0))), (q2, .inl (t.1, 100, .inl (fun _ => 0)))] := hD
  refine W.widen (k := 2) (n := 200) (Nat.le_of_ble_eq_true rfl) (Nat.le_of_ble_eq_true rfl) ?_
  refine va_putF (D := D) (ci := 8) (v := .ref q2) (C := RX8) (T := TX8) (N := 7) hx hb hts in_X8 tyX8 tyX8_ok nmX8 hown hK hP hD hS 0 rfl rfl 4 (by decide) (hts _ fl_X8_15) (fun _ h9 => h9) rfl hin rfl (ty := tyX8 4) (tyX8_ok 4 (by decide)) rfl rfl (Nat.le_of_ble_eq_true rfl) dX8_init_17 (fun H locs hP hD hS => ?_)
  have hP : va_P D vwCl [(h0, .inr (8, [.null, .null, .null, .ref q1, .ref q2, .null, .int 0])), (q1, .inl (t.1, 100, .inl (fun _ => 0))), (q2, .inl (t.1, 100, .inl (fun _ => 0)))] H := hP
  have hD : va_D A [(h0, .inr (8, [.null, .null, .null, .ref q1, .ref q2, .null, .int 0])), (q1, .inl (t.1, 100, .inl (fun _ => 0))), (q2, .inl (t.1, 100, .inl (fun _ => 0)))] := hD
  refine lv_aload_n hx hb dX8_init_20 rfl (lv_at hl 0 rfl) ?_
  refine lv_bipush (v := 100) hx hb dX8_init_21 (by decide) ?_
  refine c_newa (atype := .int) (ty := .int) hx hb (hts _ (tg_1 (List.mem_of_getElem? (i := 47) rfl) rfl)) rfl hK hP hD hS hA 0 rfl (fun _ h => h) (a0 := (100, .inl (fun _ => 0))) (fun _ => rfl) (by decide) (N' := 100) (by decide +kernel) (Nat.le_of_ble_eq_true rfl) (Nat.le_of_ble_eq_true rfl) (Nat.le_of_ble_eq_true rfl) dX8_init_23 (fun q3 H hP hD hS => ?_)
  have hP : va_P D vwCl [(h0, .inr (8, [.null, .null, .null, .ref q1, .ref q2, .null, .int 0])), (q1, .inl (t.1, 100, .inl (fun _ => 0))), (q2, .inl (t.1, 100, .inl (fun _ => 0))), (q3, .inl (t.1, 100, .inl (fun _ => 0)))] H := hP
  have hD : va_D A [(h0, .inr (8, [.null, .null, .null, .ref q1, .ref q2, .null, .int 0])), (q1, .inl (t.1, 100, .inl (fun _ => 0))), (q2, .inl (t.1, 100, .inl (fun _ => 0))), (q3, .inl (t.1, 100, .inl (fun _ => 0)))] := hD
  refine W.widen (k := 3) (n := 300) (Nat.le_of_ble_eq_true rfl) (Nat.le_of_ble_eq_true rfl) ?_
  refine va_putF (D := D) (ci := 8) (v := .ref q3) (C := RX8) (T := TX8) (N := 7) hx hb hts in_X8 tyX8 tyX8_ok nmX8 hown hK hP hD hS 0 rfl rfl 5 (by decide) (hts _ fl_X8_18) (fun _ h9 => h9) rfl hin rfl (ty := tyX8 5) (tyX8_ok 5 (by decide)) rfl rfl (Nat.le_of_ble_eq_true rfl) dX8_init_25 (fun H locs hP hD hS => ?_)
  have hP : va_P D vwCl [(h0, .inr (8, [.null, .null, .null, .ref q1, .ref q2, .ref q3, .int 0])), (q1, .inl (t.1, 100, .inl (fun _ => 0))), (q2, .inl (t.1, 100, .inl (fun _ => 0))), (q3, .inl (t.1, 100, .inl (fun _ => 0)))] H := hP
  have hD : va_D A [(h0, .inr (8, [.null, .null, .null, .ref q1, .ref q2, .ref q3, .int 0])), (q1, .inl (t.1, 100, .inl (fun _ => 0))), (q2, .inl (t.1, 100, .inl (fun _ => 0))), (q3, .inl (t.1, 100, .inl (fun _ => 0)))] := hD
  refine lv_aload_n hx hb dX8_init_28 rfl (lv_at hl 0 rfl) ?_
  refine lv_aload_n hx hb dX8_init_29 rfl (lv_at hl 1 rfl) ?_
  refine va_putF (D := D) (ci := 8) (v := .ref a0) (C := RX8) (T := TX8) (N := 7) hx hb hts in_X8 tyX8 tyX8_ok nmX8 hown hK hP hD hS 0 rfl rfl 0 (by decide) (hts _ fl_X8_21) (fun _ h9 => h9) rfl hin rfl (ty := tyX8 0) (tyX8_ok 0 (by decide)) rfl rfl (Nat.le_of_ble_eq_true rfl) dX8_init_30 (fun H locs hP hD hS => ?_)
  have hP : va_P D vwCl [(h0, .inr (8, [.ref a0, .null, .null, .ref q1, .ref q2, .ref q3, .int 0])), (q1, .inl (t.1, 100, .inl (fun _ => 0))), (q2, .inl (t.1, 100, .inl (fun _ => 0))), (q3, .inl (t.1, 100, .inl (fun _ => 0)))] H := hP
  have hD : va_D A [(h0, .inr (8, [.ref a0, .null, .null, .ref q1, .ref q2, .ref q3, .int 0])), (q1, .inl (t.1, 100, .inl (fun _ => 0))), (q2, .inl (t.1, 100, .inl (fun _ => 0))), (q3, .inl (t.1, 100, .inl (fun _ => 0)))] := hD
  refine lv_aload_n hx hb dX8_init_33 rfl (lv_at hl 0 rfl) ?_
  refine lv_aload_n hx hb dX8_init_34 rfl (lv_at hl 2 rfl) ?_
  refine va_putF (D := D) (ci := 8) (v := .ref a1) (C := RX8) (T := TX8) (N := 7) hx hb hts in_X8 tyX8 tyX8_ok nmX8 hown hK hP hD hS 0 rfl rfl 1 (by decide) (hts _ fl_X8_25) (fun _ h9 => h9) rfl hin rfl (ty := tyX8 1) (tyX8_ok 1 (by decide)) rfl rfl (Nat.le_of_ble_eq_true rfl) dX8_init_35 (fun H locs hP hD hS => ?_)
  have hP : va_P D vwCl [(h0, .inr (8, [.ref a0, .ref a1, .null, .ref q1, .ref q2, .ref q3, .int 0])), (q1, .inl (t.1, 100, .inl (fun _ => 0))), (q2, .inl (t.1, 100, .inl (fun _ => 0))), (q3, .inl (t.1, 100, .inl (fun _ => 0)))] H := hP
  have hD : va_D A [(h0, .inr (8, [.ref a0, .ref a1, .null, .ref q1, .ref q2, .ref q3, .int 0])), (q1, .inl (t.1, 100, .inl (fun _ => 0))), (q2, .inl (t.1, 100, .inl (fun _ => 0))), (q3, .inl (t.1, 100, .inl (fun _ => 0)))] := hD
  refine lv_aload_n hx hb dX8_init_38 rfl (lv_at hl 0 rfl) ?_
  refine lv_aload_n hx hb dX8_init_39 rfl (lv_at hl 3 rfl) ?_
  refine va_putF (D := D) (ci := 8) (v := .ref a2) (C := RX8) (T := TX8) (N := 7) hx hb hts in_X8 tyX8 tyX8_ok nmX8 hown hK hP hD hS 0 rfl rfl 2 (by decide) (hts _ fl_X8_29) (fun _ h9 => h9) rfl hin rfl (ty := tyX8 2) (tyX8_ok 2 (by decide)) rfl rfl (Nat.le_of_ble_eq_true rfl) dX8_init_40 (fun H locs hP hD hS => ?_)
  have hP : va_P D vwCl [(h0, .inr (8, [.ref a0, .ref a1, .ref a2, .ref q1, .ref q2, .ref q3, .int 0])), (q1, .inl (t.1, 100, .inl (fun _ => 0))), (q2, .inl (t.1, 100, .inl (fun _ => 0))), (q3, .inl (t.1, 100, .inl (fun _ => 0)))] H := hP
  have hD : va_D A [(h0, .inr (8, [.ref a0, .ref a1, .ref a2, .ref q1, .ref q2, .ref q3, .int 0])), (q1, .inl (t.1, 100, .inl (fun _ => 0))), (q2, .inl (t.1, 100, .inl (fun _ => 0))), (q3, .inl (t.1, 100, .inl (fun _ => 0)))] := hD
  have hP9 := hP.sub (ws' := [(h0, .inr (8, [.ref a0, .ref a1, .ref a2, .ref q1, .ref q2, .ref q3, .int 0])), (q1, .inl (t.1, 100, .inl (fun _ => 0))), (q2, .inl (t.1, 100, .inl (fun _ => 0))), (q3, .inl (t.1, 100, .inl (fun _ => 0)))]) [0, 1, 2, 3] rfl
  have hD9 := hD.sub (ws' := [(h0, .inr (8, [.ref a0, .ref a1, .ref a2, .ref q1, .ref q2, .ref q3, .int 0])), (q1, .inl (t.1, 100, .inl (fun _ => 0))), (q2, .inl (t.1, 100, .inl (fun _ => 0))), (q3, .inl (t.1, 100, .inl (fun _ => 0)))]) [0, 1, 2, 3] (by decide) rfl
  subst hAe
  exact W.vret hx hb hr (fun t9 ht hW => ⟨⟨(fun k => ([h0, q1, q2, q3] : List Nat).getD k 0), rfl, rfl, by rw [ht]; exact hP9, hD9⟩, hS.F ht⟩) hS.2.2 dX8_init_43
def w1_X4 (t : uT) (a0 : Nat) (u : Nat → Nat) : va_W := [(u 0, .inr (4, [.ref a0, .ref (u 1), .ref (u 2), .ref (u 3), .ref (u 4), .ref (u 5), .int 0, .int 0, .int 0, .int 0])), (u 1, .inl (t.1, 100, .inl (fun _ => 0))), (u 2, .inl (t.1, 100, .inl (fun _ => 0))), (u 3, .inl (t.1, 100, .inl (fun _ => 0))), (u 4, .inl (t.1, 50, .inl (fun _ => 0))), (u 5, .inl (t.1, 50, .inl (fun _ => 0)))]
set_option maxHeartbeats 8000000 in
set_option maxRecDepth 100000 in
theorem ci_X4 (l : Launch) (D : va_G) (t : uT) (fa h0 : Nat) (a0 : Nat) : CtC l D t fa yX4_init cX4_init 2 1 20 5 400 [.ref h0, .ref a0] [(h0, .inr (4, [.null, .null, .null, .null, .null, .null, .int 0, .int 0, .int 0, .int 0]))] h0 (w1_X4 t a0) := by
  intro sz
  refine va_MetF (cc := cX4_init) (maxL := 2) (ret := none) (by decide +kernel) rfl ?_
  intro p e s m args below meth c s₁ B hml hv
  obtain ⟨rfl, hsz, hP, hK, hD0, hZ⟩ := hv
  have hx := B.exec
  have hb := B.bytes
  have hr := B.returns
  have hlocks := B.notSynchronized
  have hts : ∀ w ∈ TG, w.before ([.ref h0, .ref a0] : List Value).toArray s = true := fun w hw => atoms_spec (ws := Cond.code yX4_init cX4_init 2 none :: TG) B.pre w (List.mem_cons_of_mem _ hw)
  have hown : s.vm.findClass RX4 = some m.cls := findClass_of_methodNamed B.named
  have hin : meth.name = "<init>" := (name_of_methodNamed B.named B.method).1
  subst hsz
  have hD := hD0.self (sz := s.heap.size)
  generalize hAe : va_A [(h0, .inr (4, [.null, .null, .null, .null, .null, .null, .int 0, .int 0, .int 0, .int 0]))] s.heap.size = A at hD hZ ⊢
  have hA : ∀ q : Nat, s.heap.size ≤ q → A q := fun q h => by rw [← hAe]; exact Or.inr h
  have hS : va_S A s.heap s.heap [] := va_S.rf
  have hl := lv_entry ([.ref h0, .ref a0]) (n := 2) (Nat.le_of_ble_eq_true rfl)
  rw [lg_entry_eq]
  generalize (lg_sl ([.ref h0, .ref a0]) ++ List.replicate (2 - (lg_sl ([.ref h0, .ref a0])).length) Slot.unset).toArray = ls at hl ⊢
  have hl : lv_has ls 2 [(0, .ref h0), (1, .ref a0)] := hl
  refine lv_aload_n hx hb dX4_init_0 rfl (lv_at hl 0 rfl) ?_
  refine W.objInit hx hb hown (hts (.methodLink RX4 3 objectInit) (tg_2 (List.mem_of_getElem? (i := 2) rfl) rfl)) (hts (.instanceMethod objectInit) (tg_1 (List.mem_of_getElem? (i := 26) rfl) rfl)) (hts (Cond.code objectInit object_method_1_code 1 none) (tg_1 (List.mem_of_getElem? (i := 27) rfl) rfl)) rfl (by rw [hml]; exact hl.1) rfl dX4_init_1 (Nat.le_of_ble_eq_true rfl) (Nat.le_of_ble_eq_true rfl) ?_
  refine W.eq (g2 := F0 m 4 ls []) rfl ?_
  refine lv_aload_n hx hb dX4_init_4 rfl (lv_at hl 0 rfl) ?_
  refine lv_bipush (v := 100) hx hb dX4_init_5 (by decide) ?_
  refine c_newa (atype := .int) (ty := .int) hx hb (hts _ (tg_1 (List.mem_of_getElem? (i := 47) rfl) rfl)) rfl hK hP hD hS hA 0 rfl (fun _ h => h) (a0 := (100, .inl (fun _ => 0))) (fun _ => rfl) (by decide) (N' := 100) (by decide +kernel) (Nat.le_of_ble_eq_true rfl) (Nat.le_of_ble_eq_true rfl) (Nat.le_of_ble_eq_true rfl) dX4_init_7 (fun q1 H hP hD hS => ?_)
  have hP : va_P D vwCl [(h0, .inr (4, [.null, .null, .null, .null, .null, .null, .int 0, .int 0, .int 0, .int 0])), (q1, .inl (t.1, 100, .inl (fun _ => 0)))] H := hP
  have hD : va_D A [(h0, .inr (4, [.null, .null, .null, .null, .null, .null, .int 0, .int 0, .int 0, .int 0])), (q1, .inl (t.1, 100, .inl (fun _ => 0)))] := hD
  refine W.widen (k := 1) (n := 100) (Nat.le_of_ble_eq_true rfl) (Nat.le_of_ble_eq_true rfl) ?_
  refine va_putF (D := D) (ci := 4) (v := .ref q1) (C := RX4) (T := TX4) (N := 10) hx hb hts in_X4 tyX4 tyX4_ok nmX4 hown hK hP hD hS 0 rfl rfl 1 (by decide) (hts _ fl_X4_9) (fun _ h9 => h9) rfl hin rfl (ty := tyX4 1) (tyX4_ok 1 (by decide)) rfl rfl (Nat.le_of_ble_eq_true rfl) dX4_init_9 (fun H locs hP hD hS => ?_)
  have hP : va_P D vwCl [(h0, .inr (4, [.null, .ref q1, .null, .null, .null, .null, .int 0, .int 0, .int 0, .int 0])), (q1, .inl (t.1, 100, .inl (fun _ => 0)))] H := hP
  have hD : va_D A [(h0, .inr (4, [.null, .ref q1, .null, .null, .null, .null, .int 0, .int 0, .int 0, .int 0])), (q1, .inl (t.1, 100, .inl (fun _ => 0)))] := hD
  refine lv_aload_n hx hb dX4_init_12 rfl (lv_at hl 0 rfl) ?_
  refine lv_bipush (v := 100) hx hb dX4_init_13 (by decide) ?_
  refine c_newa (atype := .int) (ty := .int) hx hb (hts _ (tg_1 (List.mem_of_getElem? (i := 47) rfl) rfl)) rfl hK hP hD hS hA 0 rfl (fun _ h => h) (a0 := (100, .inl (fun _ => 0))) (fun _ => rfl) (by decide) (N' := 100) (by decide +kernel) (Nat.le_of_ble_eq_true rfl) (Nat.le_of_ble_eq_true rfl) (Nat.le_of_ble_eq_true rfl) dX4_init_15 (fun q2 H hP hD hS => ?_)
  have hP : va_P D vwCl [(h0, .inr (4, [.null, .ref q1, .null, .null, .null, .null, .int 0, .int 0, .int 0, .int 0])), (q1, .inl (t.1, 100, .inl (fun _ => 0))), (q2, .inl (t.1, 100, .inl (fun _ => 0)))] H := hP
  have hD : va_D A [(h0, .inr (4, [.null, .ref q1, .null, .null, .null, .null, .int 0, .int 0, .int 0, .int 0])), (q1, .inl (t.1, 100, .inl (fun _ => 0))), (q2, .inl (t.1, 100, .inl (fun _ => 0)))] := hD
  refine W.widen (k := 2) (n := 200) (Nat.le_of_ble_eq_true rfl) (Nat.le_of_ble_eq_true rfl) ?_
  refine va_putF (D := D) (ci := 4) (v := .ref q2) (C := RX4) (T := TX4) (N := 10) hx hb hts in_X4 tyX4 tyX4_ok nmX4 hown hK hP hD hS 0 rfl rfl 2 (by decide) (hts _ fl_X4_15) (fun _ h9 => h9) rfl hin rfl (ty := tyX4 2) (tyX4_ok 2 (by decide)) rfl rfl (Nat.le_of_ble_eq_true rfl) dX4_init_17 (fun H locs hP hD hS => ?_)
  have hP : va_P D vwCl [(h0, .inr (4, [.null, .ref q1, .ref q2, .null, .null, .null, .int 0, .int 0, .int 0, .int 0])), (q1, .inl (t.1, 100, .inl (fun _ => 0))), (q2, .inl (t.1, 100, .inl (fun _ => 0)))] H := hP
  have hD : va_D A [(h0, .inr (4, [.null, .ref q1, .ref q2, .null, .null, .null, .int 0, .int 0, .int 0, .int 0])), (q1, .inl (t.1, 100, .inl (fun _ => 0))), (q2, .inl (t.1, 100, .inl (fun _ => 0)))] := hD
  refine lv_aload_n hx hb dX4_init_20 rfl (lv_at hl 0 rfl) ?_
  refine lv_bipush (v := 100) hx hb dX4_init_21 (by decide) ?_
  refine c_newa (atype := .int) (ty := .int) hx hb (hts _ (tg_1 (List.mem_of_getElem? (i := 47) rfl) rfl)) rfl hK hP hD hS hA 0 rfl (fun _ h => h) (a0 := (100, .inl (fun _ => 0))) (fun _ => rfl) (by decide) (N' := 100) (by decide +kernel) (Nat.le_of_ble_eq_true rfl) (Nat.le_of_ble_eq_true rfl) (Nat.le_of_ble_eq_true rfl) dX4_init_23 (fun q3 H hP hD hS => ?_)
  have hP : va_P D vwCl [(h0, .inr (4, [.null, .ref q1, .ref q2, .null, .null, .null, .int 0, .int 0, .int 0, .int 0])), (q1, .inl (t.1, 100, .inl (fun _ => 0))), (q2, .inl (t.1, 100, .inl (fun _ => 0))), (q3, .inl (t.1, 100, .inl (fun _ => 0)))] H := hP
  have hD : va_D A [(h0, .inr (4, [.null, .ref q1, .ref q2, .null, .null, .null, .int 0, .int 0, .int 0, .int 0])), (q1, .inl (t.1, 100, .inl (fun _ => 0))), (q2, .inl (t.1, 100, .inl (fun _ => 0))), (q3, .inl (t.1, 100, .inl (fun _ => 0)))] := hD
  refine W.widen (k := 3) (n := 300) (Nat.le_of_ble_eq_true rfl) (Nat.le_of_ble_eq_true rfl) ?_
  refine va_putF (D := D) (ci := 4) (v := .ref q3) (C := RX4) (T := TX4) (N := 10) hx hb hts in_X4 tyX4 tyX4_ok nmX4 hown hK hP hD hS 0 rfl rfl 3 (by decide) (hts _ fl_X4_18) (fun _ h9 => h9) rfl hin rfl (ty := tyX4 3) (tyX4_ok 3 (by decide)) rfl rfl (Nat.le_of_ble_eq_true rfl) dX4_init_25 (fun H locs hP hD hS => ?_)
  have hP : va_P D vwCl [(h0, .inr (4, [.null, .ref q1, .ref q2, .ref q3, .null, .null, .int 0, .int 0, .int 0, .int 0])), (q1, .inl (t.1, 100, .inl (fun _ => 0))), (q2, .inl (t.1, 100, .inl (fun _ => 0))), (q3, .inl (t.1, 100, .inl (fun _ => 0)))] H := hP
  have hD : va_D A [(h0, .inr (4, [.null, .ref q1, .ref q2, .ref q3, .null, .null, .int 0, .int 0, .int 0, .int 0])), (q1, .inl (t.1, 100, .inl (fun _ => 0))), (q2, .inl (t.1, 100, .inl (fun _ => 0))), (q3, .inl (t.1, 100, .inl (fun _ => 0)))] := hD
  refine lv_aload_n hx hb dX4_init_28 rfl (lv_at hl 0 rfl) ?_
  refine lv_bipush (v := 50) hx hb dX4_init_29 (by decide) ?_
  refine c_newa (atype := .int) (ty := .int) hx hb (hts _ (tg_1 (List.mem_of_getElem? (i := 47) rfl) rfl)) rfl hK hP hD hS hA 0 rfl (fun _ h => h) (a0 := (50, .inl (fun _ => 0))) (fun _ => rfl) (by decide) (N' := 50) (by decide +kernel) (Nat.le_of_ble_eq_true rfl) (Nat.le_of_ble_eq_true rfl) (Nat.le_of_ble_eq_true rfl) dX4_init_31 (fun q4 H hP hD hS => ?_)
  have hP : va_P D vwCl [(h0, .inr (4, [.null, .ref q1, .ref q2, .ref q3, .null, .null, .int 0, .int 0, .int 0, .int 0])), (q1, .inl (t.1, 100, .inl (fun _ => 0))), (q2, .inl (t.1, 100, .inl (fun _ => 0))), (q3, .inl (t.1, 100, .inl (fun _ => 0))), (q4, .inl (t.1, 50, .inl (fun _ => 0)))] H := hP
  have hD : va_D A [(h0, .inr (4, [.null, .ref q1, .ref q2, .ref q3, .null, .null, .int 0, .int 0, .int 0, .int 0])), (q1, .inl (t.1, 100, .inl (fun _ => 0))), (q2, .inl (t.1, 100, .inl (fun _ => 0))), (q3, .inl (t.1, 100, .inl (fun _ => 0))), (q4, .inl (t.1, 50, .inl (fun _ => 0)))] := hD
  refine W.widen (k := 4) (n := 350) (Nat.le_of_ble_eq_true rfl) (Nat.le_of_ble_eq_true rfl) ?_
  refine va_putF (D := D) (ci := 4) (v := .ref q4) (C := RX4) (T := TX4) (N := 10) hx hb hts in_X4 tyX4 tyX4_ok nmX4 hown hK hP hD hS 0 rfl rfl 4 (by decide) (hts _ fl_X4_21) (fun _ h9 => h9) rfl hin rfl (ty := tyX4 4) (tyX4_ok 4 (by decide)) rfl rfl (Nat.le_of_ble_eq_true rfl) dX4_init_33 (fun H locs hP hD hS => ?_)
  have hP : va_P D vwCl [(h0, .inr (4, [.null, .ref q1, .ref q2, .ref q3, .ref q4, .null, .int 0, .int 0, .int 0, .int 0])), (q1, .inl (t.1, 100, .inl (fun _ => 0))), (q2, .inl (t.1, 100, .inl (fun _ => 0))), (q3, .inl (t.1, 100, .inl (fun _ => 0))), (q4, .inl (t.1, 50, .inl (fun _ => 0)))] H := hP
  have hD : va_D A [(h0, .inr (4, [.null, .ref q1, .ref q2, .ref q3, .ref q4, .null, .int 0, .int 0, .int 0, .int 0])), (q1, .inl (t.1, 100, .inl (fun _ => 0))), (q2, .inl (t.1, 100, .inl (fun _ => 0))), (q3, .inl (t.1, 100, .inl (fun _ => 0))), (q4, .inl (t.1, 50, .inl (fun _ => 0)))] := hD
  refine lv_aload_n hx hb dX4_init_36 rfl (lv_at hl 0 rfl) ?_
  refine lv_bipush (v := 50) hx hb dX4_init_37 (by decide) ?_
  refine c_newa (atype := .int) (ty := .int) hx hb (hts _ (tg_1 (List.mem_of_getElem? (i := 47) rfl) rfl)) rfl hK hP hD hS hA 0 rfl (fun _ h => h) (a0 := (50, .inl (fun _ => 0))) (fun _ => rfl) (by decide) (N' := 50) (by decide +kernel) (Nat.le_of_ble_eq_true rfl) (Nat.le_of_ble_eq_true rfl) (Nat.le_of_ble_eq_true rfl) dX4_init_39 (fun q5 H hP hD hS => ?_)
  have hP : va_P D vwCl [(h0, .inr (4, [.null, .ref q1, .ref q2, .ref q3, .ref q4, .null, .int 0, .int 0, .int 0, .int 0])), (q1, .inl (t.1, 100, .inl (fun _ => 0))), (q2, .inl (t.1, 100, .inl (fun _ => 0))), (q3, .inl (t.1, 100, .inl (fun _ => 0))), (q4, .inl (t.1, 50, .inl (fun _ => 0))), (q5, .inl (t.1, 50, .inl (fun _ => 0)))] H := hP
  have hD : va_D A [(h0, .inr (4, [.null, .ref q1, .ref q2, .ref q3, .ref q4, .null, .int 0, .int 0, .int 0, .int 0])), (q1, .inl (t.1, 100, .inl (fun _ => 0))), (q2, .inl (t.1, 100, .inl (fun _ => 0))), (q3, .inl (t.1, 100, .inl (fun _ => 0))), (q4, .inl (t.1, 50, .inl (fun _ => 0))), (q5, .inl (t.1, 50, .inl (fun _ => 0)))] := hD
  refine W.widen (k := 5) (n := 400) (Nat.le_of_ble_eq_true rfl) (Nat.le_of_ble_eq_true rfl) ?_
  refine va_putF (D := D) (ci := 4) (v := .ref q5) (C := RX4) (T := TX4) (N := 10) hx hb hts in_X4 tyX4 tyX4_ok nmX4 hown hK hP hD hS 0 rfl rfl 5 (by decide) (hts _ fl_X4_24) (fun _ h9 => h9) rfl hin rfl (ty := tyX4 5) (tyX4_ok 5 (by decide)) rfl rfl (Nat.le_of_ble_eq_true rfl) dX4_init_41 (fun H locs hP hD hS => ?_)
  have hP : va_P D vwCl [(h0, .inr (4, [.null, .ref q1, .ref q2, .ref q3, .ref q4, .ref q5, .int 0, .int 0, .int 0, .int 0])), (q1, .inl (t.1, 100, .inl (fun _ => 0))), (q2, .inl (t.1, 100, .inl (fun _ => 0))), (q3, .inl (t.1, 100, .inl (fun _ => 0))), (q4, .inl (t.1, 50, .inl (fun _ => 0))), (q5, .inl (t.1, 50, .inl (fun _ => 0)))] H := hP
  have hD : va_D A [(h0, .inr (4, [.null, .ref q1, .ref q2, .ref q3, .ref q4, .ref q5, .int 0, .int 0, .int 0, .int 0])), (q1, .inl (t.1, 100, .inl (fun _ => 0))), (q2, .inl (t.1, 100, .inl (fun _ => 0))), (q3, .inl (t.1, 100, .inl (fun _ => 0))), (q4, .inl (t.1, 50, .inl (fun _ => 0))), (q5, .inl (t.1, 50, .inl (fun _ => 0)))] := hD
  refine lv_aload_n hx hb dX4_init_44 rfl (lv_at hl 0 rfl) ?_
  refine lv_aload_n hx hb dX4_init_45 rfl (lv_at hl 1 rfl) ?_
  refine va_putF (D := D) (ci := 4) (v := .ref a0) (C := RX4) (T := TX4) (N := 10) hx hb hts in_X4 tyX4 tyX4_ok nmX4 hown hK hP hD hS 0 rfl rfl 0 (by decide) (hts _ fl_X4_27) (fun _ h9 => h9) rfl hin rfl (ty := tyX4 0) (tyX4_ok 0 (by decide)) rfl rfl (Nat.le_of_ble_eq_true rfl) dX4_init_46 (fun H locs hP hD hS => ?_)
  have hP : va_P D vwCl [(h0, .inr (4, [.ref a0, .ref q1, .ref q2, .ref q3, .ref q4, .ref q5, .int 0, .int 0, .int 0, .int 0])), (q1, .inl (t.1, 100, .inl (fun _ => 0))), (q2, .inl (t.1, 100, .inl (fun _ => 0))), (q3, .inl (t.1, 100, .inl (fun _ => 0))), (q4, .inl (t.1, 50, .inl (fun _ => 0))), (q5, .inl (t.1, 50, .inl (fun _ => 0)))] H := hP
  have hD : va_D A [(h0, .inr (4, [.ref a0, .ref q1, .ref q2, .ref q3, .ref q4, .ref q5, .int 0, .int 0, .int 0, .int 0])), (q1, .inl (t.1, 100, .inl (fun _ => 0))), (q2, .inl (t.1, 100, .inl (fun _ => 0))), (q3, .inl (t.1, 100, .inl (fun _ => 0))), (q4, .inl (t.1, 50, .inl (fun _ => 0))), (q5, .inl (t.1, 50, .inl (fun _ => 0)))] := hD
  have hP9 := hP.sub (ws' := [(h0, .inr (4, [.ref a0, .ref q1, .ref q2, .ref q3, .ref q4, .ref q5, .int 0, .int 0, .int 0, .int 0])), (q1, .inl (t.1, 100, .inl (fun _ => 0))), (q2, .inl (t.1, 100, .inl (fun _ => 0))), (q3, .inl (t.1, 100, .inl (fun _ => 0))), (q4, .inl (t.1, 50, .inl (fun _ => 0))), (q5, .inl (t.1, 50, .inl (fun _ => 0)))]) [0, 1, 2, 3, 4, 5] rfl
  have hD9 := hD.sub (ws' := [(h0, .inr (4, [.ref a0, .ref q1, .ref q2, .ref q3, .ref q4, .ref q5, .int 0, .int 0, .int 0, .int 0])), (q1, .inl (t.1, 100, .inl (fun _ => 0))), (q2, .inl (t.1, 100, .inl (fun _ => 0))), (q3, .inl (t.1, 100, .inl (fun _ => 0))), (q4, .inl (t.1, 50, .inl (fun _ => 0))), (q5, .inl (t.1, 50, .inl (fun _ => 0)))]) [0, 1, 2, 3, 4, 5] (by decide) rfl
  subst hAe
  exact W.vret hx hb hr (fun t9 ht hW => ⟨⟨(fun k => ([h0, q1, q2, q3, q4, q5] : List Nat).getD k 0), rfl, rfl, by rw [ht]; exact hP9, hD9⟩, hS.F ht⟩) hS.2.2 dX4_init_49
def w1_X3 (t : uT) (a0 : Nat) (a1 : Nat) (a2 : Nat) (u : Nat → Nat) : va_W := [(u 0, .inr (3, [.ref a0, .ref a1, .ref a2, .ref (u 1), .ref (u 2), .ref (u 3), .ref (u 4), .ref (u 5), .ref (u 6), .int 0])), (u 1, .inl (t.1, 800, .inl (fun _ => 0))), (u 2, .inl (t.1, 800, .inl (fun _ => 0))), (u 3, .inl (t.1, 800, .inl (fun _ => 0))), (u 4, .inl (t.1, 800, .inl (fun _ => 0))), (u 5, .inl (t.1, 101, .inl (fun _ => 0))), (u 6, .inl (t.1, 100, .inl (fun _ => 0)))]
set_option maxHeartbeats 8000000 in
set_option maxRecDepth 100000 in
theorem ci_X3 (l : Launch) (D : va_G) (t : uT) (fa h0 : Nat) (a0 : Nat) (a1 : Nat) (a2 : Nat) : CtC l D t fa yX3_init cX3_init 4 1 20 6 3401 [.ref h0, .ref a0, .ref a1, .ref a2] [(h0, .inr (3, [.null, .null, .null, .null, .null, .null, .null, .null, .null, .int 0]))] h0 (w1_X3 t a0 a1 a2) := by
  intro sz
  refine va_MetF (cc := cX3_init) (maxL := 4) (ret := none) (by decide +kernel) rfl ?_
  intro p e s m args below meth c s₁ B hml hv
  obtain ⟨rfl, hsz, hP, hK, hD0, hZ⟩ := hv
  have hx := B.exec
  have hb := B.bytes
  have hr := B.returns
  have hlocks := B.notSynchronized
  have hts : ∀ w ∈ TG, w.before ([.ref h0, .ref a0, .ref a1, .ref a2] : List Value).toArray s = true := fun w hw => atoms_spec (ws := Cond.code yX3_init cX3_init 4 none :: TG) B.pre w (List.mem_cons_of_mem _ hw)
  have hown : s.vm.findClass RX3 = some m.cls := findClass_of_methodNamed B.named
  have hin : meth.name = "<init>" := (name_of_methodNamed B.named B.method).1
  subst hsz
  have hD := hD0.self (sz := s.heap.size)
  generalize hAe : va_A [(h0, .inr (3, [.null, .null, .null, .null, .null, .null, .null, .null, .null, .int 0]))] s.heap.size = A at hD hZ ⊢
  have hA : ∀ q : Nat, s.heap.size ≤ q → A q := fun q h => by rw [← hAe]; exact Or.inr h
  have hS : va_S A s.heap s.heap [] := va_S.rf
  have hl := lv_entry ([.ref h0, .ref a0, .ref a1, .ref a2]) (n := 4) (Nat.le_of_ble_eq_true rfl)
  rw [lg_entry_eq]
  generalize (lg_sl ([.ref h0, .ref a0, .ref a1, .ref a2]) ++ List.replicate (4 - (lg_sl ([.ref h0, .ref a0, .ref a1, .ref a2])).length) Slot.unset).toArray = ls at hl ⊢
  have hl : lv_has ls 4 [(0, .ref h0), (1, .ref a0), (2, .ref a1), (3, .ref a2)] := hl
  refine lv_aload_n hx hb dX3_init_0 rfl (lv_at hl 0 rfl) ?_
  refine W.objInit hx hb hown (hts (.methodLink RX3 3 objectInit) (tg_2 (List.mem_of_getElem? (i := 39) rfl) rfl)) (hts (.instanceMethod objectInit) (tg_1 (List.mem_of_getElem? (i := 26) rfl) rfl)) (hts (Cond.code objectInit object_method_1_code 1 none) (tg_1 (List.mem_of_getElem? (i := 27) rfl) rfl)) rfl (by rw [hml]; exact hl.1) rfl dX3_init_1 (Nat.le_of_ble_eq_true rfl) (Nat.le_of_ble_eq_true rfl) ?_
  refine W.eq (g2 := F0 m 4 ls []) rfl ?_
  refine lv_aload_n hx hb dX3_init_4 rfl (lv_at hl 0 rfl) ?_
  refine lv_sipush (v := 800) hx hb dX3_init_5 (by decide) ?_
  refine c_newa (atype := .int) (ty := .int) hx hb (hts _ (tg_1 (List.mem_of_getElem? (i := 47) rfl) rfl)) rfl hK hP hD hS hA 0 rfl (fun _ h => h) (a0 := (800, .inl (fun _ => 0))) (fun _ => rfl) (by decide) (N' := 800) (by decide +kernel) (Nat.le_of_ble_eq_true rfl) (Nat.le_of_ble_eq_true rfl) (Nat.le_of_ble_eq_true rfl) dX3_init_8 (fun q1 H hP hD hS => ?_)
  have hP : va_P D vwCl [(h0, .inr (3, [.null, .null, .null, .null, .null, .null, .null, .null, .null, .int 0])), (q1, .inl (t.1, 800, .inl (fun _ => 0)))] H := hP
  have hD : va_D A [(h0, .inr (3, [.null, .null, .null, .null, .null, .null, .null, .null, .null, .int 0])), (q1, .inl (t.1, 800, .inl (fun _ => 0)))] := hD
  refine W.widen (k := 1) (n := 800) (Nat.le_of_ble_eq_true rfl) (Nat.le_of_ble_eq_true rfl) ?_
  refine va_putF (D := D) (ci := 3) (v := .ref q1) (C := RX3) (T := TX3) (N := 10) hx hb hts in_X3 tyX3 tyX3_ok nmX3 hown hK hP hD hS 0 rfl rfl 3 (by decide) (hts _ fl_X3_9) (fun _ h9 => h9) rfl hin rfl (ty := tyX3 3) (tyX3_ok 3 (by decide)) rfl rfl (Nat.le_of_ble_eq_true rfl) dX3_init_10 (fun H locs hP hD hS => ?_)
  have hP : va_P D vwCl [(h0, .inr (3, [.null, .null, .null, .ref q1, .null, .null, .null, .null, .null, .int 0])), (q1, .inl (t.1, 800, .inl (fun _ => 0)))] H := hP
  have hD : va_D A [(h0, .inr (3, [.null, .null, .null, .ref q1, .null, .null, .null, .null, .null, .int 0])), (q1, .inl (t.1, 800, .inl (fun _ => 0)))] := hD
  refine lv_aload_n hx hb dX3_init_13 rfl (lv_at hl 0 rfl) ?_
  refine lv_sipush (v := 800) hx hb dX3_init_14 (by decide) ?_
  refine c_newa (atype := .int) (ty := .int) hx hb (hts _ (tg_1 (List.mem_of_getElem? (i := 47) rfl) rfl)) rfl hK hP hD hS hA 0 rfl (fun _ h => h) (a0 := (800, .inl (fun _ => 0))) (fun _ => rfl) (by decide) (N' := 800) (by decide +kernel) (Nat.le_of_ble_eq_true rfl) (Nat.le_of_ble_eq_true rfl) (Nat.le_of_ble_eq_true rfl) dX3_init_17 (fun q2 H hP hD hS => ?_)
  have hP : va_P D vwCl [(h0, .inr (3, [.null, .null, .null, .ref q1, .null, .null, .null, .null, .null, .int 0])), (q1, .inl (t.1, 800, .inl (fun _ => 0))), (q2, .inl (t.1, 800, .inl (fun _ => 0)))] H := hP
  have hD : va_D A [(h0, .inr (3, [.null, .null, .null, .ref q1, .null, .null, .null, .null, .null, .int 0])), (q1, .inl (t.1, 800, .inl (fun _ => 0))), (q2, .inl (t.1, 800, .inl (fun _ => 0)))] := hD
  refine W.widen (k := 2) (n := 1600) (Nat.le_of_ble_eq_true rfl) (Nat.le_of_ble_eq_true rfl) ?_
  refine va_putF (D := D) (ci := 3) (v := .ref q2) (C := RX3) (T := TX3) (N := 10) hx hb hts in_X3 tyX3 tyX3_ok nmX3 hown hK hP hD hS 0 rfl rfl 4 (by decide) (hts _ fl_X3_15) (fun _ h9 => h9) rfl hin rfl (ty := tyX3 4) (tyX3_ok 4 (by decide)) rfl rfl (Nat.le_of_ble_eq_true rfl) dX3_init_19 (fun H locs hP hD hS => ?_)
  have hP : va_P D vwCl [(h0, .inr (3, [.null, .null, .null, .ref q1, .ref q2, .null, .null, .null, .null, .int 0])), (q1, .inl (t.1, 800, .inl (fun _ => 0))), (q2, .inl (t.1, 800, .inl (fun _ => 0)))] H := hP
  have hD : va_D A [(h0, .inr (3, [.null, .null, .null, .ref q1, .ref q2, .null, .null, .null, .null, .int 0])), (q1, .inl (t.1, 800, .inl (fun _ => 0))), (q2, .inl (t.1, 800, .inl (fun _ => 0)))] := hD
  refine lv_aload_n hx hb dX3_init_22 rfl (lv_at hl 0 rfl) ?_
  refine lv_sipush (v := 800) hx hb dX3_init_23 (by decide) ?_
  refine c_newa (atype := .int) (ty := .int) hx hb (hts _ (tg_1 (List.mem_of_getElem? (i := 47) rfl) rfl)) rfl hK hP hD hS hA 0 rfl (fun _ h => h) (a0 := (800, .inl (fun _ => 0))) (fun _ => rfl) (by decide) (N' := 800) (by decide +kernel) (Nat.le_of_ble_eq_true rfl) (Nat.le_of_ble_eq_true rfl) (Nat.le_of_ble_eq_true rfl) dX3_init_26 (fun q3 H hP hD hS => ?_)
  have hP : va_P D vwCl [(h0, .inr (3, [.null, .null, .null, .ref q1, .ref q2, .null, .null, .null, .null, .int 0])), (q1, .inl (t.1, 800, .inl (fun _ => 0))), (q2, .inl (t.1, 800, .inl (fun _ => 0))), (q3, .inl (t.1, 800, .inl (fun _ => 0)))] H := hP
  have hD : va_D A [(h0, .inr (3, [.null, .null, .null, .ref q1, .ref q2, .null, .null, .null, .null, .int 0])), (q1, .inl (t.1, 800, .inl (fun _ => 0))), (q2, .inl (t.1, 800, .inl (fun _ => 0))), (q3, .inl (t.1, 800, .inl (fun _ => 0)))] := hD
  refine W.widen (k := 3) (n := 2400) (Nat.le_of_ble_eq_true rfl) (Nat.le_of_ble_eq_true rfl) ?_
  refine va_putF (D := D) (ci := 3) (v := .ref q3) (C := RX3) (T := TX3) (N := 10) hx hb hts in_X3 tyX3 tyX3_ok nmX3 hown hK hP hD hS 0 rfl rfl 5 (by decide) (hts _ fl_X3_18) (fun _ h9 => h9) rfl hin rfl (ty := tyX3 5) (tyX3_ok 5 (by decide)) rfl rfl (Nat.le_of_ble_eq_true rfl) dX3_init_28 (fun H locs hP hD hS => ?_)
  have hP : va_P D vwCl [(h0, .inr (3, [.null, .null, .null, .ref q1, .ref q2, .ref q3, .null, .null, .null, .int 0])), (q1, .inl (t.1, 800, .inl (fun _ => 0))), (q2, .inl (t.1, 800, .inl (fun _ => 0))), (q3, .inl (t.1, 800, .inl (fun _ => 0)))] H := hP
  have hD : va_D A [(h0, .inr (3, [.null, .null, .null, .ref q1, .ref q2, .ref q3, .null, .null, .null, .int 0])), (q1, .inl (t.1, 800, .inl (fun _ => 0))), (q2, .inl (t.1, 800, .inl (fun _ => 0))), (q3, .inl (t.1, 800, .inl (fun _ => 0)))] := hD
  refine lv_aload_n hx hb dX3_init_31 rfl (lv_at hl 0 rfl) ?_
  refine lv_sipush (v := 800) hx hb dX3_init_32 (by decide) ?_
  refine c_newa (atype := .int) (ty := .int) hx hb (hts _ (tg_1 (List.mem_of_getElem? (i := 47) rfl) rfl)) rfl hK hP hD hS hA 0 rfl (fun _ h => h) (a0 := (800, .inl (fun _ => 0))) (fun _ => rfl) (by decide) (N' := 800) (by decide +kernel) (Nat.le_of_ble_eq_true rfl) (Nat.le_of_ble_eq_true rfl) (Nat.le_of_ble_eq_true rfl) dX3_init_35 (fun q4 H hP hD hS => ?_)
  have hP : va_P D vwCl [(h0, .inr (3, [.null, .null, .null, .ref q1, .ref q2, .ref q3, .null, .null, .null, .int 0])), (q1, .inl (t.1, 800, .inl (fun _ => 0))), (q2, .inl (t.1, 800, .inl (fun _ => 0))), (q3, .inl (t.1, 800, .inl (fun _ => 0))), (q4, .inl (t.1, 800, .inl (fun _ => 0)))] H := hP
  have hD : va_D A [(h0, .inr (3, [.null, .null, .null, .ref q1, .ref q2, .ref q3, .null, .null, .null, .int 0])), (q1, .inl (t.1, 800, .inl (fun _ => 0))), (q2, .inl (t.1, 800, .inl (fun _ => 0))), (q3, .inl (t.1, 800, .inl (fun _ => 0))), (q4, .inl (t.1, 800, .inl (fun _ => 0)))] := hD
  refine W.widen (k := 4) (n := 3200) (Nat.le_of_ble_eq_true rfl) (Nat.le_of_ble_eq_true rfl) ?_
  refine va_putF (D := D) (ci := 3) (v := .ref q4) (C := RX3) (T := TX3) (N := 10) hx hb hts in_X3 tyX3 tyX3_ok nmX3 hown hK hP hD hS 0 rfl rfl 6 (by decide) (hts _ fl_X3_21) (fun _ h9 => h9) rfl hin rfl (ty := tyX3 6) (tyX3_ok 6 (by decide)) rfl rfl (Nat.le_of_ble_eq_true rfl) dX3_init_37 (fun H locs hP hD hS => ?_)
  have hP : va_P D vwCl [(h0, .inr (3, [.null, .null, .null, .ref q1, .ref q2, .ref q3, .ref q4, .null, .null, .int 0])), (q1, .inl (t.1, 800, .inl (fun _ => 0))), (q2, .inl (t.1, 800, .inl (fun _ => 0))), (q3, .inl (t.1, 800, .inl (fun _ => 0))), (q4, .inl (t.1, 800, .inl (fun _ => 0)))] H := hP
  have hD : va_D A [(h0, .inr (3, [.null, .null, .null, .ref q1, .ref q2, .ref q3, .ref q4, .null, .null, .int 0])), (q1, .inl (t.1, 800, .inl (fun _ => 0))), (q2, .inl (t.1, 800, .inl (fun _ => 0))), (q3, .inl (t.1, 800, .inl (fun _ => 0))), (q4, .inl (t.1, 800, .inl (fun _ => 0)))] := hD
  refine lv_aload_n hx hb dX3_init_40 rfl (lv_at hl 0 rfl) ?_
  refine lv_bipush (v := 101) hx hb dX3_init_41 (by decide) ?_
  refine c_newa (atype := .int) (ty := .int) hx hb (hts _ (tg_1 (List.mem_of_getElem? (i := 47) rfl) rfl)) rfl hK hP hD hS hA 0 rfl (fun _ h => h) (a0 := (101, .inl (fun _ => 0))) (fun _ => rfl) (by decide) (N' := 101) (by decide +kernel) (Nat.le_of_ble_eq_true rfl) (Nat.le_of_ble_eq_true rfl) (Nat.le_of_ble_eq_true rfl) dX3_init_43 (fun q5 H hP hD hS => ?_)
  have hP : va_P D vwCl [(h0, .inr (3, [.null, .null, .null, .ref q1, .ref q2, .ref q3, .ref q4, .null, .null, .int 0])), (q1, .inl (t.1, 800, .inl (fun _ => 0))), (q2, .inl (t.1, 800, .inl (fun _ => 0))), (q3, .inl (t.1, 800, .inl (fun _ => 0))), (q4, .inl (t.1, 800, .inl (fun _ => 0))), (q5, .inl (t.1, 101, .inl (fun _ => 0)))] H := hP
  have hD : va_D A [(h0, .inr (3, [.null, .null, .null, .ref q1, .ref q2, .ref q3, .ref q4, .null, .null, .int 0])), (q1, .inl (t.1, 800, .inl (fun _ => 0))), (q2, .inl (t.1, 800, .inl (fun _ => 0))), (q3, .inl (t.1, 800, .inl (fun _ => 0))), (q4, .inl (t.1, 800, .inl (fun _ => 0))), (q5, .inl (t.1, 101, .inl (fun _ => 0)))] := hD
  refine W.widen (k := 5) (n := 3301) (Nat.le_of_ble_eq_true rfl) (Nat.le_of_ble_eq_true rfl) ?_
  refine va_putF (D := D) (ci := 3) (v := .ref q5) (C := RX3) (T := TX3) (N := 10) hx hb hts in_X3 tyX3 tyX3_ok nmX3 hown hK hP hD hS 0 rfl rfl 7 (by decide) (hts _ fl_X3_24) (fun _ h9 => h9) rfl hin rfl (ty := tyX3 7) (tyX3_ok 7 (by decide)) rfl rfl (Nat.le_of_ble_eq_true rfl) dX3_init_45 (fun H locs hP hD hS => ?_)
  have hP : va_P D vwCl [(h0, .inr (3, [.null, .null, .null, .ref q1, .ref q2, .ref q3, .ref q4, .ref q5, .null, .int 0])), (q1, .inl (t.1, 800, .inl (fun _ => 0))), (q2, .inl (t.1, 800, .inl (fun _ => 0))), (q3, .inl (t.1, 800, .inl (fun _ => 0))), (q4, .inl (t.1, 800, .inl (fun _ => 0))), (q5, .inl (t.1, 101, .inl (fun _ => 0)))] H := hP
  have hD : va_D A [(h0, .inr (3, [.null, .null, .null, .ref q1, .ref q2, .ref q3, .ref q4, .ref q5, .null, .int 0])), (q1, .inl (t.1, 800, .inl (fun _ => 0))), (q2, .inl (t.1, 800, .inl (fun _ => 0))), (q3, .inl (t.1, 800, .inl (fun _ => 0))), (q4, .inl (t.1, 800, .inl (fun _ => 0))), (q5, .inl (t.1, 101, .inl (fun _ => 0)))] := hD
  refine lv_aload_n hx hb dX3_init_48 rfl (lv_at hl 0 rfl) ?_
  refine lv_bipush (v := 100) hx hb dX3_init_49 (by decide) ?_
  refine c_newa (atype := .int) (ty := .int) hx hb (hts _ (tg_1 (List.mem_of_getElem? (i := 47) rfl) rfl)) rfl hK hP hD hS hA 0 rfl (fun _ h => h) (a0 := (100, .inl (fun _ => 0))) (fun _ => rfl) (by decide) (N' := 100) (by decide +kernel) (Nat.le_of_ble_eq_true rfl) (Nat.le_of_ble_eq_true rfl) (Nat.le_of_ble_eq_true rfl) dX3_init_51 (fun q6 H hP hD hS => ?_)
  have hP : va_P D vwCl [(h0, .inr (3, [.null, .null, .null, .ref q1, .ref q2, .ref q3, .ref q4, .ref q5, .null, .int 0])), (q1, .inl (t.1, 800, .inl (fun _ => 0))), (q2, .inl (t.1, 800, .inl (fun _ => 0))), (q3, .inl (t.1, 800, .inl (fun _ => 0))), (q4, .inl (t.1, 800, .inl (fun _ => 0))), (q5, .inl (t.1, 101, .inl (fun _ => 0))), (q6, .inl (t.1, 100, .inl (fun _ => 0)))] H := hP
  have hD : va_D A [(h0, .inr (3, [.null, .null, .null, .ref q1, .ref q2, .ref q3, .ref q4, .ref q5, .null, .int 0])), (q1, .inl (t.1, 800, .inl (fun _ => 0))), (q2, .inl (t.1, 800, .inl (fun _ => 0))), (q3, .inl (t.1, 800, .inl (fun _ => 0))), (q4, .inl (t.1, 800, .inl (fun _ => 0))), (q5, .inl (t.1, 101, .inl (fun _ => 0))), (q6, .inl (t.1, 100, .inl (fun _ => 0)))] := hD
  refine W.widen (k := 6) (n := 3401) (Nat.le_of_ble_eq_true rfl) (Nat.le_of_ble_eq_true rfl) ?_
  refine va_putF (D := D) (ci := 3) (v := .ref q6) (C := RX3) (T := TX3) (N := 10) hx hb hts in_X3 tyX3 tyX3_ok nmX3 hown hK hP hD hS 0 rfl rfl 8 (by decide) (hts _ fl_X3_27) (fun _ h9 => h9) rfl hin rfl (ty := tyX3 8) (tyX3_ok 8 (by decide)) rfl rfl (Nat.le_of_ble_eq_true rfl) dX3_init_53 (fun H locs hP hD hS => ?_)
  have hP : va_P D vwCl [(h0, .inr (3, [.null, .null, .null, .ref q1, .ref q2, .ref q3, .ref q4, .ref q5, .ref q6, .int 0])), (q1, .inl (t.1, 800, .inl (fun _ => 0))), (q2, .inl (t.1, 800, .inl (fun _ => 0))), (q3, .inl (t.1, 800, .inl (fun _ => 0))), (q4, .inl (t.1, 800, .inl (fun _ => 0))), (q5, .inl (t.1, 101, .inl (fun _ => 0))), (q6, .inl (t.1, 100, .inl (fun _ => 0)))] H := hP
  have hD : va_D A [(h0, .inr (3, [.null, .null, .null, .ref q1, .ref q2, .ref q3, .ref q4, .ref q5, .ref q6, .int 0])), (q1, .inl (t.1, 800, .inl (fun _ => 0))), (q2, .inl (t.1, 800, .inl (fun _ => 0))), (q3, .inl (t.1, 800, .inl (fun _ => 0))), (q4, .inl (t.1, 800, .inl (fun _ => 0))), (q5, .inl (t.1, 101, .inl (fun _ => 0))), (q6, .inl (t.1, 100, .inl (fun _ => 0)))] := hD
  refine lv_aload_n hx hb dX3_init_56 rfl (lv_at hl 0 rfl) ?_
  refine lv_aload_n hx hb dX3_init_57 rfl (lv_at hl 1 rfl) ?_
  refine va_putF (D := D) (ci := 3) (v := .ref a0) (C := RX3) (T := TX3) (N := 10) hx hb hts in_X3 tyX3 tyX3_ok nmX3 hown hK hP hD hS 0 rfl rfl 0 (by decide) (hts _ fl_X3_30) (fun _ h9 => h9) rfl hin rfl (ty := tyX3 0) (tyX3_ok 0 (by decide)) rfl rfl (Nat.le_of_ble_eq_true rfl) dX3_init_58 (fun H locs hP hD hS => ?_)
  have hP : va_P D vwCl [(h0, .inr (3, [.ref a0, .null, .null, .ref q1, .ref q2, .ref q3, .ref q4, .ref q5, .ref q6, .int 0])), (q1, .inl (t.1, 800, .inl (fun _ => 0))), (q2, .inl (t.1, 800, .inl (fun _ => 0))), (q3, .inl (t.1, 800, .inl (fun _ => 0))), (q4, .inl (t.1, 800, .inl (fun _ => 0))), (q5, .inl (t.1, 101, .inl (fun _ => 0))), (q6, .inl (t.1, 100, .inl (fun _ => 0)))] H := hP
  have hD : va_D A [(h0, .inr (3, [.ref a0, .null, .null, .ref q1, .ref q2, .ref q3, .ref q4, .ref q5, .ref q6, .int 0])), (q1, .inl (t.1, 800, .inl (fun _ => 0))), (q2, .inl (t.1, 800, .inl (fun _ => 0))), (q3, .inl (t.1, 800, .inl (fun _ => 0))), (q4, .inl (t.1, 800, .inl (fun _ => 0))), (q5, .inl (t.1, 101, .inl (fun _ => 0))), (q6, .inl (t.1, 100, .inl (fun _ => 0)))] := hD
  refine lv_aload_n hx hb dX3_init_61 rfl (lv_at hl 0 rfl) ?_
  refine lv_aload_n hx hb dX3_init_62 rfl (lv_at hl 2 rfl) ?_
  refine va_putF (D := D) (ci := 3) (v := .ref a1) (C := RX3) (T := TX3) (N := 10) hx hb hts in_X3 tyX3 tyX3_ok nmX3 hown hK hP hD hS 0 rfl rfl 1 (by decide) (hts _ fl_X3_34) (fun _ h9 => h9) rfl hin rfl (ty := tyX3 1) (tyX3_ok 1 (by decide)) rfl rfl (Nat.le_of_ble_eq_true rfl) dX3_init_63 (fun H locs hP hD hS => ?_)
  have hP : va_P D vwCl [(h0, .inr (3, [.ref a0, .ref a1, .null, .ref q1, .ref q2, .ref q3, .ref q4, .ref q5, .ref q6, .int 0])), (q1, .inl (t.1, 800, .inl (fun _ => 0))), (q2, .inl (t.1, 800, .inl (fun _ => 0))), (q3, .inl (t.1, 800, .inl (fun _ => 0))), (q4, .inl (t.1, 800, .inl (fun _ => 0))), (q5, .inl (t.1, 101, .inl (fun _ => 0))), (q6, .inl (t.1, 100, .inl (fun _ => 0)))] H := hP
  have hD : va_D A [(h0, .inr (3, [.ref a0, .ref a1, .null, .ref q1, .ref q2, .ref q3, .ref q4, .ref q5, .ref q6, .int 0])), (q1, .inl (t.1, 800, .inl (fun _ => 0))), (q2, .inl (t.1, 800, .inl (fun _ => 0))), (q3, .inl (t.1, 800, .inl (fun _ => 0))), (q4, .inl (t.1, 800, .inl (fun _ => 0))), (q5, .inl (t.1, 101, .inl (fun _ => 0))), (q6, .inl (t.1, 100, .inl (fun _ => 0)))] := hD
  refine lv_aload_n hx hb dX3_init_66 rfl (lv_at hl 0 rfl) ?_
  refine lv_aload_n hx hb dX3_init_67 rfl (lv_at hl 3 rfl) ?_
  refine va_putF (D := D) (ci := 3) (v := .ref a2) (C := RX3) (T := TX3) (N := 10) hx hb hts in_X3 tyX3 tyX3_ok nmX3 hown hK hP hD hS 0 rfl rfl 2 (by decide) (hts _ fl_X3_38) (fun _ h9 => h9) rfl hin rfl (ty := tyX3 2) (tyX3_ok 2 (by decide)) rfl rfl (Nat.le_of_ble_eq_true rfl) dX3_init_68 (fun H locs hP hD hS => ?_)
  have hP : va_P D vwCl [(h0, .inr (3, [.ref a0, .ref a1, .ref a2, .ref q1, .ref q2, .ref q3, .ref q4, .ref q5, .ref q6, .int 0])), (q1, .inl (t.1, 800, .inl (fun _ => 0))), (q2, .inl (t.1, 800, .inl (fun _ => 0))), (q3, .inl (t.1, 800, .inl (fun _ => 0))), (q4, .inl (t.1, 800, .inl (fun _ => 0))), (q5, .inl (t.1, 101, .inl (fun _ => 0))), (q6, .inl (t.1, 100, .inl (fun _ => 0)))] H := hP
  have hD : va_D A [(h0, .inr (3, [.ref a0, .ref a1, .ref a2, .ref q1, .ref q2, .ref q3, .ref q4, .ref q5, .ref q6, .int 0])), (q1, .inl (t.1, 800, .inl (fun _ => 0))), (q2, .inl (t.1, 800, .inl (fun _ => 0))), (q3, .inl (t.1, 800, .inl (fun _ => 0))), (q4, .inl (t.1, 800, .inl (fun _ => 0))), (q5, .inl (t.1, 101, .inl (fun _ => 0))), (q6, .inl (t.1, 100, .inl (fun _ => 0)))] := hD
  have hP9 := hP.sub (ws' := [(h0, .inr (3, [.ref a0, .ref a1, .ref a2, .ref q1, .ref q2, .ref q3, .ref q4, .ref q5, .ref q6, .int 0])), (q1, .inl (t.1, 800, .inl (fun _ => 0))), (q2, .inl (t.1, 800, .inl (fun _ => 0))), (q3, .inl (t.1, 800, .inl (fun _ => 0))), (q4, .inl (t.1, 800, .inl (fun _ => 0))), (q5, .inl (t.1, 101, .inl (fun _ => 0))), (q6, .inl (t.1, 100, .inl (fun _ => 0)))]) [0, 1, 2, 3, 4, 5, 6] rfl
  have hD9 := hD.sub (ws' := [(h0, .inr (3, [.ref a0, .ref a1, .ref a2, .ref q1, .ref q2, .ref q3, .ref q4, .ref q5, .ref q6, .int 0])), (q1, .inl (t.1, 800, .inl (fun _ => 0))), (q2, .inl (t.1, 800, .inl (fun _ => 0))), (q3, .inl (t.1, 800, .inl (fun _ => 0))), (q4, .inl (t.1, 800, .inl (fun _ => 0))), (q5, .inl (t.1, 101, .inl (fun _ => 0))), (q6, .inl (t.1, 100, .inl (fun _ => 0)))]) [0, 1, 2, 3, 4, 5, 6] (by decide) rfl
  subst hAe
  exact W.vret hx hb hr (fun t9 ht hW => ⟨⟨(fun k => ([h0, q1, q2, q3, q4, q5, q6] : List Nat).getD k 0), rfl, rfl, by rw [ht]; exact hP9, hD9⟩, hS.F ht⟩) hS.2.2 dX3_init_71
def w1_X10 (t : uT) (a0 : Nat) (a1 : Nat) (u : Nat → Nat) : va_W := [(u 0, .inr (10, [.ref a0, .ref a1, .ref (u 1), .ref (u 2), .ref (u 3), .int 0])), (u 1, .inl (t.1, 12, .inl (fun _ => 0))), (u 2, .inl (t.1, 12, .inl (fun _ => 0))), (u 3, .inl (t.1, 1313, .inl (fun _ => 0)))]
set_option maxHeartbeats 8000000 in
set_option maxRecDepth 100000 in
theorem ci_X10 (l : Launch) (D : va_G) (t : uT) (fa h0 : Nat) (a0 : Nat) (a1 : Nat) : CtC l D t fa yX10_init cX10_init 3 1 20 3 1337 [.ref h0, .ref a0, .ref a1] [(h0, .inr (10, [.null, .null, .null, .null, .null, .int 0]))] h0 (w1_X10 t a0 a1) := by
  intro sz
  refine va_MetF (cc := cX10_init) (maxL := 3) (ret := none) (by decide +kernel) rfl ?_
  intro p e s m args below meth c s₁ B hml hv
  obtain ⟨rfl, hsz, hP, hK, hD0, hZ⟩ := hv
  have hx := B.exec
  have hb := B.bytes
  have hr := B.returns
  have hlocks := B.notSynchronized
  have hts : ∀ w ∈ TG, w.before ([.ref h0, .ref a0, .ref a1] : List Value).toArray s = true := fun w hw => atoms_spec (ws := Cond.code yX10_init cX10_init 3 none :: TG) B.pre w (List.mem_cons_of_mem _ hw)
  have hown : s.vm.findClass RX10 = some m.cls := findClass_of_methodNamed B.named
  have hin : meth.name = "<init>" := (name_of_methodNamed B.named B.method).1
  subst hsz
  have hD := hD0.self (sz := s.heap.size)
  generalize hAe : va_A [(h0, .inr (10, [.null, .null, .null, .null, .null, .int 0]))] s.heap.size = A at hD hZ ⊢
  have hA : ∀ q : Nat, s.heap.size ≤ q → A q := fun q h => by rw [← hAe]; exact Or.inr h
  have hS : va_S A s.heap s.heap [] := va_S.rf
  have hl := lv_entry ([.ref h0, .ref a0, .ref a1]) (n := 3) (Nat.le_of_ble_eq_true rfl)
  rw [lg_entry_eq]
  generalize (lg_sl ([.ref h0, .ref a0, .ref a1]) ++ List.replicate (3 - (lg_sl ([.ref h0, .ref a0, .ref a1])).length) Slot.unset).toArray = ls at hl ⊢
  have hl : lv_has ls 3 [(0, .ref h0), (1, .ref a0), (2, .ref a1)] := hl
  refine lv_aload_n hx hb dX10_init_0 rfl (lv_at hl 0 rfl) ?_
  refine W.objInit hx hb hown (hts (.methodLink RX10 3 objectInit) (tg_2 (List.mem_of_getElem? (i := 76) rfl) rfl)) (hts (.instanceMethod objectInit) (tg_1 (List.mem_of_getElem? (i := 26) rfl) rfl)) (hts (Cond.code objectInit object_method_1_code 1 none) (tg_1 (List.mem_of_getElem? (i := 27) rfl) rfl)) rfl (by rw [hml]; exact hl.1) rfl dX10_init_1 (Nat.le_of_ble_eq_true rfl) (Nat.le_of_ble_eq_true rfl) ?_
  refine W.eq (g2 := F0 m 4 ls []) rfl ?_
  refine lv_aload_n hx hb dX10_init_4 rfl (lv_at hl 0 rfl) ?_
  refine lv_bipush (v := 12) hx hb dX10_init_5 (by decide) ?_
  refine c_newa (atype := .int) (ty := .int) hx hb (hts _ (tg_1 (List.mem_of_getElem? (i := 47) rfl) rfl)) rfl hK hP hD hS hA 0 rfl (fun _ h => h) (a0 := (12, .inl (fun _ => 0))) (fun _ => rfl) (by decide) (N' := 12) (by decide +kernel) (Nat.le_of_ble_eq_true rfl) (Nat.le_of_ble_eq_true rfl) (Nat.le_of_ble_eq_true rfl) dX10_init_7 (fun q1 H hP hD hS => ?_)
  have hP : va_P D vwCl [(h0, .inr (10, [.null, .null, .null, .null, .null, .int 0])), (q1, .inl (t.1, 12, .inl (fun _ => 0)))] H := hP
  have hD : va_D A [(h0, .inr (10, [.null, .null, .null, .null, .null, .int 0])), (q1, .inl (t.1, 12, .inl (fun _ => 0)))] := hD
  refine W.widen (k := 1) (n := 12) (Nat.le_of_ble_eq_true rfl) (Nat.le_of_ble_eq_true rfl) ?_
  refine va_putF (D := D) (ci := 10) (v := .ref q1) (C := RX10) (T := TX10) (N := 6) hx hb hts in_X10 tyX10 tyX10_ok nmX10 hown hK hP hD hS 0 rfl rfl 2 (by decide) (hts _ fl_X10_9) (fun _ h9 => h9) rfl hin rfl (ty := tyX10 2) (tyX10_ok 2 (by decide)) rfl rfl (Nat.le_of_ble_eq_true rfl) dX10_init_9 (fun H locs hP hD hS => ?_)
  have hP : va_P D vwCl [(h0, .inr (10, [.null, .null, .ref q1, .null, .null, .int 0])), (q1, .inl (t.1, 12, .inl (fun _ => 0)))] H := hP
  have hD : va_D A [(h0, .inr (10, [.null, .null, .ref q1, .null, .null, .int 0])), (q1, .inl (t.1, 12, .inl (fun _ => 0)))] := hD
  refine lv_aload_n hx hb dX10_init_12 rfl (lv_at hl 0 rfl) ?_
  refine lv_bipush (v := 12) hx hb dX10_init_13 (by decide) ?_
  refine c_newa (atype := .int) (ty := .int) hx hb (hts _ (tg_1 (List.mem_of_getElem? (i := 47) rfl) rfl)) rfl hK hP hD hS hA 0 rfl (fun _ h => h) (a0 := (12, .inl (fun _ => 0))) (fun _ => rfl) (by decide) (N' := 12) (by decide +kernel) (Nat.le_of_ble_eq_true rfl) (Nat.le_of_ble_eq_true rfl) (Nat.le_of_ble_eq_true rfl) dX10_init_15 (fun q2 H hP hD hS => ?_)
  have hP : va_P D vwCl [(h0, .inr (10, [.null, .null, .ref q1, .null, .null, .int 0])), (q1, .inl (t.1, 12, .inl (fun _ => 0))), (q2, .inl (t.1, 12, .inl (fun _ => 0)))] H := hP
  have hD : va_D A [(h0, .inr (10, [.null, .null, .ref q1, .null, .null, .int 0])), (q1, .inl (t.1, 12, .inl (fun _ => 0))), (q2, .inl (t.1, 12, .inl (fun _ => 0)))] := hD
  refine W.widen (k := 2) (n := 24) (Nat.le_of_ble_eq_true rfl) (Nat.le_of_ble_eq_true rfl) ?_
  refine va_putF (D := D) (ci := 10) (v := .ref q2) (C := RX10) (T := TX10) (N := 6) hx hb hts in_X10 tyX10 tyX10_ok nmX10 hown hK hP hD hS 0 rfl rfl 3 (by decide) (hts _ fl_X10_15) (fun _ h9 => h9) rfl hin rfl (ty := tyX10 3) (tyX10_ok 3 (by decide)) rfl rfl (Nat.le_of_ble_eq_true rfl) dX10_init_17 (fun H locs hP hD hS => ?_)
  have hP : va_P D vwCl [(h0, .inr (10, [.null, .null, .ref q1, .ref q2, .null, .int 0])), (q1, .inl (t.1, 12, .inl (fun _ => 0))), (q2, .inl (t.1, 12, .inl (fun _ => 0)))] H := hP
  have hD : va_D A [(h0, .inr (10, [.null, .null, .ref q1, .ref q2, .null, .int 0])), (q1, .inl (t.1, 12, .inl (fun _ => 0))), (q2, .inl (t.1, 12, .inl (fun _ => 0)))] := hD
  refine lv_aload_n hx hb dX10_init_20 rfl (lv_at hl 0 rfl) ?_
  refine lv_sipush (v := 1313) hx hb dX10_init_21 (by decide) ?_
  refine c_newa (atype := .int) (ty := .int) hx hb (hts _ (tg_1 (List.mem_of_getElem? (i := 47) rfl) rfl)) rfl hK hP hD hS hA 0 rfl (fun _ h => h) (a0 := (1313, .inl (fun _ => 0))) (fun _ => rfl) (by decide) (N' := 1313) (by decide +kernel) (Nat.le_of_ble_eq_true rfl) (Nat.le_of_ble_eq_true rfl) (Nat.le_of_ble_eq_true rfl) dX10_init_24 (fun q3 H hP hD hS => ?_)
  have hP : va_P D vwCl [(h0, .inr (10, [.null, .null, .ref q1, .ref q2, .null, .int 0])), (q1, .inl (t.1, 12, .inl (fun _ => 0))), (q2, .inl (t.1, 12, .inl (fun _ => 0))), (q3, .inl (t.1, 1313, .inl (fun _ => 0)))] H := hP
  have hD : va_D A [(h0, .inr (10, [.null, .null, .ref q1, .ref q2, .null, .int 0])), (q1, .inl (t.1, 12, .inl (fun _ => 0))), (q2, .inl (t.1, 12, .inl (fun _ => 0))), (q3, .inl (t.1, 1313, .inl (fun _ => 0)))] := hD
  refine W.widen (k := 3) (n := 1337) (Nat.le_of_ble_eq_true rfl) (Nat.le_of_ble_eq_true rfl) ?_
  refine va_putF (D := D) (ci := 10) (v := .ref q3) (C := RX10) (T := TX10) (N := 6) hx hb hts in_X10 tyX10 tyX10_ok nmX10 hown hK hP hD hS 0 rfl rfl 4 (by decide) (hts _ fl_X10_18) (fun _ h9 => h9) rfl hin rfl (ty := tyX10 4) (tyX10_ok 4 (by decide)) rfl rfl (Nat.le_of_ble_eq_true rfl) dX10_init_26 (fun H locs hP hD hS => ?_)
  have hP : va_P D vwCl [(h0, .inr (10, [.null, .null, .ref q1, .ref q2, .ref q3, .int 0])), (q1, .inl (t.1, 12, .inl (fun _ => 0))), (q2, .inl (t.1, 12, .inl (fun _ => 0))), (q3, .inl (t.1, 1313, .inl (fun _ => 0)))] H := hP
  have hD : va_D A [(h0, .inr (10, [.null, .null, .ref q1, .ref q2, .ref q3, .int 0])), (q1, .inl (t.1, 12, .inl (fun _ => 0))), (q2, .inl (t.1, 12, .inl (fun _ => 0))), (q3, .inl (t.1, 1313, .inl (fun _ => 0)))] := hD
  refine lv_aload_n hx hb dX10_init_29 rfl (lv_at hl 0 rfl) ?_
  refine lv_aload_n hx hb dX10_init_30 rfl (lv_at hl 1 rfl) ?_
  refine va_putF (D := D) (ci := 10) (v := .ref a0) (C := RX10) (T := TX10) (N := 6) hx hb hts in_X10 tyX10 tyX10_ok nmX10 hown hK hP hD hS 0 rfl rfl 0 (by decide) (hts _ fl_X10_21) (fun _ h9 => h9) rfl hin rfl (ty := tyX10 0) (tyX10_ok 0 (by decide)) rfl rfl (Nat.le_of_ble_eq_true rfl) dX10_init_31 (fun H locs hP hD hS => ?_)
  have hP : va_P D vwCl [(h0, .inr (10, [.ref a0, .null, .ref q1, .ref q2, .ref q3, .int 0])), (q1, .inl (t.1, 12, .inl (fun _ => 0))), (q2, .inl (t.1, 12, .inl (fun _ => 0))), (q3, .inl (t.1, 1313, .inl (fun _ => 0)))] H := hP
  have hD : va_D A [(h0, .inr (10, [.ref a0, .null, .ref q1, .ref q2, .ref q3, .int 0])), (q1, .inl (t.1, 12, .inl (fun _ => 0))), (q2, .inl (t.1, 12, .inl (fun _ => 0))), (q3, .inl (t.1, 1313, .inl (fun _ => 0)))] := hD
  refine lv_aload_n hx hb dX10_init_34 rfl (lv_at hl 0 rfl) ?_
  refine lv_aload_n hx hb dX10_init_35 rfl (lv_at hl 2 rfl) ?_
  refine va_putF (D := D) (ci := 10) (v := .ref a1) (C := RX10) (T := TX10) (N := 6) hx hb hts in_X10 tyX10 tyX10_ok nmX10 hown hK hP hD hS 0 rfl rfl 1 (by decide) (hts _ fl_X10_25) (fun _ h9 => h9) rfl hin rfl (ty := tyX10 1) (tyX10_ok 1 (by decide)) rfl rfl (Nat.le_of_ble_eq_true rfl) dX10_init_36 (fun H locs hP hD hS => ?_)
  have hP : va_P D vwCl [(h0, .inr (10, [.ref a0, .ref a1, .ref q1, .ref q2, .ref q3, .int 0])), (q1, .inl (t.1, 12, .inl (fun _ => 0))), (q2, .inl (t.1, 12, .inl (fun _ => 0))), (q3, .inl (t.1, 1313, .inl (fun _ => 0)))] H := hP
  have hD : va_D A [(h0, .inr (10, [.ref a0, .ref a1, .ref q1, .ref q2, .ref q3, .int 0])), (q1, .inl (t.1, 12, .inl (fun _ => 0))), (q2, .inl (t.1, 12, .inl (fun _ => 0))), (q3, .inl (t.1, 1313, .inl (fun _ => 0)))] := hD
  have hP9 := hP.sub (ws' := [(h0, .inr (10, [.ref a0, .ref a1, .ref q1, .ref q2, .ref q3, .int 0])), (q1, .inl (t.1, 12, .inl (fun _ => 0))), (q2, .inl (t.1, 12, .inl (fun _ => 0))), (q3, .inl (t.1, 1313, .inl (fun _ => 0)))]) [0, 1, 2, 3] rfl
  have hD9 := hD.sub (ws' := [(h0, .inr (10, [.ref a0, .ref a1, .ref q1, .ref q2, .ref q3, .int 0])), (q1, .inl (t.1, 12, .inl (fun _ => 0))), (q2, .inl (t.1, 12, .inl (fun _ => 0))), (q3, .inl (t.1, 1313, .inl (fun _ => 0)))]) [0, 1, 2, 3] (by decide) rfl
  subst hAe
  exact W.vret hx hb hr (fun t9 ht hW => ⟨⟨(fun k => ([h0, q1, q2, q3] : List Nat).getD k 0), rfl, rfl, by rw [ht]; exact hP9, hD9⟩, hS.F ht⟩) hS.2.2 dX10_init_39

