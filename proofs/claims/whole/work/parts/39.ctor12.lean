def w1_X12 (t : uT) (u : Nat → Nat) : va_W := [(u 0, .inr (12, [.ref (u 1), .ref (u 2), .ref (u 3), .ref (u 4), .ref (u 5), .ref (u 6), .int 0, .int 0, .int 0, .int 0, .int 0, .ref (u 7), .ref (u 8), .ref (u 9), .ref (u 10), .ref (u 11), .ref (u 12), .int 0, .ref (u 13), .ref (u 14), .ref (u 15), .int 0, .int 0, .int 0, .ref (u 16), .ref (u 17), .ref (u 18), .ref (u 19), .ref (u 20), .ref (u 21), .ref (u 22), .int 0, .ref (u 23), .int 0, .ref (u 24), .ref (u 25), .ref (u 26), .ref (u 27), .int 0, .ref (u 28), .ref (u 29), .ref (u 30), .int 0, .ref (u 31), .ref (u 32), .ref (u 33), .ref (u 34), .ref (u 35), .ref (u 36), .int 0])), (u 1, .inl (t.1, 16, .inl u_first)), (u 2, .inl (t.1, 16, .inl u_least)), (u 3, .inl (t.1, 16, .inl u_most)), (u 4, .inl (t.1, 800, .inl (fun _ => 0))), (u 5, .inl (t.1, 400, .inl (fun _ => 0))), (u 6, .inl (t.1, 12, .inl (fun _ => 0))), (u 7, .inl (t.1, 50, .inl (fun _ => 0))), (u 8, .inl (t.1, 50, .inl (fun _ => 0))), (u 9, .inl (t.1, 660, .inl (fun _ => 0))), (u 10, .inl (t.1, 660, .inl (fun _ => 0))), (u 11, .inl (t.1, 110, .inl (fun _ => 0))), (u 12, .inl (t.2.1, 50, .inl (fun _ => 0))), (u 13, .inl (t.1, 660, .inl (fun _ => 0))), (u 14, .inl (t.1, 110, .inl (fun _ => 0))), (u 15, .inl (t.2.1, 660, .inl (fun _ => 0))), (u 16, .inl (t.1, 5280, .inl (fun _ => 0))), (u 17, .inl (t.1, 5280, .inl (fun _ => 0))), (u 18, .inl (t.1, 5280, .inl (fun _ => 0))), (u 19, .inl (t.1, 660, .inl (fun _ => 0))), (u 20, .inl (t.1, 9, .inl (fun _ => 0))), (u 21, .inl (t.1, 9, .inl (fun _ => 0))), (u 22, .inl (t.1, 9, .inl (fun _ => 0))), (u 23, .inl (t.1, 111, .inl (fun _ => 0))), (u 24, .inl (t.1, 110, .inl (fun _ => 0))), (u 25, .inl (t.1, 110, .inl (fun _ => 0))), (u 26, .inl (t.1, 110, .inl (fun _ => 0))), (u 27, .inl (t.1, 110, .inl (fun _ => 0))), (u 28, .inl (t.1, 50, .inl (fun _ => 0))), (u 29, .inl (t.1, 1450, .inl (fun _ => 0))), (u 30, .inl (t.1, 12, .inl (fun _ => 0))), (u 31, .inl (t.1, 800, .inl (fun _ => 0))), (u 32, .inl (t.1, 800, .inl (fun _ => 0))), (u 33, .inl (t.1, 400, .inl (fun _ => 0))), (u 34, .inl (t.1, 400, .inl (fun _ => 0))), (u 35, .inl (t.1, 111, .inl (fun _ => 0))), (u 36, .inl (t.1, 110, .inl (fun _ => 0)))]
theorem up_ge {f : Nat → Int32} {k : Nat} {x : Int32} (h : ∀ j, 16 ≤ j → f j = 0) (hk : k < 16) : ∀ j, 16 ≤ j → upd f k x j = 0 := by
  intro j hj
  unfold upd
  rw [if_neg (by omega)]
  exact h j hj
theorem up_u_first : (upd (upd (upd (upd (upd (upd (upd (upd (upd (upd (upd (upd (upd (upd (upd (upd (fun _ => 0) (0 : Int32).toNatClampNeg 0) (1 : Int32).toNatClampNeg 0) (2 : Int32).toNatClampNeg 10) (3 : Int32).toNatClampNeg 20) (4 : Int32).toNatClampNeg 4) (5 : Int32).toNatClampNeg 24) (6 : Int32).toNatClampNeg 400) (7 : Int32).toNatClampNeg 3) (8 : Int32).toNatClampNeg 4) (9 : Int32).toNatClampNeg 500) (10 : Int32).toNatClampNeg 10) (11 : Int32).toNatClampNeg 150) (12 : Int32).toNatClampNeg 200) (13 : Int32).toNatClampNeg 3) (14 : Int32).toNatClampNeg 0) (15 : Int32).toNatClampNeg 60) = u_first := by
  funext j
  by_cases h : j < 16
  · exact (by decide +kernel : ∀ j : Fin 16, (upd (upd (upd (upd (upd (upd (upd (upd (upd (upd (upd (upd (upd (upd (upd (upd (fun _ => 0) (0 : Int32).toNatClampNeg 0) (1 : Int32).toNatClampNeg 0) (2 : Int32).toNatClampNeg 10) (3 : Int32).toNatClampNeg 20) (4 : Int32).toNatClampNeg 4) (5 : Int32).toNatClampNeg 24) (6 : Int32).toNatClampNeg 400) (7 : Int32).toNatClampNeg 3) (8 : Int32).toNatClampNeg 4) (9 : Int32).toNatClampNeg 500) (10 : Int32).toNatClampNeg 10) (11 : Int32).toNatClampNeg 150) (12 : Int32).toNatClampNeg 200) (13 : Int32).toNatClampNeg 3) (14 : Int32).toNatClampNeg 0) (15 : Int32).toNatClampNeg 60) j = u_first j) ⟨j, h⟩
  · have e1 : u_first j = 0 := by
      unfold u_first
      rw [List.getD_eq_getElem?_getD, List.getElem?_eq_none (by simpa using h)]
      rfl
    rw [e1]
    refine (?_ : ∀ j, 16 ≤ j → (upd (upd (upd (upd (upd (upd (upd (upd (upd (upd (upd (upd (upd (upd (upd (upd (fun _ => 0) (0 : Int32).toNatClampNeg 0) (1 : Int32).toNatClampNeg 0) (2 : Int32).toNatClampNeg 10) (3 : Int32).toNatClampNeg 20) (4 : Int32).toNatClampNeg 4) (5 : Int32).toNatClampNeg 24) (6 : Int32).toNatClampNeg 400) (7 : Int32).toNatClampNeg 3) (8 : Int32).toNatClampNeg 4) (9 : Int32).toNatClampNeg 500) (10 : Int32).toNatClampNeg 10) (11 : Int32).toNatClampNeg 150) (12 : Int32).toNatClampNeg 200) (13 : Int32).toNatClampNeg 3) (14 : Int32).toNatClampNeg 0) (15 : Int32).toNatClampNeg 60) j = 0) j (by omega)
    repeat (first | exact fun _ _ => rfl | refine up_ge ?_ (by decide))
theorem up_u_least : (upd (upd (upd (upd (upd (upd (upd (upd (upd (upd (upd (upd (upd (upd (upd (upd (fun _ => 0) (0 : Int32).toNatClampNeg 0) (1 : Int32).toNatClampNeg 0) (2 : Int32).toNatClampNeg 8) (3 : Int32).toNatClampNeg 4) (4 : Int32).toNatClampNeg 2) (5 : Int32).toNatClampNeg 3) (6 : Int32).toNatClampNeg 0) (7 : Int32).toNatClampNeg 1) (8 : Int32).toNatClampNeg 0) (9 : Int32).toNatClampNeg 0) (10 : Int32).toNatClampNeg 0) (11 : Int32).toNatClampNeg 0) (12 : Int32).toNatClampNeg 0) (13 : Int32).toNatClampNeg 0) (14 : Int32).toNatClampNeg 0) (15 : Int32).toNatClampNeg 0) = u_least := by
  funext j
  by_cases h : j < 16
  · exact (by decide +kernel : ∀ j : Fin 16, (upd (upd (upd (upd (upd (upd (upd (upd (upd (upd (upd (upd (upd (upd (upd (upd (fun _ => 0) (0 : Int32).toNatClampNeg 0) (1 : Int32).toNatClampNeg 0) (2 : Int32).toNatClampNeg 8) (3 : Int32).toNatClampNeg 4) (4 : Int32).toNatClampNeg 2) (5 : Int32).toNatClampNeg 3) (6 : Int32).toNatClampNeg 0) (7 : Int32).toNatClampNeg 1) (8 : Int32).toNatClampNeg 0) (9 : Int32).toNatClampNeg 0) (10 : Int32).toNatClampNeg 0) (11 : Int32).toNatClampNeg 0) (12 : Int32).toNatClampNeg 0) (13 : Int32).toNatClampNeg 0) (14 : Int32).toNatClampNeg 0) (15 : Int32).toNatClampNeg 0) j = u_least j) ⟨j, h⟩
  · have e1 : u_least j = 0 := by
      unfold u_least
      rw [List.getD_eq_getElem?_getD, List.getElem?_eq_none (by simpa using h)]
      rfl
    rw [e1]
    refine (?_ : ∀ j, 16 ≤ j → (upd (upd (upd (upd (upd (upd (upd (upd (upd (upd (upd (upd (upd (upd (upd (upd (fun _ => 0) (0 : Int32).toNatClampNeg 0) (1 : Int32).toNatClampNeg 0) (2 : Int32).toNatClampNeg 8) (3 : Int32).toNatClampNeg 4) (4 : Int32).toNatClampNeg 2) (5 : Int32).toNatClampNeg 3) (6 : Int32).toNatClampNeg 0) (7 : Int32).toNatClampNeg 1) (8 : Int32).toNatClampNeg 0) (9 : Int32).toNatClampNeg 0) (10 : Int32).toNatClampNeg 0) (11 : Int32).toNatClampNeg 0) (12 : Int32).toNatClampNeg 0) (13 : Int32).toNatClampNeg 0) (14 : Int32).toNatClampNeg 0) (15 : Int32).toNatClampNeg 0) j = 0) j (by omega)
    repeat (first | exact fun _ _ => rfl | refine up_ge ?_ (by decide))
theorem up_u_most : (upd (upd (upd (upd (upd (upd (upd (upd (upd (upd (upd (upd (upd (upd (upd (upd (fun _ => 0) (0 : Int32).toNatClampNeg 0) (1 : Int32).toNatClampNeg 0) (2 : Int32).toNatClampNeg 40) (3 : Int32).toNatClampNeg 60) (4 : Int32).toNatClampNeg 47) (5 : Int32).toNatClampNeg 48) (6 : Int32).toNatClampNeg 2000) (7 : Int32).toNatClampNeg 5) (8 : Int32).toNatClampNeg 20) (9 : Int32).toNatClampNeg 2000) (10 : Int32).toNatClampNeg 50) (11 : Int32).toNatClampNeg 2000) (12 : Int32).toNatClampNeg 2000) (13 : Int32).toNatClampNeg 20) (14 : Int32).toNatClampNeg 2000) (15 : Int32).toNatClampNeg 500) = u_most := by
  funext j
  by_cases h : j < 16
  · exact (by decide +kernel : ∀ j : Fin 16, (upd (upd (upd (upd (upd (upd (upd (upd (upd (upd (upd (upd (upd (upd (upd (upd (fun _ => 0) (0 : Int32).toNatClampNeg 0) (1 : Int32).toNatClampNeg 0) (2 : Int32).toNatClampNeg 40) (3 : Int32).toNatClampNeg 60) (4 : Int32).toNatClampNeg 47) (5 : Int32).toNatClampNeg 48) (6 : Int32).toNatClampNeg 2000) (7 : Int32).toNatClampNeg 5) (8 : Int32).toNatClampNeg 20) (9 : Int32).toNatClampNeg 2000) (10 : Int32).toNatClampNeg 50) (11 : Int32).toNatClampNeg 2000) (12 : Int32).toNatClampNeg 2000) (13 : Int32).toNatClampNeg 20) (14 : Int32).toNatClampNeg 2000) (15 : Int32).toNatClampNeg 500) j = u_most j) ⟨j, h⟩
  · have e1 : u_most j = 0 := by
      unfold u_most
      rw [List.getD_eq_getElem?_getD, List.getElem?_eq_none (by simpa using h)]
      rfl
    rw [e1]
    refine (?_ : ∀ j, 16 ≤ j → (upd (upd (upd (upd (upd (upd (upd (upd (upd (upd (upd (upd (upd (upd (upd (upd (fun _ => 0) (0 : Int32).toNatClampNeg 0) (1 : Int32).toNatClampNeg 0) (2 : Int32).toNatClampNeg 40) (3 : Int32).toNatClampNeg 60) (4 : Int32).toNatClampNeg 47) (5 : Int32).toNatClampNeg 48) (6 : Int32).toNatClampNeg 2000) (7 : Int32).toNatClampNeg 5) (8 : Int32).toNatClampNeg 20) (9 : Int32).toNatClampNeg 2000) (10 : Int32).toNatClampNeg 50) (11 : Int32).toNatClampNeg 2000) (12 : Int32).toNatClampNeg 2000) (13 : Int32).toNatClampNeg 20) (14 : Int32).toNatClampNeg 2000) (15 : Int32).toNatClampNeg 500) j = 0) j (by omega)
    repeat (first | exact fun _ _ => rfl | refine up_ge ?_ (by decide))
set_option maxHeartbeats 8000000 in
set_option maxRecDepth 100000 in
theorem ci_X12 (l : Launch) (D : va_G) (t : uT) (fa h0 : Nat) : CtC l D t fa yX12_init cX12_init 1 1 20 36 25481 [.ref h0] [(h0, .inr (12, [.null, .null, .null, .null, .null, .null, .int 0, .int 0, .int 0, .int 0, .int 0, .null, .null, .null, .null, .null, .null, .int 0, .null, .null, .null, .int 0, .int 0, .int 0, .null, .null, .null, .null, .null, .null, .null, .int 0, .null, .int 0, .null, .null, .null, .null, .int 0, .null, .null, .null, .int 0, .null, .null, .null, .null, .null, .null, .int 0]))] h0 (w1_X12 t) := by
  intro sz
  refine va_MetF (cc := cX12_init) (maxL := 1) (ret := none) (by decide +kernel) rfl ?_
  intro p e s m args below meth c s₁ B hml hv
  obtain ⟨rfl, hsz, hP, hK, hD0, hZ⟩ := hv
  have hx := B.exec
  have hb := B.bytes
  have hr := B.returns
  have hlocks := B.notSynchronized
  have hts : ∀ w ∈ TG, w.before ([.ref h0] : List Value).toArray s = true := fun w hw => atoms_spec (ws := Cond.code yX12_init cX12_init 1 none :: TG) B.pre w (List.mem_cons_of_mem _ hw)
  have hown : s.vm.findClass RX12 = some m.cls := findClass_of_methodNamed B.named
  have hin : meth.name = "<init>" := (name_of_methodNamed B.named B.method).1
  subst hsz
  have hD := hD0.self (sz := s.heap.size)
  generalize hAe : va_A [(h0, .inr (12, [.null, .null, .null, .null, .null, .null, .int 0, .int 0, .int 0, .int 0, .int 0, .null, .null, .null, .null, .null, .null, .int 0, .null, .null, .null, .int 0, .int 0, .int 0, .null, .null, .null, .null, .null, .null, .null, .int 0, .null, .int 0, .null, .null, .null, .null, .int 0, .null, .null, .null, .int 0, .null, .null, .null, .null, .null, .null, .int 0]))] s.heap.size = A at hD hZ ⊢
  have hA : ∀ q : Nat, s.heap.size ≤ q → A q := fun q h => by rw [← hAe]; exact Or.inr h
  have hS : va_S A s.heap s.heap [] := va_S.rf
  have hl := lv_entry ([.ref h0]) (n := 1) (Nat.le_of_ble_eq_true rfl)
  rw [lg_entry_eq]
  generalize (lg_sl ([.ref h0]) ++ List.replicate (1 - (lg_sl ([.ref h0])).length) Slot.unset).toArray = ls at hl ⊢
  have hl : lv_has ls 1 [(0, .ref h0)] := hl
  obtain ⟨r0, hr0⟩ : ∃ r : va_W, r = [] := ⟨_, rfl⟩
  obtain ⟨f0, hf0⟩ : ∃ f : List Value, f = [.null, .null, .null, .null, .null, .null, .int 0, .int 0, .int 0, .int 0, .int 0, .null, .null, .null, .null, .null, .null, .int 0, .null, .null, .null, .int 0, .int 0, .int 0, .null, .null, .null, .null, .null, .null, .null, .int 0, .null, .int 0, .null, .null, .null, .null, .int 0, .null, .null, .null, .int 0, .null, .null, .null, .null, .null, .null, .int 0] := ⟨_, rfl⟩
  have hL0 : f0.length = 50 := by rw [hf0]; rfl
  replace hP : va_P D vwCl ((h0, .inr (12, f0)) :: r0) s.heap := by rw [hr0, hf0]; exact hP
  replace hD : va_D A ((h0, .inr (12, f0)) :: r0) := by rw [hr0, hf0]; exact hD
  refine lv_aload_n hx hb dX12_init_0 rfl (lv_at hl 0 rfl) ?_
  refine W.objInit hx hb hown (hts (.methodLink RX12 1 objectInit) (tg_6 (List.mem_of_getElem? (i := 184) rfl) rfl)) (hts (.instanceMethod objectInit) (tg_1 (List.mem_of_getElem? (i := 26) rfl) rfl)) (hts (Cond.code objectInit object_method_1_code 1 none) (tg_1 (List.mem_of_getElem? (i := 27) rfl) rfl)) rfl (by rw [hml]; exact hl.1) rfl dX12_init_1 (Nat.le_of_ble_eq_true rfl) (Nat.le_of_ble_eq_true rfl) ?_
  refine W.eq (g2 := F0 m 4 ls []) rfl ?_
  refine lv_aload_n hx hb dX12_init_4 rfl (lv_at hl 0 rfl) ?_
  refine lv_bipush (v := 16) hx hb dX12_init_5 (by decide) ?_
  refine c_newa (atype := .int) (ty := .int) hx hb (hts _ (tg_1 (List.mem_of_getElem? (i := 47) rfl) rfl)) rfl hK hP hD hS hA 0 rfl (fun _ h => h) (a0 := (16, .inl (fun _ => 0))) (fun _ => rfl) (by decide) (N' := 16) (by decide +kernel) (Nat.le_of_ble_eq_true rfl) (Nat.le_of_ble_eq_true rfl) (Nat.le_of_ble_eq_true rfl) dX12_init_7 (fun q1 H hP2 hD2 hS2 => ?_)
  clear hP hD hS
  have hP : va_P D vwCl ((h0, .inr (12, f0)) :: (r0 ++ [(q1, .inl (t.1, 16, .inl (fun _ => 0)))])) H := hP2
  have hD : va_D A ((h0, .inr (12, f0)) :: (r0 ++ [(q1, .inl (t.1, 16, .inl (fun _ => 0)))])) := hD2
  have hS := hS2
  clear hP2 hD2 hS2
  refine W.widen (k := 1) (n := 16) (Nat.le_of_ble_eq_true rfl) (Nat.le_of_ble_eq_true rfl) ?_
  refine lv_dup hx hb dX12_init_9 rfl ?_
  refine lv_iconst (v := 0) hx hb dX12_init_10 (by decide) ?_
  refine lv_iconst (v := 0) hx hb dX12_init_11 (by decide) ?_
  refine va_iast hx hb hK hP hD hS (r0.length + 1) 0 (e_at _ _ _) rfl (vin_in (by decide +kernel)) dX12_init_12 (fun H locs hP2 hD2 hS2 => ?_)
  rw [e_set] at hP2 hD2
  clear hP hD hS
  have hP : va_P D vwCl ((h0, .inr (12, f0)) :: (r0 ++ [(q1, .inl (t.1, 16, .inl (upd (fun _ => 0) (0 : Int32).toNatClampNeg 0)))])) H := hP2
  have hD : va_D A ((h0, .inr (12, f0)) :: (r0 ++ [(q1, .inl (t.1, 16, .inl (upd (fun _ => 0) (0 : Int32).toNatClampNeg 0)))])) := hD2
  have hS := hS2
  clear hP2 hD2 hS2
  refine lv_dup hx hb dX12_init_13 rfl ?_
  refine lv_iconst (v := 1) hx hb dX12_init_14 (by decide) ?_
  refine lv_iconst (v := 0) hx hb dX12_init_15 (by decide) ?_
  refine va_iast hx hb hK hP hD hS (r0.length + 1) 0 (e_at _ _ _) rfl (vin_in (by decide +kernel)) dX12_init_16 (fun H locs hP2 hD2 hS2 => ?_)
  rw [e_set] at hP2 hD2
  clear hP hD hS
  have hP : va_P D vwCl ((h0, .inr (12, f0)) :: (r0 ++ [(q1, .inl (t.1, 16, .inl (upd (upd (fun _ => 0) (0 : Int32).toNatClampNeg 0) (1 : Int32).toNatClampNeg 0)))])) H := hP2
  have hD : va_D A ((h0, .inr (12, f0)) :: (r0 ++ [(q1, .inl (t.1, 16, .inl (upd (upd (fun _ => 0) (0 : Int32).toNatClampNeg 0) (1 : Int32).toNatClampNeg 0)))])) := hD2
  have hS := hS2
  clear hP2 hD2 hS2
  refine lv_dup hx hb dX12_init_17 rfl ?_
  refine lv_iconst (v := 2) hx hb dX12_init_18 (by decide) ?_
  refine lv_bipush (v := 10) hx hb dX12_init_19 (by decide) ?_
  refine va_iast hx hb hK hP hD hS (r0.length + 1) 0 (e_at _ _ _) rfl (vin_in (by decide +kernel)) dX12_init_21 (fun H locs hP2 hD2 hS2 => ?_)
  rw [e_set] at hP2 hD2
  clear hP hD hS
  have hP : va_P D vwCl ((h0, .inr (12, f0)) :: (r0 ++ [(q1, .inl (t.1, 16, .inl (upd (upd (upd (fun _ => 0) (0 : Int32).toNatClampNeg 0) (1 : Int32).toNatClampNeg 0) (2 : Int32).toNatClampNeg 10)))])) H := hP2
  have hD : va_D A ((h0, .inr (12, f0)) :: (r0 ++ [(q1, .inl (t.1, 16, .inl (upd (upd (upd (fun _ => 0) (0 : Int32).toNatClampNeg 0) (1 : Int32).toNatClampNeg 0) (2 : Int32).toNatClampNeg 10)))])) := hD2
  have hS := hS2
  clear hP2 hD2 hS2
  refine lv_dup hx hb dX12_init_22 rfl ?_
  refine lv_iconst (v := 3) hx hb dX12_init_23 (by decide) ?_
  refine lv_bipush (v := 20) hx hb dX12_init_24 (by decide) ?_
  refine va_iast hx hb hK hP hD hS (r0.length + 1) 0 (e_at _ _ _) rfl (vin_in (by decide +kernel)) dX12_init_26 (fun H locs hP2 hD2 hS2 => ?_)
  rw [e_set] at hP2 hD2
  clear hP hD hS
  have hP : va_P D vwCl ((h0, .inr (12, f0)) :: (r0 ++ [(q1, .inl (t.1, 16, .inl (upd (upd (upd (upd (fun _ => 0) (0 : Int32).toNatClampNeg 0) (1 : Int32).toNatClampNeg 0) (2 : Int32).toNatClampNeg 10) (3 : Int32).toNatClampNeg 20)))])) H := hP2
  have hD : va_D A ((h0, .inr (12, f0)) :: (r0 ++ [(q1, .inl (t.1, 16, .inl (upd (upd (upd (upd (fun _ => 0) (0 : Int32).toNatClampNeg 0) (1 : Int32).toNatClampNeg 0) (2 : Int32).toNatClampNeg 10) (3 : Int32).toNatClampNeg 20)))])) := hD2
  have hS := hS2
  clear hP2 hD2 hS2
  refine lv_dup hx hb dX12_init_27 rfl ?_
  refine lv_iconst (v := 4) hx hb dX12_init_28 (by decide) ?_
  refine lv_iconst (v := 4) hx hb dX12_init_29 (by decide) ?_
  refine va_iast hx hb hK hP hD hS (r0.length + 1) 0 (e_at _ _ _) rfl (vin_in (by decide +kernel)) dX12_init_30 (fun H locs hP2 hD2 hS2 => ?_)
  rw [e_set] at hP2 hD2
  clear hP hD hS
  have hP : va_P D vwCl ((h0, .inr (12, f0)) :: (r0 ++ [(q1, .inl (t.1, 16, .inl (upd (upd (upd (upd (upd (fun _ => 0) (0 : Int32).toNatClampNeg 0) (1 : Int32).toNatClampNeg 0) (2 : Int32).toNatClampNeg 10) (3 : Int32).toNatClampNeg 20) (4 : Int32).toNatClampNeg 4)))])) H := hP2
  have hD : va_D A ((h0, .inr (12, f0)) :: (r0 ++ [(q1, .inl (t.1, 16, .inl (upd (upd (upd (upd (upd (fun _ => 0) (0 : Int32).toNatClampNeg 0) (1 : Int32).toNatClampNeg 0) (2 : Int32).toNatClampNeg 10) (3 : Int32).toNatClampNeg 20) (4 : Int32).toNatClampNeg 4)))])) := hD2
  have hS := hS2
  clear hP2 hD2 hS2
  refine lv_dup hx hb dX12_init_31 rfl ?_
  refine lv_iconst (v := 5) hx hb dX12_init_32 (by decide) ?_
  refine lv_bipush (v := 24) hx hb dX12_init_33 (by decide) ?_
  refine va_iast hx hb hK hP hD hS (r0.length + 1) 0 (e_at _ _ _) rfl (vin_in (by decide +kernel)) dX12_init_35 (fun H locs hP2 hD2 hS2 => ?_)
  rw [e_set] at hP2 hD2
  clear hP hD hS
  have hP : va_P D vwCl ((h0, .inr (12, f0)) :: (r0 ++ [(q1, .inl (t.1, 16, .inl (upd (upd (upd (upd (upd (upd (fun _ => 0) (0 : Int32).toNatClampNeg 0) (1 : Int32).toNatClampNeg 0) (2 : Int32).toNatClampNeg 10) (3 : Int32).toNatClampNeg 20) (4 : Int32).toNatClampNeg 4) (5 : Int32).toNatClampNeg 24)))])) H := hP2
  have hD : va_D A ((h0, .inr (12, f0)) :: (r0 ++ [(q1, .inl (t.1, 16, .inl (upd (upd (upd (upd (upd (upd (fun _ => 0) (0 : Int32).toNatClampNeg 0) (1 : Int32).toNatClampNeg 0) (2 : Int32).toNatClampNeg 10) (3 : Int32).toNatClampNeg 20) (4 : Int32).toNatClampNeg 4) (5 : Int32).toNatClampNeg 24)))])) := hD2
  have hS := hS2
  clear hP2 hD2 hS2
  refine lv_dup hx hb dX12_init_36 rfl ?_
  refine lv_bipush (v := 6) hx hb dX12_init_37 (by decide) ?_
  refine lv_sipush (v := 400) hx hb dX12_init_39 (by decide) ?_
  refine va_iast hx hb hK hP hD hS (r0.length + 1) 0 (e_at _ _ _) rfl (vin_in (by decide +kernel)) dX12_init_42 (fun H locs hP2 hD2 hS2 => ?_)
  rw [e_set] at hP2 hD2
  clear hP hD hS
  have hP : va_P D vwCl ((h0, .inr (12, f0)) :: (r0 ++ [(q1, .inl (t.1, 16, .inl (upd (upd (upd (upd (upd (upd (upd (fun _ => 0) (0 : Int32).toNatClampNeg 0) (1 : Int32).toNatClampNeg 0) (2 : Int32).toNatClampNeg 10) (3 : Int32).toNatClampNeg 20) (4 : Int32).toNatClampNeg 4) (5 : Int32).toNatClampNeg 24) (6 : Int32).toNatClampNeg 400)))])) H := hP2
  have hD : va_D A ((h0, .inr (12, f0)) :: (r0 ++ [(q1, .inl (t.1, 16, .inl (upd (upd (upd (upd (upd (upd (upd (fun _ => 0) (0 : Int32).toNatClampNeg 0) (1 : Int32).toNatClampNeg 0) (2 : Int32).toNatClampNeg 10) (3 : Int32).toNatClampNeg 20) (4 : Int32).toNatClampNeg 4) (5 : Int32).toNatClampNeg 24) (6 : Int32).toNatClampNeg 400)))])) := hD2
  have hS := hS2
  clear hP2 hD2 hS2
  refine lv_dup hx hb dX12_init_43 rfl ?_
  refine lv_bipush (v := 7) hx hb dX12_init_44 (by decide) ?_
  refine lv_iconst (v := 3) hx hb dX12_init_46 (by decide) ?_
  refine va_iast hx hb hK hP hD hS (r0.length + 1) 0 (e_at _ _ _) rfl (vin_in (by decide +kernel)) dX12_init_47 (fun H locs hP2 hD2 hS2 => ?_)
  rw [e_set] at hP2 hD2
  clear hP hD hS
  have hP : va_P D vwCl ((h0, .inr (12, f0)) :: (r0 ++ [(q1, .inl (t.1, 16, .inl (upd (upd (upd (upd (upd (upd (upd (upd (fun _ => 0) (0 : Int32).toNatClampNeg 0) (1 : Int32).toNatClampNeg 0) (2 : Int32).toNatClampNeg 10) (3 : Int32).toNatClampNeg 20) (4 : Int32).toNatClampNeg 4) (5 : Int32).toNatClampNeg 24) (6 : Int32).toNatClampNeg 400) (7 : Int32).toNatClampNeg 3)))])) H := hP2
  have hD : va_D A ((h0, .inr (12, f0)) :: (r0 ++ [(q1, .inl (t.1, 16, .inl (upd (upd (upd (upd (upd (upd (upd (upd (fun _ => 0) (0 : Int32).toNatClampNeg 0) (1 : Int32).toNatClampNeg 0) (2 : Int32).toNatClampNeg 10) (3 : Int32).toNatClampNeg 20) (4 : Int32).toNatClampNeg 4) (5 : Int32).toNatClampNeg 24) (6 : Int32).toNatClampNeg 400) (7 : Int32).toNatClampNeg 3)))])) := hD2
  have hS := hS2
  clear hP2 hD2 hS2
  refine lv_dup hx hb dX12_init_48 rfl ?_
  refine lv_bipush (v := 8) hx hb dX12_init_49 (by decide) ?_
  refine lv_iconst (v := 4) hx hb dX12_init_51 (by decide) ?_
  refine va_iast hx hb hK hP hD hS (r0.length + 1) 0 (e_at _ _ _) rfl (vin_in (by decide +kernel)) dX12_init_52 (fun H locs hP2 hD2 hS2 => ?_)
  rw [e_set] at hP2 hD2
  clear hP hD hS
  have hP : va_P D vwCl ((h0, .inr (12, f0)) :: (r0 ++ [(q1, .inl (t.1, 16, .inl (upd (upd (upd (upd (upd (upd (upd (upd (upd (fun _ => 0) (0 : Int32).toNatClampNeg 0) (1 : Int32).toNatClampNeg 0) (2 : Int32).toNatClampNeg 10) (3 : Int32).toNatClampNeg 20) (4 : Int32).toNatClampNeg 4) (5 : Int32).toNatClampNeg 24) (6 : Int32).toNatClampNeg 400) (7 : Int32).toNatClampNeg 3) (8 : Int32).toNatClampNeg 4)))])) H := hP2
  have hD : va_D A ((h0, .inr (12, f0)) :: (r0 ++ [(q1, .inl (t.1, 16, .inl (upd (upd (upd (upd (upd (upd (upd (upd (upd (fun _ => 0) (0 : Int32).toNatClampNeg 0) (1 : Int32).toNatClampNeg 0) (2 : Int32).toNatClampNeg 10) (3 : Int32).toNatClampNeg 20) (4 : Int32).toNatClampNeg 4) (5 : Int32).toNatClampNeg 24) (6 : Int32).toNatClampNeg 400) (7 : Int32).toNatClampNeg 3) (8 : Int32).toNatClampNeg 4)))])) := hD2
  have hS := hS2
  clear hP2 hD2 hS2
  refine lv_dup hx hb dX12_init_53 rfl ?_
  refine lv_bipush (v := 9) hx hb dX12_init_54 (by decide) ?_
  refine lv_sipush (v := 500) hx hb dX12_init_56 (by decide) ?_
  refine va_iast hx hb hK hP hD hS (r0.length + 1) 0 (e_at _ _ _) rfl (vin_in (by decide +kernel)) dX12_init_59 (fun H locs hP2 hD2 hS2 => ?_)
  rw [e_set] at hP2 hD2
  clear hP hD hS
  have hP : va_P D vwCl ((h0, .inr (12, f0)) :: (r0 ++ [(q1, .inl (t.1, 16, .inl (upd (upd (upd (upd (upd (upd (upd (upd (upd (upd (fun _ => 0) (0 : Int32).toNatClampNeg 0) (1 : Int32).toNatClampNeg 0) (2 : Int32).toNatClampNeg 10) (3 : Int32).toNatClampNeg 20) (4 : Int32).toNatClampNeg 4) (5 : Int32).toNatClampNeg 24) (6 : Int32).toNatClampNeg 400) (7 : Int32).toNatClampNeg 3) (8 : Int32).toNatClampNeg 4) (9 : Int32).toNatClampNeg 500)))])) H := hP2
  have hD : va_D A ((h0, .inr (12, f0)) :: (r0 ++ [(q1, .inl (t.1, 16, .inl (upd (upd (upd (upd (upd (upd (upd (upd (upd (upd (fun _ => 0) (0 : Int32).toNatClampNeg 0) (1 : Int32).toNatClampNeg 0) (2 : Int32).toNatClampNeg 10) (3 : Int32).toNatClampNeg 20) (4 : Int32).toNatClampNeg 4) (5 : Int32).toNatClampNeg 24) (6 : Int32).toNatClampNeg 400) (7 : Int32).toNatClampNeg 3) (8 : Int32).toNatClampNeg 4) (9 : Int32).toNatClampNeg 500)))])) := hD2
  have hS := hS2
  clear hP2 hD2 hS2
  refine lv_dup hx hb dX12_init_60 rfl ?_
  refine lv_bipush (v := 10) hx hb dX12_init_61 (by decide) ?_
  refine lv_bipush (v := 10) hx hb dX12_init_63 (by decide) ?_
  refine va_iast hx hb hK hP hD hS (r0.length + 1) 0 (e_at _ _ _) rfl (vin_in (by decide +kernel)) dX12_init_65 (fun H locs hP2 hD2 hS2 => ?_)
  rw [e_set] at hP2 hD2
  clear hP hD hS
  have hP : va_P D vwCl ((h0, .inr (12, f0)) :: (r0 ++ [(q1, .inl (t.1, 16, .inl (upd (upd (upd (upd (upd (upd (upd (upd (upd (upd (upd (fun _ => 0) (0 : Int32).toNatClampNeg 0) (1 : Int32).toNatClampNeg 0) (2 : Int32).toNatClampNeg 10) (3 : Int32).toNatClampNeg 20) (4 : Int32).toNatClampNeg 4) (5 : Int32).toNatClampNeg 24) (6 : Int32).toNatClampNeg 400) (7 : Int32).toNatClampNeg 3) (8 : Int32).toNatClampNeg 4) (9 : Int32).toNatClampNeg 500) (10 : Int32).toNatClampNeg 10)))])) H := hP2
  have hD : va_D A ((h0, .inr (12, f0)) :: (r0 ++ [(q1, .inl (t.1, 16, .inl (upd (upd (upd (upd (upd (upd (upd (upd (upd (upd (upd (fun _ => 0) (0 : Int32).toNatClampNeg 0) (1 : Int32).toNatClampNeg 0) (2 : Int32).toNatClampNeg 10) (3 : Int32).toNatClampNeg 20) (4 : Int32).toNatClampNeg 4) (5 : Int32).toNatClampNeg 24) (6 : Int32).toNatClampNeg 400) (7 : Int32).toNatClampNeg 3) (8 : Int32).toNatClampNeg 4) (9 : Int32).toNatClampNeg 500) (10 : Int32).toNatClampNeg 10)))])) := hD2
  have hS := hS2
  clear hP2 hD2 hS2
  refine lv_dup hx hb dX12_init_66 rfl ?_
  refine lv_bipush (v := 11) hx hb dX12_init_67 (by decide) ?_
  refine lv_sipush (v := 150) hx hb dX12_init_69 (by decide) ?_
  refine va_iast hx hb hK hP hD hS (r0.length + 1) 0 (e_at _ _ _) rfl (vin_in (by decide +kernel)) dX12_init_72 (fun H locs hP2 hD2 hS2 => ?_)
  rw [e_set] at hP2 hD2
  clear hP hD hS
  have hP : va_P D vwCl ((h0, .inr (12, f0)) :: (r0 ++ [(q1, .inl (t.1, 16, .inl (upd (upd (upd (upd (upd (upd (upd (upd (upd (upd (upd (upd (fun _ => 0) (0 : Int32).toNatClampNeg 0) (1 : Int32).toNatClampNeg 0) (2 : Int32).toNatClampNeg 10) (3 : Int32).toNatClampNeg 20) (4 : Int32).toNatClampNeg 4) (5 : Int32).toNatClampNeg 24) (6 : Int32).toNatClampNeg 400) (7 : Int32).toNatClampNeg 3) (8 : Int32).toNatClampNeg 4) (9 : Int32).toNatClampNeg 500) (10 : Int32).toNatClampNeg 10) (11 : Int32).toNatClampNeg 150)))])) H := hP2
  have hD : va_D A ((h0, .inr (12, f0)) :: (r0 ++ [(q1, .inl (t.1, 16, .inl (upd (upd (upd (upd (upd (upd (upd (upd (upd (upd (upd (upd (fun _ => 0) (0 : Int32).toNatClampNeg 0) (1 : Int32).toNatClampNeg 0) (2 : Int32).toNatClampNeg 10) (3 : Int32).toNatClampNeg 20) (4 : Int32).toNatClampNeg 4) (5 : Int32).toNatClampNeg 24) (6 : Int32).toNatClampNeg 400) (7 : Int32).toNatClampNeg 3) (8 : Int32).toNatClampNeg 4) (9 : Int32).toNatClampNeg 500) (10 : Int32).toNatClampNeg 10) (11 : Int32).toNatClampNeg 150)))])) := hD2
  have hS := hS2
  clear hP2 hD2 hS2
  refine lv_dup hx hb dX12_init_73 rfl ?_
  refine lv_bipush (v := 12) hx hb dX12_init_74 (by decide) ?_
  refine lv_sipush (v := 200) hx hb dX12_init_76 (by decide) ?_
  refine va_iast hx hb hK hP hD hS (r0.length + 1) 0 (e_at _ _ _) rfl (vin_in (by decide +kernel)) dX12_init_79 (fun H locs hP2 hD2 hS2 => ?_)
  rw [e_set] at hP2 hD2
  clear hP hD hS
  have hP : va_P D vwCl ((h0, .inr (12, f0)) :: (r0 ++ [(q1, .inl (t.1, 16, .inl (upd (upd (upd (upd (upd (upd (upd (upd (upd (upd (upd (upd (upd (fun _ => 0) (0 : Int32).toNatClampNeg 0) (1 : Int32).toNatClampNeg 0) (2 : Int32).toNatClampNeg 10) (3 : Int32).toNatClampNeg 20) (4 : Int32).toNatClampNeg 4) (5 : Int32).toNatClampNeg 24) (6 : Int32).toNatClampNeg 400) (7 : Int32).toNatClampNeg 3) (8 : Int32).toNatClampNeg 4) (9 : Int32).toNatClampNeg 500) (10 : Int32).toNatClampNeg 10) (11 : Int32).toNatClampNeg 150) (12 : Int32).toNatClampNeg 200)))])) H := hP2
  have hD : va_D A ((h0, .inr (12, f0)) :: (r0 ++ [(q1, .inl (t.1, 16, .inl (upd (upd (upd (upd (upd (upd (upd (upd (upd (upd (upd (upd (upd (fun _ => 0) (0 : Int32).toNatClampNeg 0) (1 : Int32).toNatClampNeg 0) (2 : Int32).toNatClampNeg 10) (3 : Int32).toNatClampNeg 20) (4 : Int32).toNatClampNeg 4) (5 : Int32).toNatClampNeg 24) (6 : Int32).toNatClampNeg 400) (7 : Int32).toNatClampNeg 3) (8 : Int32).toNatClampNeg 4) (9 : Int32).toNatClampNeg 500) (10 : Int32).toNatClampNeg 10) (11 : Int32).toNatClampNeg 150) (12 : Int32).toNatClampNeg 200)))])) := hD2
  have hS := hS2
  clear hP2 hD2 hS2
  refine lv_dup hx hb dX12_init_80 rfl ?_
  refine lv_bipush (v := 13) hx hb dX12_init_81 (by decide) ?_
  refine lv_iconst (v := 3) hx hb dX12_init_83 (by decide) ?_
  refine va_iast hx hb hK hP hD hS (r0.length + 1) 0 (e_at _ _ _) rfl (vin_in (by decide +kernel)) dX12_init_84 (fun H locs hP2 hD2 hS2 => ?_)
  rw [e_set] at hP2 hD2
  clear hP hD hS
  have hP : va_P D vwCl ((h0, .inr (12, f0)) :: (r0 ++ [(q1, .inl (t.1, 16, .inl (upd (upd (upd (upd (upd (upd (upd (upd (upd (upd (upd (upd (upd (upd (fun _ => 0) (0 : Int32).toNatClampNeg 0) (1 : Int32).toNatClampNeg 0) (2 : Int32).toNatClampNeg 10) (3 : Int32).toNatClampNeg 20) (4 : Int32).toNatClampNeg 4) (5 : Int32).toNatClampNeg 24) (6 : Int32).toNatClampNeg 400) (7 : Int32).toNatClampNeg 3) (8 : Int32).toNatClampNeg 4) (9 : Int32).toNatClampNeg 500) (10 : Int32).toNatClampNeg 10) (11 : Int32).toNatClampNeg 150) (12 : Int32).toNatClampNeg 200) (13 : Int32).toNatClampNeg 3)))])) H := hP2
  have hD : va_D A ((h0, .inr (12, f0)) :: (r0 ++ [(q1, .inl (t.1, 16, .inl (upd (upd (upd (upd (upd (upd (upd (upd (upd (upd (upd (upd (upd (upd (fun _ => 0) (0 : Int32).toNatClampNeg 0) (1 : Int32).toNatClampNeg 0) (2 : Int32).toNatClampNeg 10) (3 : Int32).toNatClampNeg 20) (4 : Int32).toNatClampNeg 4) (5 : Int32).toNatClampNeg 24) (6 : Int32).toNatClampNeg 400) (7 : Int32).toNatClampNeg 3) (8 : Int32).toNatClampNeg 4) (9 : Int32).toNatClampNeg 500) (10 : Int32).toNatClampNeg 10) (11 : Int32).toNatClampNeg 150) (12 : Int32).toNatClampNeg 200) (13 : Int32).toNatClampNeg 3)))])) := hD2
  have hS := hS2
  clear hP2 hD2 hS2
  refine lv_dup hx hb dX12_init_85 rfl ?_
  refine lv_bipush (v := 14) hx hb dX12_init_86 (by decide) ?_
  refine lv_iconst (v := 0) hx hb dX12_init_88 (by decide) ?_
  refine va_iast hx hb hK hP hD hS (r0.length + 1) 0 (e_at _ _ _) rfl (vin_in (by decide +kernel)) dX12_init_89 (fun H locs hP2 hD2 hS2 => ?_)
  rw [e_set] at hP2 hD2
  clear hP hD hS
  have hP : va_P D vwCl ((h0, .inr (12, f0)) :: (r0 ++ [(q1, .inl (t.1, 16, .inl (upd (upd (upd (upd (upd (upd (upd (upd (upd (upd (upd (upd (upd (upd (upd (fun _ => 0) (0 : Int32).toNatClampNeg 0) (1 : Int32).toNatClampNeg 0) (2 : Int32).toNatClampNeg 10) (3 : Int32).toNatClampNeg 20) (4 : Int32).toNatClampNeg 4) (5 : Int32).toNatClampNeg 24) (6 : Int32).toNatClampNeg 400) (7 : Int32).toNatClampNeg 3) (8 : Int32).toNatClampNeg 4) (9 : Int32).toNatClampNeg 500) (10 : Int32).toNatClampNeg 10) (11 : Int32).toNatClampNeg 150) (12 : Int32).toNatClampNeg 200) (13 : Int32).toNatClampNeg 3) (14 : Int32).toNatClampNeg 0)))])) H := hP2
  have hD : va_D A ((h0, .inr (12, f0)) :: (r0 ++ [(q1, .inl (t.1, 16, .inl (upd (upd (upd (upd (upd (upd (upd (upd (upd (upd (upd (upd (upd (upd (upd (fun _ => 0) (0 : Int32).toNatClampNeg 0) (1 : Int32).toNatClampNeg 0) (2 : Int32).toNatClampNeg 10) (3 : Int32).toNatClampNeg 20) (4 : Int32).toNatClampNeg 4) (5 : Int32).toNatClampNeg 24) (6 : Int32).toNatClampNeg 400) (7 : Int32).toNatClampNeg 3) (8 : Int32).toNatClampNeg 4) (9 : Int32).toNatClampNeg 500) (10 : Int32).toNatClampNeg 10) (11 : Int32).toNatClampNeg 150) (12 : Int32).toNatClampNeg 200) (13 : Int32).toNatClampNeg 3) (14 : Int32).toNatClampNeg 0)))])) := hD2
  have hS := hS2
  clear hP2 hD2 hS2
  refine lv_dup hx hb dX12_init_90 rfl ?_
  refine lv_bipush (v := 15) hx hb dX12_init_91 (by decide) ?_
  refine lv_bipush (v := 60) hx hb dX12_init_93 (by decide) ?_
  refine va_iast hx hb hK hP hD hS (r0.length + 1) 0 (e_at _ _ _) rfl (vin_in (by decide +kernel)) dX12_init_95 (fun H locs hP2 hD2 hS2 => ?_)
  rw [e_set] at hP2 hD2
  clear hP hD hS
  have hP : va_P D vwCl ((h0, .inr (12, f0)) :: (r0 ++ [(q1, .inl (t.1, 16, .inl (upd (upd (upd (upd (upd (upd (upd (upd (upd (upd (upd (upd (upd (upd (upd (upd (fun _ => 0) (0 : Int32).toNatClampNeg 0) (1 : Int32).toNatClampNeg 0) (2 : Int32).toNatClampNeg 10) (3 : Int32).toNatClampNeg 20) (4 : Int32).toNatClampNeg 4) (5 : Int32).toNatClampNeg 24) (6 : Int32).toNatClampNeg 400) (7 : Int32).toNatClampNeg 3) (8 : Int32).toNatClampNeg 4) (9 : Int32).toNatClampNeg 500) (10 : Int32).toNatClampNeg 10) (11 : Int32).toNatClampNeg 150) (12 : Int32).toNatClampNeg 200) (13 : Int32).toNatClampNeg 3) (14 : Int32).toNatClampNeg 0) (15 : Int32).toNatClampNeg 60)))])) H := hP2
  have hD : va_D A ((h0, .inr (12, f0)) :: (r0 ++ [(q1, .inl (t.1, 16, .inl (upd (upd (upd (upd (upd (upd (upd (upd (upd (upd (upd (upd (upd (upd (upd (upd (fun _ => 0) (0 : Int32).toNatClampNeg 0) (1 : Int32).toNatClampNeg 0) (2 : Int32).toNatClampNeg 10) (3 : Int32).toNatClampNeg 20) (4 : Int32).toNatClampNeg 4) (5 : Int32).toNatClampNeg 24) (6 : Int32).toNatClampNeg 400) (7 : Int32).toNatClampNeg 3) (8 : Int32).toNatClampNeg 4) (9 : Int32).toNatClampNeg 500) (10 : Int32).toNatClampNeg 10) (11 : Int32).toNatClampNeg 150) (12 : Int32).toNatClampNeg 200) (13 : Int32).toNatClampNeg 3) (14 : Int32).toNatClampNeg 0) (15 : Int32).toNatClampNeg 60)))])) := hD2
  have hS := hS2
  clear hP2 hD2 hS2
  rw [up_u_first] at hP hD
  replace hP : va_P D vwCl ((h0, .inr (12, f0)) :: (r0 ++ [(q1, .inl (t.1, 16, .inl u_first))])) H := hP
  replace hD : va_D A ((h0, .inr (12, f0)) :: (r0 ++ [(q1, .inl (t.1, 16, .inl u_first))])) := hD
  refine va_putF (D := D) (ci := 12) (v := .ref q1) (C := RX12) (T := TX12) (N := 50) hx hb hts in_X12 tyX12 tyX12_ok nmX12 hown hK hP hD hS 0 rfl rfl 0 (by decide) (hts _ fl_X12_7) (fun _ h9 => h9) rfl hin rfl (ty := tyX12 0) (tyX12_ok 0 (by decide)) rfl rfl (by rw [hL0]; decide) dX12_init_96 (fun H locs hP2 hD2 hS2 => ?_)
  obtain ⟨f1, hf1⟩ : ∃ f : List Value, f = f0.set 0 (.ref q1) := ⟨_, rfl⟩
  have hL1 : f1.length = 50 := by rw [hf1, List.length_set, hL0]
  clear hP hD hS hL0
  have hP : va_P D vwCl ((h0, .inr (12, f1)) :: (r0 ++ [(q1, .inl (t.1, 16, .inl u_first))])) H := by rw [hf1]; exact hP2
  have hD : va_D A ((h0, .inr (12, f1)) :: (r0 ++ [(q1, .inl (t.1, 16, .inl u_first))])) := by rw [hf1]; exact hD2
  have hS := hS2
  clear hP2 hD2 hS2
  obtain ⟨r1, hr1⟩ : ∃ r : va_W, r = r0 ++ [(q1, .inl (t.1, 16, .inl u_first))] := ⟨_, rfl⟩
  replace hP : va_P D vwCl ((h0, .inr (12, f1)) :: r1) H := by rw [hr1]; exact hP
  replace hD : va_D A ((h0, .inr (12, f1)) :: r1) := by rw [hr1]; exact hD
  refine lv_aload_n hx hb dX12_init_99 rfl (lv_at hl 0 rfl) ?_
  refine lv_bipush (v := 16) hx hb dX12_init_100 (by decide) ?_
  refine c_newa (atype := .int) (ty := .int) hx hb (hts _ (tg_1 (List.mem_of_getElem? (i := 47) rfl) rfl)) rfl hK hP hD hS hA 0 rfl (fun _ h => h) (a0 := (16, .inl (fun _ => 0))) (fun _ => rfl) (by decide) (N' := 16) (by decide +kernel) (Nat.le_of_ble_eq_true rfl) (Nat.le_of_ble_eq_true rfl) (Nat.le_of_ble_eq_true rfl) dX12_init_102 (fun q2 H hP2 hD2 hS2 => ?_)
  clear hP hD hS
  have hP : va_P D vwCl ((h0, .inr (12, f1)) :: (r1 ++ [(q2, .inl (t.1, 16, .inl (fun _ => 0)))])) H := hP2
  have hD : va_D A ((h0, .inr (12, f1)) :: (r1 ++ [(q2, .inl (t.1, 16, .inl (fun _ => 0)))])) := hD2
  have hS := hS2
  clear hP2 hD2 hS2
  refine W.widen (k := 2) (n := 32) (Nat.le_of_ble_eq_true rfl) (Nat.le_of_ble_eq_true rfl) ?_
  refine lv_dup hx hb dX12_init_104 rfl ?_
  refine lv_iconst (v := 0) hx hb dX12_init_105 (by decide) ?_
  refine lv_iconst (v := 0) hx hb dX12_init_106 (by decide) ?_
  refine va_iast hx hb hK hP hD hS (r1.length + 1) 0 (e_at _ _ _) rfl (vin_in (by decide +kernel)) dX12_init_107 (fun H locs hP2 hD2 hS2 => ?_)
  rw [e_set] at hP2 hD2
  clear hP hD hS
  have hP : va_P D vwCl ((h0, .inr (12, f1)) :: (r1 ++ [(q2, .inl (t.1, 16, .inl (upd (fun _ => 0) (0 : Int32).toNatClampNeg 0)))])) H := hP2
  have hD : va_D A ((h0, .inr (12, f1)) :: (r1 ++ [(q2, .inl (t.1, 16, .inl (upd (fun _ => 0) (0 : Int32).toNatClampNeg 0)))])) := hD2
  have hS := hS2
  clear hP2 hD2 hS2
  refine lv_dup hx hb dX12_init_108 rfl ?_
  refine lv_iconst (v := 1) hx hb dX12_init_109 (by decide) ?_
  refine lv_iconst (v := 0) hx hb dX12_init_110 (by decide) ?_
  refine va_iast hx hb hK hP hD hS (r1.length + 1) 0 (e_at _ _ _) rfl (vin_in (by decide +kernel)) dX12_init_111 (fun H locs hP2 hD2 hS2 => ?_)
  rw [e_set] at hP2 hD2
  clear hP hD hS
  have hP : va_P D vwCl ((h0, .inr (12, f1)) :: (r1 ++ [(q2, .inl (t.1, 16, .inl (upd (upd (fun _ => 0) (0 : Int32).toNatClampNeg 0) (1 : Int32).toNatClampNeg 0)))])) H := hP2
  have hD : va_D A ((h0, .inr (12, f1)) :: (r1 ++ [(q2, .inl (t.1, 16, .inl (upd (upd (fun _ => 0) (0 : Int32).toNatClampNeg 0) (1 : Int32).toNatClampNeg 0)))])) := hD2
  have hS := hS2
  clear hP2 hD2 hS2
  refine lv_dup hx hb dX12_init_112 rfl ?_
  refine lv_iconst (v := 2) hx hb dX12_init_113 (by decide) ?_
  refine lv_bipush (v := 8) hx hb dX12_init_114 (by decide) ?_
  refine va_iast hx hb hK hP hD hS (r1.length + 1) 0 (e_at _ _ _) rfl (vin_in (by decide +kernel)) dX12_init_116 (fun H locs hP2 hD2 hS2 => ?_)
  rw [e_set] at hP2 hD2
  clear hP hD hS
  have hP : va_P D vwCl ((h0, .inr (12, f1)) :: (r1 ++ [(q2, .inl (t.1, 16, .inl (upd (upd (upd (fun _ => 0) (0 : Int32).toNatClampNeg 0) (1 : Int32).toNatClampNeg 0) (2 : Int32).toNatClampNeg 8)))])) H := hP2
  have hD : va_D A ((h0, .inr (12, f1)) :: (r1 ++ [(q2, .inl (t.1, 16, .inl (upd (upd (upd (fun _ => 0) (0 : Int32).toNatClampNeg 0) (1 : Int32).toNatClampNeg 0) (2 : Int32).toNatClampNeg 8)))])) := hD2
  have hS := hS2
  clear hP2 hD2 hS2
  refine lv_dup hx hb dX12_init_117 rfl ?_
  refine lv_iconst (v := 3) hx hb dX12_init_118 (by decide) ?_
  refine lv_iconst (v := 4) hx hb dX12_init_119 (by decide) ?_
  refine va_iast hx hb hK hP hD hS (r1.length + 1) 0 (e_at _ _ _) rfl (vin_in (by decide +kernel)) dX12_init_120 (fun H locs hP2 hD2 hS2 => ?_)
  rw [e_set] at hP2 hD2
  clear hP hD hS
  have hP : va_P D vwCl ((h0, .inr (12, f1)) :: (r1 ++ [(q2, .inl (t.1, 16, .inl (upd (upd (upd (upd (fun _ => 0) (0 : Int32).toNatClampNeg 0) (1 : Int32).toNatClampNeg 0) (2 : Int32).toNatClampNeg 8) (3 : Int32).toNatClampNeg 4)))])) H := hP2
  have hD : va_D A ((h0, .inr (12, f1)) :: (r1 ++ [(q2, .inl (t.1, 16, .inl (upd (upd (upd (upd (fun _ => 0) (0 : Int32).toNatClampNeg 0) (1 : Int32).toNatClampNeg 0) (2 : Int32).toNatClampNeg 8) (3 : Int32).toNatClampNeg 4)))])) := hD2
  have hS := hS2
  clear hP2 hD2 hS2
  refine lv_dup hx hb dX12_init_121 rfl ?_
  refine lv_iconst (v := 4) hx hb dX12_init_122 (by decide) ?_
  refine lv_iconst (v := 2) hx hb dX12_init_123 (by decide) ?_
  refine va_iast hx hb hK hP hD hS (r1.length + 1) 0 (e_at _ _ _) rfl (vin_in (by decide +kernel)) dX12_init_124 (fun H locs hP2 hD2 hS2 => ?_)
  rw [e_set] at hP2 hD2
  clear hP hD hS
  have hP : va_P D vwCl ((h0, .inr (12, f1)) :: (r1 ++ [(q2, .inl (t.1, 16, .inl (upd (upd (upd (upd (upd (fun _ => 0) (0 : Int32).toNatClampNeg 0) (1 : Int32).toNatClampNeg 0) (2 : Int32).toNatClampNeg 8) (3 : Int32).toNatClampNeg 4) (4 : Int32).toNatClampNeg 2)))])) H := hP2
  have hD : va_D A ((h0, .inr (12, f1)) :: (r1 ++ [(q2, .inl (t.1, 16, .inl (upd (upd (upd (upd (upd (fun _ => 0) (0 : Int32).toNatClampNeg 0) (1 : Int32).toNatClampNeg 0) (2 : Int32).toNatClampNeg 8) (3 : Int32).toNatClampNeg 4) (4 : Int32).toNatClampNeg 2)))])) := hD2
  have hS := hS2
  clear hP2 hD2 hS2
  refine lv_dup hx hb dX12_init_125 rfl ?_
  refine lv_iconst (v := 5) hx hb dX12_init_126 (by decide) ?_
  refine lv_iconst (v := 3) hx hb dX12_init_127 (by decide) ?_
  refine va_iast hx hb hK hP hD hS (r1.length + 1) 0 (e_at _ _ _) rfl (vin_in (by decide +kernel)) dX12_init_128 (fun H locs hP2 hD2 hS2 => ?_)
  rw [e_set] at hP2 hD2
  clear hP hD hS
  have hP : va_P D vwCl ((h0, .inr (12, f1)) :: (r1 ++ [(q2, .inl (t.1, 16, .inl (upd (upd (upd (upd (upd (upd (fun _ => 0) (0 : Int32).toNatClampNeg 0) (1 : Int32).toNatClampNeg 0) (2 : Int32).toNatClampNeg 8) (3 : Int32).toNatClampNeg 4) (4 : Int32).toNatClampNeg 2) (5 : Int32).toNatClampNeg 3)))])) H := hP2
  have hD : va_D A ((h0, .inr (12, f1)) :: (r1 ++ [(q2, .inl (t.1, 16, .inl (upd (upd (upd (upd (upd (upd (fun _ => 0) (0 : Int32).toNatClampNeg 0) (1 : Int32).toNatClampNeg 0) (2 : Int32).toNatClampNeg 8) (3 : Int32).toNatClampNeg 4) (4 : Int32).toNatClampNeg 2) (5 : Int32).toNatClampNeg 3)))])) := hD2
  have hS := hS2
  clear hP2 hD2 hS2
  refine lv_dup hx hb dX12_init_129 rfl ?_
  refine lv_bipush (v := 6) hx hb dX12_init_130 (by decide) ?_
  refine lv_iconst (v := 0) hx hb dX12_init_132 (by decide) ?_
  refine va_iast hx hb hK hP hD hS (r1.length + 1) 0 (e_at _ _ _) rfl (vin_in (by decide +kernel)) dX12_init_133 (fun H locs hP2 hD2 hS2 => ?_)
  rw [e_set] at hP2 hD2
  clear hP hD hS
  have hP : va_P D vwCl ((h0, .inr (12, f1)) :: (r1 ++ [(q2, .inl (t.1, 16, .inl (upd (upd (upd (upd (upd (upd (upd (fun _ => 0) (0 : Int32).toNatClampNeg 0) (1 : Int32).toNatClampNeg 0) (2 : Int32).toNatClampNeg 8) (3 : Int32).toNatClampNeg 4) (4 : Int32).toNatClampNeg 2) (5 : Int32).toNatClampNeg 3) (6 : Int32).toNatClampNeg 0)))])) H := hP2
  have hD : va_D A ((h0, .inr (12, f1)) :: (r1 ++ [(q2, .inl (t.1, 16, .inl (upd (upd (upd (upd (upd (upd (upd (fun _ => 0) (0 : Int32).toNatClampNeg 0) (1 : Int32).toNatClampNeg 0) (2 : Int32).toNatClampNeg 8) (3 : Int32).toNatClampNeg 4) (4 : Int32).toNatClampNeg 2) (5 : Int32).toNatClampNeg 3) (6 : Int32).toNatClampNeg 0)))])) := hD2
  have hS := hS2
  clear hP2 hD2 hS2
  refine lv_dup hx hb dX12_init_134 rfl ?_
  refine lv_bipush (v := 7) hx hb dX12_init_135 (by decide) ?_
  refine lv_iconst (v := 1) hx hb dX12_init_137 (by decide) ?_
  refine va_iast hx hb hK hP hD hS (r1.length + 1) 0 (e_at _ _ _) rfl (vin_in (by decide +kernel)) dX12_init_138 (fun H locs hP2 hD2 hS2 => ?_)
  rw [e_set] at hP2 hD2
  clear hP hD hS
  have hP : va_P D vwCl ((h0, .inr (12, f1)) :: (r1 ++ [(q2, .inl (t.1, 16, .inl (upd (upd (upd (upd (upd (upd (upd (upd (fun _ => 0) (0 : Int32).toNatClampNeg 0) (1 : Int32).toNatClampNeg 0) (2 : Int32).toNatClampNeg 8) (3 : Int32).toNatClampNeg 4) (4 : Int32).toNatClampNeg 2) (5 : Int32).toNatClampNeg 3) (6 : Int32).toNatClampNeg 0) (7 : Int32).toNatClampNeg 1)))])) H := hP2
  have hD : va_D A ((h0, .inr (12, f1)) :: (r1 ++ [(q2, .inl (t.1, 16, .inl (upd (upd (upd (upd (upd (upd (upd (upd (fun _ => 0) (0 : Int32).toNatClampNeg 0) (1 : Int32).toNatClampNeg 0) (2 : Int32).toNatClampNeg 8) (3 : Int32).toNatClampNeg 4) (4 : Int32).toNatClampNeg 2) (5 : Int32).toNatClampNeg 3) (6 : Int32).toNatClampNeg 0) (7 : Int32).toNatClampNeg 1)))])) := hD2
  have hS := hS2
  clear hP2 hD2 hS2
  refine lv_dup hx hb dX12_init_139 rfl ?_
  refine lv_bipush (v := 8) hx hb dX12_init_140 (by decide) ?_
  refine lv_iconst (v := 0) hx hb dX12_init_142 (by decide) ?_
  refine va_iast hx hb hK hP hD hS (r1.length + 1) 0 (e_at _ _ _) rfl (vin_in (by decide +kernel)) dX12_init_143 (fun H locs hP2 hD2 hS2 => ?_)
  rw [e_set] at hP2 hD2
  clear hP hD hS
  have hP : va_P D vwCl ((h0, .inr (12, f1)) :: (r1 ++ [(q2, .inl (t.1, 16, .inl (upd (upd (upd (upd (upd (upd (upd (upd (upd (fun _ => 0) (0 : Int32).toNatClampNeg 0) (1 : Int32).toNatClampNeg 0) (2 : Int32).toNatClampNeg 8) (3 : Int32).toNatClampNeg 4) (4 : Int32).toNatClampNeg 2) (5 : Int32).toNatClampNeg 3) (6 : Int32).toNatClampNeg 0) (7 : Int32).toNatClampNeg 1) (8 : Int32).toNatClampNeg 0)))])) H := hP2
  have hD : va_D A ((h0, .inr (12, f1)) :: (r1 ++ [(q2, .inl (t.1, 16, .inl (upd (upd (upd (upd (upd (upd (upd (upd (upd (fun _ => 0) (0 : Int32).toNatClampNeg 0) (1 : Int32).toNatClampNeg 0) (2 : Int32).toNatClampNeg 8) (3 : Int32).toNatClampNeg 4) (4 : Int32).toNatClampNeg 2) (5 : Int32).toNatClampNeg 3) (6 : Int32).toNatClampNeg 0) (7 : Int32).toNatClampNeg 1) (8 : Int32).toNatClampNeg 0)))])) := hD2
  have hS := hS2
  clear hP2 hD2 hS2
  refine lv_dup hx hb dX12_init_144 rfl ?_
  refine lv_bipush (v := 9) hx hb dX12_init_145 (by decide) ?_
  refine lv_iconst (v := 0) hx hb dX12_init_147 (by decide) ?_
  refine va_iast hx hb hK hP hD hS (r1.length + 1) 0 (e_at _ _ _) rfl (vin_in (by decide +kernel)) dX12_init_148 (fun H locs hP2 hD2 hS2 => ?_)
  rw [e_set] at hP2 hD2
  clear hP hD hS
  have hP : va_P D vwCl ((h0, .inr (12, f1)) :: (r1 ++ [(q2, .inl (t.1, 16, .inl (upd (upd (upd (upd (upd (upd (upd (upd (upd (upd (fun _ => 0) (0 : Int32).toNatClampNeg 0) (1 : Int32).toNatClampNeg 0) (2 : Int32).toNatClampNeg 8) (3 : Int32).toNatClampNeg 4) (4 : Int32).toNatClampNeg 2) (5 : Int32).toNatClampNeg 3) (6 : Int32).toNatClampNeg 0) (7 : Int32).toNatClampNeg 1) (8 : Int32).toNatClampNeg 0) (9 : Int32).toNatClampNeg 0)))])) H := hP2
  have hD : va_D A ((h0, .inr (12, f1)) :: (r1 ++ [(q2, .inl (t.1, 16, .inl (upd (upd (upd (upd (upd (upd (upd (upd (upd (upd (fun _ => 0) (0 : Int32).toNatClampNeg 0) (1 : Int32).toNatClampNeg 0) (2 : Int32).toNatClampNeg 8) (3 : Int32).toNatClampNeg 4) (4 : Int32).toNatClampNeg 2) (5 : Int32).toNatClampNeg 3) (6 : Int32).toNatClampNeg 0) (7 : Int32).toNatClampNeg 1) (8 : Int32).toNatClampNeg 0) (9 : Int32).toNatClampNeg 0)))])) := hD2
  have hS := hS2
  clear hP2 hD2 hS2
  refine lv_dup hx hb dX12_init_149 rfl ?_
  refine lv_bipush (v := 10) hx hb dX12_init_150 (by decide) ?_
  refine lv_iconst (v := 0) hx hb dX12_init_152 (by decide) ?_
  refine va_iast hx hb hK hP hD hS (r1.length + 1) 0 (e_at _ _ _) rfl (vin_in (by decide +kernel)) dX12_init_153 (fun H locs hP2 hD2 hS2 => ?_)
  rw [e_set] at hP2 hD2
  clear hP hD hS
  have hP : va_P D vwCl ((h0, .inr (12, f1)) :: (r1 ++ [(q2, .inl (t.1, 16, .inl (upd (upd (upd (upd (upd (upd (upd (upd (upd (upd (upd (fun _ => 0) (0 : Int32).toNatClampNeg 0) (1 : Int32).toNatClampNeg 0) (2 : Int32).toNatClampNeg 8) (3 : Int32).toNatClampNeg 4) (4 : Int32).toNatClampNeg 2) (5 : Int32).toNatClampNeg 3) (6 : Int32).toNatClampNeg 0) (7 : Int32).toNatClampNeg 1) (8 : Int32).toNatClampNeg 0) (9 : Int32).toNatClampNeg 0) (10 : Int32).toNatClampNeg 0)))])) H := hP2
  have hD : va_D A ((h0, .inr (12, f1)) :: (r1 ++ [(q2, .inl (t.1, 16, .inl (upd (upd (upd (upd (upd (upd (upd (upd (upd (upd (upd (fun _ => 0) (0 : Int32).toNatClampNeg 0) (1 : Int32).toNatClampNeg 0) (2 : Int32).toNatClampNeg 8) (3 : Int32).toNatClampNeg 4) (4 : Int32).toNatClampNeg 2) (5 : Int32).toNatClampNeg 3) (6 : Int32).toNatClampNeg 0) (7 : Int32).toNatClampNeg 1) (8 : Int32).toNatClampNeg 0) (9 : Int32).toNatClampNeg 0) (10 : Int32).toNatClampNeg 0)))])) := hD2
  have hS := hS2
  clear hP2 hD2 hS2
  refine lv_dup hx hb dX12_init_154 rfl ?_
  refine lv_bipush (v := 11) hx hb dX12_init_155 (by decide) ?_
  refine lv_iconst (v := 0) hx hb dX12_init_157 (by decide) ?_
  refine va_iast hx hb hK hP hD hS (r1.length + 1) 0 (e_at _ _ _) rfl (vin_in (by decide +kernel)) dX12_init_158 (fun H locs hP2 hD2 hS2 => ?_)
  rw [e_set] at hP2 hD2
  clear hP hD hS
  have hP : va_P D vwCl ((h0, .inr (12, f1)) :: (r1 ++ [(q2, .inl (t.1, 16, .inl (upd (upd (upd (upd (upd (upd (upd (upd (upd (upd (upd (upd (fun _ => 0) (0 : Int32).toNatClampNeg 0) (1 : Int32).toNatClampNeg 0) (2 : Int32).toNatClampNeg 8) (3 : Int32).toNatClampNeg 4) (4 : Int32).toNatClampNeg 2) (5 : Int32).toNatClampNeg 3) (6 : Int32).toNatClampNeg 0) (7 : Int32).toNatClampNeg 1) (8 : Int32).toNatClampNeg 0) (9 : Int32).toNatClampNeg 0) (10 : Int32).toNatClampNeg 0) (11 : Int32).toNatClampNeg 0)))])) H := hP2
  have hD : va_D A ((h0, .inr (12, f1)) :: (r1 ++ [(q2, .inl (t.1, 16, .inl (upd (upd (upd (upd (upd (upd (upd (upd (upd (upd (upd (upd (fun _ => 0) (0 : Int32).toNatClampNeg 0) (1 : Int32).toNatClampNeg 0) (2 : Int32).toNatClampNeg 8) (3 : Int32).toNatClampNeg 4) (4 : Int32).toNatClampNeg 2) (5 : Int32).toNatClampNeg 3) (6 : Int32).toNatClampNeg 0) (7 : Int32).toNatClampNeg 1) (8 : Int32).toNatClampNeg 0) (9 : Int32).toNatClampNeg 0) (10 : Int32).toNatClampNeg 0) (11 : Int32).toNatClampNeg 0)))])) := hD2
  have hS := hS2
  clear hP2 hD2 hS2
  refine lv_dup hx hb dX12_init_159 rfl ?_
  refine lv_bipush (v := 12) hx hb dX12_init_160 (by decide) ?_
  refine lv_iconst (v := 0) hx hb dX12_init_162 (by decide) ?_
  refine va_iast hx hb hK hP hD hS (r1.length + 1) 0 (e_at _ _ _) rfl (vin_in (by decide +kernel)) dX12_init_163 (fun H locs hP2 hD2 hS2 => ?_)
  rw [e_set] at hP2 hD2
  clear hP hD hS
  have hP : va_P D vwCl ((h0, .inr (12, f1)) :: (r1 ++ [(q2, .inl (t.1, 16, .inl (upd (upd (upd (upd (upd (upd (upd (upd (upd (upd (upd (upd (upd (fun _ => 0) (0 : Int32).toNatClampNeg 0) (1 : Int32).toNatClampNeg 0) (2 : Int32).toNatClampNeg 8) (3 : Int32).toNatClampNeg 4) (4 : Int32).toNatClampNeg 2) (5 : Int32).toNatClampNeg 3) (6 : Int32).toNatClampNeg 0) (7 : Int32).toNatClampNeg 1) (8 : Int32).toNatClampNeg 0) (9 : Int32).toNatClampNeg 0) (10 : Int32).toNatClampNeg 0) (11 : Int32).toNatClampNeg 0) (12 : Int32).toNatClampNeg 0)))])) H := hP2
  have hD : va_D A ((h0, .inr (12, f1)) :: (r1 ++ [(q2, .inl (t.1, 16, .inl (upd (upd (upd (upd (upd (upd (upd (upd (upd (upd (upd (upd (upd (fun _ => 0) (0 : Int32).toNatClampNeg 0) (1 : Int32).toNatClampNeg 0) (2 : Int32).toNatClampNeg 8) (3 : Int32).toNatClampNeg 4) (4 : Int32).toNatClampNeg 2) (5 : Int32).toNatClampNeg 3) (6 : Int32).toNatClampNeg 0) (7 : Int32).toNatClampNeg 1) (8 : Int32).toNatClampNeg 0) (9 : Int32).toNatClampNeg 0) (10 : Int32).toNatClampNeg 0) (11 : Int32).toNatClampNeg 0) (12 : Int32).toNatClampNeg 0)))])) := hD2
  have hS := hS2
  clear hP2 hD2 hS2
  refine lv_dup hx hb dX12_init_164 rfl ?_
  refine lv_bipush (v := 13) hx hb dX12_init_165 (by decide) ?_
  refine lv_iconst (v := 0) hx hb dX12_init_167 (by decide) ?_
  refine va_iast hx hb hK hP hD hS (r1.length + 1) 0 (e_at _ _ _) rfl (vin_in (by decide +kernel)) dX12_init_168 (fun H locs hP2 hD2 hS2 => ?_)
  rw [e_set] at hP2 hD2
  clear hP hD hS
  have hP : va_P D vwCl ((h0, .inr (12, f1)) :: (r1 ++ [(q2, .inl (t.1, 16, .inl (upd (upd (upd (upd (upd (upd (upd (upd (upd (upd (upd (upd (upd (upd (fun _ => 0) (0 : Int32).toNatClampNeg 0) (1 : Int32).toNatClampNeg 0) (2 : Int32).toNatClampNeg 8) (3 : Int32).toNatClampNeg 4) (4 : Int32).toNatClampNeg 2) (5 : Int32).toNatClampNeg 3) (6 : Int32).toNatClampNeg 0) (7 : Int32).toNatClampNeg 1) (8 : Int32).toNatClampNeg 0) (9 : Int32).toNatClampNeg 0) (10 : Int32).toNatClampNeg 0) (11 : Int32).toNatClampNeg 0) (12 : Int32).toNatClampNeg 0) (13 : Int32).toNatClampNeg 0)))])) H := hP2
  have hD : va_D A ((h0, .inr (12, f1)) :: (r1 ++ [(q2, .inl (t.1, 16, .inl (upd (upd (upd (upd (upd (upd (upd (upd (upd (upd (upd (upd (upd (upd (fun _ => 0) (0 : Int32).toNatClampNeg 0) (1 : Int32).toNatClampNeg 0) (2 : Int32).toNatClampNeg 8) (3 : Int32).toNatClampNeg 4) (4 : Int32).toNatClampNeg 2) (5 : Int32).toNatClampNeg 3) (6 : Int32).toNatClampNeg 0) (7 : Int32).toNatClampNeg 1) (8 : Int32).toNatClampNeg 0) (9 : Int32).toNatClampNeg 0) (10 : Int32).toNatClampNeg 0) (11 : Int32).toNatClampNeg 0) (12 : Int32).toNatClampNeg 0) (13 : Int32).toNatClampNeg 0)))])) := hD2
  have hS := hS2
  clear hP2 hD2 hS2
  refine lv_dup hx hb dX12_init_169 rfl ?_
  refine lv_bipush (v := 14) hx hb dX12_init_170 (by decide) ?_
  refine lv_iconst (v := 0) hx hb dX12_init_172 (by decide) ?_
  refine va_iast hx hb hK hP hD hS (r1.length + 1) 0 (e_at _ _ _) rfl (vin_in (by decide +kernel)) dX12_init_173 (fun H locs hP2 hD2 hS2 => ?_)
  rw [e_set] at hP2 hD2
  clear hP hD hS
  have hP : va_P D vwCl ((h0, .inr (12, f1)) :: (r1 ++ [(q2, .inl (t.1, 16, .inl (upd (upd (upd (upd (upd (upd (upd (upd (upd (upd (upd (upd (upd (upd (upd (fun _ => 0) (0 : Int32).toNatClampNeg 0) (1 : Int32).toNatClampNeg 0) (2 : Int32).toNatClampNeg 8) (3 : Int32).toNatClampNeg 4) (4 : Int32).toNatClampNeg 2) (5 : Int32).toNatClampNeg 3) (6 : Int32).toNatClampNeg 0) (7 : Int32).toNatClampNeg 1) (8 : Int32).toNatClampNeg 0) (9 : Int32).toNatClampNeg 0) (10 : Int32).toNatClampNeg 0) (11 : Int32).toNatClampNeg 0) (12 : Int32).toNatClampNeg 0) (13 : Int32).toNatClampNeg 0) (14 : Int32).toNatClampNeg 0)))])) H := hP2
  have hD : va_D A ((h0, .inr (12, f1)) :: (r1 ++ [(q2, .inl (t.1, 16, .inl (upd (upd (upd (upd (upd (upd (upd (upd (upd (upd (upd (upd (upd (upd (upd (fun _ => 0) (0 : Int32).toNatClampNeg 0) (1 : Int32).toNatClampNeg 0) (2 : Int32).toNatClampNeg 8) (3 : Int32).toNatClampNeg 4) (4 : Int32).toNatClampNeg 2) (5 : Int32).toNatClampNeg 3) (6 : Int32).toNatClampNeg 0) (7 : Int32).toNatClampNeg 1) (8 : Int32).toNatClampNeg 0) (9 : Int32).toNatClampNeg 0) (10 : Int32).toNatClampNeg 0) (11 : Int32).toNatClampNeg 0) (12 : Int32).toNatClampNeg 0) (13 : Int32).toNatClampNeg 0) (14 : Int32).toNatClampNeg 0)))])) := hD2
  have hS := hS2
  clear hP2 hD2 hS2
  refine lv_dup hx hb dX12_init_174 rfl ?_
  refine lv_bipush (v := 15) hx hb dX12_init_175 (by decide) ?_
  refine lv_iconst (v := 0) hx hb dX12_init_177 (by decide) ?_
  refine va_iast hx hb hK hP hD hS (r1.length + 1) 0 (e_at _ _ _) rfl (vin_in (by decide +kernel)) dX12_init_178 (fun H locs hP2 hD2 hS2 => ?_)
  rw [e_set] at hP2 hD2
  clear hP hD hS
  have hP : va_P D vwCl ((h0, .inr (12, f1)) :: (r1 ++ [(q2, .inl (t.1, 16, .inl (upd (upd (upd (upd (upd (upd (upd (upd (upd (upd (upd (upd (upd (upd (upd (upd (fun _ => 0) (0 : Int32).toNatClampNeg 0) (1 : Int32).toNatClampNeg 0) (2 : Int32).toNatClampNeg 8) (3 : Int32).toNatClampNeg 4) (4 : Int32).toNatClampNeg 2) (5 : Int32).toNatClampNeg 3) (6 : Int32).toNatClampNeg 0) (7 : Int32).toNatClampNeg 1) (8 : Int32).toNatClampNeg 0) (9 : Int32).toNatClampNeg 0) (10 : Int32).toNatClampNeg 0) (11 : Int32).toNatClampNeg 0) (12 : Int32).toNatClampNeg 0) (13 : Int32).toNatClampNeg 0) (14 : Int32).toNatClampNeg 0) (15 : Int32).toNatClampNeg 0)))])) H := hP2
  have hD : va_D A ((h0, .inr (12, f1)) :: (r1 ++ [(q2, .inl (t.1, 16, .inl (upd (upd (upd (upd (upd (upd (upd (upd (upd (upd (upd (upd (upd (upd (upd (upd (fun _ => 0) (0 : Int32).toNatClampNeg 0) (1 : Int32).toNatClampNeg 0) (2 : Int32).toNatClampNeg 8) (3 : Int32).toNatClampNeg 4) (4 : Int32).toNatClampNeg 2) (5 : Int32).toNatClampNeg 3) (6 : Int32).toNatClampNeg 0) (7 : Int32).toNatClampNeg 1) (8 : Int32).toNatClampNeg 0) (9 : Int32).toNatClampNeg 0) (10 : Int32).toNatClampNeg 0) (11 : Int32).toNatClampNeg 0) (12 : Int32).toNatClampNeg 0) (13 : Int32).toNatClampNeg 0) (14 : Int32).toNatClampNeg 0) (15 : Int32).toNatClampNeg 0)))])) := hD2
  have hS := hS2
  clear hP2 hD2 hS2
  rw [up_u_least] at hP hD
  replace hP : va_P D vwCl ((h0, .inr (12, f1)) :: (r1 ++ [(q2, .inl (t.1, 16, .inl u_least))])) H := hP
  replace hD : va_D A ((h0, .inr (12, f1)) :: (r1 ++ [(q2, .inl (t.1, 16, .inl u_least))])) := hD
  refine va_putF (D := D) (ci := 12) (v := .ref q2) (C := RX12) (T := TX12) (N := 50) hx hb hts in_X12 tyX12 tyX12_ok nmX12 hown hK hP hD hS 0 rfl rfl 1 (by decide) (hts _ fl_X12_13) (fun _ h9 => h9) rfl hin rfl (ty := tyX12 1) (tyX12_ok 1 (by decide)) rfl rfl (by rw [hL1]; decide) dX12_init_179 (fun H locs hP2 hD2 hS2 => ?_)
  obtain ⟨f2, hf2⟩ : ∃ f : List Value, f = f1.set 1 (.ref q2) := ⟨_, rfl⟩
  have hL2 : f2.length = 50 := by rw [hf2, List.length_set, hL1]
  clear hP hD hS hL1
  have hP : va_P D vwCl ((h0, .inr (12, f2)) :: (r1 ++ [(q2, .inl (t.1, 16, .inl u_least))])) H := by rw [hf2]; exact hP2
  have hD : va_D A ((h0, .inr (12, f2)) :: (r1 ++ [(q2, .inl (t.1, 16, .inl u_least))])) := by rw [hf2]; exact hD2
  have hS := hS2
  clear hP2 hD2 hS2
  obtain ⟨r2, hr2⟩ : ∃ r : va_W, r = r1 ++ [(q2, .inl (t.1, 16, .inl u_least))] := ⟨_, rfl⟩
  replace hP : va_P D vwCl ((h0, .inr (12, f2)) :: r2) H := by rw [hr2]; exact hP
  replace hD : va_D A ((h0, .inr (12, f2)) :: r2) := by rw [hr2]; exact hD
  refine lv_aload_n hx hb dX12_init_182 rfl (lv_at hl 0 rfl) ?_
  refine lv_bipush (v := 16) hx hb dX12_init_183 (by decide) ?_
  refine c_newa (atype := .int) (ty := .int) hx hb (hts _ (tg_1 (List.mem_of_getElem? (i := 47) rfl) rfl)) rfl hK hP hD hS hA 0 rfl (fun _ h => h) (a0 := (16, .inl (fun _ => 0))) (fun _ => rfl) (by decide) (N' := 16) (by decide +kernel) (Nat.le_of_ble_eq_true rfl) (Nat.le_of_ble_eq_true rfl) (Nat.le_of_ble_eq_true rfl) dX12_init_185 (fun q3 H hP2 hD2 hS2 => ?_)
  clear hP hD hS
  have hP : va_P D vwCl ((h0, .inr (12, f2)) :: (r2 ++ [(q3, .inl (t.1, 16, .inl (fun _ => 0)))])) H := hP2
  have hD : va_D A ((h0, .inr (12, f2)) :: (r2 ++ [(q3, .inl (t.1, 16, .inl (fun _ => 0)))])) := hD2
  have hS := hS2
  clear hP2 hD2 hS2
  refine W.widen (k := 3) (n := 48) (Nat.le_of_ble_eq_true rfl) (Nat.le_of_ble_eq_true rfl) ?_
  refine lv_dup hx hb dX12_init_187 rfl ?_
  refine lv_iconst (v := 0) hx hb dX12_init_188 (by decide) ?_
  refine lv_iconst (v := 0) hx hb dX12_init_189 (by decide) ?_
  refine va_iast hx hb hK hP hD hS (r2.length + 1) 0 (e_at _ _ _) rfl (vin_in (by decide +kernel)) dX12_init_190 (fun H locs hP2 hD2 hS2 => ?_)
  rw [e_set] at hP2 hD2
  clear hP hD hS
  have hP : va_P D vwCl ((h0, .inr (12, f2)) :: (r2 ++ [(q3, .inl (t.1, 16, .inl (upd (fun _ => 0) (0 : Int32).toNatClampNeg 0)))])) H := hP2
  have hD : va_D A ((h0, .inr (12, f2)) :: (r2 ++ [(q3, .inl (t.1, 16, .inl (upd (fun _ => 0) (0 : Int32).toNatClampNeg 0)))])) := hD2
  have hS := hS2
  clear hP2 hD2 hS2
  refine lv_dup hx hb dX12_init_191 rfl ?_
  refine lv_iconst (v := 1) hx hb dX12_init_192 (by decide) ?_
  refine lv_iconst (v := 0) hx hb dX12_init_193 (by decide) ?_
  refine va_iast hx hb hK hP hD hS (r2.length + 1) 0 (e_at _ _ _) rfl (vin_in (by decide +kernel)) dX12_init_194 (fun H locs hP2 hD2 hS2 => ?_)
  rw [e_set] at hP2 hD2
  clear hP hD hS
  have hP : va_P D vwCl ((h0, .inr (12, f2)) :: (r2 ++ [(q3, .inl (t.1, 16, .inl (upd (upd (fun _ => 0) (0 : Int32).toNatClampNeg 0) (1 : Int32).toNatClampNeg 0)))])) H := hP2
  have hD : va_D A ((h0, .inr (12, f2)) :: (r2 ++ [(q3, .inl (t.1, 16, .inl (upd (upd (fun _ => 0) (0 : Int32).toNatClampNeg 0) (1 : Int32).toNatClampNeg 0)))])) := hD2
  have hS := hS2
  clear hP2 hD2 hS2
  refine lv_dup hx hb dX12_init_195 rfl ?_
  refine lv_iconst (v := 2) hx hb dX12_init_196 (by decide) ?_
  refine lv_bipush (v := 40) hx hb dX12_init_197 (by decide) ?_
  refine va_iast hx hb hK hP hD hS (r2.length + 1) 0 (e_at _ _ _) rfl (vin_in (by decide +kernel)) dX12_init_199 (fun H locs hP2 hD2 hS2 => ?_)
  rw [e_set] at hP2 hD2
  clear hP hD hS
  have hP : va_P D vwCl ((h0, .inr (12, f2)) :: (r2 ++ [(q3, .inl (t.1, 16, .inl (upd (upd (upd (fun _ => 0) (0 : Int32).toNatClampNeg 0) (1 : Int32).toNatClampNeg 0) (2 : Int32).toNatClampNeg 40)))])) H := hP2
  have hD : va_D A ((h0, .inr (12, f2)) :: (r2 ++ [(q3, .inl (t.1, 16, .inl (upd (upd (upd (fun _ => 0) (0 : Int32).toNatClampNeg 0) (1 : Int32).toNatClampNeg 0) (2 : Int32).toNatClampNeg 40)))])) := hD2
  have hS := hS2
  clear hP2 hD2 hS2
  refine lv_dup hx hb dX12_init_200 rfl ?_
  refine lv_iconst (v := 3) hx hb dX12_init_201 (by decide) ?_
  refine lv_bipush (v := 60) hx hb dX12_init_202 (by decide) ?_
  refine va_iast hx hb hK hP hD hS (r2.length + 1) 0 (e_at _ _ _) rfl (vin_in (by decide +kernel)) dX12_init_204 (fun H locs hP2 hD2 hS2 => ?_)
  rw [e_set] at hP2 hD2
  clear hP hD hS
  have hP : va_P D vwCl ((h0, .inr (12, f2)) :: (r2 ++ [(q3, .inl (t.1, 16, .inl (upd (upd (upd (upd (fun _ => 0) (0 : Int32).toNatClampNeg 0) (1 : Int32).toNatClampNeg 0) (2 : Int32).toNatClampNeg 40) (3 : Int32).toNatClampNeg 60)))])) H := hP2
  have hD : va_D A ((h0, .inr (12, f2)) :: (r2 ++ [(q3, .inl (t.1, 16, .inl (upd (upd (upd (upd (fun _ => 0) (0 : Int32).toNatClampNeg 0) (1 : Int32).toNatClampNeg 0) (2 : Int32).toNatClampNeg 40) (3 : Int32).toNatClampNeg 60)))])) := hD2
  have hS := hS2
  clear hP2 hD2 hS2
  refine lv_dup hx hb dX12_init_205 rfl ?_
  refine lv_iconst (v := 4) hx hb dX12_init_206 (by decide) ?_
  refine lv_bipush (v := 47) hx hb dX12_init_207 (by decide) ?_
  refine va_iast hx hb hK hP hD hS (r2.length + 1) 0 (e_at _ _ _) rfl (vin_in (by decide +kernel)) dX12_init_209 (fun H locs hP2 hD2 hS2 => ?_)
  rw [e_set] at hP2 hD2
  clear hP hD hS
  have hP : va_P D vwCl ((h0, .inr (12, f2)) :: (r2 ++ [(q3, .inl (t.1, 16, .inl (upd (upd (upd (upd (upd (fun _ => 0) (0 : Int32).toNatClampNeg 0) (1 : Int32).toNatClampNeg 0) (2 : Int32).toNatClampNeg 40) (3 : Int32).toNatClampNeg 60) (4 : Int32).toNatClampNeg 47)))])) H := hP2
  have hD : va_D A ((h0, .inr (12, f2)) :: (r2 ++ [(q3, .inl (t.1, 16, .inl (upd (upd (upd (upd (upd (fun _ => 0) (0 : Int32).toNatClampNeg 0) (1 : Int32).toNatClampNeg 0) (2 : Int32).toNatClampNeg 40) (3 : Int32).toNatClampNeg 60) (4 : Int32).toNatClampNeg 47)))])) := hD2
  have hS := hS2
  clear hP2 hD2 hS2
  refine lv_dup hx hb dX12_init_210 rfl ?_
  refine lv_iconst (v := 5) hx hb dX12_init_211 (by decide) ?_
  refine lv_bipush (v := 48) hx hb dX12_init_212 (by decide) ?_
  refine va_iast hx hb hK hP hD hS (r2.length + 1) 0 (e_at _ _ _) rfl (vin_in (by decide +kernel)) dX12_init_214 (fun H locs hP2 hD2 hS2 => ?_)
  rw [e_set] at hP2 hD2
  clear hP hD hS
  have hP : va_P D vwCl ((h0, .inr (12, f2)) :: (r2 ++ [(q3, .inl (t.1, 16, .inl (upd (upd (upd (upd (upd (upd (fun _ => 0) (0 : Int32).toNatClampNeg 0) (1 : Int32).toNatClampNeg 0) (2 : Int32).toNatClampNeg 40) (3 : Int32).toNatClampNeg 60) (4 : Int32).toNatClampNeg 47) (5 : Int32).toNatClampNeg 48)))])) H := hP2
  have hD : va_D A ((h0, .inr (12, f2)) :: (r2 ++ [(q3, .inl (t.1, 16, .inl (upd (upd (upd (upd (upd (upd (fun _ => 0) (0 : Int32).toNatClampNeg 0) (1 : Int32).toNatClampNeg 0) (2 : Int32).toNatClampNeg 40) (3 : Int32).toNatClampNeg 60) (4 : Int32).toNatClampNeg 47) (5 : Int32).toNatClampNeg 48)))])) := hD2
  have hS := hS2
  clear hP2 hD2 hS2
  refine lv_dup hx hb dX12_init_215 rfl ?_
  refine lv_bipush (v := 6) hx hb dX12_init_216 (by decide) ?_
  refine lv_sipush (v := 2000) hx hb dX12_init_218 (by decide) ?_
  refine va_iast hx hb hK hP hD hS (r2.length + 1) 0 (e_at _ _ _) rfl (vin_in (by decide +kernel)) dX12_init_221 (fun H locs hP2 hD2 hS2 => ?_)
  rw [e_set] at hP2 hD2
  clear hP hD hS
  have hP : va_P D vwCl ((h0, .inr (12, f2)) :: (r2 ++ [(q3, .inl (t.1, 16, .inl (upd (upd (upd (upd (upd (upd (upd (fun _ => 0) (0 : Int32).toNatClampNeg 0) (1 : Int32).toNatClampNeg 0) (2 : Int32).toNatClampNeg 40) (3 : Int32).toNatClampNeg 60) (4 : Int32).toNatClampNeg 47) (5 : Int32).toNatClampNeg 48) (6 : Int32).toNatClampNeg 2000)))])) H := hP2
  have hD : va_D A ((h0, .inr (12, f2)) :: (r2 ++ [(q3, .inl (t.1, 16, .inl (upd (upd (upd (upd (upd (upd (upd (fun _ => 0) (0 : Int32).toNatClampNeg 0) (1 : Int32).toNatClampNeg 0) (2 : Int32).toNatClampNeg 40) (3 : Int32).toNatClampNeg 60) (4 : Int32).toNatClampNeg 47) (5 : Int32).toNatClampNeg 48) (6 : Int32).toNatClampNeg 2000)))])) := hD2
  have hS := hS2
  clear hP2 hD2 hS2
  refine lv_dup hx hb dX12_init_222 rfl ?_
  refine lv_bipush (v := 7) hx hb dX12_init_223 (by decide) ?_
  refine lv_iconst (v := 5) hx hb dX12_init_225 (by decide) ?_
  refine va_iast hx hb hK hP hD hS (r2.length + 1) 0 (e_at _ _ _) rfl (vin_in (by decide +kernel)) dX12_init_226 (fun H locs hP2 hD2 hS2 => ?_)
  rw [e_set] at hP2 hD2
  clear hP hD hS
  have hP : va_P D vwCl ((h0, .inr (12, f2)) :: (r2 ++ [(q3, .inl (t.1, 16, .inl (upd (upd (upd (upd (upd (upd (upd (upd (fun _ => 0) (0 : Int32).toNatClampNeg 0) (1 : Int32).toNatClampNeg 0) (2 : Int32).toNatClampNeg 40) (3 : Int32).toNatClampNeg 60) (4 : Int32).toNatClampNeg 47) (5 : Int32).toNatClampNeg 48) (6 : Int32).toNatClampNeg 2000) (7 : Int32).toNatClampNeg 5)))])) H := hP2
  have hD : va_D A ((h0, .inr (12, f2)) :: (r2 ++ [(q3, .inl (t.1, 16, .inl (upd (upd (upd (upd (upd (upd (upd (upd (fun _ => 0) (0 : Int32).toNatClampNeg 0) (1 : Int32).toNatClampNeg 0) (2 : Int32).toNatClampNeg 40) (3 : Int32).toNatClampNeg 60) (4 : Int32).toNatClampNeg 47) (5 : Int32).toNatClampNeg 48) (6 : Int32).toNatClampNeg 2000) (7 : Int32).toNatClampNeg 5)))])) := hD2
  have hS := hS2
  clear hP2 hD2 hS2
  refine lv_dup hx hb dX12_init_227 rfl ?_
  refine lv_bipush (v := 8) hx hb dX12_init_228 (by decide) ?_
  refine lv_bipush (v := 20) hx hb dX12_init_230 (by decide) ?_
  refine va_iast hx hb hK hP hD hS (r2.length + 1) 0 (e_at _ _ _) rfl (vin_in (by decide +kernel)) dX12_init_232 (fun H locs hP2 hD2 hS2 => ?_)
  rw [e_set] at hP2 hD2
  clear hP hD hS
  have hP : va_P D vwCl ((h0, .inr (12, f2)) :: (r2 ++ [(q3, .inl (t.1, 16, .inl (upd (upd (upd (upd (upd (upd (upd (upd (upd (fun _ => 0) (0 : Int32).toNatClampNeg 0) (1 : Int32).toNatClampNeg 0) (2 : Int32).toNatClampNeg 40) (3 : Int32).toNatClampNeg 60) (4 : Int32).toNatClampNeg 47) (5 : Int32).toNatClampNeg 48) (6 : Int32).toNatClampNeg 2000) (7 : Int32).toNatClampNeg 5) (8 : Int32).toNatClampNeg 20)))])) H := hP2
  have hD : va_D A ((h0, .inr (12, f2)) :: (r2 ++ [(q3, .inl (t.1, 16, .inl (upd (upd (upd (upd (upd (upd (upd (upd (upd (fun _ => 0) (0 : Int32).toNatClampNeg 0) (1 : Int32).toNatClampNeg 0) (2 : Int32).toNatClampNeg 40) (3 : Int32).toNatClampNeg 60) (4 : Int32).toNatClampNeg 47) (5 : Int32).toNatClampNeg 48) (6 : Int32).toNatClampNeg 2000) (7 : Int32).toNatClampNeg 5) (8 : Int32).toNatClampNeg 20)))])) := hD2
  have hS := hS2
  clear hP2 hD2 hS2
  refine lv_dup hx hb dX12_init_233 rfl ?_
  refine lv_bipush (v := 9) hx hb dX12_init_234 (by decide) ?_
  refine lv_sipush (v := 2000) hx hb dX12_init_236 (by decide) ?_
  refine va_iast hx hb hK hP hD hS (r2.length + 1) 0 (e_at _ _ _) rfl (vin_in (by decide +kernel)) dX12_init_239 (fun H locs hP2 hD2 hS2 => ?_)
  rw [e_set] at hP2 hD2
  clear hP hD hS
  have hP : va_P D vwCl ((h0, .inr (12, f2)) :: (r2 ++ [(q3, .inl (t.1, 16, .inl (upd (upd (upd (upd (upd (upd (upd (upd (upd (upd (fun _ => 0) (0 : Int32).toNatClampNeg 0) (1 : Int32).toNatClampNeg 0) (2 : Int32).toNatClampNeg 40) (3 : Int32).toNatClampNeg 60) (4 : Int32).toNatClampNeg 47) (5 : Int32).toNatClampNeg 48) (6 : Int32).toNatClampNeg 2000) (7 : Int32).toNatClampNeg 5) (8 : Int32).toNatClampNeg 20) (9 : Int32).toNatClampNeg 2000)))])) H := hP2
  have hD : va_D A ((h0, .inr (12, f2)) :: (r2 ++ [(q3, .inl (t.1, 16, .inl (upd (upd (upd (upd (upd (upd (upd (upd (upd (upd (fun _ => 0) (0 : Int32).toNatClampNeg 0) (1 : Int32).toNatClampNeg 0) (2 : Int32).toNatClampNeg 40) (3 : Int32).toNatClampNeg 60) (4 : Int32).toNatClampNeg 47) (5 : Int32).toNatClampNeg 48) (6 : Int32).toNatClampNeg 2000) (7 : Int32).toNatClampNeg 5) (8 : Int32).toNatClampNeg 20) (9 : Int32).toNatClampNeg 2000)))])) := hD2
  have hS := hS2
  clear hP2 hD2 hS2
  refine lv_dup hx hb dX12_init_240 rfl ?_
  refine lv_bipush (v := 10) hx hb dX12_init_241 (by decide) ?_
  refine lv_bipush (v := 50) hx hb dX12_init_243 (by decide) ?_
  refine va_iast hx hb hK hP hD hS (r2.length + 1) 0 (e_at _ _ _) rfl (vin_in (by decide +kernel)) dX12_init_245 (fun H locs hP2 hD2 hS2 => ?_)
  rw [e_set] at hP2 hD2
  clear hP hD hS
  have hP : va_P D vwCl ((h0, .inr (12, f2)) :: (r2 ++ [(q3, .inl (t.1, 16, .inl (upd (upd (upd (upd (upd (upd (upd (upd (upd (upd (upd (fun _ => 0) (0 : Int32).toNatClampNeg 0) (1 : Int32).toNatClampNeg 0) (2 : Int32).toNatClampNeg 40) (3 : Int32).toNatClampNeg 60) (4 : Int32).toNatClampNeg 47) (5 : Int32).toNatClampNeg 48) (6 : Int32).toNatClampNeg 2000) (7 : Int32).toNatClampNeg 5) (8 : Int32).toNatClampNeg 20) (9 : Int32).toNatClampNeg 2000) (10 : Int32).toNatClampNeg 50)))])) H := hP2
  have hD : va_D A ((h0, .inr (12, f2)) :: (r2 ++ [(q3, .inl (t.1, 16, .inl (upd (upd (upd (upd (upd (upd (upd (upd (upd (upd (upd (fun _ => 0) (0 : Int32).toNatClampNeg 0) (1 : Int32).toNatClampNeg 0) (2 : Int32).toNatClampNeg 40) (3 : Int32).toNatClampNeg 60) (4 : Int32).toNatClampNeg 47) (5 : Int32).toNatClampNeg 48) (6 : Int32).toNatClampNeg 2000) (7 : Int32).toNatClampNeg 5) (8 : Int32).toNatClampNeg 20) (9 : Int32).toNatClampNeg 2000) (10 : Int32).toNatClampNeg 50)))])) := hD2
  have hS := hS2
  clear hP2 hD2 hS2
  refine lv_dup hx hb dX12_init_246 rfl ?_
  refine lv_bipush (v := 11) hx hb dX12_init_247 (by decide) ?_
  refine lv_sipush (v := 2000) hx hb dX12_init_249 (by decide) ?_
  refine va_iast hx hb hK hP hD hS (r2.length + 1) 0 (e_at _ _ _) rfl (vin_in (by decide +kernel)) dX12_init_252 (fun H locs hP2 hD2 hS2 => ?_)
  rw [e_set] at hP2 hD2
  clear hP hD hS
  have hP : va_P D vwCl ((h0, .inr (12, f2)) :: (r2 ++ [(q3, .inl (t.1, 16, .inl (upd (upd (upd (upd (upd (upd (upd (upd (upd (upd (upd (upd (fun _ => 0) (0 : Int32).toNatClampNeg 0) (1 : Int32).toNatClampNeg 0) (2 : Int32).toNatClampNeg 40) (3 : Int32).toNatClampNeg 60) (4 : Int32).toNatClampNeg 47) (5 : Int32).toNatClampNeg 48) (6 : Int32).toNatClampNeg 2000) (7 : Int32).toNatClampNeg 5) (8 : Int32).toNatClampNeg 20) (9 : Int32).toNatClampNeg 2000) (10 : Int32).toNatClampNeg 50) (11 : Int32).toNatClampNeg 2000)))])) H := hP2
  have hD : va_D A ((h0, .inr (12, f2)) :: (r2 ++ [(q3, .inl (t.1, 16, .inl (upd (upd (upd (upd (upd (upd (upd (upd (upd (upd (upd (upd (fun _ => 0) (0 : Int32).toNatClampNeg 0) (1 : Int32).toNatClampNeg 0) (2 : Int32).toNatClampNeg 40) (3 : Int32).toNatClampNeg 60) (4 : Int32).toNatClampNeg 47) (5 : Int32).toNatClampNeg 48) (6 : Int32).toNatClampNeg 2000) (7 : Int32).toNatClampNeg 5) (8 : Int32).toNatClampNeg 20) (9 : Int32).toNatClampNeg 2000) (10 : Int32).toNatClampNeg 50) (11 : Int32).toNatClampNeg 2000)))])) := hD2
  have hS := hS2
  clear hP2 hD2 hS2
  refine lv_dup hx hb dX12_init_253 rfl ?_
  refine lv_bipush (v := 12) hx hb dX12_init_254 (by decide) ?_
  refine lv_sipush (v := 2000) hx hb dX12_init_256 (by decide) ?_
  refine va_iast hx hb hK hP hD hS (r2.length + 1) 0 (e_at _ _ _) rfl (vin_in (by decide +kernel)) dX12_init_259 (fun H locs hP2 hD2 hS2 => ?_)
  rw [e_set] at hP2 hD2
  clear hP hD hS
  have hP : va_P D vwCl ((h0, .inr (12, f2)) :: (r2 ++ [(q3, .inl (t.1, 16, .inl (upd (upd (upd (upd (upd (upd (upd (upd (upd (upd (upd (upd (upd (fun _ => 0) (0 : Int32).toNatClampNeg 0) (1 : Int32).toNatClampNeg 0) (2 : Int32).toNatClampNeg 40) (3 : Int32).toNatClampNeg 60) (4 : Int32).toNatClampNeg 47) (5 : Int32).toNatClampNeg 48) (6 : Int32).toNatClampNeg 2000) (7 : Int32).toNatClampNeg 5) (8 : Int32).toNatClampNeg 20) (9 : Int32).toNatClampNeg 2000) (10 : Int32).toNatClampNeg 50) (11 : Int32).toNatClampNeg 2000) (12 : Int32).toNatClampNeg 2000)))])) H := hP2
  have hD : va_D A ((h0, .inr (12, f2)) :: (r2 ++ [(q3, .inl (t.1, 16, .inl (upd (upd (upd (upd (upd (upd (upd (upd (upd (upd (upd (upd (upd (fun _ => 0) (0 : Int32).toNatClampNeg 0) (1 : Int32).toNatClampNeg 0) (2 : Int32).toNatClampNeg 40) (3 : Int32).toNatClampNeg 60) (4 : Int32).toNatClampNeg 47) (5 : Int32).toNatClampNeg 48) (6 : Int32).toNatClampNeg 2000) (7 : Int32).toNatClampNeg 5) (8 : Int32).toNatClampNeg 20) (9 : Int32).toNatClampNeg 2000) (10 : Int32).toNatClampNeg 50) (11 : Int32).toNatClampNeg 2000) (12 : Int32).toNatClampNeg 2000)))])) := hD2
  have hS := hS2
  clear hP2 hD2 hS2
  refine lv_dup hx hb dX12_init_260 rfl ?_
  refine lv_bipush (v := 13) hx hb dX12_init_261 (by decide) ?_
  refine lv_bipush (v := 20) hx hb dX12_init_263 (by decide) ?_
  refine va_iast hx hb hK hP hD hS (r2.length + 1) 0 (e_at _ _ _) rfl (vin_in (by decide +kernel)) dX12_init_265 (fun H locs hP2 hD2 hS2 => ?_)
  rw [e_set] at hP2 hD2
  clear hP hD hS
  have hP : va_P D vwCl ((h0, .inr (12, f2)) :: (r2 ++ [(q3, .inl (t.1, 16, .inl (upd (upd (upd (upd (upd (upd (upd (upd (upd (upd (upd (upd (upd (upd (fun _ => 0) (0 : Int32).toNatClampNeg 0) (1 : Int32).toNatClampNeg 0) (2 : Int32).toNatClampNeg 40) (3 : Int32).toNatClampNeg 60) (4 : Int32).toNatClampNeg 47) (5 : Int32).toNatClampNeg 48) (6 : Int32).toNatClampNeg 2000) (7 : Int32).toNatClampNeg 5) (8 : Int32).toNatClampNeg 20) (9 : Int32).toNatClampNeg 2000) (10 : Int32).toNatClampNeg 50) (11 : Int32).toNatClampNeg 2000) (12 : Int32).toNatClampNeg 2000) (13 : Int32).toNatClampNeg 20)))])) H := hP2
  have hD : va_D A ((h0, .inr (12, f2)) :: (r2 ++ [(q3, .inl (t.1, 16, .inl (upd (upd (upd (upd (upd (upd (upd (upd (upd (upd (upd (upd (upd (upd (fun _ => 0) (0 : Int32).toNatClampNeg 0) (1 : Int32).toNatClampNeg 0) (2 : Int32).toNatClampNeg 40) (3 : Int32).toNatClampNeg 60) (4 : Int32).toNatClampNeg 47) (5 : Int32).toNatClampNeg 48) (6 : Int32).toNatClampNeg 2000) (7 : Int32).toNatClampNeg 5) (8 : Int32).toNatClampNeg 20) (9 : Int32).toNatClampNeg 2000) (10 : Int32).toNatClampNeg 50) (11 : Int32).toNatClampNeg 2000) (12 : Int32).toNatClampNeg 2000) (13 : Int32).toNatClampNeg 20)))])) := hD2
  have hS := hS2
  clear hP2 hD2 hS2
  refine lv_dup hx hb dX12_init_266 rfl ?_
  refine lv_bipush (v := 14) hx hb dX12_init_267 (by decide) ?_
  refine lv_sipush (v := 2000) hx hb dX12_init_269 (by decide) ?_
  refine va_iast hx hb hK hP hD hS (r2.length + 1) 0 (e_at _ _ _) rfl (vin_in (by decide +kernel)) dX12_init_272 (fun H locs hP2 hD2 hS2 => ?_)
  rw [e_set] at hP2 hD2
  clear hP hD hS
  have hP : va_P D vwCl ((h0, .inr (12, f2)) :: (r2 ++ [(q3, .inl (t.1, 16, .inl (upd (upd (upd (upd (upd (upd (upd (upd (upd (upd (upd (upd (upd (upd (upd (fun _ => 0) (0 : Int32).toNatClampNeg 0) (1 : Int32).toNatClampNeg 0) (2 : Int32).toNatClampNeg 40) (3 : Int32).toNatClampNeg 60) (4 : Int32).toNatClampNeg 47) (5 : Int32).toNatClampNeg 48) (6 : Int32).toNatClampNeg 2000) (7 : Int32).toNatClampNeg 5) (8 : Int32).toNatClampNeg 20) (9 : Int32).toNatClampNeg 2000) (10 : Int32).toNatClampNeg 50) (11 : Int32).toNatClampNeg 2000) (12 : Int32).toNatClampNeg 2000) (13 : Int32).toNatClampNeg 20) (14 : Int32).toNatClampNeg 2000)))])) H := hP2
  have hD : va_D A ((h0, .inr (12, f2)) :: (r2 ++ [(q3, .inl (t.1, 16, .inl (upd (upd (upd (upd (upd (upd (upd (upd (upd (upd (upd (upd (upd (upd (upd (fun _ => 0) (0 : Int32).toNatClampNeg 0) (1 : Int32).toNatClampNeg 0) (2 : Int32).toNatClampNeg 40) (3 : Int32).toNatClampNeg 60) (4 : Int32).toNatClampNeg 47) (5 : Int32).toNatClampNeg 48) (6 : Int32).toNatClampNeg 2000) (7 : Int32).toNatClampNeg 5) (8 : Int32).toNatClampNeg 20) (9 : Int32).toNatClampNeg 2000) (10 : Int32).toNatClampNeg 50) (11 : Int32).toNatClampNeg 2000) (12 : Int32).toNatClampNeg 2000) (13 : Int32).toNatClampNeg 20) (14 : Int32).toNatClampNeg 2000)))])) := hD2
  have hS := hS2
  clear hP2 hD2 hS2
  refine lv_dup hx hb dX12_init_273 rfl ?_
  refine lv_bipush (v := 15) hx hb dX12_init_274 (by decide) ?_
  refine lv_sipush (v := 500) hx hb dX12_init_276 (by decide) ?_
  refine va_iast hx hb hK hP hD hS (r2.length + 1) 0 (e_at _ _ _) rfl (vin_in (by decide +kernel)) dX12_init_279 (fun H locs hP2 hD2 hS2 => ?_)
  rw [e_set] at hP2 hD2
  clear hP hD hS
  have hP : va_P D vwCl ((h0, .inr (12, f2)) :: (r2 ++ [(q3, .inl (t.1, 16, .inl (upd (upd (upd (upd (upd (upd (upd (upd (upd (upd (upd (upd (upd (upd (upd (upd (fun _ => 0) (0 : Int32).toNatClampNeg 0) (1 : Int32).toNatClampNeg 0) (2 : Int32).toNatClampNeg 40) (3 : Int32).toNatClampNeg 60) (4 : Int32).toNatClampNeg 47) (5 : Int32).toNatClampNeg 48) (6 : Int32).toNatClampNeg 2000) (7 : Int32).toNatClampNeg 5) (8 : Int32).toNatClampNeg 20) (9 : Int32).toNatClampNeg 2000) (10 : Int32).toNatClampNeg 50) (11 : Int32).toNatClampNeg 2000) (12 : Int32).toNatClampNeg 2000) (13 : Int32).toNatClampNeg 20) (14 : Int32).toNatClampNeg 2000) (15 : Int32).toNatClampNeg 500)))])) H := hP2
  have hD : va_D A ((h0, .inr (12, f2)) :: (r2 ++ [(q3, .inl (t.1, 16, .inl (upd (upd (upd (upd (upd (upd (upd (upd (upd (upd (upd (upd (upd (upd (upd (upd (fun _ => 0) (0 : Int32).toNatClampNeg 0) (1 : Int32).toNatClampNeg 0) (2 : Int32).toNatClampNeg 40) (3 : Int32).toNatClampNeg 60) (4 : Int32).toNatClampNeg 47) (5 : Int32).toNatClampNeg 48) (6 : Int32).toNatClampNeg 2000) (7 : Int32).toNatClampNeg 5) (8 : Int32).toNatClampNeg 20) (9 : Int32).toNatClampNeg 2000) (10 : Int32).toNatClampNeg 50) (11 : Int32).toNatClampNeg 2000) (12 : Int32).toNatClampNeg 2000) (13 : Int32).toNatClampNeg 20) (14 : Int32).toNatClampNeg 2000) (15 : Int32).toNatClampNeg 500)))])) := hD2
  have hS := hS2
  clear hP2 hD2 hS2
  rw [up_u_most] at hP hD
  replace hP : va_P D vwCl ((h0, .inr (12, f2)) :: (r2 ++ [(q3, .inl (t.1, 16, .inl u_most))])) H := hP
  replace hD : va_D A ((h0, .inr (12, f2)) :: (r2 ++ [(q3, .inl (t.1, 16, .inl u_most))])) := hD
  refine va_putF (D := D) (ci := 12) (v := .ref q3) (C := RX12) (T := TX12) (N := 50) hx hb hts in_X12 tyX12 tyX12_ok nmX12 hown hK hP hD hS 0 rfl rfl 2 (by decide) (hts _ fl_X12_16) (fun _ h9 => h9) rfl hin rfl (ty := tyX12 2) (tyX12_ok 2 (by decide)) rfl rfl (by rw [hL2]; decide) dX12_init_280 (fun H locs hP2 hD2 hS2 => ?_)
  obtain ⟨f3, hf3⟩ : ∃ f : List Value, f = f2.set 2 (.ref q3) := ⟨_, rfl⟩
  have hL3 : f3.length = 50 := by rw [hf3, List.length_set, hL2]
  clear hP hD hS hL2
  have hP : va_P D vwCl ((h0, .inr (12, f3)) :: (r2 ++ [(q3, .inl (t.1, 16, .inl u_most))])) H := by rw [hf3]; exact hP2
  have hD : va_D A ((h0, .inr (12, f3)) :: (r2 ++ [(q3, .inl (t.1, 16, .inl u_most))])) := by rw [hf3]; exact hD2
  have hS := hS2
  clear hP2 hD2 hS2
  obtain ⟨r3, hr3⟩ : ∃ r : va_W, r = r2 ++ [(q3, .inl (t.1, 16, .inl u_most))] := ⟨_, rfl⟩
  replace hP : va_P D vwCl ((h0, .inr (12, f3)) :: r3) H := by rw [hr3]; exact hP
  replace hD : va_D A ((h0, .inr (12, f3)) :: r3) := by rw [hr3]; exact hD
  refine lv_aload_n hx hb dX12_init_283 rfl (lv_at hl 0 rfl) ?_
  refine lv_sipush (v := 800) hx hb dX12_init_284 (by decide) ?_
  refine c_newa (atype := .int) (ty := .int) hx hb (hts _ (tg_1 (List.mem_of_getElem? (i := 47) rfl) rfl)) rfl hK hP hD hS hA 0 rfl (fun _ h => h) (a0 := (800, .inl (fun _ => 0))) (fun _ => rfl) (by decide) (N' := 800) (by decide +kernel) (Nat.le_of_ble_eq_true rfl) (Nat.le_of_ble_eq_true rfl) (Nat.le_of_ble_eq_true rfl) dX12_init_287 (fun q4 H hP2 hD2 hS2 => ?_)
  clear hP hD hS
  have hP : va_P D vwCl ((h0, .inr (12, f3)) :: (r3 ++ [(q4, .inl (t.1, 800, .inl (fun _ => 0)))])) H := hP2
  have hD : va_D A ((h0, .inr (12, f3)) :: (r3 ++ [(q4, .inl (t.1, 800, .inl (fun _ => 0)))])) := hD2
  have hS := hS2
  clear hP2 hD2 hS2
  refine W.widen (k := 4) (n := 848) (Nat.le_of_ble_eq_true rfl) (Nat.le_of_ble_eq_true rfl) ?_
  refine va_putF (D := D) (ci := 12) (v := .ref q4) (C := RX12) (T := TX12) (N := 50) hx hb hts in_X12 tyX12 tyX12_ok nmX12 hown hK hP hD hS 0 rfl rfl 3 (by decide) (hts _ fl_X12_19) (fun _ h9 => h9) rfl hin rfl (ty := tyX12 3) (tyX12_ok 3 (by decide)) rfl rfl (by rw [hL3]; decide) dX12_init_289 (fun H locs hP2 hD2 hS2 => ?_)
  obtain ⟨f4, hf4⟩ : ∃ f : List Value, f = f3.set 3 (.ref q4) := ⟨_, rfl⟩
  have hL4 : f4.length = 50 := by rw [hf4, List.length_set, hL3]
  clear hP hD hS hL3
  have hP : va_P D vwCl ((h0, .inr (12, f4)) :: (r3 ++ [(q4, .inl (t.1, 800, .inl (fun _ => 0)))])) H := by rw [hf4]; exact hP2
  have hD : va_D A ((h0, .inr (12, f4)) :: (r3 ++ [(q4, .inl (t.1, 800, .inl (fun _ => 0)))])) := by rw [hf4]; exact hD2
  have hS := hS2
  clear hP2 hD2 hS2
  obtain ⟨r4, hr4⟩ : ∃ r : va_W, r = r3 ++ [(q4, .inl (t.1, 800, .inl (fun _ => 0)))] := ⟨_, rfl⟩
  replace hP : va_P D vwCl ((h0, .inr (12, f4)) :: r4) H := by rw [hr4]; exact hP
  replace hD : va_D A ((h0, .inr (12, f4)) :: r4) := by rw [hr4]; exact hD
  refine lv_aload_n hx hb dX12_init_292 rfl (lv_at hl 0 rfl) ?_
  refine lv_sipush (v := 400) hx hb dX12_init_293 (by decide) ?_
  refine c_newa (atype := .int) (ty := .int) hx hb (hts _ (tg_1 (List.mem_of_getElem? (i := 47) rfl) rfl)) rfl hK hP hD hS hA 0 rfl (fun _ h => h) (a0 := (400, .inl (fun _ => 0))) (fun _ => rfl) (by decide) (N' := 400) (by decide +kernel) (Nat.le_of_ble_eq_true rfl) (Nat.le_of_ble_eq_true rfl) (Nat.le_of_ble_eq_true rfl) dX12_init_296 (fun q5 H hP2 hD2 hS2 => ?_)
  clear hP hD hS
  have hP : va_P D vwCl ((h0, .inr (12, f4)) :: (r4 ++ [(q5, .inl (t.1, 400, .inl (fun _ => 0)))])) H := hP2
  have hD : va_D A ((h0, .inr (12, f4)) :: (r4 ++ [(q5, .inl (t.1, 400, .inl (fun _ => 0)))])) := hD2
  have hS := hS2
  clear hP2 hD2 hS2
  refine W.widen (k := 5) (n := 1248) (Nat.le_of_ble_eq_true rfl) (Nat.le_of_ble_eq_true rfl) ?_
  refine va_putF (D := D) (ci := 12) (v := .ref q5) (C := RX12) (T := TX12) (N := 50) hx hb hts in_X12 tyX12 tyX12_ok nmX12 hown hK hP hD hS 0 rfl rfl 4 (by decide) (hts _ fl_X12_22) (fun _ h9 => h9) rfl hin rfl (ty := tyX12 4) (tyX12_ok 4 (by decide)) rfl rfl (by rw [hL4]; decide) dX12_init_298 (fun H locs hP2 hD2 hS2 => ?_)
  obtain ⟨f5, hf5⟩ : ∃ f : List Value, f = f4.set 4 (.ref q5) := ⟨_, rfl⟩
  have hL5 : f5.length = 50 := by rw [hf5, List.length_set, hL4]
  clear hP hD hS hL4
  have hP : va_P D vwCl ((h0, .inr (12, f5)) :: (r4 ++ [(q5, .inl (t.1, 400, .inl (fun _ => 0)))])) H := by rw [hf5]; exact hP2
  have hD : va_D A ((h0, .inr (12, f5)) :: (r4 ++ [(q5, .inl (t.1, 400, .inl (fun _ => 0)))])) := by rw [hf5]; exact hD2
  have hS := hS2
  clear hP2 hD2 hS2
  obtain ⟨r5, hr5⟩ : ∃ r : va_W, r = r4 ++ [(q5, .inl (t.1, 400, .inl (fun _ => 0)))] := ⟨_, rfl⟩
  replace hP : va_P D vwCl ((h0, .inr (12, f5)) :: r5) H := by rw [hr5]; exact hP
  replace hD : va_D A ((h0, .inr (12, f5)) :: r5) := by rw [hr5]; exact hD
  refine lv_aload_n hx hb dX12_init_301 rfl (lv_at hl 0 rfl) ?_
  refine lv_bipush (v := 12) hx hb dX12_init_302 (by decide) ?_
  refine c_newa (atype := .int) (ty := .int) hx hb (hts _ (tg_1 (List.mem_of_getElem? (i := 47) rfl) rfl)) rfl hK hP hD hS hA 0 rfl (fun _ h => h) (a0 := (12, .inl (fun _ => 0))) (fun _ => rfl) (by decide) (N' := 12) (by decide +kernel) (Nat.le_of_ble_eq_true rfl) (Nat.le_of_ble_eq_true rfl) (Nat.le_of_ble_eq_true rfl) dX12_init_304 (fun q6 H hP2 hD2 hS2 => ?_)
  clear hP hD hS
  have hP : va_P D vwCl ((h0, .inr (12, f5)) :: (r5 ++ [(q6, .inl (t.1, 12, .inl (fun _ => 0)))])) H := hP2
  have hD : va_D A ((h0, .inr (12, f5)) :: (r5 ++ [(q6, .inl (t.1, 12, .inl (fun _ => 0)))])) := hD2
  have hS := hS2
  clear hP2 hD2 hS2
  refine W.widen (k := 6) (n := 1260) (Nat.le_of_ble_eq_true rfl) (Nat.le_of_ble_eq_true rfl) ?_
  refine va_putF (D := D) (ci := 12) (v := .ref q6) (C := RX12) (T := TX12) (N := 50) hx hb hts in_X12 tyX12 tyX12_ok nmX12 hown hK hP hD hS 0 rfl rfl 5 (by decide) (hts _ fl_X12_25) (fun _ h9 => h9) rfl hin rfl (ty := tyX12 5) (tyX12_ok 5 (by decide)) rfl rfl (by rw [hL5]; decide) dX12_init_306 (fun H locs hP2 hD2 hS2 => ?_)
  obtain ⟨f6, hf6⟩ : ∃ f : List Value, f = f5.set 5 (.ref q6) := ⟨_, rfl⟩
  have hL6 : f6.length = 50 := by rw [hf6, List.length_set, hL5]
  clear hP hD hS hL5
  have hP : va_P D vwCl ((h0, .inr (12, f6)) :: (r5 ++ [(q6, .inl (t.1, 12, .inl (fun _ => 0)))])) H := by rw [hf6]; exact hP2
  have hD : va_D A ((h0, .inr (12, f6)) :: (r5 ++ [(q6, .inl (t.1, 12, .inl (fun _ => 0)))])) := by rw [hf6]; exact hD2
  have hS := hS2
  clear hP2 hD2 hS2
  obtain ⟨r6, hr6⟩ : ∃ r : va_W, r = r5 ++ [(q6, .inl (t.1, 12, .inl (fun _ => 0)))] := ⟨_, rfl⟩
  replace hP : va_P D vwCl ((h0, .inr (12, f6)) :: r6) H := by rw [hr6]; exact hP
  replace hD : va_D A ((h0, .inr (12, f6)) :: r6) := by rw [hr6]; exact hD
  refine lv_aload_n hx hb dX12_init_309 rfl (lv_at hl 0 rfl) ?_
  refine lv_bipush (v := 50) hx hb dX12_init_310 (by decide) ?_
  refine c_newa (atype := .int) (ty := .int) hx hb (hts _ (tg_1 (List.mem_of_getElem? (i := 47) rfl) rfl)) rfl hK hP hD hS hA 0 rfl (fun _ h => h) (a0 := (50, .inl (fun _ => 0))) (fun _ => rfl) (by decide) (N' := 50) (by decide +kernel) (Nat.le_of_ble_eq_true rfl) (Nat.le_of_ble_eq_true rfl) (Nat.le_of_ble_eq_true rfl) dX12_init_312 (fun q7 H hP2 hD2 hS2 => ?_)
  clear hP hD hS
  have hP : va_P D vwCl ((h0, .inr (12, f6)) :: (r6 ++ [(q7, .inl (t.1, 50, .inl (fun _ => 0)))])) H := hP2
  have hD : va_D A ((h0, .inr (12, f6)) :: (r6 ++ [(q7, .inl (t.1, 50, .inl (fun _ => 0)))])) := hD2
  have hS := hS2
  clear hP2 hD2 hS2
  refine W.widen (k := 7) (n := 1310) (Nat.le_of_ble_eq_true rfl) (Nat.le_of_ble_eq_true rfl) ?_
  refine va_putF (D := D) (ci := 12) (v := .ref q7) (C := RX12) (T := TX12) (N := 50) hx hb hts in_X12 tyX12 tyX12_ok nmX12 hown hK hP hD hS 0 rfl rfl 11 (by decide) (hts _ fl_X12_28) (fun _ h9 => h9) rfl hin rfl (ty := tyX12 11) (tyX12_ok 11 (by decide)) rfl rfl (by rw [hL6]; decide) dX12_init_314 (fun H locs hP2 hD2 hS2 => ?_)
  obtain ⟨f7, hf7⟩ : ∃ f : List Value, f = f6.set 11 (.ref q7) := ⟨_, rfl⟩
  have hL7 : f7.length = 50 := by rw [hf7, List.length_set, hL6]
  clear hP hD hS hL6
  have hP : va_P D vwCl ((h0, .inr (12, f7)) :: (r6 ++ [(q7, .inl (t.1, 50, .inl (fun _ => 0)))])) H := by rw [hf7]; exact hP2
  have hD : va_D A ((h0, .inr (12, f7)) :: (r6 ++ [(q7, .inl (t.1, 50, .inl (fun _ => 0)))])) := by rw [hf7]; exact hD2
  have hS := hS2
  clear hP2 hD2 hS2
  obtain ⟨r7, hr7⟩ : ∃ r : va_W, r = r6 ++ [(q7, .inl (t.1, 50, .inl (fun _ => 0)))] := ⟨_, rfl⟩
  replace hP : va_P D vwCl ((h0, .inr (12, f7)) :: r7) H := by rw [hr7]; exact hP
  replace hD : va_D A ((h0, .inr (12, f7)) :: r7) := by rw [hr7]; exact hD
  refine lv_aload_n hx hb dX12_init_317 rfl (lv_at hl 0 rfl) ?_
  refine lv_bipush (v := 50) hx hb dX12_init_318 (by decide) ?_
  refine c_newa (atype := .int) (ty := .int) hx hb (hts _ (tg_1 (List.mem_of_getElem? (i := 47) rfl) rfl)) rfl hK hP hD hS hA 0 rfl (fun _ h => h) (a0 := (50, .inl (fun _ => 0))) (fun _ => rfl) (by decide) (N' := 50) (by decide +kernel) (Nat.le_of_ble_eq_true rfl) (Nat.le_of_ble_eq_true rfl) (Nat.le_of_ble_eq_true rfl) dX12_init_320 (fun q8 H hP2 hD2 hS2 => ?_)
  clear hP hD hS
  have hP : va_P D vwCl ((h0, .inr (12, f7)) :: (r7 ++ [(q8, .inl (t.1, 50, .inl (fun _ => 0)))])) H := hP2
  have hD : va_D A ((h0, .inr (12, f7)) :: (r7 ++ [(q8, .inl (t.1, 50, .inl (fun _ => 0)))])) := hD2
  have hS := hS2
  clear hP2 hD2 hS2
  refine W.widen (k := 8) (n := 1360) (Nat.le_of_ble_eq_true rfl) (Nat.le_of_ble_eq_true rfl) ?_
  refine va_putF (D := D) (ci := 12) (v := .ref q8) (C := RX12) (T := TX12) (N := 50) hx hb hts in_X12 tyX12 tyX12_ok nmX12 hown hK hP hD hS 0 rfl rfl 12 (by decide) (hts _ fl_X12_31) (fun _ h9 => h9) rfl hin rfl (ty := tyX12 12) (tyX12_ok 12 (by decide)) rfl rfl (by rw [hL7]; decide) dX12_init_322 (fun H locs hP2 hD2 hS2 => ?_)
  obtain ⟨f8, hf8⟩ : ∃ f : List Value, f = f7.set 12 (.ref q8) := ⟨_, rfl⟩
  have hL8 : f8.length = 50 := by rw [hf8, List.length_set, hL7]
  clear hP hD hS hL7
  have hP : va_P D vwCl ((h0, .inr (12, f8)) :: (r7 ++ [(q8, .inl (t.1, 50, .inl (fun _ => 0)))])) H := by rw [hf8]; exact hP2
  have hD : va_D A ((h0, .inr (12, f8)) :: (r7 ++ [(q8, .inl (t.1, 50, .inl (fun _ => 0)))])) := by rw [hf8]; exact hD2
  have hS := hS2
  clear hP2 hD2 hS2
  obtain ⟨r8, hr8⟩ : ∃ r : va_W, r = r7 ++ [(q8, .inl (t.1, 50, .inl (fun _ => 0)))] := ⟨_, rfl⟩
  replace hP : va_P D vwCl ((h0, .inr (12, f8)) :: r8) H := by rw [hr8]; exact hP
  replace hD : va_D A ((h0, .inr (12, f8)) :: r8) := by rw [hr8]; exact hD
  refine lv_aload_n hx hb dX12_init_325 rfl (lv_at hl 0 rfl) ?_
  refine lv_sipush (v := 660) hx hb dX12_init_326 (by decide) ?_
  refine c_newa (atype := .int) (ty := .int) hx hb (hts _ (tg_1 (List.mem_of_getElem? (i := 47) rfl) rfl)) rfl hK hP hD hS hA 0 rfl (fun _ h => h) (a0 := (660, .inl (fun _ => 0))) (fun _ => rfl) (by decide) (N' := 660) (by decide +kernel) (Nat.le_of_ble_eq_true rfl) (Nat.le_of_ble_eq_true rfl) (Nat.le_of_ble_eq_true rfl) dX12_init_329 (fun q9 H hP2 hD2 hS2 => ?_)
  clear hP hD hS
  have hP : va_P D vwCl ((h0, .inr (12, f8)) :: (r8 ++ [(q9, .inl (t.1, 660, .inl (fun _ => 0)))])) H := hP2
  have hD : va_D A ((h0, .inr (12, f8)) :: (r8 ++ [(q9, .inl (t.1, 660, .inl (fun _ => 0)))])) := hD2
  have hS := hS2
  clear hP2 hD2 hS2
  refine W.widen (k := 9) (n := 2020) (Nat.le_of_ble_eq_true rfl) (Nat.le_of_ble_eq_true rfl) ?_
  refine va_putF (D := D) (ci := 12) (v := .ref q9) (C := RX12) (T := TX12) (N := 50) hx hb hts in_X12 tyX12 tyX12_ok nmX12 hown hK hP hD hS 0 rfl rfl 13 (by decide) (hts _ fl_X12_34) (fun _ h9 => h9) rfl hin rfl (ty := tyX12 13) (tyX12_ok 13 (by decide)) rfl rfl (by rw [hL8]; decide) dX12_init_331 (fun H locs hP2 hD2 hS2 => ?_)
  obtain ⟨f9, hf9⟩ : ∃ f : List Value, f = f8.set 13 (.ref q9) := ⟨_, rfl⟩
  have hL9 : f9.length = 50 := by rw [hf9, List.length_set, hL8]
  clear hP hD hS hL8
  have hP : va_P D vwCl ((h0, .inr (12, f9)) :: (r8 ++ [(q9, .inl (t.1, 660, .inl (fun _ => 0)))])) H := by rw [hf9]; exact hP2
  have hD : va_D A ((h0, .inr (12, f9)) :: (r8 ++ [(q9, .inl (t.1, 660, .inl (fun _ => 0)))])) := by rw [hf9]; exact hD2
  have hS := hS2
  clear hP2 hD2 hS2
  obtain ⟨r9, hr9⟩ : ∃ r : va_W, r = r8 ++ [(q9, .inl (t.1, 660, .inl (fun _ => 0)))] := ⟨_, rfl⟩
  replace hP : va_P D vwCl ((h0, .inr (12, f9)) :: r9) H := by rw [hr9]; exact hP
  replace hD : va_D A ((h0, .inr (12, f9)) :: r9) := by rw [hr9]; exact hD
  refine lv_aload_n hx hb dX12_init_334 rfl (lv_at hl 0 rfl) ?_
  refine lv_sipush (v := 660) hx hb dX12_init_335 (by decide) ?_
  refine c_newa (atype := .int) (ty := .int) hx hb (hts _ (tg_1 (List.mem_of_getElem? (i := 47) rfl) rfl)) rfl hK hP hD hS hA 0 rfl (fun _ h => h) (a0 := (660, .inl (fun _ => 0))) (fun _ => rfl) (by decide) (N' := 660) (by decide +kernel) (Nat.le_of_ble_eq_true rfl) (Nat.le_of_ble_eq_true rfl) (Nat.le_of_ble_eq_true rfl) dX12_init_338 (fun q10 H hP2 hD2 hS2 => ?_)
  clear hP hD hS
  have hP : va_P D vwCl ((h0, .inr (12, f9)) :: (r9 ++ [(q10, .inl (t.1, 660, .inl (fun _ => 0)))])) H := hP2
  have hD : va_D A ((h0, .inr (12, f9)) :: (r9 ++ [(q10, .inl (t.1, 660, .inl (fun _ => 0)))])) := hD2
  have hS := hS2
  clear hP2 hD2 hS2
  refine W.widen (k := 10) (n := 2680) (Nat.le_of_ble_eq_true rfl) (Nat.le_of_ble_eq_true rfl) ?_
  refine va_putF (D := D) (ci := 12) (v := .ref q10) (C := RX12) (T := TX12) (N := 50) hx hb hts in_X12 tyX12 tyX12_ok nmX12 hown hK hP hD hS 0 rfl rfl 14 (by decide) (hts _ fl_X12_37) (fun _ h9 => h9) rfl hin rfl (ty := tyX12 14) (tyX12_ok 14 (by decide)) rfl rfl (by rw [hL9]; decide) dX12_init_340 (fun H locs hP2 hD2 hS2 => ?_)
  obtain ⟨f10, hf10⟩ : ∃ f : List Value, f = f9.set 14 (.ref q10) := ⟨_, rfl⟩
  have hL10 : f10.length = 50 := by rw [hf10, List.length_set, hL9]
  clear hP hD hS hL9
  have hP : va_P D vwCl ((h0, .inr (12, f10)) :: (r9 ++ [(q10, .inl (t.1, 660, .inl (fun _ => 0)))])) H := by rw [hf10]; exact hP2
  have hD : va_D A ((h0, .inr (12, f10)) :: (r9 ++ [(q10, .inl (t.1, 660, .inl (fun _ => 0)))])) := by rw [hf10]; exact hD2
  have hS := hS2
  clear hP2 hD2 hS2
  obtain ⟨r10, hr10⟩ : ∃ r : va_W, r = r9 ++ [(q10, .inl (t.1, 660, .inl (fun _ => 0)))] := ⟨_, rfl⟩
  replace hP : va_P D vwCl ((h0, .inr (12, f10)) :: r10) H := by rw [hr10]; exact hP
  replace hD : va_D A ((h0, .inr (12, f10)) :: r10) := by rw [hr10]; exact hD
  refine lv_aload_n hx hb dX12_init_343 rfl (lv_at hl 0 rfl) ?_
  refine lv_bipush (v := 110) hx hb dX12_init_344 (by decide) ?_
  refine c_newa (atype := .int) (ty := .int) hx hb (hts _ (tg_1 (List.mem_of_getElem? (i := 47) rfl) rfl)) rfl hK hP hD hS hA 0 rfl (fun _ h => h) (a0 := (110, .inl (fun _ => 0))) (fun _ => rfl) (by decide) (N' := 110) (by decide +kernel) (Nat.le_of_ble_eq_true rfl) (Nat.le_of_ble_eq_true rfl) (Nat.le_of_ble_eq_true rfl) dX12_init_346 (fun q11 H hP2 hD2 hS2 => ?_)
  clear hP hD hS
  have hP : va_P D vwCl ((h0, .inr (12, f10)) :: (r10 ++ [(q11, .inl (t.1, 110, .inl (fun _ => 0)))])) H := hP2
  have hD : va_D A ((h0, .inr (12, f10)) :: (r10 ++ [(q11, .inl (t.1, 110, .inl (fun _ => 0)))])) := hD2
  have hS := hS2
  clear hP2 hD2 hS2
  refine W.widen (k := 11) (n := 2790) (Nat.le_of_ble_eq_true rfl) (Nat.le_of_ble_eq_true rfl) ?_
  refine va_putF (D := D) (ci := 12) (v := .ref q11) (C := RX12) (T := TX12) (N := 50) hx hb hts in_X12 tyX12 tyX12_ok nmX12 hown hK hP hD hS 0 rfl rfl 15 (by decide) (hts _ fl_X12_40) (fun _ h9 => h9) rfl hin rfl (ty := tyX12 15) (tyX12_ok 15 (by decide)) rfl rfl (by rw [hL10]; decide) dX12_init_348 (fun H locs hP2 hD2 hS2 => ?_)
  obtain ⟨f11, hf11⟩ : ∃ f : List Value, f = f10.set 15 (.ref q11) := ⟨_, rfl⟩
  have hL11 : f11.length = 50 := by rw [hf11, List.length_set, hL10]
  clear hP hD hS hL10
  have hP : va_P D vwCl ((h0, .inr (12, f11)) :: (r10 ++ [(q11, .inl (t.1, 110, .inl (fun _ => 0)))])) H := by rw [hf11]; exact hP2
  have hD : va_D A ((h0, .inr (12, f11)) :: (r10 ++ [(q11, .inl (t.1, 110, .inl (fun _ => 0)))])) := by rw [hf11]; exact hD2
  have hS := hS2
  clear hP2 hD2 hS2
  obtain ⟨r11, hr11⟩ : ∃ r : va_W, r = r10 ++ [(q11, .inl (t.1, 110, .inl (fun _ => 0)))] := ⟨_, rfl⟩
  replace hP : va_P D vwCl ((h0, .inr (12, f11)) :: r11) H := by rw [hr11]; exact hP
  replace hD : va_D A ((h0, .inr (12, f11)) :: r11) := by rw [hr11]; exact hD
  refine lv_aload_n hx hb dX12_init_351 rfl (lv_at hl 0 rfl) ?_
  refine lv_bipush (v := 50) hx hb dX12_init_352 (by decide) ?_
  refine c_newa (atype := .boolean) (ty := .boolean) hx hb (hts _ (tg_1 (List.mem_of_getElem? (i := 85) rfl) rfl)) rfl hK hP hD hS hA 1 rfl (fun _ h => h) (a0 := (50, .inl (fun _ => 0))) (fun _ => rfl) (by decide) (N' := 50) (by decide +kernel) (Nat.le_of_ble_eq_true rfl) (Nat.le_of_ble_eq_true rfl) (Nat.le_of_ble_eq_true rfl) dX12_init_354 (fun q12 H hP2 hD2 hS2 => ?_)
  clear hP hD hS
  have hP : va_P D vwCl ((h0, .inr (12, f11)) :: (r11 ++ [(q12, .inl (t.2.1, 50, .inl (fun _ => 0)))])) H := hP2
  have hD : va_D A ((h0, .inr (12, f11)) :: (r11 ++ [(q12, .inl (t.2.1, 50, .inl (fun _ => 0)))])) := hD2
  have hS := hS2
  clear hP2 hD2 hS2
  refine W.widen (k := 12) (n := 2840) (Nat.le_of_ble_eq_true rfl) (Nat.le_of_ble_eq_true rfl) ?_
  refine va_putF (D := D) (ci := 12) (v := .ref q12) (C := RX12) (T := TX12) (N := 50) hx hb hts in_X12 tyX12 tyX12_ok nmX12 hown hK hP hD hS 0 rfl rfl 16 (by decide) (hts _ fl_X12_43) (fun _ h9 => h9) rfl hin rfl (ty := tyX12 16) (tyX12_ok 16 (by decide)) rfl rfl (by rw [hL11]; decide) dX12_init_356 (fun H locs hP2 hD2 hS2 => ?_)
  obtain ⟨f12, hf12⟩ : ∃ f : List Value, f = f11.set 16 (.ref q12) := ⟨_, rfl⟩
  have hL12 : f12.length = 50 := by rw [hf12, List.length_set, hL11]
  clear hP hD hS hL11
  have hP : va_P D vwCl ((h0, .inr (12, f12)) :: (r11 ++ [(q12, .inl (t.2.1, 50, .inl (fun _ => 0)))])) H := by rw [hf12]; exact hP2
  have hD : va_D A ((h0, .inr (12, f12)) :: (r11 ++ [(q12, .inl (t.2.1, 50, .inl (fun _ => 0)))])) := by rw [hf12]; exact hD2
  have hS := hS2
  clear hP2 hD2 hS2
  obtain ⟨r12, hr12⟩ : ∃ r : va_W, r = r11 ++ [(q12, .inl (t.2.1, 50, .inl (fun _ => 0)))] := ⟨_, rfl⟩
  replace hP : va_P D vwCl ((h0, .inr (12, f12)) :: r12) H := by rw [hr12]; exact hP
  replace hD : va_D A ((h0, .inr (12, f12)) :: r12) := by rw [hr12]; exact hD
  refine lv_aload_n hx hb dX12_init_359 rfl (lv_at hl 0 rfl) ?_
  refine lv_sipush (v := 660) hx hb dX12_init_360 (by decide) ?_
  refine c_newa (atype := .int) (ty := .int) hx hb (hts _ (tg_1 (List.mem_of_getElem? (i := 47) rfl) rfl)) rfl hK hP hD hS hA 0 rfl (fun _ h => h) (a0 := (660, .inl (fun _ => 0))) (fun _ => rfl) (by decide) (N' := 660) (by decide +kernel) (Nat.le_of_ble_eq_true rfl) (Nat.le_of_ble_eq_true rfl) (Nat.le_of_ble_eq_true rfl) dX12_init_363 (fun q13 H hP2 hD2 hS2 => ?_)
  clear hP hD hS
  have hP : va_P D vwCl ((h0, .inr (12, f12)) :: (r12 ++ [(q13, .inl (t.1, 660, .inl (fun _ => 0)))])) H := hP2
  have hD : va_D A ((h0, .inr (12, f12)) :: (r12 ++ [(q13, .inl (t.1, 660, .inl (fun _ => 0)))])) := hD2
  have hS := hS2
  clear hP2 hD2 hS2
  refine W.widen (k := 13) (n := 3500) (Nat.le_of_ble_eq_true rfl) (Nat.le_of_ble_eq_true rfl) ?_
  refine va_putF (D := D) (ci := 12) (v := .ref q13) (C := RX12) (T := TX12) (N := 50) hx hb hts in_X12 tyX12 tyX12_ok nmX12 hown hK hP hD hS 0 rfl rfl 18 (by decide) (hts _ fl_X12_47) (fun _ h9 => h9) rfl hin rfl (ty := tyX12 18) (tyX12_ok 18 (by decide)) rfl rfl (by rw [hL12]; decide) dX12_init_365 (fun H locs hP2 hD2 hS2 => ?_)
  obtain ⟨f13, hf13⟩ : ∃ f : List Value, f = f12.set 18 (.ref q13) := ⟨_, rfl⟩
  have hL13 : f13.length = 50 := by rw [hf13, List.length_set, hL12]
  clear hP hD hS hL12
  have hP : va_P D vwCl ((h0, .inr (12, f13)) :: (r12 ++ [(q13, .inl (t.1, 660, .inl (fun _ => 0)))])) H := by rw [hf13]; exact hP2
  have hD : va_D A ((h0, .inr (12, f13)) :: (r12 ++ [(q13, .inl (t.1, 660, .inl (fun _ => 0)))])) := by rw [hf13]; exact hD2
  have hS := hS2
  clear hP2 hD2 hS2
  obtain ⟨r13, hr13⟩ : ∃ r : va_W, r = r12 ++ [(q13, .inl (t.1, 660, .inl (fun _ => 0)))] := ⟨_, rfl⟩
  replace hP : va_P D vwCl ((h0, .inr (12, f13)) :: r13) H := by rw [hr13]; exact hP
  replace hD : va_D A ((h0, .inr (12, f13)) :: r13) := by rw [hr13]; exact hD
  refine lv_aload_n hx hb dX12_init_368 rfl (lv_at hl 0 rfl) ?_
  refine lv_bipush (v := 110) hx hb dX12_init_369 (by decide) ?_
  refine c_newa (atype := .int) (ty := .int) hx hb (hts _ (tg_1 (List.mem_of_getElem? (i := 47) rfl) rfl)) rfl hK hP hD hS hA 0 rfl (fun _ h => h) (a0 := (110, .inl (fun _ => 0))) (fun _ => rfl) (by decide) (N' := 110) (by decide +kernel) (Nat.le_of_ble_eq_true rfl) (Nat.le_of_ble_eq_true rfl) (Nat.le_of_ble_eq_true rfl) dX12_init_371 (fun q14 H hP2 hD2 hS2 => ?_)
  clear hP hD hS
  have hP : va_P D vwCl ((h0, .inr (12, f13)) :: (r13 ++ [(q14, .inl (t.1, 110, .inl (fun _ => 0)))])) H := hP2
  have hD : va_D A ((h0, .inr (12, f13)) :: (r13 ++ [(q14, .inl (t.1, 110, .inl (fun _ => 0)))])) := hD2
  have hS := hS2
  clear hP2 hD2 hS2
  refine W.widen (k := 14) (n := 3610) (Nat.le_of_ble_eq_true rfl) (Nat.le_of_ble_eq_true rfl) ?_
  refine va_putF (D := D) (ci := 12) (v := .ref q14) (C := RX12) (T := TX12) (N := 50) hx hb hts in_X12 tyX12 tyX12_ok nmX12 hown hK hP hD hS 0 rfl rfl 19 (by decide) (hts _ fl_X12_50) (fun _ h9 => h9) rfl hin rfl (ty := tyX12 19) (tyX12_ok 19 (by decide)) rfl rfl (by rw [hL13]; decide) dX12_init_373 (fun H locs hP2 hD2 hS2 => ?_)
  obtain ⟨f14, hf14⟩ : ∃ f : List Value, f = f13.set 19 (.ref q14) := ⟨_, rfl⟩
  have hL14 : f14.length = 50 := by rw [hf14, List.length_set, hL13]
  clear hP hD hS hL13
  have hP : va_P D vwCl ((h0, .inr (12, f14)) :: (r13 ++ [(q14, .inl (t.1, 110, .inl (fun _ => 0)))])) H := by rw [hf14]; exact hP2
  have hD : va_D A ((h0, .inr (12, f14)) :: (r13 ++ [(q14, .inl (t.1, 110, .inl (fun _ => 0)))])) := by rw [hf14]; exact hD2
  have hS := hS2
  clear hP2 hD2 hS2
  obtain ⟨r14, hr14⟩ : ∃ r : va_W, r = r13 ++ [(q14, .inl (t.1, 110, .inl (fun _ => 0)))] := ⟨_, rfl⟩
  replace hP : va_P D vwCl ((h0, .inr (12, f14)) :: r14) H := by rw [hr14]; exact hP
  replace hD : va_D A ((h0, .inr (12, f14)) :: r14) := by rw [hr14]; exact hD
  refine lv_aload_n hx hb dX12_init_376 rfl (lv_at hl 0 rfl) ?_
  refine lv_sipush (v := 660) hx hb dX12_init_377 (by decide) ?_
  refine c_newa (atype := .boolean) (ty := .boolean) hx hb (hts _ (tg_1 (List.mem_of_getElem? (i := 85) rfl) rfl)) rfl hK hP hD hS hA 1 rfl (fun _ h => h) (a0 := (660, .inl (fun _ => 0))) (fun _ => rfl) (by decide) (N' := 660) (by decide +kernel) (Nat.le_of_ble_eq_true rfl) (Nat.le_of_ble_eq_true rfl) (Nat.le_of_ble_eq_true rfl) dX12_init_380 (fun q15 H hP2 hD2 hS2 => ?_)
  clear hP hD hS
  have hP : va_P D vwCl ((h0, .inr (12, f14)) :: (r14 ++ [(q15, .inl (t.2.1, 660, .inl (fun _ => 0)))])) H := hP2
  have hD : va_D A ((h0, .inr (12, f14)) :: (r14 ++ [(q15, .inl (t.2.1, 660, .inl (fun _ => 0)))])) := hD2
  have hS := hS2
  clear hP2 hD2 hS2
  refine W.widen (k := 15) (n := 4270) (Nat.le_of_ble_eq_true rfl) (Nat.le_of_ble_eq_true rfl) ?_
  refine va_putF (D := D) (ci := 12) (v := .ref q15) (C := RX12) (T := TX12) (N := 50) hx hb hts in_X12 tyX12 tyX12_ok nmX12 hown hK hP hD hS 0 rfl rfl 20 (by decide) (hts _ fl_X12_53) (fun _ h9 => h9) rfl hin rfl (ty := tyX12 20) (tyX12_ok 20 (by decide)) rfl rfl (by rw [hL14]; decide) dX12_init_382 (fun H locs hP2 hD2 hS2 => ?_)
  obtain ⟨f15, hf15⟩ : ∃ f : List Value, f = f14.set 20 (.ref q15) := ⟨_, rfl⟩
  have hL15 : f15.length = 50 := by rw [hf15, List.length_set, hL14]
  clear hP hD hS hL14
  have hP : va_P D vwCl ((h0, .inr (12, f15)) :: (r14 ++ [(q15, .inl (t.2.1, 660, .inl (fun _ => 0)))])) H := by rw [hf15]; exact hP2
  have hD : va_D A ((h0, .inr (12, f15)) :: (r14 ++ [(q15, .inl (t.2.1, 660, .inl (fun _ => 0)))])) := by rw [hf15]; exact hD2
  have hS := hS2
  clear hP2 hD2 hS2
  obtain ⟨r15, hr15⟩ : ∃ r : va_W, r = r14 ++ [(q15, .inl (t.2.1, 660, .inl (fun _ => 0)))] := ⟨_, rfl⟩
  replace hP : va_P D vwCl ((h0, .inr (12, f15)) :: r15) H := by rw [hr15]; exact hP
  replace hD : va_D A ((h0, .inr (12, f15)) :: r15) := by rw [hr15]; exact hD
  refine lv_aload_n hx hb dX12_init_385 rfl (lv_at hl 0 rfl) ?_
  refine lv_sipush (v := 5280) hx hb dX12_init_386 (by decide) ?_
  refine c_newa (atype := .int) (ty := .int) hx hb (hts _ (tg_1 (List.mem_of_getElem? (i := 47) rfl) rfl)) rfl hK hP hD hS hA 0 rfl (fun _ h => h) (a0 := (5280, .inl (fun _ => 0))) (fun _ => rfl) (by decide) (N' := 5280) (by decide +kernel) (Nat.le_of_ble_eq_true rfl) (Nat.le_of_ble_eq_true rfl) (Nat.le_of_ble_eq_true rfl) dX12_init_389 (fun q16 H hP2 hD2 hS2 => ?_)
  clear hP hD hS
  have hP : va_P D vwCl ((h0, .inr (12, f15)) :: (r15 ++ [(q16, .inl (t.1, 5280, .inl (fun _ => 0)))])) H := hP2
  have hD : va_D A ((h0, .inr (12, f15)) :: (r15 ++ [(q16, .inl (t.1, 5280, .inl (fun _ => 0)))])) := hD2
  have hS := hS2
  clear hP2 hD2 hS2
  refine W.widen (k := 16) (n := 9550) (Nat.le_of_ble_eq_true rfl) (Nat.le_of_ble_eq_true rfl) ?_
  refine va_putF (D := D) (ci := 12) (v := .ref q16) (C := RX12) (T := TX12) (N := 50) hx hb hts in_X12 tyX12 tyX12_ok nmX12 hown hK hP hD hS 0 rfl rfl 24 (by decide) (hts _ fl_X12_56) (fun _ h9 => h9) rfl hin rfl (ty := tyX12 24) (tyX12_ok 24 (by decide)) rfl rfl (by rw [hL15]; decide) dX12_init_391 (fun H locs hP2 hD2 hS2 => ?_)
  obtain ⟨f16, hf16⟩ : ∃ f : List Value, f = f15.set 24 (.ref q16) := ⟨_, rfl⟩
  have hL16 : f16.length = 50 := by rw [hf16, List.length_set, hL15]
  clear hP hD hS hL15
  have hP : va_P D vwCl ((h0, .inr (12, f16)) :: (r15 ++ [(q16, .inl (t.1, 5280, .inl (fun _ => 0)))])) H := by rw [hf16]; exact hP2
  have hD : va_D A ((h0, .inr (12, f16)) :: (r15 ++ [(q16, .inl (t.1, 5280, .inl (fun _ => 0)))])) := by rw [hf16]; exact hD2
  have hS := hS2
  clear hP2 hD2 hS2
  obtain ⟨r16, hr16⟩ : ∃ r : va_W, r = r15 ++ [(q16, .inl (t.1, 5280, .inl (fun _ => 0)))] := ⟨_, rfl⟩
  replace hP : va_P D vwCl ((h0, .inr (12, f16)) :: r16) H := by rw [hr16]; exact hP
  replace hD : va_D A ((h0, .inr (12, f16)) :: r16) := by rw [hr16]; exact hD
  refine lv_aload_n hx hb dX12_init_394 rfl (lv_at hl 0 rfl) ?_
  refine lv_sipush (v := 5280) hx hb dX12_init_395 (by decide) ?_
  refine c_newa (atype := .int) (ty := .int) hx hb (hts _ (tg_1 (List.mem_of_getElem? (i := 47) rfl) rfl)) rfl hK hP hD hS hA 0 rfl (fun _ h => h) (a0 := (5280, .inl (fun _ => 0))) (fun _ => rfl) (by decide) (N' := 5280) (by decide +kernel) (Nat.le_of_ble_eq_true rfl) (Nat.le_of_ble_eq_true rfl) (Nat.le_of_ble_eq_true rfl) dX12_init_398 (fun q17 H hP2 hD2 hS2 => ?_)
  clear hP hD hS
  have hP : va_P D vwCl ((h0, .inr (12, f16)) :: (r16 ++ [(q17, .inl (t.1, 5280, .inl (fun _ => 0)))])) H := hP2
  have hD : va_D A ((h0, .inr (12, f16)) :: (r16 ++ [(q17, .inl (t.1, 5280, .inl (fun _ => 0)))])) := hD2
  have hS := hS2
  clear hP2 hD2 hS2
  refine W.widen (k := 17) (n := 14830) (Nat.le_of_ble_eq_true rfl) (Nat.le_of_ble_eq_true rfl) ?_
  refine va_putF (D := D) (ci := 12) (v := .ref q17) (C := RX12) (T := TX12) (N := 50) hx hb hts in_X12 tyX12 tyX12_ok nmX12 hown hK hP hD hS 0 rfl rfl 25 (by decide) (hts _ fl_X12_59) (fun _ h9 => h9) rfl hin rfl (ty := tyX12 25) (tyX12_ok 25 (by decide)) rfl rfl (by rw [hL16]; decide) dX12_init_400 (fun H locs hP2 hD2 hS2 => ?_)
  obtain ⟨f17, hf17⟩ : ∃ f : List Value, f = f16.set 25 (.ref q17) := ⟨_, rfl⟩
  have hL17 : f17.length = 50 := by rw [hf17, List.length_set, hL16]
  clear hP hD hS hL16
  have hP : va_P D vwCl ((h0, .inr (12, f17)) :: (r16 ++ [(q17, .inl (t.1, 5280, .inl (fun _ => 0)))])) H := by rw [hf17]; exact hP2
  have hD : va_D A ((h0, .inr (12, f17)) :: (r16 ++ [(q17, .inl (t.1, 5280, .inl (fun _ => 0)))])) := by rw [hf17]; exact hD2
  have hS := hS2
  clear hP2 hD2 hS2
  obtain ⟨r17, hr17⟩ : ∃ r : va_W, r = r16 ++ [(q17, .inl (t.1, 5280, .inl (fun _ => 0)))] := ⟨_, rfl⟩
  replace hP : va_P D vwCl ((h0, .inr (12, f17)) :: r17) H := by rw [hr17]; exact hP
  replace hD : va_D A ((h0, .inr (12, f17)) :: r17) := by rw [hr17]; exact hD
  refine lv_aload_n hx hb dX12_init_403 rfl (lv_at hl 0 rfl) ?_
  refine lv_sipush (v := 5280) hx hb dX12_init_404 (by decide) ?_
  refine c_newa (atype := .int) (ty := .int) hx hb (hts _ (tg_1 (List.mem_of_getElem? (i := 47) rfl) rfl)) rfl hK hP hD hS hA 0 rfl (fun _ h => h) (a0 := (5280, .inl (fun _ => 0))) (fun _ => rfl) (by decide) (N' := 5280) (by decide +kernel) (Nat.le_of_ble_eq_true rfl) (Nat.le_of_ble_eq_true rfl) (Nat.le_of_ble_eq_true rfl) dX12_init_407 (fun q18 H hP2 hD2 hS2 => ?_)
  clear hP hD hS
  have hP : va_P D vwCl ((h0, .inr (12, f17)) :: (r17 ++ [(q18, .inl (t.1, 5280, .inl (fun _ => 0)))])) H := hP2
  have hD : va_D A ((h0, .inr (12, f17)) :: (r17 ++ [(q18, .inl (t.1, 5280, .inl (fun _ => 0)))])) := hD2
  have hS := hS2
  clear hP2 hD2 hS2
  refine W.widen (k := 18) (n := 20110) (Nat.le_of_ble_eq_true rfl) (Nat.le_of_ble_eq_true rfl) ?_
  refine va_putF (D := D) (ci := 12) (v := .ref q18) (C := RX12) (T := TX12) (N := 50) hx hb hts in_X12 tyX12 tyX12_ok nmX12 hown hK hP hD hS 0 rfl rfl 26 (by decide) (hts _ fl_X12_62) (fun _ h9 => h9) rfl hin rfl (ty := tyX12 26) (tyX12_ok 26 (by decide)) rfl rfl (by rw [hL17]; decide) dX12_init_409 (fun H locs hP2 hD2 hS2 => ?_)
  obtain ⟨f18, hf18⟩ : ∃ f : List Value, f = f17.set 26 (.ref q18) := ⟨_, rfl⟩
  have hL18 : f18.length = 50 := by rw [hf18, List.length_set, hL17]
  clear hP hD hS hL17
  have hP : va_P D vwCl ((h0, .inr (12, f18)) :: (r17 ++ [(q18, .inl (t.1, 5280, .inl (fun _ => 0)))])) H := by rw [hf18]; exact hP2
  have hD : va_D A ((h0, .inr (12, f18)) :: (r17 ++ [(q18, .inl (t.1, 5280, .inl (fun _ => 0)))])) := by rw [hf18]; exact hD2
  have hS := hS2
  clear hP2 hD2 hS2
  obtain ⟨r18, hr18⟩ : ∃ r : va_W, r = r17 ++ [(q18, .inl (t.1, 5280, .inl (fun _ => 0)))] := ⟨_, rfl⟩
  replace hP : va_P D vwCl ((h0, .inr (12, f18)) :: r18) H := by rw [hr18]; exact hP
  replace hD : va_D A ((h0, .inr (12, f18)) :: r18) := by rw [hr18]; exact hD
  refine lv_aload_n hx hb dX12_init_412 rfl (lv_at hl 0 rfl) ?_
  refine lv_sipush (v := 660) hx hb dX12_init_413 (by decide) ?_
  refine c_newa (atype := .int) (ty := .int) hx hb (hts _ (tg_1 (List.mem_of_getElem? (i := 47) rfl) rfl)) rfl hK hP hD hS hA 0 rfl (fun _ h => h) (a0 := (660, .inl (fun _ => 0))) (fun _ => rfl) (by decide) (N' := 660) (by decide +kernel) (Nat.le_of_ble_eq_true rfl) (Nat.le_of_ble_eq_true rfl) (Nat.le_of_ble_eq_true rfl) dX12_init_416 (fun q19 H hP2 hD2 hS2 => ?_)
  clear hP hD hS
  have hP : va_P D vwCl ((h0, .inr (12, f18)) :: (r18 ++ [(q19, .inl (t.1, 660, .inl (fun _ => 0)))])) H := hP2
  have hD : va_D A ((h0, .inr (12, f18)) :: (r18 ++ [(q19, .inl (t.1, 660, .inl (fun _ => 0)))])) := hD2
  have hS := hS2
  clear hP2 hD2 hS2
  refine W.widen (k := 19) (n := 20770) (Nat.le_of_ble_eq_true rfl) (Nat.le_of_ble_eq_true rfl) ?_
  refine va_putF (D := D) (ci := 12) (v := .ref q19) (C := RX12) (T := TX12) (N := 50) hx hb hts in_X12 tyX12 tyX12_ok nmX12 hown hK hP hD hS 0 rfl rfl 27 (by decide) (hts _ fl_X12_65) (fun _ h9 => h9) rfl hin rfl (ty := tyX12 27) (tyX12_ok 27 (by decide)) rfl rfl (by rw [hL18]; decide) dX12_init_418 (fun H locs hP2 hD2 hS2 => ?_)
  obtain ⟨f19, hf19⟩ : ∃ f : List Value, f = f18.set 27 (.ref q19) := ⟨_, rfl⟩
  have hL19 : f19.length = 50 := by rw [hf19, List.length_set, hL18]
  clear hP hD hS hL18
  have hP : va_P D vwCl ((h0, .inr (12, f19)) :: (r18 ++ [(q19, .inl (t.1, 660, .inl (fun _ => 0)))])) H := by rw [hf19]; exact hP2
  have hD : va_D A ((h0, .inr (12, f19)) :: (r18 ++ [(q19, .inl (t.1, 660, .inl (fun _ => 0)))])) := by rw [hf19]; exact hD2
  have hS := hS2
  clear hP2 hD2 hS2
  obtain ⟨r19, hr19⟩ : ∃ r : va_W, r = r18 ++ [(q19, .inl (t.1, 660, .inl (fun _ => 0)))] := ⟨_, rfl⟩
  replace hP : va_P D vwCl ((h0, .inr (12, f19)) :: r19) H := by rw [hr19]; exact hP
  replace hD : va_D A ((h0, .inr (12, f19)) :: r19) := by rw [hr19]; exact hD
  refine lv_aload_n hx hb dX12_init_421 rfl (lv_at hl 0 rfl) ?_
  refine lv_bipush (v := 9) hx hb dX12_init_422 (by decide) ?_
  refine c_newa (atype := .int) (ty := .int) hx hb (hts _ (tg_1 (List.mem_of_getElem? (i := 47) rfl) rfl)) rfl hK hP hD hS hA 0 rfl (fun _ h => h) (a0 := (9, .inl (fun _ => 0))) (fun _ => rfl) (by decide) (N' := 9) (by decide +kernel) (Nat.le_of_ble_eq_true rfl) (Nat.le_of_ble_eq_true rfl) (Nat.le_of_ble_eq_true rfl) dX12_init_424 (fun q20 H hP2 hD2 hS2 => ?_)
  clear hP hD hS
  have hP : va_P D vwCl ((h0, .inr (12, f19)) :: (r19 ++ [(q20, .inl (t.1, 9, .inl (fun _ => 0)))])) H := hP2
  have hD : va_D A ((h0, .inr (12, f19)) :: (r19 ++ [(q20, .inl (t.1, 9, .inl (fun _ => 0)))])) := hD2
  have hS := hS2
  clear hP2 hD2 hS2
  refine W.widen (k := 20) (n := 20779) (Nat.le_of_ble_eq_true rfl) (Nat.le_of_ble_eq_true rfl) ?_
  refine va_putF (D := D) (ci := 12) (v := .ref q20) (C := RX12) (T := TX12) (N := 50) hx hb hts in_X12 tyX12 tyX12_ok nmX12 hown hK hP hD hS 0 rfl rfl 28 (by decide) (hts _ fl_X12_68) (fun _ h9 => h9) rfl hin rfl (ty := tyX12 28) (tyX12_ok 28 (by decide)) rfl rfl (by rw [hL19]; decide) dX12_init_426 (fun H locs hP2 hD2 hS2 => ?_)
  obtain ⟨f20, hf20⟩ : ∃ f : List Value, f = f19.set 28 (.ref q20) := ⟨_, rfl⟩
  have hL20 : f20.length = 50 := by rw [hf20, List.length_set, hL19]
  clear hP hD hS hL19
  have hP : va_P D vwCl ((h0, .inr (12, f20)) :: (r19 ++ [(q20, .inl (t.1, 9, .inl (fun _ => 0)))])) H := by rw [hf20]; exact hP2
  have hD : va_D A ((h0, .inr (12, f20)) :: (r19 ++ [(q20, .inl (t.1, 9, .inl (fun _ => 0)))])) := by rw [hf20]; exact hD2
  have hS := hS2
  clear hP2 hD2 hS2
  obtain ⟨r20, hr20⟩ : ∃ r : va_W, r = r19 ++ [(q20, .inl (t.1, 9, .inl (fun _ => 0)))] := ⟨_, rfl⟩
  replace hP : va_P D vwCl ((h0, .inr (12, f20)) :: r20) H := by rw [hr20]; exact hP
  replace hD : va_D A ((h0, .inr (12, f20)) :: r20) := by rw [hr20]; exact hD
  refine lv_aload_n hx hb dX12_init_429 rfl (lv_at hl 0 rfl) ?_
  refine lv_bipush (v := 9) hx hb dX12_init_430 (by decide) ?_
  refine c_newa (atype := .int) (ty := .int) hx hb (hts _ (tg_1 (List.mem_of_getElem? (i := 47) rfl) rfl)) rfl hK hP hD hS hA 0 rfl (fun _ h => h) (a0 := (9, .inl (fun _ => 0))) (fun _ => rfl) (by decide) (N' := 9) (by decide +kernel) (Nat.le_of_ble_eq_true rfl) (Nat.le_of_ble_eq_true rfl) (Nat.le_of_ble_eq_true rfl) dX12_init_432 (fun q21 H hP2 hD2 hS2 => ?_)
  clear hP hD hS
  have hP : va_P D vwCl ((h0, .inr (12, f20)) :: (r20 ++ [(q21, .inl (t.1, 9, .inl (fun _ => 0)))])) H := hP2
  have hD : va_D A ((h0, .inr (12, f20)) :: (r20 ++ [(q21, .inl (t.1, 9, .inl (fun _ => 0)))])) := hD2
  have hS := hS2
  clear hP2 hD2 hS2
  refine W.widen (k := 21) (n := 20788) (Nat.le_of_ble_eq_true rfl) (Nat.le_of_ble_eq_true rfl) ?_
  refine va_putF (D := D) (ci := 12) (v := .ref q21) (C := RX12) (T := TX12) (N := 50) hx hb hts in_X12 tyX12 tyX12_ok nmX12 hown hK hP hD hS 0 rfl rfl 29 (by decide) (hts _ fl_X12_71) (fun _ h9 => h9) rfl hin rfl (ty := tyX12 29) (tyX12_ok 29 (by decide)) rfl rfl (by rw [hL20]; decide) dX12_init_434 (fun H locs hP2 hD2 hS2 => ?_)
  obtain ⟨f21, hf21⟩ : ∃ f : List Value, f = f20.set 29 (.ref q21) := ⟨_, rfl⟩
  have hL21 : f21.length = 50 := by rw [hf21, List.length_set, hL20]
  clear hP hD hS hL20
  have hP : va_P D vwCl ((h0, .inr (12, f21)) :: (r20 ++ [(q21, .inl (t.1, 9, .inl (fun _ => 0)))])) H := by rw [hf21]; exact hP2
  have hD : va_D A ((h0, .inr (12, f21)) :: (r20 ++ [(q21, .inl (t.1, 9, .inl (fun _ => 0)))])) := by rw [hf21]; exact hD2
  have hS := hS2
  clear hP2 hD2 hS2
  obtain ⟨r21, hr21⟩ : ∃ r : va_W, r = r20 ++ [(q21, .inl (t.1, 9, .inl (fun _ => 0)))] := ⟨_, rfl⟩
  replace hP : va_P D vwCl ((h0, .inr (12, f21)) :: r21) H := by rw [hr21]; exact hP
  replace hD : va_D A ((h0, .inr (12, f21)) :: r21) := by rw [hr21]; exact hD
  refine lv_aload_n hx hb dX12_init_437 rfl (lv_at hl 0 rfl) ?_
  refine lv_bipush (v := 9) hx hb dX12_init_438 (by decide) ?_
  refine c_newa (atype := .int) (ty := .int) hx hb (hts _ (tg_1 (List.mem_of_getElem? (i := 47) rfl) rfl)) rfl hK hP hD hS hA 0 rfl (fun _ h => h) (a0 := (9, .inl (fun _ => 0))) (fun _ => rfl) (by decide) (N' := 9) (by decide +kernel) (Nat.le_of_ble_eq_true rfl) (Nat.le_of_ble_eq_true rfl) (Nat.le_of_ble_eq_true rfl) dX12_init_440 (fun q22 H hP2 hD2 hS2 => ?_)
  clear hP hD hS
  have hP : va_P D vwCl ((h0, .inr (12, f21)) :: (r21 ++ [(q22, .inl (t.1, 9, .inl (fun _ => 0)))])) H := hP2
  have hD : va_D A ((h0, .inr (12, f21)) :: (r21 ++ [(q22, .inl (t.1, 9, .inl (fun _ => 0)))])) := hD2
  have hS := hS2
  clear hP2 hD2 hS2
  refine W.widen (k := 22) (n := 20797) (Nat.le_of_ble_eq_true rfl) (Nat.le_of_ble_eq_true rfl) ?_
  refine va_putF (D := D) (ci := 12) (v := .ref q22) (C := RX12) (T := TX12) (N := 50) hx hb hts in_X12 tyX12 tyX12_ok nmX12 hown hK hP hD hS 0 rfl rfl 30 (by decide) (hts _ fl_X12_74) (fun _ h9 => h9) rfl hin rfl (ty := tyX12 30) (tyX12_ok 30 (by decide)) rfl rfl (by rw [hL21]; decide) dX12_init_442 (fun H locs hP2 hD2 hS2 => ?_)
  obtain ⟨f22, hf22⟩ : ∃ f : List Value, f = f21.set 30 (.ref q22) := ⟨_, rfl⟩
  have hL22 : f22.length = 50 := by rw [hf22, List.length_set, hL21]
  clear hP hD hS hL21
  have hP : va_P D vwCl ((h0, .inr (12, f22)) :: (r21 ++ [(q22, .inl (t.1, 9, .inl (fun _ => 0)))])) H := by rw [hf22]; exact hP2
  have hD : va_D A ((h0, .inr (12, f22)) :: (r21 ++ [(q22, .inl (t.1, 9, .inl (fun _ => 0)))])) := by rw [hf22]; exact hD2
  have hS := hS2
  clear hP2 hD2 hS2
  obtain ⟨r22, hr22⟩ : ∃ r : va_W, r = r21 ++ [(q22, .inl (t.1, 9, .inl (fun _ => 0)))] := ⟨_, rfl⟩
  replace hP : va_P D vwCl ((h0, .inr (12, f22)) :: r22) H := by rw [hr22]; exact hP
  replace hD : va_D A ((h0, .inr (12, f22)) :: r22) := by rw [hr22]; exact hD
  refine lv_aload_n hx hb dX12_init_445 rfl (lv_at hl 0 rfl) ?_
  refine lv_bipush (v := 111) hx hb dX12_init_446 (by decide) ?_
  refine c_newa (atype := .int) (ty := .int) hx hb (hts _ (tg_1 (List.mem_of_getElem? (i := 47) rfl) rfl)) rfl hK hP hD hS hA 0 rfl (fun _ h => h) (a0 := (111, .inl (fun _ => 0))) (fun _ => rfl) (by decide) (N' := 111) (by decide +kernel) (Nat.le_of_ble_eq_true rfl) (Nat.le_of_ble_eq_true rfl) (Nat.le_of_ble_eq_true rfl) dX12_init_448 (fun q23 H hP2 hD2 hS2 => ?_)
  clear hP hD hS
  have hP : va_P D vwCl ((h0, .inr (12, f22)) :: (r22 ++ [(q23, .inl (t.1, 111, .inl (fun _ => 0)))])) H := hP2
  have hD : va_D A ((h0, .inr (12, f22)) :: (r22 ++ [(q23, .inl (t.1, 111, .inl (fun _ => 0)))])) := hD2
  have hS := hS2
  clear hP2 hD2 hS2
  refine W.widen (k := 23) (n := 20908) (Nat.le_of_ble_eq_true rfl) (Nat.le_of_ble_eq_true rfl) ?_
  refine va_putF (D := D) (ci := 12) (v := .ref q23) (C := RX12) (T := TX12) (N := 50) hx hb hts in_X12 tyX12 tyX12_ok nmX12 hown hK hP hD hS 0 rfl rfl 32 (by decide) (hts _ fl_X12_77) (fun _ h9 => h9) rfl hin rfl (ty := tyX12 32) (tyX12_ok 32 (by decide)) rfl rfl (by rw [hL22]; decide) dX12_init_450 (fun H locs hP2 hD2 hS2 => ?_)
  obtain ⟨f23, hf23⟩ : ∃ f : List Value, f = f22.set 32 (.ref q23) := ⟨_, rfl⟩
  have hL23 : f23.length = 50 := by rw [hf23, List.length_set, hL22]
  clear hP hD hS hL22
  have hP : va_P D vwCl ((h0, .inr (12, f23)) :: (r22 ++ [(q23, .inl (t.1, 111, .inl (fun _ => 0)))])) H := by rw [hf23]; exact hP2
  have hD : va_D A ((h0, .inr (12, f23)) :: (r22 ++ [(q23, .inl (t.1, 111, .inl (fun _ => 0)))])) := by rw [hf23]; exact hD2
  have hS := hS2
  clear hP2 hD2 hS2
  obtain ⟨r23, hr23⟩ : ∃ r : va_W, r = r22 ++ [(q23, .inl (t.1, 111, .inl (fun _ => 0)))] := ⟨_, rfl⟩
  replace hP : va_P D vwCl ((h0, .inr (12, f23)) :: r23) H := by rw [hr23]; exact hP
  replace hD : va_D A ((h0, .inr (12, f23)) :: r23) := by rw [hr23]; exact hD
  refine lv_aload_n hx hb dX12_init_453 rfl (lv_at hl 0 rfl) ?_
  refine lv_bipush (v := 110) hx hb dX12_init_454 (by decide) ?_
  refine c_newa (atype := .int) (ty := .int) hx hb (hts _ (tg_1 (List.mem_of_getElem? (i := 47) rfl) rfl)) rfl hK hP hD hS hA 0 rfl (fun _ h => h) (a0 := (110, .inl (fun _ => 0))) (fun _ => rfl) (by decide) (N' := 110) (by decide +kernel) (Nat.le_of_ble_eq_true rfl) (Nat.le_of_ble_eq_true rfl) (Nat.le_of_ble_eq_true rfl) dX12_init_456 (fun q24 H hP2 hD2 hS2 => ?_)
  clear hP hD hS
  have hP : va_P D vwCl ((h0, .inr (12, f23)) :: (r23 ++ [(q24, .inl (t.1, 110, .inl (fun _ => 0)))])) H := hP2
  have hD : va_D A ((h0, .inr (12, f23)) :: (r23 ++ [(q24, .inl (t.1, 110, .inl (fun _ => 0)))])) := hD2
  have hS := hS2
  clear hP2 hD2 hS2
  refine W.widen (k := 24) (n := 21018) (Nat.le_of_ble_eq_true rfl) (Nat.le_of_ble_eq_true rfl) ?_
  refine va_putF (D := D) (ci := 12) (v := .ref q24) (C := RX12) (T := TX12) (N := 50) hx hb hts in_X12 tyX12 tyX12_ok nmX12 hown hK hP hD hS 0 rfl rfl 34 (by decide) (hts _ fl_X12_80) (fun _ h9 => h9) rfl hin rfl (ty := tyX12 34) (tyX12_ok 34 (by decide)) rfl rfl (by rw [hL23]; decide) dX12_init_458 (fun H locs hP2 hD2 hS2 => ?_)
  obtain ⟨f24, hf24⟩ : ∃ f : List Value, f = f23.set 34 (.ref q24) := ⟨_, rfl⟩
  have hL24 : f24.length = 50 := by rw [hf24, List.length_set, hL23]
  clear hP hD hS hL23
  have hP : va_P D vwCl ((h0, .inr (12, f24)) :: (r23 ++ [(q24, .inl (t.1, 110, .inl (fun _ => 0)))])) H := by rw [hf24]; exact hP2
  have hD : va_D A ((h0, .inr (12, f24)) :: (r23 ++ [(q24, .inl (t.1, 110, .inl (fun _ => 0)))])) := by rw [hf24]; exact hD2
  have hS := hS2
  clear hP2 hD2 hS2
  obtain ⟨r24, hr24⟩ : ∃ r : va_W, r = r23 ++ [(q24, .inl (t.1, 110, .inl (fun _ => 0)))] := ⟨_, rfl⟩
  replace hP : va_P D vwCl ((h0, .inr (12, f24)) :: r24) H := by rw [hr24]; exact hP
  replace hD : va_D A ((h0, .inr (12, f24)) :: r24) := by rw [hr24]; exact hD
  refine lv_aload_n hx hb dX12_init_461 rfl (lv_at hl 0 rfl) ?_
  refine lv_bipush (v := 110) hx hb dX12_init_462 (by decide) ?_
  refine c_newa (atype := .int) (ty := .int) hx hb (hts _ (tg_1 (List.mem_of_getElem? (i := 47) rfl) rfl)) rfl hK hP hD hS hA 0 rfl (fun _ h => h) (a0 := (110, .inl (fun _ => 0))) (fun _ => rfl) (by decide) (N' := 110) (by decide +kernel) (Nat.le_of_ble_eq_true rfl) (Nat.le_of_ble_eq_true rfl) (Nat.le_of_ble_eq_true rfl) dX12_init_464 (fun q25 H hP2 hD2 hS2 => ?_)
  clear hP hD hS
  have hP : va_P D vwCl ((h0, .inr (12, f24)) :: (r24 ++ [(q25, .inl (t.1, 110, .inl (fun _ => 0)))])) H := hP2
  have hD : va_D A ((h0, .inr (12, f24)) :: (r24 ++ [(q25, .inl (t.1, 110, .inl (fun _ => 0)))])) := hD2
  have hS := hS2
  clear hP2 hD2 hS2
  refine W.widen (k := 25) (n := 21128) (Nat.le_of_ble_eq_true rfl) (Nat.le_of_ble_eq_true rfl) ?_
  refine va_putF (D := D) (ci := 12) (v := .ref q25) (C := RX12) (T := TX12) (N := 50) hx hb hts in_X12 tyX12 tyX12_ok nmX12 hown hK hP hD hS 0 rfl rfl 35 (by decide) (hts _ fl_X12_83) (fun _ h9 => h9) rfl hin rfl (ty := tyX12 35) (tyX12_ok 35 (by decide)) rfl rfl (by rw [hL24]; decide) dX12_init_466 (fun H locs hP2 hD2 hS2 => ?_)
  obtain ⟨f25, hf25⟩ : ∃ f : List Value, f = f24.set 35 (.ref q25) := ⟨_, rfl⟩
  have hL25 : f25.length = 50 := by rw [hf25, List.length_set, hL24]
  clear hP hD hS hL24
  have hP : va_P D vwCl ((h0, .inr (12, f25)) :: (r24 ++ [(q25, .inl (t.1, 110, .inl (fun _ => 0)))])) H := by rw [hf25]; exact hP2
  have hD : va_D A ((h0, .inr (12, f25)) :: (r24 ++ [(q25, .inl (t.1, 110, .inl (fun _ => 0)))])) := by rw [hf25]; exact hD2
  have hS := hS2
  clear hP2 hD2 hS2
  obtain ⟨r25, hr25⟩ : ∃ r : va_W, r = r24 ++ [(q25, .inl (t.1, 110, .inl (fun _ => 0)))] := ⟨_, rfl⟩
  replace hP : va_P D vwCl ((h0, .inr (12, f25)) :: r25) H := by rw [hr25]; exact hP
  replace hD : va_D A ((h0, .inr (12, f25)) :: r25) := by rw [hr25]; exact hD
  refine lv_aload_n hx hb dX12_init_469 rfl (lv_at hl 0 rfl) ?_
  refine lv_bipush (v := 110) hx hb dX12_init_470 (by decide) ?_
  refine c_newa (atype := .int) (ty := .int) hx hb (hts _ (tg_1 (List.mem_of_getElem? (i := 47) rfl) rfl)) rfl hK hP hD hS hA 0 rfl (fun _ h => h) (a0 := (110, .inl (fun _ => 0))) (fun _ => rfl) (by decide) (N' := 110) (by decide +kernel) (Nat.le_of_ble_eq_true rfl) (Nat.le_of_ble_eq_true rfl) (Nat.le_of_ble_eq_true rfl) dX12_init_472 (fun q26 H hP2 hD2 hS2 => ?_)
  clear hP hD hS
  have hP : va_P D vwCl ((h0, .inr (12, f25)) :: (r25 ++ [(q26, .inl (t.1, 110, .inl (fun _ => 0)))])) H := hP2
  have hD : va_D A ((h0, .inr (12, f25)) :: (r25 ++ [(q26, .inl (t.1, 110, .inl (fun _ => 0)))])) := hD2
  have hS := hS2
  clear hP2 hD2 hS2
  refine W.widen (k := 26) (n := 21238) (Nat.le_of_ble_eq_true rfl) (Nat.le_of_ble_eq_true rfl) ?_
  refine va_putF (D := D) (ci := 12) (v := .ref q26) (C := RX12) (T := TX12) (N := 50) hx hb hts in_X12 tyX12 tyX12_ok nmX12 hown hK hP hD hS 0 rfl rfl 36 (by decide) (hts _ fl_X12_86) (fun _ h9 => h9) rfl hin rfl (ty := tyX12 36) (tyX12_ok 36 (by decide)) rfl rfl (by rw [hL25]; decide) dX12_init_474 (fun H locs hP2 hD2 hS2 => ?_)
  obtain ⟨f26, hf26⟩ : ∃ f : List Value, f = f25.set 36 (.ref q26) := ⟨_, rfl⟩
  have hL26 : f26.length = 50 := by rw [hf26, List.length_set, hL25]
  clear hP hD hS hL25
  have hP : va_P D vwCl ((h0, .inr (12, f26)) :: (r25 ++ [(q26, .inl (t.1, 110, .inl (fun _ => 0)))])) H := by rw [hf26]; exact hP2
  have hD : va_D A ((h0, .inr (12, f26)) :: (r25 ++ [(q26, .inl (t.1, 110, .inl (fun _ => 0)))])) := by rw [hf26]; exact hD2
  have hS := hS2
  clear hP2 hD2 hS2
  obtain ⟨r26, hr26⟩ : ∃ r : va_W, r = r25 ++ [(q26, .inl (t.1, 110, .inl (fun _ => 0)))] := ⟨_, rfl⟩
  replace hP : va_P D vwCl ((h0, .inr (12, f26)) :: r26) H := by rw [hr26]; exact hP
  replace hD : va_D A ((h0, .inr (12, f26)) :: r26) := by rw [hr26]; exact hD
  refine lv_aload_n hx hb dX12_init_477 rfl (lv_at hl 0 rfl) ?_
  refine lv_bipush (v := 110) hx hb dX12_init_478 (by decide) ?_
  refine c_newa (atype := .int) (ty := .int) hx hb (hts _ (tg_1 (List.mem_of_getElem? (i := 47) rfl) rfl)) rfl hK hP hD hS hA 0 rfl (fun _ h => h) (a0 := (110, .inl (fun _ => 0))) (fun _ => rfl) (by decide) (N' := 110) (by decide +kernel) (Nat.le_of_ble_eq_true rfl) (Nat.le_of_ble_eq_true rfl) (Nat.le_of_ble_eq_true rfl) dX12_init_480 (fun q27 H hP2 hD2 hS2 => ?_)
  clear hP hD hS
  have hP : va_P D vwCl ((h0, .inr (12, f26)) :: (r26 ++ [(q27, .inl (t.1, 110, .inl (fun _ => 0)))])) H := hP2
  have hD : va_D A ((h0, .inr (12, f26)) :: (r26 ++ [(q27, .inl (t.1, 110, .inl (fun _ => 0)))])) := hD2
  have hS := hS2
  clear hP2 hD2 hS2
  refine W.widen (k := 27) (n := 21348) (Nat.le_of_ble_eq_true rfl) (Nat.le_of_ble_eq_true rfl) ?_
  refine va_putF (D := D) (ci := 12) (v := .ref q27) (C := RX12) (T := TX12) (N := 50) hx hb hts in_X12 tyX12 tyX12_ok nmX12 hown hK hP hD hS 0 rfl rfl 37 (by decide) (hts _ fl_X12_89) (fun _ h9 => h9) rfl hin rfl (ty := tyX12 37) (tyX12_ok 37 (by decide)) rfl rfl (by rw [hL26]; decide) dX12_init_482 (fun H locs hP2 hD2 hS2 => ?_)
  obtain ⟨f27, hf27⟩ : ∃ f : List Value, f = f26.set 37 (.ref q27) := ⟨_, rfl⟩
  have hL27 : f27.length = 50 := by rw [hf27, List.length_set, hL26]
  clear hP hD hS hL26
  have hP : va_P D vwCl ((h0, .inr (12, f27)) :: (r26 ++ [(q27, .inl (t.1, 110, .inl (fun _ => 0)))])) H := by rw [hf27]; exact hP2
  have hD : va_D A ((h0, .inr (12, f27)) :: (r26 ++ [(q27, .inl (t.1, 110, .inl (fun _ => 0)))])) := by rw [hf27]; exact hD2
  have hS := hS2
  clear hP2 hD2 hS2
  obtain ⟨r27, hr27⟩ : ∃ r : va_W, r = r26 ++ [(q27, .inl (t.1, 110, .inl (fun _ => 0)))] := ⟨_, rfl⟩
  replace hP : va_P D vwCl ((h0, .inr (12, f27)) :: r27) H := by rw [hr27]; exact hP
  replace hD : va_D A ((h0, .inr (12, f27)) :: r27) := by rw [hr27]; exact hD
  refine lv_aload_n hx hb dX12_init_485 rfl (lv_at hl 0 rfl) ?_
  refine lv_bipush (v := 50) hx hb dX12_init_486 (by decide) ?_
  refine c_newa (atype := .int) (ty := .int) hx hb (hts _ (tg_1 (List.mem_of_getElem? (i := 47) rfl) rfl)) rfl hK hP hD hS hA 0 rfl (fun _ h => h) (a0 := (50, .inl (fun _ => 0))) (fun _ => rfl) (by decide) (N' := 50) (by decide +kernel) (Nat.le_of_ble_eq_true rfl) (Nat.le_of_ble_eq_true rfl) (Nat.le_of_ble_eq_true rfl) dX12_init_488 (fun q28 H hP2 hD2 hS2 => ?_)
  clear hP hD hS
  have hP : va_P D vwCl ((h0, .inr (12, f27)) :: (r27 ++ [(q28, .inl (t.1, 50, .inl (fun _ => 0)))])) H := hP2
  have hD : va_D A ((h0, .inr (12, f27)) :: (r27 ++ [(q28, .inl (t.1, 50, .inl (fun _ => 0)))])) := hD2
  have hS := hS2
  clear hP2 hD2 hS2
  refine W.widen (k := 28) (n := 21398) (Nat.le_of_ble_eq_true rfl) (Nat.le_of_ble_eq_true rfl) ?_
  refine va_putF (D := D) (ci := 12) (v := .ref q28) (C := RX12) (T := TX12) (N := 50) hx hb hts in_X12 tyX12 tyX12_ok nmX12 hown hK hP hD hS 0 rfl rfl 39 (by decide) (hts _ fl_X12_92) (fun _ h9 => h9) rfl hin rfl (ty := tyX12 39) (tyX12_ok 39 (by decide)) rfl rfl (by rw [hL27]; decide) dX12_init_490 (fun H locs hP2 hD2 hS2 => ?_)
  obtain ⟨f28, hf28⟩ : ∃ f : List Value, f = f27.set 39 (.ref q28) := ⟨_, rfl⟩
  have hL28 : f28.length = 50 := by rw [hf28, List.length_set, hL27]
  clear hP hD hS hL27
  have hP : va_P D vwCl ((h0, .inr (12, f28)) :: (r27 ++ [(q28, .inl (t.1, 50, .inl (fun _ => 0)))])) H := by rw [hf28]; exact hP2
  have hD : va_D A ((h0, .inr (12, f28)) :: (r27 ++ [(q28, .inl (t.1, 50, .inl (fun _ => 0)))])) := by rw [hf28]; exact hD2
  have hS := hS2
  clear hP2 hD2 hS2
  obtain ⟨r28, hr28⟩ : ∃ r : va_W, r = r27 ++ [(q28, .inl (t.1, 50, .inl (fun _ => 0)))] := ⟨_, rfl⟩
  replace hP : va_P D vwCl ((h0, .inr (12, f28)) :: r28) H := by rw [hr28]; exact hP
  replace hD : va_D A ((h0, .inr (12, f28)) :: r28) := by rw [hr28]; exact hD
  refine lv_aload_n hx hb dX12_init_493 rfl (lv_at hl 0 rfl) ?_
  refine lv_sipush (v := 1450) hx hb dX12_init_494 (by decide) ?_
  refine c_newa (atype := .int) (ty := .int) hx hb (hts _ (tg_1 (List.mem_of_getElem? (i := 47) rfl) rfl)) rfl hK hP hD hS hA 0 rfl (fun _ h => h) (a0 := (1450, .inl (fun _ => 0))) (fun _ => rfl) (by decide) (N' := 1450) (by decide +kernel) (Nat.le_of_ble_eq_true rfl) (Nat.le_of_ble_eq_true rfl) (Nat.le_of_ble_eq_true rfl) dX12_init_497 (fun q29 H hP2 hD2 hS2 => ?_)
  clear hP hD hS
  have hP : va_P D vwCl ((h0, .inr (12, f28)) :: (r28 ++ [(q29, .inl (t.1, 1450, .inl (fun _ => 0)))])) H := hP2
  have hD : va_D A ((h0, .inr (12, f28)) :: (r28 ++ [(q29, .inl (t.1, 1450, .inl (fun _ => 0)))])) := hD2
  have hS := hS2
  clear hP2 hD2 hS2
  refine W.widen (k := 29) (n := 22848) (Nat.le_of_ble_eq_true rfl) (Nat.le_of_ble_eq_true rfl) ?_
  refine va_putF (D := D) (ci := 12) (v := .ref q29) (C := RX12) (T := TX12) (N := 50) hx hb hts in_X12 tyX12 tyX12_ok nmX12 hown hK hP hD hS 0 rfl rfl 40 (by decide) (hts _ fl_X12_95) (fun _ h9 => h9) rfl hin rfl (ty := tyX12 40) (tyX12_ok 40 (by decide)) rfl rfl (by rw [hL28]; decide) dX12_init_499 (fun H locs hP2 hD2 hS2 => ?_)
  obtain ⟨f29, hf29⟩ : ∃ f : List Value, f = f28.set 40 (.ref q29) := ⟨_, rfl⟩
  have hL29 : f29.length = 50 := by rw [hf29, List.length_set, hL28]
  clear hP hD hS hL28
  have hP : va_P D vwCl ((h0, .inr (12, f29)) :: (r28 ++ [(q29, .inl (t.1, 1450, .inl (fun _ => 0)))])) H := by rw [hf29]; exact hP2
  have hD : va_D A ((h0, .inr (12, f29)) :: (r28 ++ [(q29, .inl (t.1, 1450, .inl (fun _ => 0)))])) := by rw [hf29]; exact hD2
  have hS := hS2
  clear hP2 hD2 hS2
  obtain ⟨r29, hr29⟩ : ∃ r : va_W, r = r28 ++ [(q29, .inl (t.1, 1450, .inl (fun _ => 0)))] := ⟨_, rfl⟩
  replace hP : va_P D vwCl ((h0, .inr (12, f29)) :: r29) H := by rw [hr29]; exact hP
  replace hD : va_D A ((h0, .inr (12, f29)) :: r29) := by rw [hr29]; exact hD
  refine lv_aload_n hx hb dX12_init_502 rfl (lv_at hl 0 rfl) ?_
  refine lv_bipush (v := 12) hx hb dX12_init_503 (by decide) ?_
  refine c_newa (atype := .int) (ty := .int) hx hb (hts _ (tg_1 (List.mem_of_getElem? (i := 47) rfl) rfl)) rfl hK hP hD hS hA 0 rfl (fun _ h => h) (a0 := (12, .inl (fun _ => 0))) (fun _ => rfl) (by decide) (N' := 12) (by decide +kernel) (Nat.le_of_ble_eq_true rfl) (Nat.le_of_ble_eq_true rfl) (Nat.le_of_ble_eq_true rfl) dX12_init_505 (fun q30 H hP2 hD2 hS2 => ?_)
  clear hP hD hS
  have hP : va_P D vwCl ((h0, .inr (12, f29)) :: (r29 ++ [(q30, .inl (t.1, 12, .inl (fun _ => 0)))])) H := hP2
  have hD : va_D A ((h0, .inr (12, f29)) :: (r29 ++ [(q30, .inl (t.1, 12, .inl (fun _ => 0)))])) := hD2
  have hS := hS2
  clear hP2 hD2 hS2
  refine W.widen (k := 30) (n := 22860) (Nat.le_of_ble_eq_true rfl) (Nat.le_of_ble_eq_true rfl) ?_
  refine va_putF (D := D) (ci := 12) (v := .ref q30) (C := RX12) (T := TX12) (N := 50) hx hb hts in_X12 tyX12 tyX12_ok nmX12 hown hK hP hD hS 0 rfl rfl 41 (by decide) (hts _ fl_X12_98) (fun _ h9 => h9) rfl hin rfl (ty := tyX12 41) (tyX12_ok 41 (by decide)) rfl rfl (by rw [hL29]; decide) dX12_init_507 (fun H locs hP2 hD2 hS2 => ?_)
  obtain ⟨f30, hf30⟩ : ∃ f : List Value, f = f29.set 41 (.ref q30) := ⟨_, rfl⟩
  have hL30 : f30.length = 50 := by rw [hf30, List.length_set, hL29]
  clear hP hD hS hL29
  have hP : va_P D vwCl ((h0, .inr (12, f30)) :: (r29 ++ [(q30, .inl (t.1, 12, .inl (fun _ => 0)))])) H := by rw [hf30]; exact hP2
  have hD : va_D A ((h0, .inr (12, f30)) :: (r29 ++ [(q30, .inl (t.1, 12, .inl (fun _ => 0)))])) := by rw [hf30]; exact hD2
  have hS := hS2
  clear hP2 hD2 hS2
  obtain ⟨r30, hr30⟩ : ∃ r : va_W, r = r29 ++ [(q30, .inl (t.1, 12, .inl (fun _ => 0)))] := ⟨_, rfl⟩
  replace hP : va_P D vwCl ((h0, .inr (12, f30)) :: r30) H := by rw [hr30]; exact hP
  replace hD : va_D A ((h0, .inr (12, f30)) :: r30) := by rw [hr30]; exact hD
  refine lv_aload_n hx hb dX12_init_510 rfl (lv_at hl 0 rfl) ?_
  refine lv_sipush (v := 800) hx hb dX12_init_511 (by decide) ?_
  refine c_newa (atype := .int) (ty := .int) hx hb (hts _ (tg_1 (List.mem_of_getElem? (i := 47) rfl) rfl)) rfl hK hP hD hS hA 0 rfl (fun _ h => h) (a0 := (800, .inl (fun _ => 0))) (fun _ => rfl) (by decide) (N' := 800) (by decide +kernel) (Nat.le_of_ble_eq_true rfl) (Nat.le_of_ble_eq_true rfl) (Nat.le_of_ble_eq_true rfl) dX12_init_514 (fun q31 H hP2 hD2 hS2 => ?_)
  clear hP hD hS
  have hP : va_P D vwCl ((h0, .inr (12, f30)) :: (r30 ++ [(q31, .inl (t.1, 800, .inl (fun _ => 0)))])) H := hP2
  have hD : va_D A ((h0, .inr (12, f30)) :: (r30 ++ [(q31, .inl (t.1, 800, .inl (fun _ => 0)))])) := hD2
  have hS := hS2
  clear hP2 hD2 hS2
  refine W.widen (k := 31) (n := 23660) (Nat.le_of_ble_eq_true rfl) (Nat.le_of_ble_eq_true rfl) ?_
  refine va_putF (D := D) (ci := 12) (v := .ref q31) (C := RX12) (T := TX12) (N := 50) hx hb hts in_X12 tyX12 tyX12_ok nmX12 hown hK hP hD hS 0 rfl rfl 43 (by decide) (hts _ fl_X12_101) (fun _ h9 => h9) rfl hin rfl (ty := tyX12 43) (tyX12_ok 43 (by decide)) rfl rfl (by rw [hL30]; decide) dX12_init_516 (fun H locs hP2 hD2 hS2 => ?_)
  obtain ⟨f31, hf31⟩ : ∃ f : List Value, f = f30.set 43 (.ref q31) := ⟨_, rfl⟩
  have hL31 : f31.length = 50 := by rw [hf31, List.length_set, hL30]
  clear hP hD hS hL30
  have hP : va_P D vwCl ((h0, .inr (12, f31)) :: (r30 ++ [(q31, .inl (t.1, 800, .inl (fun _ => 0)))])) H := by rw [hf31]; exact hP2
  have hD : va_D A ((h0, .inr (12, f31)) :: (r30 ++ [(q31, .inl (t.1, 800, .inl (fun _ => 0)))])) := by rw [hf31]; exact hD2
  have hS := hS2
  clear hP2 hD2 hS2
  obtain ⟨r31, hr31⟩ : ∃ r : va_W, r = r30 ++ [(q31, .inl (t.1, 800, .inl (fun _ => 0)))] := ⟨_, rfl⟩
  replace hP : va_P D vwCl ((h0, .inr (12, f31)) :: r31) H := by rw [hr31]; exact hP
  replace hD : va_D A ((h0, .inr (12, f31)) :: r31) := by rw [hr31]; exact hD
  refine lv_aload_n hx hb dX12_init_519 rfl (lv_at hl 0 rfl) ?_
  refine lv_sipush (v := 800) hx hb dX12_init_520 (by decide) ?_
  refine c_newa (atype := .int) (ty := .int) hx hb (hts _ (tg_1 (List.mem_of_getElem? (i := 47) rfl) rfl)) rfl hK hP hD hS hA 0 rfl (fun _ h => h) (a0 := (800, .inl (fun _ => 0))) (fun _ => rfl) (by decide) (N' := 800) (by decide +kernel) (Nat.le_of_ble_eq_true rfl) (Nat.le_of_ble_eq_true rfl) (Nat.le_of_ble_eq_true rfl) dX12_init_523 (fun q32 H hP2 hD2 hS2 => ?_)
  clear hP hD hS
  have hP : va_P D vwCl ((h0, .inr (12, f31)) :: (r31 ++ [(q32, .inl (t.1, 800, .inl (fun _ => 0)))])) H := hP2
  have hD : va_D A ((h0, .inr (12, f31)) :: (r31 ++ [(q32, .inl (t.1, 800, .inl (fun _ => 0)))])) := hD2
  have hS := hS2
  clear hP2 hD2 hS2
  refine W.widen (k := 32) (n := 24460) (Nat.le_of_ble_eq_true rfl) (Nat.le_of_ble_eq_true rfl) ?_
  refine va_putF (D := D) (ci := 12) (v := .ref q32) (C := RX12) (T := TX12) (N := 50) hx hb hts in_X12 tyX12 tyX12_ok nmX12 hown hK hP hD hS 0 rfl rfl 44 (by decide) (hts _ fl_X12_104) (fun _ h9 => h9) rfl hin rfl (ty := tyX12 44) (tyX12_ok 44 (by decide)) rfl rfl (by rw [hL31]; decide) dX12_init_525 (fun H locs hP2 hD2 hS2 => ?_)
  obtain ⟨f32, hf32⟩ : ∃ f : List Value, f = f31.set 44 (.ref q32) := ⟨_, rfl⟩
  have hL32 : f32.length = 50 := by rw [hf32, List.length_set, hL31]
  clear hP hD hS hL31
  have hP : va_P D vwCl ((h0, .inr (12, f32)) :: (r31 ++ [(q32, .inl (t.1, 800, .inl (fun _ => 0)))])) H := by rw [hf32]; exact hP2
  have hD : va_D A ((h0, .inr (12, f32)) :: (r31 ++ [(q32, .inl (t.1, 800, .inl (fun _ => 0)))])) := by rw [hf32]; exact hD2
  have hS := hS2
  clear hP2 hD2 hS2
  obtain ⟨r32, hr32⟩ : ∃ r : va_W, r = r31 ++ [(q32, .inl (t.1, 800, .inl (fun _ => 0)))] := ⟨_, rfl⟩
  replace hP : va_P D vwCl ((h0, .inr (12, f32)) :: r32) H := by rw [hr32]; exact hP
  replace hD : va_D A ((h0, .inr (12, f32)) :: r32) := by rw [hr32]; exact hD
  refine lv_aload_n hx hb dX12_init_528 rfl (lv_at hl 0 rfl) ?_
  refine lv_sipush (v := 400) hx hb dX12_init_529 (by decide) ?_
  refine c_newa (atype := .int) (ty := .int) hx hb (hts _ (tg_1 (List.mem_of_getElem? (i := 47) rfl) rfl)) rfl hK hP hD hS hA 0 rfl (fun _ h => h) (a0 := (400, .inl (fun _ => 0))) (fun _ => rfl) (by decide) (N' := 400) (by decide +kernel) (Nat.le_of_ble_eq_true rfl) (Nat.le_of_ble_eq_true rfl) (Nat.le_of_ble_eq_true rfl) dX12_init_532 (fun q33 H hP2 hD2 hS2 => ?_)
  clear hP hD hS
  have hP : va_P D vwCl ((h0, .inr (12, f32)) :: (r32 ++ [(q33, .inl (t.1, 400, .inl (fun _ => 0)))])) H := hP2
  have hD : va_D A ((h0, .inr (12, f32)) :: (r32 ++ [(q33, .inl (t.1, 400, .inl (fun _ => 0)))])) := hD2
  have hS := hS2
  clear hP2 hD2 hS2
  refine W.widen (k := 33) (n := 24860) (Nat.le_of_ble_eq_true rfl) (Nat.le_of_ble_eq_true rfl) ?_
  refine va_putF (D := D) (ci := 12) (v := .ref q33) (C := RX12) (T := TX12) (N := 50) hx hb hts in_X12 tyX12 tyX12_ok nmX12 hown hK hP hD hS 0 rfl rfl 45 (by decide) (hts _ fl_X12_107) (fun _ h9 => h9) rfl hin rfl (ty := tyX12 45) (tyX12_ok 45 (by decide)) rfl rfl (by rw [hL32]; decide) dX12_init_534 (fun H locs hP2 hD2 hS2 => ?_)
  obtain ⟨f33, hf33⟩ : ∃ f : List Value, f = f32.set 45 (.ref q33) := ⟨_, rfl⟩
  have hL33 : f33.length = 50 := by rw [hf33, List.length_set, hL32]
  clear hP hD hS hL32
  have hP : va_P D vwCl ((h0, .inr (12, f33)) :: (r32 ++ [(q33, .inl (t.1, 400, .inl (fun _ => 0)))])) H := by rw [hf33]; exact hP2
  have hD : va_D A ((h0, .inr (12, f33)) :: (r32 ++ [(q33, .inl (t.1, 400, .inl (fun _ => 0)))])) := by rw [hf33]; exact hD2
  have hS := hS2
  clear hP2 hD2 hS2
  obtain ⟨r33, hr33⟩ : ∃ r : va_W, r = r32 ++ [(q33, .inl (t.1, 400, .inl (fun _ => 0)))] := ⟨_, rfl⟩
  replace hP : va_P D vwCl ((h0, .inr (12, f33)) :: r33) H := by rw [hr33]; exact hP
  replace hD : va_D A ((h0, .inr (12, f33)) :: r33) := by rw [hr33]; exact hD
  refine lv_aload_n hx hb dX12_init_537 rfl (lv_at hl 0 rfl) ?_
  refine lv_sipush (v := 400) hx hb dX12_init_538 (by decide) ?_
  refine c_newa (atype := .int) (ty := .int) hx hb (hts _ (tg_1 (List.mem_of_getElem? (i := 47) rfl) rfl)) rfl hK hP hD hS hA 0 rfl (fun _ h => h) (a0 := (400, .inl (fun _ => 0))) (fun _ => rfl) (by decide) (N' := 400) (by decide +kernel) (Nat.le_of_ble_eq_true rfl) (Nat.le_of_ble_eq_true rfl) (Nat.le_of_ble_eq_true rfl) dX12_init_541 (fun q34 H hP2 hD2 hS2 => ?_)
  clear hP hD hS
  have hP : va_P D vwCl ((h0, .inr (12, f33)) :: (r33 ++ [(q34, .inl (t.1, 400, .inl (fun _ => 0)))])) H := hP2
  have hD : va_D A ((h0, .inr (12, f33)) :: (r33 ++ [(q34, .inl (t.1, 400, .inl (fun _ => 0)))])) := hD2
  have hS := hS2
  clear hP2 hD2 hS2
  refine W.widen (k := 34) (n := 25260) (Nat.le_of_ble_eq_true rfl) (Nat.le_of_ble_eq_true rfl) ?_
  refine va_putF (D := D) (ci := 12) (v := .ref q34) (C := RX12) (T := TX12) (N := 50) hx hb hts in_X12 tyX12 tyX12_ok nmX12 hown hK hP hD hS 0 rfl rfl 46 (by decide) (hts _ fl_X12_110) (fun _ h9 => h9) rfl hin rfl (ty := tyX12 46) (tyX12_ok 46 (by decide)) rfl rfl (by rw [hL33]; decide) dX12_init_543 (fun H locs hP2 hD2 hS2 => ?_)
  obtain ⟨f34, hf34⟩ : ∃ f : List Value, f = f33.set 46 (.ref q34) := ⟨_, rfl⟩
  have hL34 : f34.length = 50 := by rw [hf34, List.length_set, hL33]
  clear hP hD hS hL33
  have hP : va_P D vwCl ((h0, .inr (12, f34)) :: (r33 ++ [(q34, .inl (t.1, 400, .inl (fun _ => 0)))])) H := by rw [hf34]; exact hP2
  have hD : va_D A ((h0, .inr (12, f34)) :: (r33 ++ [(q34, .inl (t.1, 400, .inl (fun _ => 0)))])) := by rw [hf34]; exact hD2
  have hS := hS2
  clear hP2 hD2 hS2
  obtain ⟨r34, hr34⟩ : ∃ r : va_W, r = r33 ++ [(q34, .inl (t.1, 400, .inl (fun _ => 0)))] := ⟨_, rfl⟩
  replace hP : va_P D vwCl ((h0, .inr (12, f34)) :: r34) H := by rw [hr34]; exact hP
  replace hD : va_D A ((h0, .inr (12, f34)) :: r34) := by rw [hr34]; exact hD
  refine lv_aload_n hx hb dX12_init_546 rfl (lv_at hl 0 rfl) ?_
  refine lv_bipush (v := 111) hx hb dX12_init_547 (by decide) ?_
  refine c_newa (atype := .int) (ty := .int) hx hb (hts _ (tg_1 (List.mem_of_getElem? (i := 47) rfl) rfl)) rfl hK hP hD hS hA 0 rfl (fun _ h => h) (a0 := (111, .inl (fun _ => 0))) (fun _ => rfl) (by decide) (N' := 111) (by decide +kernel) (Nat.le_of_ble_eq_true rfl) (Nat.le_of_ble_eq_true rfl) (Nat.le_of_ble_eq_true rfl) dX12_init_549 (fun q35 H hP2 hD2 hS2 => ?_)
  clear hP hD hS
  have hP : va_P D vwCl ((h0, .inr (12, f34)) :: (r34 ++ [(q35, .inl (t.1, 111, .inl (fun _ => 0)))])) H := hP2
  have hD : va_D A ((h0, .inr (12, f34)) :: (r34 ++ [(q35, .inl (t.1, 111, .inl (fun _ => 0)))])) := hD2
  have hS := hS2
  clear hP2 hD2 hS2
  refine W.widen (k := 35) (n := 25371) (Nat.le_of_ble_eq_true rfl) (Nat.le_of_ble_eq_true rfl) ?_
  refine va_putF (D := D) (ci := 12) (v := .ref q35) (C := RX12) (T := TX12) (N := 50) hx hb hts in_X12 tyX12 tyX12_ok nmX12 hown hK hP hD hS 0 rfl rfl 47 (by decide) (hts _ fl_X12_113) (fun _ h9 => h9) rfl hin rfl (ty := tyX12 47) (tyX12_ok 47 (by decide)) rfl rfl (by rw [hL34]; decide) dX12_init_551 (fun H locs hP2 hD2 hS2 => ?_)
  obtain ⟨f35, hf35⟩ : ∃ f : List Value, f = f34.set 47 (.ref q35) := ⟨_, rfl⟩
  have hL35 : f35.length = 50 := by rw [hf35, List.length_set, hL34]
  clear hP hD hS hL34
  have hP : va_P D vwCl ((h0, .inr (12, f35)) :: (r34 ++ [(q35, .inl (t.1, 111, .inl (fun _ => 0)))])) H := by rw [hf35]; exact hP2
  have hD : va_D A ((h0, .inr (12, f35)) :: (r34 ++ [(q35, .inl (t.1, 111, .inl (fun _ => 0)))])) := by rw [hf35]; exact hD2
  have hS := hS2
  clear hP2 hD2 hS2
  obtain ⟨r35, hr35⟩ : ∃ r : va_W, r = r34 ++ [(q35, .inl (t.1, 111, .inl (fun _ => 0)))] := ⟨_, rfl⟩
  replace hP : va_P D vwCl ((h0, .inr (12, f35)) :: r35) H := by rw [hr35]; exact hP
  replace hD : va_D A ((h0, .inr (12, f35)) :: r35) := by rw [hr35]; exact hD
  refine lv_aload_n hx hb dX12_init_554 rfl (lv_at hl 0 rfl) ?_
  refine lv_bipush (v := 110) hx hb dX12_init_555 (by decide) ?_
  refine c_newa (atype := .int) (ty := .int) hx hb (hts _ (tg_1 (List.mem_of_getElem? (i := 47) rfl) rfl)) rfl hK hP hD hS hA 0 rfl (fun _ h => h) (a0 := (110, .inl (fun _ => 0))) (fun _ => rfl) (by decide) (N' := 110) (by decide +kernel) (Nat.le_of_ble_eq_true rfl) (Nat.le_of_ble_eq_true rfl) (Nat.le_of_ble_eq_true rfl) dX12_init_557 (fun q36 H hP2 hD2 hS2 => ?_)
  clear hP hD hS
  have hP : va_P D vwCl ((h0, .inr (12, f35)) :: (r35 ++ [(q36, .inl (t.1, 110, .inl (fun _ => 0)))])) H := hP2
  have hD : va_D A ((h0, .inr (12, f35)) :: (r35 ++ [(q36, .inl (t.1, 110, .inl (fun _ => 0)))])) := hD2
  have hS := hS2
  clear hP2 hD2 hS2
  refine W.widen (k := 36) (n := 25481) (Nat.le_of_ble_eq_true rfl) (Nat.le_of_ble_eq_true rfl) ?_
  refine va_putF (D := D) (ci := 12) (v := .ref q36) (C := RX12) (T := TX12) (N := 50) hx hb hts in_X12 tyX12 tyX12_ok nmX12 hown hK hP hD hS 0 rfl rfl 48 (by decide) (hts _ fl_X12_116) (fun _ h9 => h9) rfl hin rfl (ty := tyX12 48) (tyX12_ok 48 (by decide)) rfl rfl (by rw [hL35]; decide) dX12_init_559 (fun H locs hP2 hD2 hS2 => ?_)
  obtain ⟨f36, hf36⟩ : ∃ f : List Value, f = f35.set 48 (.ref q36) := ⟨_, rfl⟩
  have hL36 : f36.length = 50 := by rw [hf36, List.length_set, hL35]
  clear hP hD hS hL35
  have hP : va_P D vwCl ((h0, .inr (12, f36)) :: (r35 ++ [(q36, .inl (t.1, 110, .inl (fun _ => 0)))])) H := by rw [hf36]; exact hP2
  have hD : va_D A ((h0, .inr (12, f36)) :: (r35 ++ [(q36, .inl (t.1, 110, .inl (fun _ => 0)))])) := by rw [hf36]; exact hD2
  have hS := hS2
  clear hP2 hD2 hS2
  obtain ⟨r36, hr36⟩ : ∃ r : va_W, r = r35 ++ [(q36, .inl (t.1, 110, .inl (fun _ => 0)))] := ⟨_, rfl⟩
  replace hP : va_P D vwCl ((h0, .inr (12, f36)) :: r36) H := by rw [hr36]; exact hP
  replace hD : va_D A ((h0, .inr (12, f36)) :: r36) := by rw [hr36]; exact hD
  have ef0 : f0 = [.null, .null, .null, .null, .null, .null, .int 0, .int 0, .int 0, .int 0, .int 0, .null, .null, .null, .null, .null, .null, .int 0, .null, .null, .null, .int 0, .int 0, .int 0, .null, .null, .null, .null, .null, .null, .null, .int 0, .null, .int 0, .null, .null, .null, .null, .int 0, .null, .null, .null, .int 0, .null, .null, .null, .null, .null, .null, .int 0] := hf0
  have ef1 : f1 = [.ref q1, .null, .null, .null, .null, .null, .int 0, .int 0, .int 0, .int 0, .int 0, .null, .null, .null, .null, .null, .null, .int 0, .null, .null, .null, .int 0, .int 0, .int 0, .null, .null, .null, .null, .null, .null, .null, .int 0, .null, .int 0, .null, .null, .null, .null, .int 0, .null, .null, .null, .int 0, .null, .null, .null, .null, .null, .null, .int 0] := by
    rw [hf1, ef0]
    simp only [List.set_cons_zero, List.set_cons_succ]
  clear ef0 hf1
  have ef2 : f2 = [.ref q1, .ref q2, .null, .null, .null, .null, .int 0, .int 0, .int 0, .int 0, .int 0, .null, .null, .null, .null, .null, .null, .int 0, .null, .null, .null, .int 0, .int 0, .int 0, .null, .null, .null, .null, .null, .null, .null, .int 0, .null, .int 0, .null, .null, .null, .null, .int 0, .null, .null, .null, .int 0, .null, .null, .null, .null, .null, .null, .int 0] := by
    rw [hf2, ef1]
    simp only [List.set_cons_zero, List.set_cons_succ]
  clear ef1 hf2
  have ef3 : f3 = [.ref q1, .ref q2, .ref q3, .null, .null, .null, .int 0, .int 0, .int 0, .int 0, .int 0, .null, .null, .null, .null, .null, .null, .int 0, .null, .null, .null, .int 0, .int 0, .int 0, .null, .null, .null, .null, .null, .null, .null, .int 0, .null, .int 0, .null, .null, .null, .null, .int 0, .null, .null, .null, .int 0, .null, .null, .null, .null, .null, .null, .int 0] := by
    rw [hf3, ef2]
    simp only [List.set_cons_zero, List.set_cons_succ]
  clear ef2 hf3
  have ef4 : f4 = [.ref q1, .ref q2, .ref q3, .ref q4, .null, .null, .int 0, .int 0, .int 0, .int 0, .int 0, .null, .null, .null, .null, .null, .null, .int 0, .null, .null, .null, .int 0, .int 0, .int 0, .null, .null, .null, .null, .null, .null, .null, .int 0, .null, .int 0, .null, .null, .null, .null, .int 0, .null, .null, .null, .int 0, .null, .null, .null, .null, .null, .null, .int 0] := by
    rw [hf4, ef3]
    simp only [List.set_cons_zero, List.set_cons_succ]
  clear ef3 hf4
  have ef5 : f5 = [.ref q1, .ref q2, .ref q3, .ref q4, .ref q5, .null, .int 0, .int 0, .int 0, .int 0, .int 0, .null, .null, .null, .null, .null, .null, .int 0, .null, .null, .null, .int 0, .int 0, .int 0, .null, .null, .null, .null, .null, .null, .null, .int 0, .null, .int 0, .null, .null, .null, .null, .int 0, .null, .null, .null, .int 0, .null, .null, .null, .null, .null, .null, .int 0] := by
    rw [hf5, ef4]
    simp only [List.set_cons_zero, List.set_cons_succ]
  clear ef4 hf5
  have ef6 : f6 = [.ref q1, .ref q2, .ref q3, .ref q4, .ref q5, .ref q6, .int 0, .int 0, .int 0, .int 0, .int 0, .null, .null, .null, .null, .null, .null, .int 0, .null, .null, .null, .int 0, .int 0, .int 0, .null, .null, .null, .null, .null, .null, .null, .int 0, .null, .int 0, .null, .null, .null, .null, .int 0, .null, .null, .null, .int 0, .null, .null, .null, .null, .null, .null, .int 0] := by
    rw [hf6, ef5]
    simp only [List.set_cons_zero, List.set_cons_succ]
  clear ef5 hf6
  have ef7 : f7 = [.ref q1, .ref q2, .ref q3, .ref q4, .ref q5, .ref q6, .int 0, .int 0, .int 0, .int 0, .int 0, .ref q7, .null, .null, .null, .null, .null, .int 0, .null, .null, .null, .int 0, .int 0, .int 0, .null, .null, .null, .null, .null, .null, .null, .int 0, .null, .int 0, .null, .null, .null, .null, .int 0, .null, .null, .null, .int 0, .null, .null, .null, .null, .null, .null, .int 0] := by
    rw [hf7, ef6]
    simp only [List.set_cons_zero, List.set_cons_succ]
  clear ef6 hf7
  have ef8 : f8 = [.ref q1, .ref q2, .ref q3, .ref q4, .ref q5, .ref q6, .int 0, .int 0, .int 0, .int 0, .int 0, .ref q7, .ref q8, .null, .null, .null, .null, .int 0, .null, .null, .null, .int 0, .int 0, .int 0, .null, .null, .null, .null, .null, .null, .null, .int 0, .null, .int 0, .null, .null, .null, .null, .int 0, .null, .null, .null, .int 0, .null, .null, .null, .null, .null, .null, .int 0] := by
    rw [hf8, ef7]
    simp only [List.set_cons_zero, List.set_cons_succ]
  clear ef7 hf8
  have ef9 : f9 = [.ref q1, .ref q2, .ref q3, .ref q4, .ref q5, .ref q6, .int 0, .int 0, .int 0, .int 0, .int 0, .ref q7, .ref q8, .ref q9, .null, .null, .null, .int 0, .null, .null, .null, .int 0, .int 0, .int 0, .null, .null, .null, .null, .null, .null, .null, .int 0, .null, .int 0, .null, .null, .null, .null, .int 0, .null, .null, .null, .int 0, .null, .null, .null, .null, .null, .null, .int 0] := by
    rw [hf9, ef8]
    simp only [List.set_cons_zero, List.set_cons_succ]
  clear ef8 hf9
  have ef10 : f10 = [.ref q1, .ref q2, .ref q3, .ref q4, .ref q5, .ref q6, .int 0, .int 0, .int 0, .int 0, .int 0, .ref q7, .ref q8, .ref q9, .ref q10, .null, .null, .int 0, .null, .null, .null, .int 0, .int 0, .int 0, .null, .null, .null, .null, .null, .null, .null, .int 0, .null, .int 0, .null, .null, .null, .null, .int 0, .null, .null, .null, .int 0, .null, .null, .null, .null, .null, .null, .int 0] := by
    rw [hf10, ef9]
    simp only [List.set_cons_zero, List.set_cons_succ]
  clear ef9 hf10
  have ef11 : f11 = [.ref q1, .ref q2, .ref q3, .ref q4, .ref q5, .ref q6, .int 0, .int 0, .int 0, .int 0, .int 0, .ref q7, .ref q8, .ref q9, .ref q10, .ref q11, .null, .int 0, .null, .null, .null, .int 0, .int 0, .int 0, .null, .null, .null, .null, .null, .null, .null, .int 0, .null, .int 0, .null, .null, .null, .null, .int 0, .null, .null, .null, .int 0, .null, .null, .null, .null, .null, .null, .int 0] := by
    rw [hf11, ef10]
    simp only [List.set_cons_zero, List.set_cons_succ]
  clear ef10 hf11
  have ef12 : f12 = [.ref q1, .ref q2, .ref q3, .ref q4, .ref q5, .ref q6, .int 0, .int 0, .int 0, .int 0, .int 0, .ref q7, .ref q8, .ref q9, .ref q10, .ref q11, .ref q12, .int 0, .null, .null, .null, .int 0, .int 0, .int 0, .null, .null, .null, .null, .null, .null, .null, .int 0, .null, .int 0, .null, .null, .null, .null, .int 0, .null, .null, .null, .int 0, .null, .null, .null, .null, .null, .null, .int 0] := by
    rw [hf12, ef11]
    simp only [List.set_cons_zero, List.set_cons_succ]
  clear ef11 hf12
  have ef13 : f13 = [.ref q1, .ref q2, .ref q3, .ref q4, .ref q5, .ref q6, .int 0, .int 0, .int 0, .int 0, .int 0, .ref q7, .ref q8, .ref q9, .ref q10, .ref q11, .ref q12, .int 0, .ref q13, .null, .null, .int 0, .int 0, .int 0, .null, .null, .null, .null, .null, .null, .null, .int 0, .null, .int 0, .null, .null, .null, .null, .int 0, .null, .null, .null, .int 0, .null, .null, .null, .null, .null, .null, .int 0] := by
    rw [hf13, ef12]
    simp only [List.set_cons_zero, List.set_cons_succ]
  clear ef12 hf13
  have ef14 : f14 = [.ref q1, .ref q2, .ref q3, .ref q4, .ref q5, .ref q6, .int 0, .int 0, .int 0, .int 0, .int 0, .ref q7, .ref q8, .ref q9, .ref q10, .ref q11, .ref q12, .int 0, .ref q13, .ref q14, .null, .int 0, .int 0, .int 0, .null, .null, .null, .null, .null, .null, .null, .int 0, .null, .int 0, .null, .null, .null, .null, .int 0, .null, .null, .null, .int 0, .null, .null, .null, .null, .null, .null, .int 0] := by
    rw [hf14, ef13]
    simp only [List.set_cons_zero, List.set_cons_succ]
  clear ef13 hf14
  have ef15 : f15 = [.ref q1, .ref q2, .ref q3, .ref q4, .ref q5, .ref q6, .int 0, .int 0, .int 0, .int 0, .int 0, .ref q7, .ref q8, .ref q9, .ref q10, .ref q11, .ref q12, .int 0, .ref q13, .ref q14, .ref q15, .int 0, .int 0, .int 0, .null, .null, .null, .null, .null, .null, .null, .int 0, .null, .int 0, .null, .null, .null, .null, .int 0, .null, .null, .null, .int 0, .null, .null, .null, .null, .null, .null, .int 0] := by
    rw [hf15, ef14]
    simp only [List.set_cons_zero, List.set_cons_succ]
  clear ef14 hf15
  have ef16 : f16 = [.ref q1, .ref q2, .ref q3, .ref q4, .ref q5, .ref q6, .int 0, .int 0, .int 0, .int 0, .int 0, .ref q7, .ref q8, .ref q9, .ref q10, .ref q11, .ref q12, .int 0, .ref q13, .ref q14, .ref q15, .int 0, .int 0, .int 0, .ref q16, .null, .null, .null, .null, .null, .null, .int 0, .null, .int 0, .null, .null, .null, .null, .int 0, .null, .null, .null, .int 0, .null, .null, .null, .null, .null, .null, .int 0] := by
    rw [hf16, ef15]
    simp only [List.set_cons_zero, List.set_cons_succ]
  clear ef15 hf16
  have ef17 : f17 = [.ref q1, .ref q2, .ref q3, .ref q4, .ref q5, .ref q6, .int 0, .int 0, .int 0, .int 0, .int 0, .ref q7, .ref q8, .ref q9, .ref q10, .ref q11, .ref q12, .int 0, .ref q13, .ref q14, .ref q15, .int 0, .int 0, .int 0, .ref q16, .ref q17, .null, .null, .null, .null, .null, .int 0, .null, .int 0, .null, .null, .null, .null, .int 0, .null, .null, .null, .int 0, .null, .null, .null, .null, .null, .null, .int 0] := by
    rw [hf17, ef16]
    simp only [List.set_cons_zero, List.set_cons_succ]
  clear ef16 hf17
  have ef18 : f18 = [.ref q1, .ref q2, .ref q3, .ref q4, .ref q5, .ref q6, .int 0, .int 0, .int 0, .int 0, .int 0, .ref q7, .ref q8, .ref q9, .ref q10, .ref q11, .ref q12, .int 0, .ref q13, .ref q14, .ref q15, .int 0, .int 0, .int 0, .ref q16, .ref q17, .ref q18, .null, .null, .null, .null, .int 0, .null, .int 0, .null, .null, .null, .null, .int 0, .null, .null, .null, .int 0, .null, .null, .null, .null, .null, .null, .int 0] := by
    rw [hf18, ef17]
    simp only [List.set_cons_zero, List.set_cons_succ]
  clear ef17 hf18
  have ef19 : f19 = [.ref q1, .ref q2, .ref q3, .ref q4, .ref q5, .ref q6, .int 0, .int 0, .int 0, .int 0, .int 0, .ref q7, .ref q8, .ref q9, .ref q10, .ref q11, .ref q12, .int 0, .ref q13, .ref q14, .ref q15, .int 0, .int 0, .int 0, .ref q16, .ref q17, .ref q18, .ref q19, .null, .null, .null, .int 0, .null, .int 0, .null, .null, .null, .null, .int 0, .null, .null, .null, .int 0, .null, .null, .null, .null, .null, .null, .int 0] := by
    rw [hf19, ef18]
    simp only [List.set_cons_zero, List.set_cons_succ]
  clear ef18 hf19
  have ef20 : f20 = [.ref q1, .ref q2, .ref q3, .ref q4, .ref q5, .ref q6, .int 0, .int 0, .int 0, .int 0, .int 0, .ref q7, .ref q8, .ref q9, .ref q10, .ref q11, .ref q12, .int 0, .ref q13, .ref q14, .ref q15, .int 0, .int 0, .int 0, .ref q16, .ref q17, .ref q18, .ref q19, .ref q20, .null, .null, .int 0, .null, .int 0, .null, .null, .null, .null, .int 0, .null, .null, .null, .int 0, .null, .null, .null, .null, .null, .null, .int 0] := by
    rw [hf20, ef19]
    simp only [List.set_cons_zero, List.set_cons_succ]
  clear ef19 hf20
  have ef21 : f21 = [.ref q1, .ref q2, .ref q3, .ref q4, .ref q5, .ref q6, .int 0, .int 0, .int 0, .int 0, .int 0, .ref q7, .ref q8, .ref q9, .ref q10, .ref q11, .ref q12, .int 0, .ref q13, .ref q14, .ref q15, .int 0, .int 0, .int 0, .ref q16, .ref q17, .ref q18, .ref q19, .ref q20, .ref q21, .null, .int 0, .null, .int 0, .null, .null, .null, .null, .int 0, .null, .null, .null, .int 0, .null, .null, .null, .null, .null, .null, .int 0] := by
    rw [hf21, ef20]
    simp only [List.set_cons_zero, List.set_cons_succ]
  clear ef20 hf21
  have ef22 : f22 = [.ref q1, .ref q2, .ref q3, .ref q4, .ref q5, .ref q6, .int 0, .int 0, .int 0, .int 0, .int 0, .ref q7, .ref q8, .ref q9, .ref q10, .ref q11, .ref q12, .int 0, .ref q13, .ref q14, .ref q15, .int 0, .int 0, .int 0, .ref q16, .ref q17, .ref q18, .ref q19, .ref q20, .ref q21, .ref q22, .int 0, .null, .int 0, .null, .null, .null, .null, .int 0, .null, .null, .null, .int 0, .null, .null, .null, .null, .null, .null, .int 0] := by
    rw [hf22, ef21]
    simp only [List.set_cons_zero, List.set_cons_succ]
  clear ef21 hf22
  have ef23 : f23 = [.ref q1, .ref q2, .ref q3, .ref q4, .ref q5, .ref q6, .int 0, .int 0, .int 0, .int 0, .int 0, .ref q7, .ref q8, .ref q9, .ref q10, .ref q11, .ref q12, .int 0, .ref q13, .ref q14, .ref q15, .int 0, .int 0, .int 0, .ref q16, .ref q17, .ref q18, .ref q19, .ref q20, .ref q21, .ref q22, .int 0, .ref q23, .int 0, .null, .null, .null, .null, .int 0, .null, .null, .null, .int 0, .null, .null, .null, .null, .null, .null, .int 0] := by
    rw [hf23, ef22]
    simp only [List.set_cons_zero, List.set_cons_succ]
  clear ef22 hf23
  have ef24 : f24 = [.ref q1, .ref q2, .ref q3, .ref q4, .ref q5, .ref q6, .int 0, .int 0, .int 0, .int 0, .int 0, .ref q7, .ref q8, .ref q9, .ref q10, .ref q11, .ref q12, .int 0, .ref q13, .ref q14, .ref q15, .int 0, .int 0, .int 0, .ref q16, .ref q17, .ref q18, .ref q19, .ref q20, .ref q21, .ref q22, .int 0, .ref q23, .int 0, .ref q24, .null, .null, .null, .int 0, .null, .null, .null, .int 0, .null, .null, .null, .null, .null, .null, .int 0] := by
    rw [hf24, ef23]
    simp only [List.set_cons_zero, List.set_cons_succ]
  clear ef23 hf24
  have ef25 : f25 = [.ref q1, .ref q2, .ref q3, .ref q4, .ref q5, .ref q6, .int 0, .int 0, .int 0, .int 0, .int 0, .ref q7, .ref q8, .ref q9, .ref q10, .ref q11, .ref q12, .int 0, .ref q13, .ref q14, .ref q15, .int 0, .int 0, .int 0, .ref q16, .ref q17, .ref q18, .ref q19, .ref q20, .ref q21, .ref q22, .int 0, .ref q23, .int 0, .ref q24, .ref q25, .null, .null, .int 0, .null, .null, .null, .int 0, .null, .null, .null, .null, .null, .null, .int 0] := by
    rw [hf25, ef24]
    simp only [List.set_cons_zero, List.set_cons_succ]
  clear ef24 hf25
  have ef26 : f26 = [.ref q1, .ref q2, .ref q3, .ref q4, .ref q5, .ref q6, .int 0, .int 0, .int 0, .int 0, .int 0, .ref q7, .ref q8, .ref q9, .ref q10, .ref q11, .ref q12, .int 0, .ref q13, .ref q14, .ref q15, .int 0, .int 0, .int 0, .ref q16, .ref q17, .ref q18, .ref q19, .ref q20, .ref q21, .ref q22, .int 0, .ref q23, .int 0, .ref q24, .ref q25, .ref q26, .null, .int 0, .null, .null, .null, .int 0, .null, .null, .null, .null, .null, .null, .int 0] := by
    rw [hf26, ef25]
    simp only [List.set_cons_zero, List.set_cons_succ]
  clear ef25 hf26
  have ef27 : f27 = [.ref q1, .ref q2, .ref q3, .ref q4, .ref q5, .ref q6, .int 0, .int 0, .int 0, .int 0, .int 0, .ref q7, .ref q8, .ref q9, .ref q10, .ref q11, .ref q12, .int 0, .ref q13, .ref q14, .ref q15, .int 0, .int 0, .int 0, .ref q16, .ref q17, .ref q18, .ref q19, .ref q20, .ref q21, .ref q22, .int 0, .ref q23, .int 0, .ref q24, .ref q25, .ref q26, .ref q27, .int 0, .null, .null, .null, .int 0, .null, .null, .null, .null, .null, .null, .int 0] := by
    rw [hf27, ef26]
    simp only [List.set_cons_zero, List.set_cons_succ]
  clear ef26 hf27
  have ef28 : f28 = [.ref q1, .ref q2, .ref q3, .ref q4, .ref q5, .ref q6, .int 0, .int 0, .int 0, .int 0, .int 0, .ref q7, .ref q8, .ref q9, .ref q10, .ref q11, .ref q12, .int 0, .ref q13, .ref q14, .ref q15, .int 0, .int 0, .int 0, .ref q16, .ref q17, .ref q18, .ref q19, .ref q20, .ref q21, .ref q22, .int 0, .ref q23, .int 0, .ref q24, .ref q25, .ref q26, .ref q27, .int 0, .ref q28, .null, .null, .int 0, .null, .null, .null, .null, .null, .null, .int 0] := by
    rw [hf28, ef27]
    simp only [List.set_cons_zero, List.set_cons_succ]
  clear ef27 hf28
  have ef29 : f29 = [.ref q1, .ref q2, .ref q3, .ref q4, .ref q5, .ref q6, .int 0, .int 0, .int 0, .int 0, .int 0, .ref q7, .ref q8, .ref q9, .ref q10, .ref q11, .ref q12, .int 0, .ref q13, .ref q14, .ref q15, .int 0, .int 0, .int 0, .ref q16, .ref q17, .ref q18, .ref q19, .ref q20, .ref q21, .ref q22, .int 0, .ref q23, .int 0, .ref q24, .ref q25, .ref q26, .ref q27, .int 0, .ref q28, .ref q29, .null, .int 0, .null, .null, .null, .null, .null, .null, .int 0] := by
    rw [hf29, ef28]
    simp only [List.set_cons_zero, List.set_cons_succ]
  clear ef28 hf29
  have ef30 : f30 = [.ref q1, .ref q2, .ref q3, .ref q4, .ref q5, .ref q6, .int 0, .int 0, .int 0, .int 0, .int 0, .ref q7, .ref q8, .ref q9, .ref q10, .ref q11, .ref q12, .int 0, .ref q13, .ref q14, .ref q15, .int 0, .int 0, .int 0, .ref q16, .ref q17, .ref q18, .ref q19, .ref q20, .ref q21, .ref q22, .int 0, .ref q23, .int 0, .ref q24, .ref q25, .ref q26, .ref q27, .int 0, .ref q28, .ref q29, .ref q30, .int 0, .null, .null, .null, .null, .null, .null, .int 0] := by
    rw [hf30, ef29]
    simp only [List.set_cons_zero, List.set_cons_succ]
  clear ef29 hf30
  have ef31 : f31 = [.ref q1, .ref q2, .ref q3, .ref q4, .ref q5, .ref q6, .int 0, .int 0, .int 0, .int 0, .int 0, .ref q7, .ref q8, .ref q9, .ref q10, .ref q11, .ref q12, .int 0, .ref q13, .ref q14, .ref q15, .int 0, .int 0, .int 0, .ref q16, .ref q17, .ref q18, .ref q19, .ref q20, .ref q21, .ref q22, .int 0, .ref q23, .int 0, .ref q24, .ref q25, .ref q26, .ref q27, .int 0, .ref q28, .ref q29, .ref q30, .int 0, .ref q31, .null, .null, .null, .null, .null, .int 0] := by
    rw [hf31, ef30]
    simp only [List.set_cons_zero, List.set_cons_succ]
  clear ef30 hf31
  have ef32 : f32 = [.ref q1, .ref q2, .ref q3, .ref q4, .ref q5, .ref q6, .int 0, .int 0, .int 0, .int 0, .int 0, .ref q7, .ref q8, .ref q9, .ref q10, .ref q11, .ref q12, .int 0, .ref q13, .ref q14, .ref q15, .int 0, .int 0, .int 0, .ref q16, .ref q17, .ref q18, .ref q19, .ref q20, .ref q21, .ref q22, .int 0, .ref q23, .int 0, .ref q24, .ref q25, .ref q26, .ref q27, .int 0, .ref q28, .ref q29, .ref q30, .int 0, .ref q31, .ref q32, .null, .null, .null, .null, .int 0] := by
    rw [hf32, ef31]
    simp only [List.set_cons_zero, List.set_cons_succ]
  clear ef31 hf32
  have ef33 : f33 = [.ref q1, .ref q2, .ref q3, .ref q4, .ref q5, .ref q6, .int 0, .int 0, .int 0, .int 0, .int 0, .ref q7, .ref q8, .ref q9, .ref q10, .ref q11, .ref q12, .int 0, .ref q13, .ref q14, .ref q15, .int 0, .int 0, .int 0, .ref q16, .ref q17, .ref q18, .ref q19, .ref q20, .ref q21, .ref q22, .int 0, .ref q23, .int 0, .ref q24, .ref q25, .ref q26, .ref q27, .int 0, .ref q28, .ref q29, .ref q30, .int 0, .ref q31, .ref q32, .ref q33, .null, .null, .null, .int 0] := by
    rw [hf33, ef32]
    simp only [List.set_cons_zero, List.set_cons_succ]
  clear ef32 hf33
  have ef34 : f34 = [.ref q1, .ref q2, .ref q3, .ref q4, .ref q5, .ref q6, .int 0, .int 0, .int 0, .int 0, .int 0, .ref q7, .ref q8, .ref q9, .ref q10, .ref q11, .ref q12, .int 0, .ref q13, .ref q14, .ref q15, .int 0, .int 0, .int 0, .ref q16, .ref q17, .ref q18, .ref q19, .ref q20, .ref q21, .ref q22, .int 0, .ref q23, .int 0, .ref q24, .ref q25, .ref q26, .ref q27, .int 0, .ref q28, .ref q29, .ref q30, .int 0, .ref q31, .ref q32, .ref q33, .ref q34, .null, .null, .int 0] := by
    rw [hf34, ef33]
    simp only [List.set_cons_zero, List.set_cons_succ]
  clear ef33 hf34
  have ef35 : f35 = [.ref q1, .ref q2, .ref q3, .ref q4, .ref q5, .ref q6, .int 0, .int 0, .int 0, .int 0, .int 0, .ref q7, .ref q8, .ref q9, .ref q10, .ref q11, .ref q12, .int 0, .ref q13, .ref q14, .ref q15, .int 0, .int 0, .int 0, .ref q16, .ref q17, .ref q18, .ref q19, .ref q20, .ref q21, .ref q22, .int 0, .ref q23, .int 0, .ref q24, .ref q25, .ref q26, .ref q27, .int 0, .ref q28, .ref q29, .ref q30, .int 0, .ref q31, .ref q32, .ref q33, .ref q34, .ref q35, .null, .int 0] := by
    rw [hf35, ef34]
    simp only [List.set_cons_zero, List.set_cons_succ]
  clear ef34 hf35
  have ef36 : f36 = [.ref q1, .ref q2, .ref q3, .ref q4, .ref q5, .ref q6, .int 0, .int 0, .int 0, .int 0, .int 0, .ref q7, .ref q8, .ref q9, .ref q10, .ref q11, .ref q12, .int 0, .ref q13, .ref q14, .ref q15, .int 0, .int 0, .int 0, .ref q16, .ref q17, .ref q18, .ref q19, .ref q20, .ref q21, .ref q22, .int 0, .ref q23, .int 0, .ref q24, .ref q25, .ref q26, .ref q27, .int 0, .ref q28, .ref q29, .ref q30, .int 0, .ref q31, .ref q32, .ref q33, .ref q34, .ref q35, .ref q36, .int 0] := by
    rw [hf36, ef35]
    simp only [List.set_cons_zero, List.set_cons_succ]
  clear ef35 hf36
  rw [ef36] at hP hD
  have er0 : r0 = [] := hr0
  have er1 : r1 = [(q1, .inl (t.1, 16, .inl u_first))] := by
    rw [hr1, er0]
    simp only [List.nil_append, List.cons_append]
  clear er0 hr1
  have er2 : r2 = [(q1, .inl (t.1, 16, .inl u_first)), (q2, .inl (t.1, 16, .inl u_least))] := by
    rw [hr2, er1]
    simp only [List.nil_append, List.cons_append]
  clear er1 hr2
  have er3 : r3 = [(q1, .inl (t.1, 16, .inl u_first)), (q2, .inl (t.1, 16, .inl u_least)), (q3, .inl (t.1, 16, .inl u_most))] := by
    rw [hr3, er2]
    simp only [List.nil_append, List.cons_append]
  clear er2 hr3
  have er4 : r4 = [(q1, .inl (t.1, 16, .inl u_first)), (q2, .inl (t.1, 16, .inl u_least)), (q3, .inl (t.1, 16, .inl u_most)), (q4, .inl (t.1, 800, .inl (fun _ => 0)))] := by
    rw [hr4, er3]
    simp only [List.nil_append, List.cons_append]
  clear er3 hr4
  have er5 : r5 = [(q1, .inl (t.1, 16, .inl u_first)), (q2, .inl (t.1, 16, .inl u_least)), (q3, .inl (t.1, 16, .inl u_most)), (q4, .inl (t.1, 800, .inl (fun _ => 0))), (q5, .inl (t.1, 400, .inl (fun _ => 0)))] := by
    rw [hr5, er4]
    simp only [List.nil_append, List.cons_append]
  clear er4 hr5
  have er6 : r6 = [(q1, .inl (t.1, 16, .inl u_first)), (q2, .inl (t.1, 16, .inl u_least)), (q3, .inl (t.1, 16, .inl u_most)), (q4, .inl (t.1, 800, .inl (fun _ => 0))), (q5, .inl (t.1, 400, .inl (fun _ => 0))), (q6, .inl (t.1, 12, .inl (fun _ => 0)))] := by
    rw [hr6, er5]
    simp only [List.nil_append, List.cons_append]
  clear er5 hr6
  have er7 : r7 = [(q1, .inl (t.1, 16, .inl u_first)), (q2, .inl (t.1, 16, .inl u_least)), (q3, .inl (t.1, 16, .inl u_most)), (q4, .inl (t.1, 800, .inl (fun _ => 0))), (q5, .inl (t.1, 400, .inl (fun _ => 0))), (q6, .inl (t.1, 12, .inl (fun _ => 0))), (q7, .inl (t.1, 50, .inl (fun _ => 0)))] := by
    rw [hr7, er6]
    simp only [List.nil_append, List.cons_append]
  clear er6 hr7
  have er8 : r8 = [(q1, .inl (t.1, 16, .inl u_first)), (q2, .inl (t.1, 16, .inl u_least)), (q3, .inl (t.1, 16, .inl u_most)), (q4, .inl (t.1, 800, .inl (fun _ => 0))), (q5, .inl (t.1, 400, .inl (fun _ => 0))), (q6, .inl (t.1, 12, .inl (fun _ => 0))), (q7, .inl (t.1, 50, .inl (fun _ => 0))), (q8, .inl (t.1, 50, .inl (fun _ => 0)))] := by
    rw [hr8, er7]
    simp only [List.nil_append, List.cons_append]
  clear er7 hr8
  have er9 : r9 = [(q1, .inl (t.1, 16, .inl u_first)), (q2, .inl (t.1, 16, .inl u_least)), (q3, .inl (t.1, 16, .inl u_most)), (q4, .inl (t.1, 800, .inl (fun _ => 0))), (q5, .inl (t.1, 400, .inl (fun _ => 0))), (q6, .inl (t.1, 12, .inl (fun _ => 0))), (q7, .inl (t.1, 50, .inl (fun _ => 0))), (q8, .inl (t.1, 50, .inl (fun _ => 0))), (q9, .inl (t.1, 660, .inl (fun _ => 0)))] := by
    rw [hr9, er8]
    simp only [List.nil_append, List.cons_append]
  clear er8 hr9
  have er10 : r10 = [(q1, .inl (t.1, 16, .inl u_first)), (q2, .inl (t.1, 16, .inl u_least)), (q3, .inl (t.1, 16, .inl u_most)), (q4, .inl (t.1, 800, .inl (fun _ => 0))), (q5, .inl (t.1, 400, .inl (fun _ => 0))), (q6, .inl (t.1, 12, .inl (fun _ => 0))), (q7, .inl (t.1, 50, .inl (fun _ => 0))), (q8, .inl (t.1, 50, .inl (fun _ => 0))), (q9, .inl (t.1, 660, .inl (fun _ => 0))), (q10, .inl (t.1, 660, .inl (fun _ => 0)))] := by
    rw [hr10, er9]
    simp only [List.nil_append, List.cons_append]
  clear er9 hr10
  have er11 : r11 = [(q1, .inl (t.1, 16, .inl u_first)), (q2, .inl (t.1, 16, .inl u_least)), (q3, .inl (t.1, 16, .inl u_most)), (q4, .inl (t.1, 800, .inl (fun _ => 0))), (q5, .inl (t.1, 400, .inl (fun _ => 0))), (q6, .inl (t.1, 12, .inl (fun _ => 0))), (q7, .inl (t.1, 50, .inl (fun _ => 0))), (q8, .inl (t.1, 50, .inl (fun _ => 0))), (q9, .inl (t.1, 660, .inl (fun _ => 0))), (q10, .inl (t.1, 660, .inl (fun _ => 0))), (q11, .inl (t.1, 110, .inl (fun _ => 0)))] := by
    rw [hr11, er10]
    simp only [List.nil_append, List.cons_append]
  clear er10 hr11
  have er12 : r12 = [(q1, .inl (t.1, 16, .inl u_first)), (q2, .inl (t.1, 16, .inl u_least)), (q3, .inl (t.1, 16, .inl u_most)), (q4, .inl (t.1, 800, .inl (fun _ => 0))), (q5, .inl (t.1, 400, .inl (fun _ => 0))), (q6, .inl (t.1, 12, .inl (fun _ => 0))), (q7, .inl (t.1, 50, .inl (fun _ => 0))), (q8, .inl (t.1, 50, .inl (fun _ => 0))), (q9, .inl (t.1, 660, .inl (fun _ => 0))), (q10, .inl (t.1, 660, .inl (fun _ => 0))), (q11, .inl (t.1, 110, .inl (fun _ => 0))), (q12, .inl (t.2.1, 50, .inl (fun _ => 0)))] := by
    rw [hr12, er11]
    simp only [List.nil_append, List.cons_append]
  clear er11 hr12
  have er13 : r13 = [(q1, .inl (t.1, 16, .inl u_first)), (q2, .inl (t.1, 16, .inl u_least)), (q3, .inl (t.1, 16, .inl u_most)), (q4, .inl (t.1, 800, .inl (fun _ => 0))), (q5, .inl (t.1, 400, .inl (fun _ => 0))), (q6, .inl (t.1, 12, .inl (fun _ => 0))), (q7, .inl (t.1, 50, .inl (fun _ => 0))), (q8, .inl (t.1, 50, .inl (fun _ => 0))), (q9, .inl (t.1, 660, .inl (fun _ => 0))), (q10, .inl (t.1, 660, .inl (fun _ => 0))), (q11, .inl (t.1, 110, .inl (fun _ => 0))), (q12, .inl (t.2.1, 50, .inl (fun _ => 0))), (q13, .inl (t.1, 660, .inl (fun _ => 0)))] := by
    rw [hr13, er12]
    simp only [List.nil_append, List.cons_append]
  clear er12 hr13
  have er14 : r14 = [(q1, .inl (t.1, 16, .inl u_first)), (q2, .inl (t.1, 16, .inl u_least)), (q3, .inl (t.1, 16, .inl u_most)), (q4, .inl (t.1, 800, .inl (fun _ => 0))), (q5, .inl (t.1, 400, .inl (fun _ => 0))), (q6, .inl (t.1, 12, .inl (fun _ => 0))), (q7, .inl (t.1, 50, .inl (fun _ => 0))), (q8, .inl (t.1, 50, .inl (fun _ => 0))), (q9, .inl (t.1, 660, .inl (fun _ => 0))), (q10, .inl (t.1, 660, .inl (fun _ => 0))), (q11, .inl (t.1, 110, .inl (fun _ => 0))), (q12, .inl (t.2.1, 50, .inl (fun _ => 0))), (q13, .inl (t.1, 660, .inl (fun _ => 0))), (q14, .inl (t.1, 110, .inl (fun _ => 0)))] := by
    rw [hr14, er13]
    simp only [List.nil_append, List.cons_append]
  clear er13 hr14
  have er15 : r15 = [(q1, .inl (t.1, 16, .inl u_first)), (q2, .inl (t.1, 16, .inl u_least)), (q3, .inl (t.1, 16, .inl u_most)), (q4, .inl (t.1, 800, .inl (fun _ => 0))), (q5, .inl (t.1, 400, .inl (fun _ => 0))), (q6, .inl (t.1, 12, .inl (fun _ => 0))), (q7, .inl (t.1, 50, .inl (fun _ => 0))), (q8, .inl (t.1, 50, .inl (fun _ => 0))), (q9, .inl (t.1, 660, .inl (fun _ => 0))), (q10, .inl (t.1, 660, .inl (fun _ => 0))), (q11, .inl (t.1, 110, .inl (fun _ => 0))), (q12, .inl (t.2.1, 50, .inl (fun _ => 0))), (q13, .inl (t.1, 660, .inl (fun _ => 0))), (q14, .inl (t.1, 110, .inl (fun _ => 0))), (q15, .inl (t.2.1, 660, .inl (fun _ => 0)))] := by
    rw [hr15, er14]
    simp only [List.nil_append, List.cons_append]
  clear er14 hr15
  have er16 : r16 = [(q1, .inl (t.1, 16, .inl u_first)), (q2, .inl (t.1, 16, .inl u_least)), (q3, .inl (t.1, 16, .inl u_most)), (q4, .inl (t.1, 800, .inl (fun _ => 0))), (q5, .inl (t.1, 400, .inl (fun _ => 0))), (q6, .inl (t.1, 12, .inl (fun _ => 0))), (q7, .inl (t.1, 50, .inl (fun _ => 0))), (q8, .inl (t.1, 50, .inl (fun _ => 0))), (q9, .inl (t.1, 660, .inl (fun _ => 0))), (q10, .inl (t.1, 660, .inl (fun _ => 0))), (q11, .inl (t.1, 110, .inl (fun _ => 0))), (q12, .inl (t.2.1, 50, .inl (fun _ => 0))), (q13, .inl (t.1, 660, .inl (fun _ => 0))), (q14, .inl (t.1, 110, .inl (fun _ => 0))), (q15, .inl (t.2.1, 660, .inl (fun _ => 0))), (q16, .inl (t.1, 5280, .inl (fun _ => 0)))] := by
    rw [hr16, er15]
    simp only [List.nil_append, List.cons_append]
  clear er15 hr16
  have er17 : r17 = [(q1, .inl (t.1, 16, .inl u_first)), (q2, .inl (t.1, 16, .inl u_least)), (q3, .inl (t.1, 16, .inl u_most)), (q4, .inl (t.1, 800, .inl (fun _ => 0))), (q5, .inl (t.1, 400, .inl (fun _ => 0))), (q6, .inl (t.1, 12, .inl (fun _ => 0))), (q7, .inl (t.1, 50, .inl (fun _ => 0))), (q8, .inl (t.1, 50, .inl (fun _ => 0))), (q9, .inl (t.1, 660, .inl (fun _ => 0))), (q10, .inl (t.1, 660, .inl (fun _ => 0))), (q11, .inl (t.1, 110, .inl (fun _ => 0))), (q12, .inl (t.2.1, 50, .inl (fun _ => 0))), (q13, .inl (t.1, 660, .inl (fun _ => 0))), (q14, .inl (t.1, 110, .inl (fun _ => 0))), (q15, .inl (t.2.1, 660, .inl (fun _ => 0))), (q16, .inl (t.1, 5280, .inl (fun _ => 0))), (q17, .inl (t.1, 5280, .inl (fun _ => 0)))] := by
    rw [hr17, er16]
    simp only [List.nil_append, List.cons_append]
  clear er16 hr17
  have er18 : r18 = [(q1, .inl (t.1, 16, .inl u_first)), (q2, .inl (t.1, 16, .inl u_least)), (q3, .inl (t.1, 16, .inl u_most)), (q4, .inl (t.1, 800, .inl (fun _ => 0))), (q5, .inl (t.1, 400, .inl (fun _ => 0))), (q6, .inl (t.1, 12, .inl (fun _ => 0))), (q7, .inl (t.1, 50, .inl (fun _ => 0))), (q8, .inl (t.1, 50, .inl (fun _ => 0))), (q9, .inl (t.1, 660, .inl (fun _ => 0))), (q10, .inl (t.1, 660, .inl (fun _ => 0))), (q11, .inl (t.1, 110, .inl (fun _ => 0))), (q12, .inl (t.2.1, 50, .inl (fun _ => 0))), (q13, .inl (t.1, 660, .inl (fun _ => 0))), (q14, .inl (t.1, 110, .inl (fun _ => 0))), (q15, .inl (t.2.1, 660, .inl (fun _ => 0))), (q16, .inl (t.1, 5280, .inl (fun _ => 0))), (q17, .inl (t.1, 5280, .inl (fun _ => 0))), (q18, .inl (t.1, 5280, .inl (fun _ => 0)))] := by
    rw [hr18, er17]
    simp only [List.nil_append, List.cons_append]
  clear er17 hr18
  have er19 : r19 = [(q1, .inl (t.1, 16, .inl u_first)), (q2, .inl (t.1, 16, .inl u_least)), (q3, .inl (t.1, 16, .inl u_most)), (q4, .inl (t.1, 800, .inl (fun _ => 0))), (q5, .inl (t.1, 400, .inl (fun _ => 0))), (q6, .inl (t.1, 12, .inl (fun _ => 0))), (q7, .inl (t.1, 50, .inl (fun _ => 0))), (q8, .inl (t.1, 50, .inl (fun _ => 0))), (q9, .inl (t.1, 660, .inl (fun _ => 0))), (q10, .inl (t.1, 660, .inl (fun _ => 0))), (q11, .inl (t.1, 110, .inl (fun _ => 0))), (q12, .inl (t.2.1, 50, .inl (fun _ => 0))), (q13, .inl (t.1, 660, .inl (fun _ => 0))), (q14, .inl (t.1, 110, .inl (fun _ => 0))), (q15, .inl (t.2.1, 660, .inl (fun _ => 0))), (q16, .inl (t.1, 5280, .inl (fun _ => 0))), (q17, .inl (t.1, 5280, .inl (fun _ => 0))), (q18, .inl (t.1, 5280, .inl (fun _ => 0))), (q19, .inl (t.1, 660, .inl (fun _ => 0)))] := by
    rw [hr19, er18]
    simp only [List.nil_append, List.cons_append]
  clear er18 hr19
  have er20 : r20 = [(q1, .inl (t.1, 16, .inl u_first)), (q2, .inl (t.1, 16, .inl u_least)), (q3, .inl (t.1, 16, .inl u_most)), (q4, .inl (t.1, 800, .inl (fun _ => 0))), (q5, .inl (t.1, 400, .inl (fun _ => 0))), (q6, .inl (t.1, 12, .inl (fun _ => 0))), (q7, .inl (t.1, 50, .inl (fun _ => 0))), (q8, .inl (t.1, 50, .inl (fun _ => 0))), (q9, .inl (t.1, 660, .inl (fun _ => 0))), (q10, .inl (t.1, 660, .inl (fun _ => 0))), (q11, .inl (t.1, 110, .inl (fun _ => 0))), (q12, .inl (t.2.1, 50, .inl (fun _ => 0))), (q13, .inl (t.1, 660, .inl (fun _ => 0))), (q14, .inl (t.1, 110, .inl (fun _ => 0))), (q15, .inl (t.2.1, 660, .inl (fun _ => 0))), (q16, .inl (t.1, 5280, .inl (fun _ => 0))), (q17, .inl (t.1, 5280, .inl (fun _ => 0))), (q18, .inl (t.1, 5280, .inl (fun _ => 0))), (q19, .inl (t.1, 660, .inl (fun _ => 0))), (q20, .inl (t.1, 9, .inl (fun _ => 0)))] := by
    rw [hr20, er19]
    simp only [List.nil_append, List.cons_append]
  clear er19 hr20
  have er21 : r21 = [(q1, .inl (t.1, 16, .inl u_first)), (q2, .inl (t.1, 16, .inl u_least)), (q3, .inl (t.1, 16, .inl u_most)), (q4, .inl (t.1, 800, .inl (fun _ => 0))), (q5, .inl (t.1, 400, .inl (fun _ => 0))), (q6, .inl (t.1, 12, .inl (fun _ => 0))), (q7, .inl (t.1, 50, .inl (fun _ => 0))), (q8, .inl (t.1, 50, .inl (fun _ => 0))), (q9, .inl (t.1, 660, .inl (fun _ => 0))), (q10, .inl (t.1, 660, .inl (fun _ => 0))), (q11, .inl (t.1, 110, .inl (fun _ => 0))), (q12, .inl (t.2.1, 50, .inl (fun _ => 0))), (q13, .inl (t.1, 660, .inl (fun _ => 0))), (q14, .inl (t.1, 110, .inl (fun _ => 0))), (q15, .inl (t.2.1, 660, .inl (fun _ => 0))), (q16, .inl (t.1, 5280, .inl (fun _ => 0))), (q17, .inl (t.1, 5280, .inl (fun _ => 0))), (q18, .inl (t.1, 5280, .inl (fun _ => 0))), (q19, .inl (t.1, 660, .inl (fun _ => 0))), (q20, .inl (t.1, 9, .inl (fun _ => 0))), (q21, .inl (t.1, 9, .inl (fun _ => 0)))] := by
    rw [hr21, er20]
    simp only [List.nil_append, List.cons_append]
  clear er20 hr21
  have er22 : r22 = [(q1, .inl (t.1, 16, .inl u_first)), (q2, .inl (t.1, 16, .inl u_least)), (q3, .inl (t.1, 16, .inl u_most)), (q4, .inl (t.1, 800, .inl (fun _ => 0))), (q5, .inl (t.1, 400, .inl (fun _ => 0))), (q6, .inl (t.1, 12, .inl (fun _ => 0))), (q7, .inl (t.1, 50, .inl (fun _ => 0))), (q8, .inl (t.1, 50, .inl (fun _ => 0))), (q9, .inl (t.1, 660, .inl (fun _ => 0))), (q10, .inl (t.1, 660, .inl (fun _ => 0))), (q11, .inl (t.1, 110, .inl (fun _ => 0))), (q12, .inl (t.2.1, 50, .inl (fun _ => 0))), (q13, .inl (t.1, 660, .inl (fun _ => 0))), (q14, .inl (t.1, 110, .inl (fun _ => 0))), (q15, .inl (t.2.1, 660, .inl (fun _ => 0))), (q16, .inl (t.1, 5280, .inl (fun _ => 0))), (q17, .inl (t.1, 5280, .inl (fun _ => 0))), (q18, .inl (t.1, 5280, .inl (fun _ => 0))), (q19, .inl (t.1, 660, .inl (fun _ => 0))), (q20, .inl (t.1, 9, .inl (fun _ => 0))), (q21, .inl (t.1, 9, .inl (fun _ => 0))), (q22, .inl (t.1, 9, .inl (fun _ => 0)))] := by
    rw [hr22, er21]
    simp only [List.nil_append, List.cons_append]
  clear er21 hr22
  have er23 : r23 = [(q1, .inl (t.1, 16, .inl u_first)), (q2, .inl (t.1, 16, .inl u_least)), (q3, .inl (t.1, 16, .inl u_most)), (q4, .inl (t.1, 800, .inl (fun _ => 0))), (q5, .inl (t.1, 400, .inl (fun _ => 0))), (q6, .inl (t.1, 12, .inl (fun _ => 0))), (q7, .inl (t.1, 50, .inl (fun _ => 0))), (q8, .inl (t.1, 50, .inl (fun _ => 0))), (q9, .inl (t.1, 660, .inl (fun _ => 0))), (q10, .inl (t.1, 660, .inl (fun _ => 0))), (q11, .inl (t.1, 110, .inl (fun _ => 0))), (q12, .inl (t.2.1, 50, .inl (fun _ => 0))), (q13, .inl (t.1, 660, .inl (fun _ => 0))), (q14, .inl (t.1, 110, .inl (fun _ => 0))), (q15, .inl (t.2.1, 660, .inl (fun _ => 0))), (q16, .inl (t.1, 5280, .inl (fun _ => 0))), (q17, .inl (t.1, 5280, .inl (fun _ => 0))), (q18, .inl (t.1, 5280, .inl (fun _ => 0))), (q19, .inl (t.1, 660, .inl (fun _ => 0))), (q20, .inl (t.1, 9, .inl (fun _ => 0))), (q21, .inl (t.1, 9, .inl (fun _ => 0))), (q22, .inl (t.1, 9, .inl (fun _ => 0))), (q23, .inl (t.1, 111, .inl (fun _ => 0)))] := by
    rw [hr23, er22]
    simp only [List.nil_append, List.cons_append]
  clear er22 hr23
  have er24 : r24 = [(q1, .inl (t.1, 16, .inl u_first)), (q2, .inl (t.1, 16, .inl u_least)), (q3, .inl (t.1, 16, .inl u_most)), (q4, .inl (t.1, 800, .inl (fun _ => 0))), (q5, .inl (t.1, 400, .inl (fun _ => 0))), (q6, .inl (t.1, 12, .inl (fun _ => 0))), (q7, .inl (t.1, 50, .inl (fun _ => 0))), (q8, .inl (t.1, 50, .inl (fun _ => 0))), (q9, .inl (t.1, 660, .inl (fun _ => 0))), (q10, .inl (t.1, 660, .inl (fun _ => 0))), (q11, .inl (t.1, 110, .inl (fun _ => 0))), (q12, .inl (t.2.1, 50, .inl (fun _ => 0))), (q13, .inl (t.1, 660, .inl (fun _ => 0))), (q14, .inl (t.1, 110, .inl (fun _ => 0))), (q15, .inl (t.2.1, 660, .inl (fun _ => 0))), (q16, .inl (t.1, 5280, .inl (fun _ => 0))), (q17, .inl (t.1, 5280, .inl (fun _ => 0))), (q18, .inl (t.1, 5280, .inl (fun _ => 0))), (q19, .inl (t.1, 660, .inl (fun _ => 0))), (q20, .inl (t.1, 9, .inl (fun _ => 0))), (q21, .inl (t.1, 9, .inl (fun _ => 0))), (q22, .inl (t.1, 9, .inl (fun _ => 0))), (q23, .inl (t.1, 111, .inl (fun _ => 0))), (q24, .inl (t.1, 110, .inl (fun _ => 0)))] := by
    rw [hr24, er23]
    simp only [List.nil_append, List.cons_append]
  clear er23 hr24
  have er25 : r25 = [(q1, .inl (t.1, 16, .inl u_first)), (q2, .inl (t.1, 16, .inl u_least)), (q3, .inl (t.1, 16, .inl u_most)), (q4, .inl (t.1, 800, .inl (fun _ => 0))), (q5, .inl (t.1, 400, .inl (fun _ => 0))), (q6, .inl (t.1, 12, .inl (fun _ => 0))), (q7, .inl (t.1, 50, .inl (fun _ => 0))), (q8, .inl (t.1, 50, .inl (fun _ => 0))), (q9, .inl (t.1, 660, .inl (fun _ => 0))), (q10, .inl (t.1, 660, .inl (fun _ => 0))), (q11, .inl (t.1, 110, .inl (fun _ => 0))), (q12, .inl (t.2.1, 50, .inl (fun _ => 0))), (q13, .inl (t.1, 660, .inl (fun _ => 0))), (q14, .inl (t.1, 110, .inl (fun _ => 0))), (q15, .inl (t.2.1, 660, .inl (fun _ => 0))), (q16, .inl (t.1, 5280, .inl (fun _ => 0))), (q17, .inl (t.1, 5280, .inl (fun _ => 0))), (q18, .inl (t.1, 5280, .inl (fun _ => 0))), (q19, .inl (t.1, 660, .inl (fun _ => 0))), (q20, .inl (t.1, 9, .inl (fun _ => 0))), (q21, .inl (t.1, 9, .inl (fun _ => 0))), (q22, .inl (t.1, 9, .inl (fun _ => 0))), (q23, .inl (t.1, 111, .inl (fun _ => 0))), (q24, .inl (t.1, 110, .inl (fun _ => 0))), (q25, .inl (t.1, 110, .inl (fun _ => 0)))] := by
    rw [hr25, er24]
    simp only [List.nil_append, List.cons_append]
  clear er24 hr25
  have er26 : r26 = [(q1, .inl (t.1, 16, .inl u_first)), (q2, .inl (t.1, 16, .inl u_least)), (q3, .inl (t.1, 16, .inl u_most)), (q4, .inl (t.1, 800, .inl (fun _ => 0))), (q5, .inl (t.1, 400, .inl (fun _ => 0))), (q6, .inl (t.1, 12, .inl (fun _ => 0))), (q7, .inl (t.1, 50, .inl (fun _ => 0))), (q8, .inl (t.1, 50, .inl (fun _ => 0))), (q9, .inl (t.1, 660, .inl (fun _ => 0))), (q10, .inl (t.1, 660, .inl (fun _ => 0))), (q11, .inl (t.1, 110, .inl (fun _ => 0))), (q12, .inl (t.2.1, 50, .inl (fun _ => 0))), (q13, .inl (t.1, 660, .inl (fun _ => 0))), (q14, .inl (t.1, 110, .inl (fun _ => 0))), (q15, .inl (t.2.1, 660, .inl (fun _ => 0))), (q16, .inl (t.1, 5280, .inl (fun _ => 0))), (q17, .inl (t.1, 5280, .inl (fun _ => 0))), (q18, .inl (t.1, 5280, .inl (fun _ => 0))), (q19, .inl (t.1, 660, .inl (fun _ => 0))), (q20, .inl (t.1, 9, .inl (fun _ => 0))), (q21, .inl (t.1, 9, .inl (fun _ => 0))), (q22, .inl (t.1, 9, .inl (fun _ => 0))), (q23, .inl (t.1, 111, .inl (fun _ => 0))), (q24, .inl (t.1, 110, .inl (fun _ => 0))), (q25, .inl (t.1, 110, .inl (fun _ => 0))), (q26, .inl (t.1, 110, .inl (fun _ => 0)))] := by
    rw [hr26, er25]
    simp only [List.nil_append, List.cons_append]
  clear er25 hr26
  have er27 : r27 = [(q1, .inl (t.1, 16, .inl u_first)), (q2, .inl (t.1, 16, .inl u_least)), (q3, .inl (t.1, 16, .inl u_most)), (q4, .inl (t.1, 800, .inl (fun _ => 0))), (q5, .inl (t.1, 400, .inl (fun _ => 0))), (q6, .inl (t.1, 12, .inl (fun _ => 0))), (q7, .inl (t.1, 50, .inl (fun _ => 0))), (q8, .inl (t.1, 50, .inl (fun _ => 0))), (q9, .inl (t.1, 660, .inl (fun _ => 0))), (q10, .inl (t.1, 660, .inl (fun _ => 0))), (q11, .inl (t.1, 110, .inl (fun _ => 0))), (q12, .inl (t.2.1, 50, .inl (fun _ => 0))), (q13, .inl (t.1, 660, .inl (fun _ => 0))), (q14, .inl (t.1, 110, .inl (fun _ => 0))), (q15, .inl (t.2.1, 660, .inl (fun _ => 0))), (q16, .inl (t.1, 5280, .inl (fun _ => 0))), (q17, .inl (t.1, 5280, .inl (fun _ => 0))), (q18, .inl (t.1, 5280, .inl (fun _ => 0))), (q19, .inl (t.1, 660, .inl (fun _ => 0))), (q20, .inl (t.1, 9, .inl (fun _ => 0))), (q21, .inl (t.1, 9, .inl (fun _ => 0))), (q22, .inl (t.1, 9, .inl (fun _ => 0))), (q23, .inl (t.1, 111, .inl (fun _ => 0))), (q24, .inl (t.1, 110, .inl (fun _ => 0))), (q25, .inl (t.1, 110, .inl (fun _ => 0))), (q26, .inl (t.1, 110, .inl (fun _ => 0))), (q27, .inl (t.1, 110, .inl (fun _ => 0)))] := by
    rw [hr27, er26]
    simp only [List.nil_append, List.cons_append]
  clear er26 hr27
  have er28 : r28 = [(q1, .inl (t.1, 16, .inl u_first)), (q2, .inl (t.1, 16, .inl u_least)), (q3, .inl (t.1, 16, .inl u_most)), (q4, .inl (t.1, 800, .inl (fun _ => 0))), (q5, .inl (t.1, 400, .inl (fun _ => 0))), (q6, .inl (t.1, 12, .inl (fun _ => 0))), (q7, .inl (t.1, 50, .inl (fun _ => 0))), (q8, .inl (t.1, 50, .inl (fun _ => 0))), (q9, .inl (t.1, 660, .inl (fun _ => 0))), (q10, .inl (t.1, 660, .inl (fun _ => 0))), (q11, .inl (t.1, 110, .inl (fun _ => 0))), (q12, .inl (t.2.1, 50, .inl (fun _ => 0))), (q13, .inl (t.1, 660, .inl (fun _ => 0))), (q14, .inl (t.1, 110, .inl (fun _ => 0))), (q15, .inl (t.2.1, 660, .inl (fun _ => 0))), (q16, .inl (t.1, 5280, .inl (fun _ => 0))), (q17, .inl (t.1, 5280, .inl (fun _ => 0))), (q18, .inl (t.1, 5280, .inl (fun _ => 0))), (q19, .inl (t.1, 660, .inl (fun _ => 0))), (q20, .inl (t.1, 9, .inl (fun _ => 0))), (q21, .inl (t.1, 9, .inl (fun _ => 0))), (q22, .inl (t.1, 9, .inl (fun _ => 0))), (q23, .inl (t.1, 111, .inl (fun _ => 0))), (q24, .inl (t.1, 110, .inl (fun _ => 0))), (q25, .inl (t.1, 110, .inl (fun _ => 0))), (q26, .inl (t.1, 110, .inl (fun _ => 0))), (q27, .inl (t.1, 110, .inl (fun _ => 0))), (q28, .inl (t.1, 50, .inl (fun _ => 0)))] := by
    rw [hr28, er27]
    simp only [List.nil_append, List.cons_append]
  clear er27 hr28
  have er29 : r29 = [(q1, .inl (t.1, 16, .inl u_first)), (q2, .inl (t.1, 16, .inl u_least)), (q3, .inl (t.1, 16, .inl u_most)), (q4, .inl (t.1, 800, .inl (fun _ => 0))), (q5, .inl (t.1, 400, .inl (fun _ => 0))), (q6, .inl (t.1, 12, .inl (fun _ => 0))), (q7, .inl (t.1, 50, .inl (fun _ => 0))), (q8, .inl (t.1, 50, .inl (fun _ => 0))), (q9, .inl (t.1, 660, .inl (fun _ => 0))), (q10, .inl (t.1, 660, .inl (fun _ => 0))), (q11, .inl (t.1, 110, .inl (fun _ => 0))), (q12, .inl (t.2.1, 50, .inl (fun _ => 0))), (q13, .inl (t.1, 660, .inl (fun _ => 0))), (q14, .inl (t.1, 110, .inl (fun _ => 0))), (q15, .inl (t.2.1, 660, .inl (fun _ => 0))), (q16, .inl (t.1, 5280, .inl (fun _ => 0))), (q17, .inl (t.1, 5280, .inl (fun _ => 0))), (q18, .inl (t.1, 5280, .inl (fun _ => 0))), (q19, .inl (t.1, 660, .inl (fun _ => 0))), (q20, .inl (t.1, 9, .inl (fun _ => 0))), (q21, .inl (t.1, 9, .inl (fun _ => 0))), (q22, .inl (t.1, 9, .inl (fun _ => 0))), (q23, .inl (t.1, 111, .inl (fun _ => 0))), (q24, .inl (t.1, 110, .inl (fun _ => 0))), (q25, .inl (t.1, 110, .inl (fun _ => 0))), (q26, .inl (t.1, 110, .inl (fun _ => 0))), (q27, .inl (t.1, 110, .inl (fun _ => 0))), (q28, .inl (t.1, 50, .inl (fun _ => 0))), (q29, .inl (t.1, 1450, .inl (fun _ => 0)))] := by
    rw [hr29, er28]
    simp only [List.nil_append, List.cons_append]
  clear er28 hr29
  have er30 : r30 = [(q1, .inl (t.1, 16, .inl u_first)), (q2, .inl (t.1, 16, .inl u_least)), (q3, .inl (t.1, 16, .inl u_most)), (q4, .inl (t.1, 800, .inl (fun _ => 0))), (q5, .inl (t.1, 400, .inl (fun _ => 0))), (q6, .inl (t.1, 12, .inl (fun _ => 0))), (q7, .inl (t.1, 50, .inl (fun _ => 0))), (q8, .inl (t.1, 50, .inl (fun _ => 0))), (q9, .inl (t.1, 660, .inl (fun _ => 0))), (q10, .inl (t.1, 660, .inl (fun _ => 0))), (q11, .inl (t.1, 110, .inl (fun _ => 0))), (q12, .inl (t.2.1, 50, .inl (fun _ => 0))), (q13, .inl (t.1, 660, .inl (fun _ => 0))), (q14, .inl (t.1, 110, .inl (fun _ => 0))), (q15, .inl (t.2.1, 660, .inl (fun _ => 0))), (q16, .inl (t.1, 5280, .inl (fun _ => 0))), (q17, .inl (t.1, 5280, .inl (fun _ => 0))), (q18, .inl (t.1, 5280, .inl (fun _ => 0))), (q19, .inl (t.1, 660, .inl (fun _ => 0))), (q20, .inl (t.1, 9, .inl (fun _ => 0))), (q21, .inl (t.1, 9, .inl (fun _ => 0))), (q22, .inl (t.1, 9, .inl (fun _ => 0))), (q23, .inl (t.1, 111, .inl (fun _ => 0))), (q24, .inl (t.1, 110, .inl (fun _ => 0))), (q25, .inl (t.1, 110, .inl (fun _ => 0))), (q26, .inl (t.1, 110, .inl (fun _ => 0))), (q27, .inl (t.1, 110, .inl (fun _ => 0))), (q28, .inl (t.1, 50, .inl (fun _ => 0))), (q29, .inl (t.1, 1450, .inl (fun _ => 0))), (q30, .inl (t.1, 12, .inl (fun _ => 0)))] := by
    rw [hr30, er29]
    simp only [List.nil_append, List.cons_append]
  clear er29 hr30
  have er31 : r31 = [(q1, .inl (t.1, 16, .inl u_first)), (q2, .inl (t.1, 16, .inl u_least)), (q3, .inl (t.1, 16, .inl u_most)), (q4, .inl (t.1, 800, .inl (fun _ => 0))), (q5, .inl (t.1, 400, .inl (fun _ => 0))), (q6, .inl (t.1, 12, .inl (fun _ => 0))), (q7, .inl (t.1, 50, .inl (fun _ => 0))), (q8, .inl (t.1, 50, .inl (fun _ => 0))), (q9, .inl (t.1, 660, .inl (fun _ => 0))), (q10, .inl (t.1, 660, .inl (fun _ => 0))), (q11, .inl (t.1, 110, .inl (fun _ => 0))), (q12, .inl (t.2.1, 50, .inl (fun _ => 0))), (q13, .inl (t.1, 660, .inl (fun _ => 0))), (q14, .inl (t.1, 110, .inl (fun _ => 0))), (q15, .inl (t.2.1, 660, .inl (fun _ => 0))), (q16, .inl (t.1, 5280, .inl (fun _ => 0))), (q17, .inl (t.1, 5280, .inl (fun _ => 0))), (q18, .inl (t.1, 5280, .inl (fun _ => 0))), (q19, .inl (t.1, 660, .inl (fun _ => 0))), (q20, .inl (t.1, 9, .inl (fun _ => 0))), (q21, .inl (t.1, 9, .inl (fun _ => 0))), (q22, .inl (t.1, 9, .inl (fun _ => 0))), (q23, .inl (t.1, 111, .inl (fun _ => 0))), (q24, .inl (t.1, 110, .inl (fun _ => 0))), (q25, .inl (t.1, 110, .inl (fun _ => 0))), (q26, .inl (t.1, 110, .inl (fun _ => 0))), (q27, .inl (t.1, 110, .inl (fun _ => 0))), (q28, .inl (t.1, 50, .inl (fun _ => 0))), (q29, .inl (t.1, 1450, .inl (fun _ => 0))), (q30, .inl (t.1, 12, .inl (fun _ => 0))), (q31, .inl (t.1, 800, .inl (fun _ => 0)))] := by
    rw [hr31, er30]
    simp only [List.nil_append, List.cons_append]
  clear er30 hr31
  have er32 : r32 = [(q1, .inl (t.1, 16, .inl u_first)), (q2, .inl (t.1, 16, .inl u_least)), (q3, .inl (t.1, 16, .inl u_most)), (q4, .inl (t.1, 800, .inl (fun _ => 0))), (q5, .inl (t.1, 400, .inl (fun _ => 0))), (q6, .inl (t.1, 12, .inl (fun _ => 0))), (q7, .inl (t.1, 50, .inl (fun _ => 0))), (q8, .inl (t.1, 50, .inl (fun _ => 0))), (q9, .inl (t.1, 660, .inl (fun _ => 0))), (q10, .inl (t.1, 660, .inl (fun _ => 0))), (q11, .inl (t.1, 110, .inl (fun _ => 0))), (q12, .inl (t.2.1, 50, .inl (fun _ => 0))), (q13, .inl (t.1, 660, .inl (fun _ => 0))), (q14, .inl (t.1, 110, .inl (fun _ => 0))), (q15, .inl (t.2.1, 660, .inl (fun _ => 0))), (q16, .inl (t.1, 5280, .inl (fun _ => 0))), (q17, .inl (t.1, 5280, .inl (fun _ => 0))), (q18, .inl (t.1, 5280, .inl (fun _ => 0))), (q19, .inl (t.1, 660, .inl (fun _ => 0))), (q20, .inl (t.1, 9, .inl (fun _ => 0))), (q21, .inl (t.1, 9, .inl (fun _ => 0))), (q22, .inl (t.1, 9, .inl (fun _ => 0))), (q23, .inl (t.1, 111, .inl (fun _ => 0))), (q24, .inl (t.1, 110, .inl (fun _ => 0))), (q25, .inl (t.1, 110, .inl (fun _ => 0))), (q26, .inl (t.1, 110, .inl (fun _ => 0))), (q27, .inl (t.1, 110, .inl (fun _ => 0))), (q28, .inl (t.1, 50, .inl (fun _ => 0))), (q29, .inl (t.1, 1450, .inl (fun _ => 0))), (q30, .inl (t.1, 12, .inl (fun _ => 0))), (q31, .inl (t.1, 800, .inl (fun _ => 0))), (q32, .inl (t.1, 800, .inl (fun _ => 0)))] := by
    rw [hr32, er31]
    simp only [List.nil_append, List.cons_append]
  clear er31 hr32
  have er33 : r33 = [(q1, .inl (t.1, 16, .inl u_first)), (q2, .inl (t.1, 16, .inl u_least)), (q3, .inl (t.1, 16, .inl u_most)), (q4, .inl (t.1, 800, .inl (fun _ => 0))), (q5, .inl (t.1, 400, .inl (fun _ => 0))), (q6, .inl (t.1, 12, .inl (fun _ => 0))), (q7, .inl (t.1, 50, .inl (fun _ => 0))), (q8, .inl (t.1, 50, .inl (fun _ => 0))), (q9, .inl (t.1, 660, .inl (fun _ => 0))), (q10, .inl (t.1, 660, .inl (fun _ => 0))), (q11, .inl (t.1, 110, .inl (fun _ => 0))), (q12, .inl (t.2.1, 50, .inl (fun _ => 0))), (q13, .inl (t.1, 660, .inl (fun _ => 0))), (q14, .inl (t.1, 110, .inl (fun _ => 0))), (q15, .inl (t.2.1, 660, .inl (fun _ => 0))), (q16, .inl (t.1, 5280, .inl (fun _ => 0))), (q17, .inl (t.1, 5280, .inl (fun _ => 0))), (q18, .inl (t.1, 5280, .inl (fun _ => 0))), (q19, .inl (t.1, 660, .inl (fun _ => 0))), (q20, .inl (t.1, 9, .inl (fun _ => 0))), (q21, .inl (t.1, 9, .inl (fun _ => 0))), (q22, .inl (t.1, 9, .inl (fun _ => 0))), (q23, .inl (t.1, 111, .inl (fun _ => 0))), (q24, .inl (t.1, 110, .inl (fun _ => 0))), (q25, .inl (t.1, 110, .inl (fun _ => 0))), (q26, .inl (t.1, 110, .inl (fun _ => 0))), (q27, .inl (t.1, 110, .inl (fun _ => 0))), (q28, .inl (t.1, 50, .inl (fun _ => 0))), (q29, .inl (t.1, 1450, .inl (fun _ => 0))), (q30, .inl (t.1, 12, .inl (fun _ => 0))), (q31, .inl (t.1, 800, .inl (fun _ => 0))), (q32, .inl (t.1, 800, .inl (fun _ => 0))), (q33, .inl (t.1, 400, .inl (fun _ => 0)))] := by
    rw [hr33, er32]
    simp only [List.nil_append, List.cons_append]
  clear er32 hr33
  have er34 : r34 = [(q1, .inl (t.1, 16, .inl u_first)), (q2, .inl (t.1, 16, .inl u_least)), (q3, .inl (t.1, 16, .inl u_most)), (q4, .inl (t.1, 800, .inl (fun _ => 0))), (q5, .inl (t.1, 400, .inl (fun _ => 0))), (q6, .inl (t.1, 12, .inl (fun _ => 0))), (q7, .inl (t.1, 50, .inl (fun _ => 0))), (q8, .inl (t.1, 50, .inl (fun _ => 0))), (q9, .inl (t.1, 660, .inl (fun _ => 0))), (q10, .inl (t.1, 660, .inl (fun _ => 0))), (q11, .inl (t.1, 110, .inl (fun _ => 0))), (q12, .inl (t.2.1, 50, .inl (fun _ => 0))), (q13, .inl (t.1, 660, .inl (fun _ => 0))), (q14, .inl (t.1, 110, .inl (fun _ => 0))), (q15, .inl (t.2.1, 660, .inl (fun _ => 0))), (q16, .inl (t.1, 5280, .inl (fun _ => 0))), (q17, .inl (t.1, 5280, .inl (fun _ => 0))), (q18, .inl (t.1, 5280, .inl (fun _ => 0))), (q19, .inl (t.1, 660, .inl (fun _ => 0))), (q20, .inl (t.1, 9, .inl (fun _ => 0))), (q21, .inl (t.1, 9, .inl (fun _ => 0))), (q22, .inl (t.1, 9, .inl (fun _ => 0))), (q23, .inl (t.1, 111, .inl (fun _ => 0))), (q24, .inl (t.1, 110, .inl (fun _ => 0))), (q25, .inl (t.1, 110, .inl (fun _ => 0))), (q26, .inl (t.1, 110, .inl (fun _ => 0))), (q27, .inl (t.1, 110, .inl (fun _ => 0))), (q28, .inl (t.1, 50, .inl (fun _ => 0))), (q29, .inl (t.1, 1450, .inl (fun _ => 0))), (q30, .inl (t.1, 12, .inl (fun _ => 0))), (q31, .inl (t.1, 800, .inl (fun _ => 0))), (q32, .inl (t.1, 800, .inl (fun _ => 0))), (q33, .inl (t.1, 400, .inl (fun _ => 0))), (q34, .inl (t.1, 400, .inl (fun _ => 0)))] := by
    rw [hr34, er33]
    simp only [List.nil_append, List.cons_append]
  clear er33 hr34
  have er35 : r35 = [(q1, .inl (t.1, 16, .inl u_first)), (q2, .inl (t.1, 16, .inl u_least)), (q3, .inl (t.1, 16, .inl u_most)), (q4, .inl (t.1, 800, .inl (fun _ => 0))), (q5, .inl (t.1, 400, .inl (fun _ => 0))), (q6, .inl (t.1, 12, .inl (fun _ => 0))), (q7, .inl (t.1, 50, .inl (fun _ => 0))), (q8, .inl (t.1, 50, .inl (fun _ => 0))), (q9, .inl (t.1, 660, .inl (fun _ => 0))), (q10, .inl (t.1, 660, .inl (fun _ => 0))), (q11, .inl (t.1, 110, .inl (fun _ => 0))), (q12, .inl (t.2.1, 50, .inl (fun _ => 0))), (q13, .inl (t.1, 660, .inl (fun _ => 0))), (q14, .inl (t.1, 110, .inl (fun _ => 0))), (q15, .inl (t.2.1, 660, .inl (fun _ => 0))), (q16, .inl (t.1, 5280, .inl (fun _ => 0))), (q17, .inl (t.1, 5280, .inl (fun _ => 0))), (q18, .inl (t.1, 5280, .inl (fun _ => 0))), (q19, .inl (t.1, 660, .inl (fun _ => 0))), (q20, .inl (t.1, 9, .inl (fun _ => 0))), (q21, .inl (t.1, 9, .inl (fun _ => 0))), (q22, .inl (t.1, 9, .inl (fun _ => 0))), (q23, .inl (t.1, 111, .inl (fun _ => 0))), (q24, .inl (t.1, 110, .inl (fun _ => 0))), (q25, .inl (t.1, 110, .inl (fun _ => 0))), (q26, .inl (t.1, 110, .inl (fun _ => 0))), (q27, .inl (t.1, 110, .inl (fun _ => 0))), (q28, .inl (t.1, 50, .inl (fun _ => 0))), (q29, .inl (t.1, 1450, .inl (fun _ => 0))), (q30, .inl (t.1, 12, .inl (fun _ => 0))), (q31, .inl (t.1, 800, .inl (fun _ => 0))), (q32, .inl (t.1, 800, .inl (fun _ => 0))), (q33, .inl (t.1, 400, .inl (fun _ => 0))), (q34, .inl (t.1, 400, .inl (fun _ => 0))), (q35, .inl (t.1, 111, .inl (fun _ => 0)))] := by
    rw [hr35, er34]
    simp only [List.nil_append, List.cons_append]
  clear er34 hr35
  have er36 : r36 = [(q1, .inl (t.1, 16, .inl u_first)), (q2, .inl (t.1, 16, .inl u_least)), (q3, .inl (t.1, 16, .inl u_most)), (q4, .inl (t.1, 800, .inl (fun _ => 0))), (q5, .inl (t.1, 400, .inl (fun _ => 0))), (q6, .inl (t.1, 12, .inl (fun _ => 0))), (q7, .inl (t.1, 50, .inl (fun _ => 0))), (q8, .inl (t.1, 50, .inl (fun _ => 0))), (q9, .inl (t.1, 660, .inl (fun _ => 0))), (q10, .inl (t.1, 660, .inl (fun _ => 0))), (q11, .inl (t.1, 110, .inl (fun _ => 0))), (q12, .inl (t.2.1, 50, .inl (fun _ => 0))), (q13, .inl (t.1, 660, .inl (fun _ => 0))), (q14, .inl (t.1, 110, .inl (fun _ => 0))), (q15, .inl (t.2.1, 660, .inl (fun _ => 0))), (q16, .inl (t.1, 5280, .inl (fun _ => 0))), (q17, .inl (t.1, 5280, .inl (fun _ => 0))), (q18, .inl (t.1, 5280, .inl (fun _ => 0))), (q19, .inl (t.1, 660, .inl (fun _ => 0))), (q20, .inl (t.1, 9, .inl (fun _ => 0))), (q21, .inl (t.1, 9, .inl (fun _ => 0))), (q22, .inl (t.1, 9, .inl (fun _ => 0))), (q23, .inl (t.1, 111, .inl (fun _ => 0))), (q24, .inl (t.1, 110, .inl (fun _ => 0))), (q25, .inl (t.1, 110, .inl (fun _ => 0))), (q26, .inl (t.1, 110, .inl (fun _ => 0))), (q27, .inl (t.1, 110, .inl (fun _ => 0))), (q28, .inl (t.1, 50, .inl (fun _ => 0))), (q29, .inl (t.1, 1450, .inl (fun _ => 0))), (q30, .inl (t.1, 12, .inl (fun _ => 0))), (q31, .inl (t.1, 800, .inl (fun _ => 0))), (q32, .inl (t.1, 800, .inl (fun _ => 0))), (q33, .inl (t.1, 400, .inl (fun _ => 0))), (q34, .inl (t.1, 400, .inl (fun _ => 0))), (q35, .inl (t.1, 111, .inl (fun _ => 0))), (q36, .inl (t.1, 110, .inl (fun _ => 0)))] := by
    rw [hr36, er35]
    simp only [List.nil_append, List.cons_append]
  clear er35 hr36
  rw [er36] at hP hD
  obtain ⟨uu, hu0, hu1, hu2, hu3, hu4, hu5, hu6, hu7, hu8, hu9, hu10, hu11, hu12, hu13, hu14, hu15, hu16, hu17, hu18, hu19, hu20, hu21, hu22, hu23, hu24, hu25, hu26, hu27, hu28, hu29, hu30, hu31, hu32, hu33, hu34, hu35, hu36⟩ : ∃ u : Nat → Nat, u 0 = h0 ∧ u 1 = q1 ∧ u 2 = q2 ∧ u 3 = q3 ∧ u 4 = q4 ∧ u 5 = q5 ∧ u 6 = q6 ∧ u 7 = q7 ∧ u 8 = q8 ∧ u 9 = q9 ∧ u 10 = q10 ∧ u 11 = q11 ∧ u 12 = q12 ∧ u 13 = q13 ∧ u 14 = q14 ∧ u 15 = q15 ∧ u 16 = q16 ∧ u 17 = q17 ∧ u 18 = q18 ∧ u 19 = q19 ∧ u 20 = q20 ∧ u 21 = q21 ∧ u 22 = q22 ∧ u 23 = q23 ∧ u 24 = q24 ∧ u 25 = q25 ∧ u 26 = q26 ∧ u 27 = q27 ∧ u 28 = q28 ∧ u 29 = q29 ∧ u 30 = q30 ∧ u 31 = q31 ∧ u 32 = q32 ∧ u 33 = q33 ∧ u 34 = q34 ∧ u 35 = q35 ∧ u 36 = q36 := ⟨(fun k => ([h0, q1, q2, q3, q4, q5, q6, q7, q8, q9, q10, q11, q12, q13, q14, q15, q16, q17, q18, q19, q20, q21, q22, q23, q24, q25, q26, q27, q28, q29, q30, q31, q32, q33, q34, q35, q36] : List Nat).getD k 0), rfl, rfl, rfl, rfl, rfl, rfl, rfl, rfl, rfl, rfl, rfl, rfl, rfl, rfl, rfl, rfl, rfl, rfl, rfl, rfl, rfl, rfl, rfl, rfl, rfl, rfl, rfl, rfl, rfl, rfl, rfl, rfl, rfl, rfl, rfl, rfl, rfl⟩
  have hw : w1_X12 t uu = [(h0, .inr (12, [.ref q1, .ref q2, .ref q3, .ref q4, .ref q5, .ref q6, .int 0, .int 0, .int 0, .int 0, .int 0, .ref q7, .ref q8, .ref q9, .ref q10, .ref q11, .ref q12, .int 0, .ref q13, .ref q14, .ref q15, .int 0, .int 0, .int 0, .ref q16, .ref q17, .ref q18, .ref q19, .ref q20, .ref q21, .ref q22, .int 0, .ref q23, .int 0, .ref q24, .ref q25, .ref q26, .ref q27, .int 0, .ref q28, .ref q29, .ref q30, .int 0, .ref q31, .ref q32, .ref q33, .ref q34, .ref q35, .ref q36, .int 0])), (q1, .inl (t.1, 16, .inl u_first)), (q2, .inl (t.1, 16, .inl u_least)), (q3, .inl (t.1, 16, .inl u_most)), (q4, .inl (t.1, 800, .inl (fun _ => 0))), (q5, .inl (t.1, 400, .inl (fun _ => 0))), (q6, .inl (t.1, 12, .inl (fun _ => 0))), (q7, .inl (t.1, 50, .inl (fun _ => 0))), (q8, .inl (t.1, 50, .inl (fun _ => 0))), (q9, .inl (t.1, 660, .inl (fun _ => 0))), (q10, .inl (t.1, 660, .inl (fun _ => 0))), (q11, .inl (t.1, 110, .inl (fun _ => 0))), (q12, .inl (t.2.1, 50, .inl (fun _ => 0))), (q13, .inl (t.1, 660, .inl (fun _ => 0))), (q14, .inl (t.1, 110, .inl (fun _ => 0))), (q15, .inl (t.2.1, 660, .inl (fun _ => 0))), (q16, .inl (t.1, 5280, .inl (fun _ => 0))), (q17, .inl (t.1, 5280, .inl (fun _ => 0))), (q18, .inl (t.1, 5280, .inl (fun _ => 0))), (q19, .inl (t.1, 660, .inl (fun _ => 0))), (q20, .inl (t.1, 9, .inl (fun _ => 0))), (q21, .inl (t.1, 9, .inl (fun _ => 0))), (q22, .inl (t.1, 9, .inl (fun _ => 0))), (q23, .inl (t.1, 111, .inl (fun _ => 0))), (q24, .inl (t.1, 110, .inl (fun _ => 0))), (q25, .inl (t.1, 110, .inl (fun _ => 0))), (q26, .inl (t.1, 110, .inl (fun _ => 0))), (q27, .inl (t.1, 110, .inl (fun _ => 0))), (q28, .inl (t.1, 50, .inl (fun _ => 0))), (q29, .inl (t.1, 1450, .inl (fun _ => 0))), (q30, .inl (t.1, 12, .inl (fun _ => 0))), (q31, .inl (t.1, 800, .inl (fun _ => 0))), (q32, .inl (t.1, 800, .inl (fun _ => 0))), (q33, .inl (t.1, 400, .inl (fun _ => 0))), (q34, .inl (t.1, 400, .inl (fun _ => 0))), (q35, .inl (t.1, 111, .inl (fun _ => 0))), (q36, .inl (t.1, 110, .inl (fun _ => 0)))] := by
    unfold w1_X12
    simp only [hu0, hu1, hu2, hu3, hu4, hu5, hu6, hu7, hu8, hu9, hu10, hu11, hu12, hu13, hu14, hu15, hu16, hu17, hu18, hu19, hu20, hu21, hu22, hu23, hu24, hu25, hu26, hu27, hu28, hu29, hu30, hu31, hu32, hu33, hu34, hu35, hu36]
  rw [← hw] at hP hD
  subst hAe
  exact W.vret hx hb hr (fun t9 ht hW => ⟨⟨uu, rfl, hu0, by rw [ht]; exact hP, hD⟩, hS.F ht⟩) hS.2.2 dX12_init_562
