theorem g_callSv {l : Launch} {E : uE} {K : uK} {own : String} {cc : ByteArray} {ret : Option FieldType} {fr lo a b : Nat} {o : Int64} {σ : uS} {pc : Nat} {lv : List (Option Value)} (hC : Cx E K own cc ret fr lo) {y : MethodName} {cc2 : ByteArray} {nL2 fr2 lo2 n index : Nat} {As : List Value} {rest st0 : List Value} {σ2 : uS} (hM : CtV l E y cc2 nL2 fr2 lo2 As σ σ2) (hi : Mi y cc2 nL2 none n) (hs9 : Cond.static y ∈ TG) (hlink : Cond.methodLink own index y ∈ TG) (hst : st0 = As.reverse ++ rest) (hn : As.length = n) (hw : (rest.map fun v => v.category).sum ≤ 8) (hR9 : fr2 + 1 ≤ fr ∧ 8 + (nL2 + 11) + lo2 ≤ lo) (hab : Rm K a b) (hd : decode cc pc = .ok (.invokestatic index, 3)) (kk : Gd l E K a b o σ2 (pc + 3) lv rest) : Gd l E K a b o σ pc lv st0 := by
  obtain ⟨⟨p, e, R, s, m, args⟩, ⟨below, meth, c, Q, nL⟩⟩ := K
  obtain ⟨hx, hb, hr, hml, hown, hts, hlk, hK, hj, hz, hfr, hlo⟩ := hC
  intro H locs ls hP hS hl
  subst hst
  refine va_callv (va_runS (As := As) (rest := rest) ⟨hx, hb, hml, hown, hts⟩ (hM o H.size) ⟨callB_of n hts (tg_good hi.1) rfl rfl rfl (hts _ hi.2.1) (hts _ hlink) hi.2.2 ⟨Nat.le_trans hR9.1 (Nat.le_of_eq hfr.symm), Nat.le_trans hR9.2 (Nat.le_of_eq hlo.symm)⟩, hts _ hs9⟩ ⟨u_Pc.blind, fun U hU hW => ⟨rfl, by rw [hU], by rw [hU]; exact hP, va_K.moved hW.alike hK, hj, by have := hz.to hS hU hW; exact this⟩⟩ rfl hn (hl.1.trans rfl) rfl (lv_room hw) hd ⟨hab.1, hab.2⟩) hS (fun q _ h => u_A.le hS.1 q h) (u_A.le hS.1) (fun _ t H1 locs1 ht _ hw1 hB1 _ _ hS1 => ?_)
  exact kk H1 locs1 ls (ht ▸ hB1) hS1 hl

/-! methods that throw: the exception's kind by a number, 1: NoSuchElementException, 2: IllegalArgumentException -/
def u_exn (k : Nat) : String := if k = 1 then "java/util/NoSuchElementException" else "java/lang/IllegalArgumentException"
abbrev u_XC (E : uE) (sz : Nat) (o : Int64) (k : Nat) (σ : uS) : String → State → State → Prop := vx_X (fun (_ : Unit) => True) (fun C _ t => C = u_exn k ∧ va_P E.1 vwCl (u_wl E o σ) t.heap) (u_A E sz)
def CtXv (l : Launch) (E : uE) (y : MethodName) (cc : ByteArray) (nL : Nat) (fr lo : Nat) (argv : List Value) (σ : uS) (k : Nat) (σ' : uS) : Prop :=
  ∀ (o : Int64) (sz : Nat), vx_Met l y (Cond.code y cc nL none :: TG) (u_rm fr lo 1 6) (u_Pc E argv σ o sz) (va_Qv (fun (_ : Unit) => False) (fun _ _ => True) (u_A E sz)) (u_XC E sz o k σ') 1 6 (u_A E sz)
def CtX (l : Launch) (E : uE) (y : MethodName) (cc : ByteArray) (nL : Nat) (fr lo : Nat) (argv : List Value) (σ : uS) (k : Nat) (σ' : uS) : Prop :=
  ∀ (o : Int64) (sz : Nat), vx_Met l y (Cond.code y cc nL (some .int) :: TG) (u_rm fr lo 1 6) (u_Pc E argv σ o sz) (va_Qi (fun (_ : Int32) (_ : Unit) => False) (fun _ _ => True) (u_A E sz)) (u_XC E sz o k σ') 1 6 (u_A E sz)
def Xt (K : uK) : Prop := ∀ x ∈ K.2.2.2.1.exceptionTable.toList, False
def RetX (E : uE) (K : uK) (o : Int64) (k : Nat) (σ : uS) : Prop := match K with
  | ((_, _, _, s, _, args), (below, _, _, Q, _)) => Q = vx_MQ below (va_Qi (fun (_ : Int32) (_ : Unit) => False) (fun _ _ => True) (u_A E s.heap.size)) (u_XC E s.heap.size o k σ) args s 1 6 (u_A E s.heap.size)
theorem g_thr {l : Launch} {E : uE} {K : uK} {own : String} {cc : ByteArray} {ret : Option FieldType} {fr lo : Nat} {o : Int64} {σ : uS} {pc : Nat} {lv : List (Option Value)} (hC : Cx E K own cc ret fr lo)
    {y : MethodName} {cc2 : ByteArray} {nL2 fr2 lo2 n index : Nat} {As : List Value} {rest st0 : List Value} {k kr : Nat} {σ2 σr : uS} (hM : CtXv l E y cc2 nL2 fr2 lo2 As σ k σ2) (hi : Mi y cc2 nL2 none n) (hs9 : Cond.static y ∈ TG) (hlink : Cond.methodLink own index y ∈ TG)
    (hst : st0 = As.reverse ++ rest) (hn : As.length = n) (hw : (rest.map fun v => v.category).sum ≤ 8) (hR9 : fr2 + 1 ≤ fr ∧ 8 + (nL2 + 11) + lo2 ≤ lo) (h6 : Rm K 1 6) (ht : Xt K) (h : some ((Sum.inr k : Int32 ⊕ Nat), σ2) = some (Sum.inr kr, σr)) (hRX : RetX E K o kr σr) (hd : decode cc pc = .ok (.invokestatic index, 3)) : Gd l E K 0 0 o σ pc lv st0 := by
  cases h
  obtain ⟨⟨p, e, R, s, m, args⟩, ⟨below, meth, c, Q, nL⟩⟩ := K
  obtain ⟨hx, hb, hr, hml, hown, hts, hlk, hK, hj, hz, hfr, hlo⟩ := hC
  intro H locs ls hP hS hl
  have hRX : Q = _ := hRX
  subst hRX
  subst hst
  refine vx_callv (vx_runS (As := As) (rest := rest) ⟨hx, hb, hml, hown, hts⟩ (hM o H.size) ⟨callB_of n hts (tg_good hi.1) rfl rfl rfl (hts _ hi.2.1) (hts _ hlink) hi.2.2 ⟨Nat.le_trans hR9.1 (Nat.le_of_eq hfr.symm), Nat.le_trans hR9.2 (Nat.le_of_eq hlo.symm)⟩, hts _ hs9⟩ ⟨u_Pc.blind, fun U hU hW => ⟨rfl, by rw [hU], by rw [hU]; exact hP, va_K.moved hW.alike hK, hj, by have := hz.to hS hU hW; exact this⟩⟩ rfl hn (hl.1.trans rfl) rfl (lv_room hw) hd ⟨by have := h6.1; simpa using this, by have := h6.2; simpa using this⟩) hS (fun q _ h => u_A.le hS.1 q h) (u_A.le hS.1) (fun q _ h => u_A.le hS.1 q h) (fun C ce q9 _ t H1 locs1 ht9 hvm _ hB _ _ hS1 hce hv hcl => ?_) (fun _ t H1 locs1 _ _ hF _ _ _ _ => hF.elim)
  exact vx_out (fun x hx9 => (ht x hx9).elim) hlk hce hv hcl (fun t2 h2 hvm2 => ⟨(), trivial, ⟨hB.1, by show va_P _ _ _ t2.heap; rw [h2, ← ht9]; exact hB.2⟩, hS1.F h2⟩) hS1.2.2 (Nat.le_refl _) (Nat.le_refl _)
theorem enterX {l : Launch} {E : uE} {y : MethodName} {cc : ByteArray} {nL fr lo : Nat} {argv : List Value} {σ σ2 : uS} {k : Nat} (n : Nat) (lv0 : List (Option Value)) (hy : plainName y.cls = true) (hlv : lo_args argv ++ List.replicate n none = lv0) (hn : (lg_sl argv).length ≤ nL)
    (h : ∀ (o : Int64) (K : uK), K.2.2.2.2.2 = nL → Cx E K y.cls cc (some .int) fr lo → Rm K 0 0 → Rm K 1 6 → Xt K → RetX E K o k σ2 → Gd l E K 0 0 o σ 0 lv0 []) : CtX l E y cc nL fr lo argv σ k σ2 := by
  intro o sz
  refine vx_ofW (cc := cc) (maxL := nL) (ret := (some .int)) hy rfl ?_
  intro p e s m args below meth c s₁ B hml ht hv
  obtain ⟨rfl, hsz, hP, hK, hj, hz⟩ := hv
  have hts : ∀ w ∈ TG, w.before argv.toArray s = true := fun w hw => atoms_spec (ws := Cond.code y cc nL (some .int) :: TG) B.pre w (List.mem_cons_of_mem _ hw)
  subst hsz
  have hl := lv_entry argv (n := nL) hn
  rw [lg_entry_eq]
  have hl2 := lo_start (n := n) hl
  rw [hlv] at hl2
  exact h o ((p, e, _, s, m, argv.toArray), (below, meth, c, _, nL)) rfl ⟨B.exec, B.bytes, B.returns, hml, findClass_of_methodNamed B.named, hts, B.notSynchronized, hK, hj, hz, rfl, rfl⟩ ⟨Nat.zero_le _, Nat.zero_le _⟩ ⟨Nat.le_refl _, Nat.le_refl _⟩ ht rfl s.heap [] _ hP va_S.rf hl2
theorem g_rett {l : Launch} {E : uE} {K : uK} {own : String} {cc : ByteArray} {fr lo a b : Nat} {o : Int64} {σ σ2 : uS} {pc : Nat} {lv : List (Option Value)} (hC : Cx E K own cc (some .int) fr lo) {v r : Int32} (h : some ((Sum.inl v : Int32 ⊕ Nat), σ) = some (Sum.inl r, σ2)) (hR : RetI E K a b o r σ2) (hd : decode cc pc = .ok (.ireturn, 1)) : Gd l E K a b o σ pc lv [.int v] := by
  cases h
  exact g_iret hC rfl hR hd
theorem th_rt {α : Type} {P : Prop} {k : Nat} {r : Int32} {σ σ2 : α} (h : some ((Sum.inr k : Int32 ⊕ Nat), σ) = some (Sum.inl r, σ2)) : P := by cases h
theorem th_tr {α : Type} {P : Prop} {k : Nat} {r : Int32} {σ σ2 : α} (h : some ((Sum.inl r : Int32 ⊕ Nat), σ) = some (Sum.inr k, σ2)) : P := by cases h
theorem xa_in {own : String} {ic : Nat} {X Y : String} {ix : Nat} {rx : ByteArray} {names : List String} (h : (xs_no own ic X Y ix rx names).all (fun w => decide (w = .castable X X) || (u_ds.any (fun q => decide (w = .declares (Bundle.initS q))) || (decide (w ∈ lw_tbl) && goodWord w))) = true) : ∀ w ∈ xs_no own ic X Y ix rx names, w = .castable X X ∨ (∃ q ∈ u_ds, w = .declares (Bundle.initS q)) ∨ w ∈ TG := by
  intro w hw
  have h1 := List.all_eq_true.mp h w hw
  simp only [Bool.or_eq_true, Bool.and_eq_true, decide_eq_true_eq, List.any_eq_true] at h1
  exact h1.imp id (fun q => q.imp id (fun q => List.mem_filter.mpr q))
set_option maxRecDepth 100000 in
theorem xa_need : ∀ w ∈ xs_no RX11 348 "java/util/NoSuchElementException" "java/lang/RuntimeException" 13 prog_22_method_4_code ["java/lang/Exception"], w = .castable "java/util/NoSuchElementException" "java/util/NoSuchElementException" ∨ (∃ q ∈ u_ds, w = .declares (Bundle.initS q)) ∨ w ∈ TG := xa_in (by decide +kernel)
theorem xk_need : Cond.classLink RX11 344 "java/util/NoSuchElementException" ∈ TG := tg_4 (List.mem_of_getElem? (i := 127) rfl) rfl
theorem xi_need : Cond.initialized "java/util/NoSuchElementException" ∈ TG := tg_1 (List.mem_of_getElem? (i := 18) rfl) rfl
theorem xr_need_0 : decode prog_22_method_4_code 0 = .ok (.aload_n 0, 1) := by decide +kernel
theorem xr_need_1 : decode prog_22_method_4_code 1 = .ok (.aload_n 1, 1) := by decide +kernel
theorem xr_need_2 : decode prog_22_method_4_code 2 = .ok (.invokespecial 13, 3) := by decide +kernel
theorem xr_need_5 : decode prog_22_method_4_code 5 = .ok (.return_, 1) := by decide +kernel
set_option maxRecDepth 100000 in
theorem c_X11_need (l : Launch) (E : uE) (a1 : Int32) (σ : uS) (h : ¬ a1 = 0) : CtV l E yX11_need cX11_need 1 6 82 [.int a1] σ σ := by
  refine enterV 0 [some (.int a1)] (by decide +kernel) rfl (Nat.le_of_ble_eq_true rfl) (fun o K hnL hC hab hR => ?_)
  have hC : Cx E K RX11 cX11_need none 6 82 := hC
  refine g_iload_n (pc := 0) hC dX11_need_0 rfl ?_
  refine g_if_ne (tgt := 15) (pc := 1) hC dX11_need_1 (by decide) (fun c => ?_) (fun c => absurd c h)
  exact g_retv (pc := 15) hC rfl hR dX11_need_15
set_option maxRecDepth 100000 in
theorem x_X11_need (l : Launch) (hl9 : l.stackTraces = false) (E : uE) (a1 : Int32) (σ : uS) (h : a1 = 0) : CtXv l E yX11_need cX11_need 1 6 82 [.int a1] σ 1 σ := by
  intro o sz
  refine vx_ofW (cc := cX11_need) (maxL := 1) (ret := none) (by decide +kernel) rfl ?_
  intro p e s m args below meth c s₁ B hml ht hv
  obtain ⟨rfl, hsz, hP, hK, hj, hz⟩ := hv
  have hts : ∀ w ∈ TG, w.before #[Value.int a1] s = true := fun w hw => atoms_spec (ws := Cond.code yX11_need cX11_need 1 none :: TG) B.pre w (List.mem_cons_of_mem _ hw)
  subst hsz
  have hx := B.exec
  have hb := B.bytes
  have hown : s.vm.findClass RX11 = some m.cls := findClass_of_methodNamed B.named
  have hlocks := B.notSynchronized
  have hl := lv_entry [.int a1] (n := 1) (Nat.le_of_ble_eq_true rfl)
  rw [lg_entry_eq]
  generalize (lg_sl [.int a1] ++ List.replicate (1 - (lg_sl [.int a1]).length) Slot.unset).toArray = ls at hl ⊢
  have hl : lv_has ls 1 [(0, .int a1)] := hl
  refine lv_iload_n hx hb dX11_need_0 rfl (lv_at hl 0 rfl) ?_
  refine lv_if_ne (tgt := 15) hx hb dX11_need_1 (by decide) (fun c => absurd h c) (fun c => ?_)
  obtain ⟨sa, hsa⟩ := hz.2.2.2.2.2.2.2.2.2.2.1
  have hcs : (Cond.castable "java/util/NoSuchElementException" "java/util/NoSuchElementException").before #[Value.int a1] s = true := va_Nw.use rfl (hz.2.2.2.2.2.2.2.2.2.2.2.2.2.1 _ (List.mem_of_getElem? (i := 0) rfl))
  exact xs_throw (pc := 4) (A := u_A E s.heap.size) (Y := "java/lang/RuntimeException") (names := ["java/lang/Exception"]) hx hb hl9 xr_need_0 xr_need_1 xr_need_2 xr_need_5 hown (by decide +kernel) (by decide +kernel) (by decide +kernel) (hts _ xk_need) (hts _ xi_need) hsa (fun w hw => (xa_need w hw).elim (fun q => q ▸ hcs) (fun q => q.elim (fun ⟨q, hq, e⟩ => e ▸ va_Nw.use rfl (hz.2.2.2.2.2.2.2.2.2.2.2.2.2.2.1 q hq)) (fun q => hts w q)))
    (fun w hw => by
      have hg : w = .castable "java/util/NoSuchElementException" "java/util/NoSuchElementException" ∨ (∃ q ∈ u_ds, w = .declares (Bundle.initS q)) ∨ w ∈ TG := (List.mem_cons.mp hw).elim (fun q => Or.inr (Or.inr (q ▸ xk_need))) (fun hw => (List.mem_cons.mp hw).elim (fun q => Or.inr (Or.inr (q ▸ xi_need))) (fun hw => xa_need w hw))
      rcases hg with rfl | ⟨q, -, rfl⟩ | hg
      · rfl
      · rfl
      · unfold vx_ot
        rw [(List.mem_filter.mp hg).2, Bool.or_true])
    hz.2.2.2.2.2.2.2.2.1 hz.2.2.2.2.2.2.2.2.2.1 va_S.rf (hl.1.trans hml.symm) dX11_need_4 dX11_need_7 dX11_need_8 dX11_need_11 dX11_need_14 (fun x hx9 => (ht x hx9).elim) (Nat.le_of_ble_eq_true rfl) (Nat.le_of_ble_eq_true rfl) (Nat.le_of_ble_eq_true rfl) (Nat.le_of_ble_eq_true rfl) hlocks
    (fun t hvm hsz hq => ⟨(), trivial, ⟨rfl, fun k q hk => (hP k q hk).kept (hq _ ((hP k q hk).lt))⟩, ⟨hsz, fun q h1 _ => hq q h1⟩⟩) (fun _ h9 => nomatch h9) (Nat.le_of_ble_eq_true rfl) (Nat.le_of_ble_eq_true rfl)
set_option maxRecDepth 100000 in
theorem xa_allow : ∀ w ∈ xs_no RX11 355 "java/lang/IllegalArgumentException" "java/lang/RuntimeException" 7 prog_17_method_2_code ["java/lang/Exception"], w = .castable "java/lang/IllegalArgumentException" "java/lang/IllegalArgumentException" ∨ (∃ q ∈ u_ds, w = .declares (Bundle.initS q)) ∨ w ∈ TG := xa_in (by decide +kernel)
theorem xk_allow : Cond.classLink RX11 351 "java/lang/IllegalArgumentException" ∈ TG := tg_5 (List.mem_of_getElem? (i := 98) rfl) rfl
theorem xi_allow : Cond.initialized "java/lang/IllegalArgumentException" ∈ TG := tg_1 (List.mem_of_getElem? (i := 19) rfl) rfl
theorem xr_allow_0 : decode prog_17_method_2_code 0 = .ok (.aload_n 0, 1) := by decide +kernel
theorem xr_allow_1 : decode prog_17_method_2_code 1 = .ok (.aload_n 1, 1) := by decide +kernel
theorem xr_allow_2 : decode prog_17_method_2_code 2 = .ok (.invokespecial 7, 3) := by decide +kernel
theorem xr_allow_5 : decode prog_17_method_2_code 5 = .ok (.return_, 1) := by decide +kernel
set_option maxRecDepth 100000 in
theorem c_X11_allow (l : Launch) (E : uE) (a1 : Int32) (σ : uS) (h : ¬ a1 = 0) : CtV l E yX11_allow cX11_allow 1 6 82 [.int a1] σ σ := by
  refine enterV 0 [some (.int a1)] (by decide +kernel) rfl (Nat.le_of_ble_eq_true rfl) (fun o K hnL hC hab hR => ?_)
  have hC : Cx E K RX11 cX11_allow none 6 82 := hC
  refine g_iload_n (pc := 0) hC dX11_allow_0 rfl ?_
  refine g_if_ne (tgt := 15) (pc := 1) hC dX11_allow_1 (by decide) (fun c => ?_) (fun c => absurd c h)
  exact g_retv (pc := 15) hC rfl hR dX11_allow_15
set_option maxRecDepth 100000 in
theorem x_X11_allow (l : Launch) (hl9 : l.stackTraces = false) (E : uE) (a1 : Int32) (σ : uS) (h : a1 = 0) : CtXv l E yX11_allow cX11_allow 1 6 82 [.int a1] σ 2 σ := by
  intro o sz
  refine vx_ofW (cc := cX11_allow) (maxL := 1) (ret := none) (by decide +kernel) rfl ?_
  intro p e s m args below meth c s₁ B hml ht hv
  obtain ⟨rfl, hsz, hP, hK, hj, hz⟩ := hv
  have hts : ∀ w ∈ TG, w.before #[Value.int a1] s = true := fun w hw => atoms_spec (ws := Cond.code yX11_allow cX11_allow 1 none :: TG) B.pre w (List.mem_cons_of_mem _ hw)
  subst hsz
  have hx := B.exec
  have hb := B.bytes
  have hown : s.vm.findClass RX11 = some m.cls := findClass_of_methodNamed B.named
  have hlocks := B.notSynchronized
  have hl := lv_entry [.int a1] (n := 1) (Nat.le_of_ble_eq_true rfl)
  rw [lg_entry_eq]
  generalize (lg_sl [.int a1] ++ List.replicate (1 - (lg_sl [.int a1]).length) Slot.unset).toArray = ls at hl ⊢
  have hl : lv_has ls 1 [(0, .int a1)] := hl
  refine lv_iload_n hx hb dX11_allow_0 rfl (lv_at hl 0 rfl) ?_
  refine lv_if_ne (tgt := 15) hx hb dX11_allow_1 (by decide) (fun c => absurd h c) (fun c => ?_)
  obtain ⟨sa, hsa⟩ := hz.2.2.2.2.2.2.2.2.2.2.2.1
  have hcs : (Cond.castable "java/lang/IllegalArgumentException" "java/lang/IllegalArgumentException").before #[Value.int a1] s = true := va_Nw.use rfl (hz.2.2.2.2.2.2.2.2.2.2.2.2.2.1 _ (List.mem_of_getElem? (i := 1) rfl))
  exact xs_throw (pc := 4) (A := u_A E s.heap.size) (Y := "java/lang/RuntimeException") (names := ["java/lang/Exception"]) hx hb hl9 xr_allow_0 xr_allow_1 xr_allow_2 xr_allow_5 hown (by decide +kernel) (by decide +kernel) (by decide +kernel) (hts _ xk_allow) (hts _ xi_allow) hsa (fun w hw => (xa_allow w hw).elim (fun q => q ▸ hcs) (fun q => q.elim (fun ⟨q, hq, e⟩ => e ▸ va_Nw.use rfl (hz.2.2.2.2.2.2.2.2.2.2.2.2.2.2.1 q hq)) (fun q => hts w q)))
    (fun w hw => by
      have hg : w = .castable "java/lang/IllegalArgumentException" "java/lang/IllegalArgumentException" ∨ (∃ q ∈ u_ds, w = .declares (Bundle.initS q)) ∨ w ∈ TG := (List.mem_cons.mp hw).elim (fun q => Or.inr (Or.inr (q ▸ xk_allow))) (fun hw => (List.mem_cons.mp hw).elim (fun q => Or.inr (Or.inr (q ▸ xi_allow))) (fun hw => xa_allow w hw))
      rcases hg with rfl | ⟨q, -, rfl⟩ | hg
      · rfl
      · rfl
      · unfold vx_ot
        rw [(List.mem_filter.mp hg).2, Bool.or_true])
    hz.2.2.2.2.2.2.2.2.1 hz.2.2.2.2.2.2.2.2.2.1 va_S.rf (hl.1.trans hml.symm) dX11_allow_4 dX11_allow_7 dX11_allow_8 dX11_allow_11 dX11_allow_14 (fun x hx9 => (ht x hx9).elim) (Nat.le_of_ble_eq_true rfl) (Nat.le_of_ble_eq_true rfl) (Nat.le_of_ble_eq_true rfl) (Nat.le_of_ble_eq_true rfl) hlocks
    (fun t hvm hsz hq => ⟨(), trivial, ⟨rfl, fun k q hk => (hP k q hk).kept (hq _ ((hP k q hk).lt))⟩, ⟨hsz, fun q h1 _ => hq q h1⟩⟩) (fun _ h9 => nomatch h9) (Nat.le_of_ble_eq_true rfl) (Nat.le_of_ble_eq_true rfl)
