theorem u_ce_o {E : uE} {o x : Int64} {k : Nat} {f : Nat → Int32} (h : ¬ k = 92) (hk : k < u_N) : u_ce E o k f = u_ce E x k f := by
  have hk : k < 93 := hk
  exact match k, h, hk with
    | 0, _, _ => rfl
    | 1, _, _ => rfl
    | 2, _, _ => rfl
    | 3, _, _ => rfl
    | 4, _, _ => rfl
    | 5, _, _ => rfl
    | 6, _, _ => rfl
    | 7, _, _ => rfl
    | 8, _, _ => rfl
    | 9, _, _ => rfl
    | 10, _, _ => rfl
    | 11, _, _ => rfl
    | 12, _, _ => rfl
    | 13, _, _ => rfl
    | 14, _, _ => rfl
    | 15, _, _ => rfl
    | 16, _, _ => rfl
    | 17, _, _ => rfl
    | 18, _, _ => rfl
    | 19, _, _ => rfl
    | 20, _, _ => rfl
    | 21, _, _ => rfl
    | 22, _, _ => rfl
    | 23, _, _ => rfl
    | 24, _, _ => rfl
    | 25, _, _ => rfl
    | 26, _, _ => rfl
    | 27, _, _ => rfl
    | 28, _, _ => rfl
    | 29, _, _ => rfl
    | 30, _, _ => rfl
    | 31, _, _ => rfl
    | 32, _, _ => rfl
    | 33, _, _ => rfl
    | 34, _, _ => rfl
    | 35, _, _ => rfl
    | 36, _, _ => rfl
    | 37, _, _ => rfl
    | 38, _, _ => rfl
    | 39, _, _ => rfl
    | 40, _, _ => rfl
    | 41, _, _ => rfl
    | 42, _, _ => rfl
    | 43, _, _ => rfl
    | 44, _, _ => rfl
    | 45, _, _ => rfl
    | 46, _, _ => rfl
    | 47, _, _ => rfl
    | 48, _, _ => rfl
    | 49, _, _ => rfl
    | 50, _, _ => rfl
    | 51, _, _ => rfl
    | 52, _, _ => rfl
    | 53, _, _ => rfl
    | 54, _, _ => rfl
    | 55, _, _ => rfl
    | 56, _, _ => rfl
    | 57, _, _ => rfl
    | 58, _, _ => rfl
    | 59, _, _ => rfl
    | 60, _, _ => rfl
    | 61, _, _ => rfl
    | 62, _, _ => rfl
    | 63, _, _ => rfl
    | 64, _, _ => rfl
    | 65, _, _ => rfl
    | 66, _, _ => rfl
    | 67, _, _ => rfl
    | 68, _, _ => rfl
    | 69, _, _ => rfl
    | 70, _, _ => rfl
    | 71, _, _ => rfl
    | 72, _, _ => rfl
    | 73, _, _ => rfl
    | 74, _, _ => rfl
    | 75, _, _ => rfl
    | 76, _, _ => rfl
    | 77, _, _ => rfl
    | 78, _, _ => rfl
    | 79, _, _ => rfl
    | 80, _, _ => rfl
    | 81, _, _ => rfl
    | 82, _, _ => rfl
    | 83, _, _ => rfl
    | 84, _, _ => rfl
    | 85, _, _ => rfl
    | 86, _, _ => rfl
    | 87, _, _ => rfl
    | 88, _, _ => rfl
    | 89, _, _ => rfl
    | 90, _, _ => rfl
    | 91, _, _ => rfl
    | 92, h, _ => absurd rfl h
    | k + 93, _, h => absurd h (by omega)
/-! the law's own helpers: they catch -/
abbrev u_XF (E : uE) (sz : Nat) : String → State → State → Prop := vx_X (fun (_ : Unit) => False) (fun _ _ _ => True) (u_A E sz)
def RetH (E : uE) (K : uK) (a b : Nat) (o : Int64) (r : Int32) (σ : uS) : Prop := match K with
  | ((_, _, _, s, _, args), (below, _, _, Q, _)) => Q = vx_MQ below (u_QI E s.heap.size o r σ) (u_XF E s.heap.size) args s a b (u_A E s.heap.size)
def CtH (l : Launch) (E : uE) (y : MethodName) (cc : ByteArray) (nL : Nat) (hh : List (Nat × Nat × Nat × Nat)) (fr lo a b : Nat) (argv : List Value) (σ : uS) (o : Int64) (r : Int32) (σ' : uS) (o' : Int64) : Prop :=
  ∀ (sz : Nat), vx_Met l y (Cond.codeWith y cc nL (some .int) hh :: TG) (u_rm fr lo a b) (u_Pc E argv σ o sz) (u_QI E sz o' r σ') (u_XF E sz) a b (u_A E sz)
def Xh (K : uK) (hh : List (Nat × Nat × Nat × Nat)) : Prop := K.2.2.2.1.exceptionTable.toList = tableOf hh
theorem g_hret {l : Launch} {E : uE} {K : uK} {own : String} {cc : ByteArray} {fr lo a b : Nat} {o : Int64} {σ : uS} {pc : Nat} {lv : List (Option Value)} (hC : Cx E K own cc (some .int) fr lo) {r : Int32} (hR : RetH E K a b o r σ) (hd : decode cc pc = .ok (.ireturn, 1)) : Gd l E K a b o σ pc lv [.int r] := by
  obtain ⟨⟨p, e, R, s, m, args⟩, ⟨below, meth, c, Q, nL⟩⟩ := K
  obtain ⟨hx, hb, hr, hml, hown, hts, hlk, hK, hj, hz, hfr, hlo⟩ := hC
  intro H locs ls hP hS hl
  have hR : Q = _ := hR
  subst hR
  exact vx_ret (W.iret hx hb hr (fun t ht hW => ⟨⟨r, (), rfl, rfl, by show va_P _ _ _ t.heap; rw [ht]; exact hP⟩, hS.F ht⟩) hS.2.2 hd)
theorem g_last {l : Launch} {E : uE} {K : uK} {own : String} {cc : ByteArray} {ret : Option FieldType} {fr lo a b : Nat} {o : Int64} {σ : uS} {pc : Nat} {lv : List (Option Value)} {st : List Value} (hC : Cx E K own cc ret fr lo) {x : Int64} (hd : decode cc pc = .ok (.lastore, 1)) (kk : Gd l E K a b x σ (pc + 1) lv st) : Gd l E K a b o σ pc lv (.long x :: .int 0 :: .ref (E.2.1 92) :: st) := by
  obtain ⟨⟨p, e, R, s, m, args⟩, ⟨below, meth, c, Q, nL⟩⟩ := K
  obtain ⟨hx, hb, hr, hml, hown, hts, hlk, hK, hj, hz, hfr, hlo⟩ := hC
  intro H locs ls hP hS hl
  have h92 : 92 < u_N := by decide
  refine va_last hx hb hK hP (u_D hj) hS 92 2 (u_wl_get h92) rfl (vin_in rfl) hd (fun H1 locs1 hP1 _ hS1 => kk H1 locs1 ls ?_ hS1 hl)
  have hlen : (u_wl E o σ).length = u_N := by unfold u_wl; rw [List.length_map, List.length_range]
  intro k q hk
  obtain ⟨hk9, rfl⟩ := u_wl_lt hk
  by_cases he : k = 92
  · subst he
    have h1 := hP1 92 _ (List.getElem?_set_self (by rw [hlen]; exact h92))
    have h2 : vp_cell E.2.2.1.2.2 (1, .inr (.inl (vp_updL (fun _ => o) (0 : Int32).toNatClampNeg x))) = vp_cell E.2.2.1.2.2 (1, .inr (.inl (fun _ => x))) := by
      simp only [vp_cell_l]
      unfold arrV
      congr 1
    have h3 : H1[E.2.1 92]? = some (vp_cell E.2.2.1.2.2 (1, .inr (.inl (vp_updL (fun _ => o) (0 : Int32).toNatClampNeg x)))) := h1
    rw [h2] at h3
    exact h3
  · have h1 := hP1 k _ (by rw [List.getElem?_set_ne (fun e => he e.symm), u_wl_get hk9])
    rw [u_ce_o (x := x) he hk9] at h1
    exact h1
theorem g_hok {l : Launch} {E : uE} {K : uK} {own : String} {cc : ByteArray} {ret : Option FieldType} {fr lo : Nat} {o : Int64} {σ : uS} {pc : Nat} {lv : List (Option Value)} (hC : Cx E K own cc ret fr lo)
    {y : MethodName} {cc2 : ByteArray} {nL2 fr2 lo2 n index ci : Nat} {q : vw_C} {As : List Value} {rest st0 : List Value} {k : Nat} {kx : Nat} {σ2 : uS} (hM : CtX l E y cc2 nL2 fr2 lo2 (.ref (E.2.1 k) :: As) σ kx σ2) (hi : Mi y cc2 nL2 (some .int) n) (hv9 : Mv y) (hob : Ob k ci) (hq : vwCl[ci]? = some q) (hqc : q.1 = y.cls) (hlink : Cond.methodLink own index y ∈ TG)
    (hst : st0 = As.reverse ++ .ref (E.2.1 k) :: rest) (hn : As.length = n) (hw : (rest.map fun v => v.category).sum ≤ 8) (hR9 : fr2 + 1 ≤ fr ∧ 8 + (nL2 + 11) + lo2 ≤ lo) (h6 : Rm K 1 6)
    {hh : List (Nat × Nat × Nat × Nat)} (hT : Xh K hh) (pre : List ExceptionTableEntry) (x : ExceptionTableEntry) (suf : List ExceptionTableEntry) (hsplit : tableOf hh = pre ++ x :: suf)
    (hpass : ∀ z ∈ pre, z.catchType ≠ 0 ∧ ∃ nm : String, Cond.classLink own z.catchType nm ∈ TG ∧ va_Nc (u_exn kx) nm K.1.2.2.2.1) (hcov : covers x pc = true) (h0 : x.catchType ≠ 0) (hcl9 : Cond.classLink own x.catchType (u_exn kx) ∈ TG) (hcs9 : u_exn kx ∈ u_cs)
    (hd : decode cc pc = .ok (.invokevirtual index, 3)) (kk : ∀ q9 : Nat, Gd l E K 1 6 o σ2 x.handlerPc lv [.ref q9]) : Gd l E K 0 0 o σ pc lv st0 := by
  obtain ⟨⟨p, e, R, s, m, args⟩, ⟨below, meth, c, Q, nL⟩⟩ := K
  obtain ⟨hx, hb, hr, hml, hown, hts, hlk, hK, hj, hz, hfr, hlo⟩ := hC
  intro H locs ls hP hS hl
  subst hst
  obtain ⟨fs, hfs⟩ := hob.2 E o (σ k)
  have hcast : (Cond.castable (u_exn kx) (u_exn kx)).before args s = true := va_Nw.use rfl (hz.2.2.2.2.2.2.2.2.2.2.2.2.2.1 _ hcs9)
  refine vx_calli (vx_runV (As := As) (rest := rest) ⟨hx, hb, hml, hown, hts⟩ (hM o H.size) ⟨callB_of n hts (tg_good hi.1) rfl rfl rfl (hts _ hi.2.1) (hts _ hlink) hi.2.2 ⟨Nat.le_trans hR9.1 (Nat.le_of_eq hfr.symm), Nat.le_trans hR9.2 (Nat.le_of_eq hlo.symm)⟩, hts _ hv9.1, hts _ hv9.2⟩ ⟨u_Pc.blind, (hqc ▸ va_recv hK hP hq (by rw [u_wl_get hob.1, hfs])), fun U hU hW => ⟨rfl, by rw [hU], by rw [hU]; exact hP, va_K.moved hW.alike hK, hj, by have := hz.to hS hU hW; exact this⟩⟩ rfl hn (hl.1.trans rfl) rfl (lv_room hw) hd ⟨by have := h6.1; simpa using this, by have := h6.2; simpa using this⟩) hS (fun q _ h => u_A.le hS.1 q h) (u_A.le hS.1) (fun q _ h => u_A.le hS.1 q h) (fun C ce q9 _ t H1 locs1 ht9 hvm _ hB _ _ hS1 hce hv hcl => ?_) (fun _ _ t H1 locs1 _ _ hF _ _ _ _ => hF.elim)
  obtain ⟨rfl, hB⟩ := hB
  refine vx_catch hown pre x suf (hT.trans hsplit) (fun z hz9 => Or.inr ⟨(hpass z hz9).1, by obtain ⟨nm, h1, h2⟩ := (hpass z hz9).2; exact ⟨nm, hts _ h1, h2⟩⟩) hcov h0 (hts _ hcl9) hcast hce hv hcl ?_
  exact kk q9 H1 locs1 ls (ht9 ▸ hB) hS1 hl
theorem enterH {l : Launch} {E : uE} {y : MethodName} {cc : ByteArray} {nL fr lo a b : Nat} {hh : List (Nat × Nat × Nat × Nat)} {argv : List Value} {σ σ2 : uS} {r : Int32} {o o2 : Int64} (n : Nat) (lv0 : List (Option Value)) (hy : plainName y.cls = true) (hlv : lo_args argv ++ List.replicate n none = lv0) (hn : (lg_sl argv).length ≤ nL)
    (h : ∀ (K : uK), K.2.2.2.2.2 = nL → Cx E K y.cls cc (some .int) fr lo → Rm K 0 0 → Rm K a b → Xh K hh → RetH E K a b o2 r σ2 → Gd l E K 0 0 o σ 0 lv0 []) : CtH l E y cc nL hh fr lo a b argv σ o r σ2 o2 := by
  intro sz
  refine vx_ofWH (cc := cc) (maxL := nL) (ret := (some .int)) (hh := hh) hy rfl ?_
  intro p e s m args below meth c s₁ B hml hv
  obtain ⟨rfl, hsz, hP, hK, hj, hz⟩ := hv
  have hts : ∀ w ∈ TG, w.before argv.toArray s = true := fun w hw => atoms_spec (ws := Cond.codeWith y cc nL (some .int) hh :: TG) B.pre w (List.mem_cons_of_mem _ hw)
  have hT := vx_table (x := y) B (atoms_spec (ws := Cond.codeWith y cc nL (some .int) hh :: TG) B.pre _ List.mem_cons_self)
  subst hsz
  have hl := lv_entry argv (n := nL) hn
  rw [lg_entry_eq]
  have hl2 := lo_start (n := n) hl
  rw [hlv] at hl2
  exact h ((p, e, _, s, m, argv.toArray), (below, meth, c, _, nL)) rfl ⟨B.exec, B.bytes, B.returns, hml, findClass_of_methodNamed B.named, hts, B.notSynchronized, hK, hj, hz, rfl, rfl⟩ ⟨Nat.zero_le _, Nat.zero_le _⟩ ⟨Nat.le_refl _, Nat.le_refl _⟩ hT rfl s.heap [] _ hP va_S.rf hl2
