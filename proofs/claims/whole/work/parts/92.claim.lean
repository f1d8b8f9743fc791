/-! THE CLAIM OUT OF ONE WALK OF THE LAW'S BODY. Your part is whole_start (and what it stands on); all else here is the same for every law, but numbers. -/
def R_law : String := "PitchMarksLaw"
def lw_P (b : Addr) (xs : List Int32) (args : Array Value) (s : State) : Prop := args = #[.ref b] ∧ s.IntsAt b xs ∧ xs.length ≤ 3072 ∧ (Jvm.Cond.and given_1 narrow_1).before args s = true
def lw_Q (_ : Array Value) (s : State) (o : Outcome) (t : State) : Prop := o = .returned (some (.int 1)) ∧ Framed s o t [] 1119 65510
def lw_Z (below : List Frame) (a : Array Value) (s : State) : State → Prop := fun t => ∃ o, t.status = .running ∧ Ended t below o ∧ lw_Q a s o t
/-- the law's own end, with 1 on the stack, nothing written that was there before, its room as the claim has it -/
theorem lw_ret {p : Program} {l : Launch} {e : Env} {s : State} {m : MethodId} {below : List Frame} {meth : Method} {c : Code} {b : Nat} (hx : p.tables.exec = Jvm.exec) (hb : c.code = code) (hr : meth.sig.returnType = ret) (hlocks : meth.locks = false) {pc : Nat} {H : Heap} {ls : Array Slot} (hdg : decode code pc = .ok (.ireturn, 1)) : W p l e room_1 s m #[Value.ref b] below meth c H [] 1119 65510 (lw_Z below #[Value.ref b] s) (F0 m pc ls [.int 1]) := by
  intro T hT X
  obtain ⟨fs, hret, hrun, hended, hW, hframe⟩ := X.leave (v := some (.int 1)) (hlocks := hlocks) (fun h => by rw [hr] at h; cases h)
  have hmeth' : T.vm.method? m = some meth := X.method'
  refine ⟨T.setFrames fs, ?_, .returned (some (.int 1)), hrun, hended, rfl, ⟨_, rfl⟩, hW, hframe⟩
  jvm_step X.here [X.here.top, hx, hb, hdg, hmeth', hr, ret, narrow_b1]
  (try refine ⟨rfl, ?_⟩); (try refine ⟨rfl, ?_⟩)
  first | (intro acts; rw [hret _ acts rfl rfl rfl]) | rw [hret _ _ rfl rfl rfl]
  exact Steps.refl _
/-- what holds at the law's entry: the machine, the code, the tables' words (any of lw_tbl by 'hts w (by decide +kernel)'), the script of L ints xs at the cell b, what the Statement gives of the start (any of its parts by flat_of_before) -/
def lw_At (p : Program) (s : State) (m : MethodId) (meth : Method) (c : Code) (b L : Nat) (xs : Nat → Int32) : Prop :=
  p.tables.exec = Jvm.exec ∧ c.code = code ∧ meth.sig.returnType = ret ∧ c.maxLocals = 7 ∧ s.vm.findClass R_law = some m.cls ∧ (∀ w ∈ lw_tbl, w.before #[Value.ref b] s = true) ∧ va_X b L xs s s.heap ∧ b < s.heap.size ∧ meth.locks = false ∧ (Jvm.Cond.and given_1 narrow_1).before #[Value.ref b] s = true
set_option maxHeartbeats 16000000 in
set_option maxRecDepth 100000 in
theorem whole_start {p : Program} {e : Env} {s : State} {m : MethodId} {below : List Frame} {meth : Method} {c : Code} (l : Launch) (hflags : l.flags = flags0) {b L : Nat} {xs : Nat → Int32} (hL : L ≤ 3072) (C0 : lw_At p s m meth c b L xs) : W p l e room_1 s m #[Value.ref b] below meth c s.heap [] 0 0 (lw_Z below #[Value.ref b] s) (entryFrame m ([Value.ref b] : List Value).toArray 7) := by
  obtain ⟨Inv, hops, hI0⟩ := ops_ok
  obtain ⟨hx, hb, hr, hml, hown, htl, hX, hbl, hlocks, hgv⟩ := id C0
  have hl9 : l.stackTraces = false := by
    unfold Launch.stackTraces
    rw [hflags]
    decide +kernel
  have hs := flat_of_before _ hgv
  have hts : ∀ w ∈ TG, w.before #[Value.ref b] s = true := fun w hw => htl w (List.mem_filter.mp hw).1
  obtain ⟨D, hKn⟩ := st_known hts
  obtain ⟨cI, hcI⟩ := st_arr (hts (.arrayClass .int) (tg_1 (List.mem_of_getElem? (i := 47) rfl) rfl)) (fun _ h => h)
  obtain ⟨cZ, hcZ⟩ := st_arr (hts (.arrayClass .boolean) (tg_1 (List.mem_of_getElem? (i := 85) rfl) rfl)) (fun _ h => h)
  obtain ⟨cJ, hcJ⟩ := st_arr (hts (.arrayClass .long) (tg_9 (List.mem_of_getElem? (i := 81) rfl) rfl)) (fun _ h => h)
  obtain ⟨fa, ef, xf, lf⟩ := st_FIRST hs
  obtain ⟨la, el, xl, ll⟩ := st_LEAST hs
  obtain ⟨mo, em, xm, lm⟩ := st_MOST hs
  obtain ⟨t, ht⟩ : ∃ t : uT, t = (cI, cZ, cJ) := ⟨_, rfl⟩
  have hK : va_K D vwCl (c_ty t) s := by
    subst ht
    refine ⟨hKn, fun k q hq => ?_⟩
    match k, hq with
    | 0, hq => cases hq; exact hcI
    | 1, hq => cases hq; exact hcZ
    | 2, hq => cases hq; exact hcJ
  have hA : ∀ q : Nat, s.heap.size ≤ q → (fun q : Nat => s.heap.size ≤ q) q := fun _ h => h
  generalize hAe : (fun q : Nat => s.heap.size ≤ q) = A at hA
  have hAn : ∀ a : Nat, a < s.heap.size → ¬ A a := fun a h => by rw [← hAe]; exact Nat.not_le.mpr h
  have hZ : c_Z fa A s s.heap := ⟨va_Zof (htl _ (mt_1 (List.mem_of_getElem? (i := 55) rfl))) (htl _ (mt_1 (List.mem_of_getElem? (i := 3) rfl))) ef hAn, xf, hAn _ lf, lf, st_nc htl⟩
  have hS : va_S A s.heap s.heap [] := va_S.rf
  have hP : va_P D vwCl [] s.heap := fun k q h => by simp at h
  have hD : va_D A [] := ⟨fun i j p q h => by simp at h, fun k q h => by simp at h⟩
  have hl := lv_entry ([.ref b]) (n := 7) (Nat.le_of_ble_eq_true rfl)
  rw [lg_entry_eq]
  generalize (lg_sl ([.ref b]) ++ List.replicate (7 - (lg_sl ([.ref b])).length) Slot.unset).toArray = ls at hl ⊢
  have hl : lv_has ls 7 [(0, .ref b)] := hl
  have hP : va_P D vwCl ([] : va_W) s.heap := hP
  refine va_new (ci := 11) (fs := [.null, .null, .null, .null, .null, .null, .null, .null, .null, .null, .int 0, .int 0, .int 0]) (C := RX11) (T := TX11) (N := 13) hx hb hts in_X11 tyX11 tyX11_ok hown (hts _ (tg_1 (List.mem_of_getElem? (i := 20) rfl) rfl)) (hts _ (tg_1 (List.mem_of_getElem? (i := 21) rfl) rfl)) (hts _ (tg_1 (List.mem_of_getElem? (i := 1) rfl) rfl)) hK hP hD hS hA rfl z_X11 (Nat.le_of_ble_eq_true rfl) (Nat.le_of_ble_eq_true rfl) dL_law_0 (fun q11 H hP2 hD2 hS2 => ?_)
  clear hP hD hS
  have hP := hP2
  have hD := hD2
  have hS := hS2
  clear hP2 hD2 hS2
  refine W.widen (k := 1) (n := 13) (Nat.le_of_ble_eq_true rfl) (Nat.le_of_ble_eq_true rfl) ?_
  have hP : va_P D vwCl (([] : va_W) ++ [(q11, .inr (11, [.null, .null, .null, .null, .null, .null, .null, .null, .null, .null, .int 0, .int 0, .int 0]))]) H := hP
  have hD : va_D A (([] : va_W) ++ [(q11, .inr (11, [.null, .null, .null, .null, .null, .null, .null, .null, .null, .null, .int 0, .int 0, .int 0]))]) := hD
  refine lv_dup hx hb dL_law_3 rfl ?_
  have hPc := e_P hP
  have hFc := e_F hD hS hA
  have hDc := e_D hD
  refine va_callv (va_runI (As := []) (rest := [.ref q11]) ⟨hx, hb, hml, hown, hts⟩ (ci_X11 l D t fa q11 H.size) (cwI 0 hts (tg_good (tg_1 (List.mem_of_getElem? (i := 24) rfl) rfl)) rfl rfl rfl (hts _ (tg_1 (List.mem_of_getElem? (i := 1) rfl) rfl)) (hts _ (tg_1 (List.mem_of_getElem? (i := 22) rfl) rfl)) (hts _ (tg_1 (List.mem_of_getElem? (i := 23) rfl) rfl)) rfl (by decide +kernel) ⟨Nat.le_of_ble_eq_true rfl, Nat.le_of_ble_eq_true rfl⟩) ⟨c_Pc.blind, fun U hU hW => ⟨rfl, by rw [hU], by rw [hU]; exact hPc, va_K.moved hW.alike hK, hDc.weaken (fun _ _ _ _ => trivial), c_Z.to hZ hS hFc hU hW⟩⟩ rfl rfl hl.1 rfl (lv_room (Nat.le_of_ble_eq_true rfl)) dL_law_4 ⟨Nat.le_of_ble_eq_true rfl, Nat.le_of_ble_eq_true rfl⟩) hS (fun q _ h => hFc q h) hFc (fun u t1 H1 locs ht1 hvm hw hB hz1 hk1 hS2 => ?_)
  obtain ⟨hP1, hD1⟩ := hB
  rw [ht1] at hP1
  try dsimp only at hw
  obtain ⟨hPn, hDn⟩ := e_J hP hD hk1 hFc hP1 hD1
  clear hPc hFc hDc hP1 hD1 hk1 hz1 ht1 hvm t1 hP hD hS
  subst hw
  generalize H1 = Hu at hPn hS2 ⊢
  have hP := hPn
  have hD := hDn
  have hS := hS2
  clear hPn hDn hS2
  refine W.widen (k := 55) (n := 31774) (Nat.le_of_ble_eq_true rfl) (Nat.le_of_ble_eq_true rfl) ?_
  have hP : va_P D vwCl (w1_X11 t u) Hu := hP
  have hD : va_D A (w1_X11 t u) := hD
  refine lv_astore_n (lv' := [(1, .ref (u 0)), (0, .ref b)]) hx hb dL_law_7 rfl hl (by decide) rfl (fun ls hl => ?_)
  refine va_new (ci := 12) (fs := [.null, .null, .null, .null, .null, .null, .int 0, .int 0, .int 0, .int 0, .int 0, .null, .null, .null, .null, .null, .null, .int 0, .null, .null, .null, .int 0, .int 0, .int 0, .null, .null, .null, .null, .null, .null, .null, .int 0, .null, .int 0, .null, .null, .null, .null, .int 0, .null, .null, .null, .int 0, .null, .null, .null, .null, .null, .null, .int 0]) (C := RX12) (T := TX12) (N := 50) hx hb hts in_X12 tyX12 tyX12_ok hown (hts _ (tg_6 (List.mem_of_getElem? (i := 179) rfl) rfl)) (hts _ (tg_6 (List.mem_of_getElem? (i := 180) rfl) rfl)) (hts _ (tg_1 (List.mem_of_getElem? (i := 13) rfl) rfl)) hK hP hD hS hA rfl z_X12 (Nat.le_of_ble_eq_true rfl) (Nat.le_of_ble_eq_true rfl) dL_law_8 (fun q12 H hP2 hD2 hS2 => ?_)
  clear hP hD hS
  have hP := hP2
  have hD := hD2
  have hS := hS2
  clear hP2 hD2 hS2
  refine W.widen (k := 56) (n := 31824) (Nat.le_of_ble_eq_true rfl) (Nat.le_of_ble_eq_true rfl) ?_
  refine lv_dup hx hb dL_law_11 rfl ?_
  have hPc := e_P hP
  have hFc := e_F hD hS hA
  have hDc := e_D hD
  refine va_callv (va_runI (As := []) (rest := [.ref q12]) ⟨hx, hb, hml, hown, hts⟩ (ci_X12 l D t fa q12 H.size) (cwI 0 hts (tg_good (tg_6 (List.mem_of_getElem? (i := 183) rfl) rfl)) rfl rfl rfl (hts _ (tg_1 (List.mem_of_getElem? (i := 13) rfl) rfl)) (hts _ (tg_6 (List.mem_of_getElem? (i := 181) rfl) rfl)) (hts _ (tg_6 (List.mem_of_getElem? (i := 182) rfl) rfl)) rfl (by decide +kernel) ⟨Nat.le_of_ble_eq_true rfl, Nat.le_of_ble_eq_true rfl⟩) ⟨c_Pc.blind, fun U hU hW => ⟨rfl, by rw [hU], by rw [hU]; exact hPc, va_K.moved hW.alike hK, hDc.weaken (fun _ _ _ _ => trivial), c_Z.to hZ hS hFc hU hW⟩⟩ rfl rfl hl.1 rfl (lv_room (Nat.le_of_ble_eq_true rfl)) dL_law_12 ⟨Nat.le_of_ble_eq_true rfl, Nat.le_of_ble_eq_true rfl⟩) hS (fun q _ h => hFc q h) hFc (fun v t1 H1 locs ht1 hvm hw hB hz1 hk1 hS2 => ?_)
  obtain ⟨hP1, hD1⟩ := hB
  rw [ht1] at hP1
  try dsimp only at hw
  obtain ⟨hPn, hDn⟩ := e_J hP hD hk1 hFc hP1 hD1
  clear hPc hFc hDc hP1 hD1 hk1 hz1 ht1 hvm t1 hP hD hS
  subst hw
  generalize H1 = Hv at hPn hS2 ⊢
  have hP := hPn
  have hD := hDn
  have hS := hS2
  clear hPn hDn hS2
  refine W.widen (k := 92) (n := 57305) (Nat.le_of_ble_eq_true rfl) (Nat.le_of_ble_eq_true rfl) ?_
  refine lv_astore_n (lv' := [(2, .ref (v 0)), (1, .ref (u 0)), (0, .ref b)]) hx hb dL_law_15 rfl hl (by decide) rfl (fun ls hl => ?_)
  refine lv_iconst (v := 1) hx hb dL_law_16 (by decide) ?_
  refine c_newa (atype := .long) (ty := .long) hx hb (hts _ (tg_9 (List.mem_of_getElem? (i := 81) rfl) rfl)) rfl hK hP hD hS hA 2 rfl (fun _ h => h) (a0 := (1, .inr (.inl (fun _ => 0)))) (fun _ => rfl) (by decide) (N' := 1) (by decide +kernel) (Nat.le_of_ble_eq_true rfl) (Nat.le_of_ble_eq_true rfl) (Nat.le_of_ble_eq_true rfl) dL_law_17 (fun qo H hP hD hS => ?_)
  refine W.widen (k := 93) (n := 57306) (Nat.le_of_ble_eq_true rfl) (Nat.le_of_ble_eq_true rfl) ?_
  refine lv_astore_n (lv' := [(3, .ref qo), (2, .ref (v 0)), (1, .ref (u 0)), (0, .ref b)]) hx hb dL_law_19 rfl hl (by decide) rfl (fun ls hl => ?_)
  refine lv_iconst (v := 0) hx hb dL_law_20 (by decide) ?_
  refine lv_istore (lv' := [(4, .int 0), (3, .ref qo), (2, .ref (v 0)), (1, .ref (u 0)), (0, .ref b)]) hx hb dL_law_21 hl (by decide) rfl (fun ls hl => ?_)
  obtain ⟨E, hE1, hE2, hE3, hE4⟩ : ∃ E : uE, E.1 = D ∧ E.2.1 = s_ad u v qo ∧ E.2.2.1 = t ∧ E.2.2.2 = (la, mo) := ⟨(D, s_ad u v qo, t, (la, mo)), rfl, rfl, rfl, rfl⟩
  have hPw : va_P D vwCl (s_ws t u v qo) H := hP
  have hDw : va_D A (s_ws t u v qo) := hD
  have hg := fun k hk => s_get (E := E) (u := u) (v := v) (q := qo) hE2 k hk
  rw [hE3] at hg
  have hge : ∀ k, k < u_N → s.heap.size ≤ E.2.1 k := fun k hk => by
    have := hDw.2 k _ (hg k hk)
    rw [← hAe] at this
    exact this
  have hinj : u_inj E := fun i j hi hj h => hDw.1 i j _ _ (hg i hi) (hg j hj) h
  have hAE : ∀ a : Nat, a < s.heap.size → ¬ u_A E s.heap.size a := fun a ha h => by
    rcases h with ⟨k, hk, rfl⟩ | h
    · have := hge k hk
      omega
    · omega
  have hPE : va_P E.1 vwCl (u_wl E 0 s0) H := by
    intro k q hq
    obtain ⟨hk, rfl⟩ := u_wl_lt hq
    rw [hE1]
    exact hPw k _ (hg k hk)
  have hZE : u_Z E s.heap.size s s.heap := by
    refine st_Z htl hs hAE ?_ ?_ ?_ ?_ ?_ ?_ <;> rw [hE4] <;> assumption
  have hSE : va_S (u_A E s.heap.size) s.heap H _ := ⟨hS.1, fun q h1 h2 => hS.2.1 q h1 (fun h3 => h2 (Or.inr (by rw [← hAe] at h3; exact h3))), fun l hl => Or.inr (by have := hS.2.2 l hl; rw [← hAe] at this; exact this)⟩
  have hCx : Cx E ((p, e, room_1, s, m, #[Value.ref b]), (below, meth, c, lw_Z below #[Value.ref b] s, 7)) RL cL_law (some .boolean) 11 414 := ⟨hx, hb, hr, hml, hown, hts, hlocks, by rw [hE1]; unfold u_ty; rw [hE3]; exact hK, hinj, hZE, rfl, rfl⟩
  have hlo : lo_has ls 7 [some (.ref b), some (.ref (E.2.1 0)), some (.ref (E.2.1 55)), some (.ref (E.2.1 92)), some (.int (zI (6 * 0 : Nat))), none, none] := by
    refine ⟨hl.1, hl.2.1, fun k x hk => ?_⟩
    rw [hE2] at hk
    match k, hk with
    | 0, hk => cases hk; exact hl.2.2 (0, .ref b) (by simp)
    | 1, hk => cases hk; exact hl.2.2 (1, .ref (u 0)) (by simp)
    | 2, hk => cases hk; exact hl.2.2 (2, .ref (v 0)) (by simp)
    | 3, hk => cases hk; exact hl.2.2 (3, .ref qo) (by simp)
    | 4, hk => cases hk; exact hl.2.2 (4, .int 0) (by simp)
    | 5, hk => cases hk
    | 6, hk => cases hk
  refine law_loop (E := E) (K := ((p, e, room_1, s, m, #[Value.ref b]), (below, meth, c, lw_Z below #[Value.ref b] s, 7))) hops hl9 hCx rfl ⟨hX, hbl, hAE b hbl⟩ hL (fun a9 b9 h1 h2 => ⟨h1, h2⟩) ?_ 513 0 rfl (Nat.zero_le _) 93 57306 0 s0 (by omega) (by omega) hI0 H _ ls hPE hSE hlo
  intro a9 b9 o9 σ9 w9 ha9 hb9 H9 locs9 ls9 hP9 hS9 hl9
  refine lv_iconst (v := 1) hx hb dL_law_2656 (by decide) ?_
  refine va_forget (fun q hq => ?_) ?_
  · rcases hS9.2.2 q hq with ⟨k, hk, h⟩ | h
    · rw [h]
      exact hge k hk
    · exact h
  · exact W.widen ha9 hb9 (lw_ret hx hb hr hlocks dL_law_2657)
set_option maxHeartbeats 4000000 in
theorem lw_walk (l : Launch) (hflags : l.flags = flags0) (b : Addr) (xs : List Int32) : MetFree l x (headSpec (Jvm.Cond.code x code maxLocals ret :: tables_1) room_1) (lw_P b xs) (fun _ _ _ _ _ => True) lw_Q := by
  refine MetFree.of_bodyS (code := code) (maxLocals := maxLocals) (ret := ret) (by decide) ?_ ?_
  · intro args s m h hn
    obtain ⟨meth, c, h1, h2, h3, h4, h5, h6, -, -⟩ := Cond.code_spec hn (atoms_spec (ws := Jvm.Cond.code x code maxLocals ret :: tables_1) h _ List.mem_cons_self)
    exact ⟨meth, c, h1, h2, h3, h4, h5, h6⟩
  · intro p e s m args below meth c s₁ B hml0 hP _
    obtain ⟨rfl, hx, hbd, hgv⟩ := hP
    obtain ⟨scr, harrAt, hlist, hof, hsmall⟩ := hx
    obtain ⟨hcb, hkn, -, -⟩ := State.arrayAt?_spec harrAt
    have hown : s.vm.findClass R_law = some m.cls := findClass_of_methodNamed B.named
    have hts0 : ∀ c ∈ (Jvm.Cond.code x code maxLocals ret :: tables_1), c.before #[Value.ref b] s = true := atoms_spec (ws := Jvm.Cond.code x code maxLocals ret :: tables_1) B.pre
    have hts : ∀ w ∈ lw_tbl, w.before #[Value.ref b] s = true := k2_hts_sels lw_privs (fun w hw => hts0 w (List.mem_cons_of_mem _ hw)) lw_privs_ok
    have hml : c.maxLocals = 7 := B.maxLocals_eq (hts0 _ List.mem_cons_self)
    have X₀ : Stand p l e room_1 s m #[Value.ref b] below meth c s₁ [] 0 0 := Stand.of_body B
    have hh0 : s₁.heap = s.heap := by rw [B.state]; rfl
    have hsz : scr.slots.size = xs.length := by rw [← Array.length_toList, hlist, List.length_map]
    have hval : ∀ j : Nat, j < xs.length → scr.slots[j]? = some (.int (xs.getD j 0)) := fun j hj => by
      rw [← Array.getElem?_toList, hlist]
      simp [hj]
    have hbl : b < s.heap.size := (Array.getElem?_eq_some_iff.mp hcb).1
    have hX : va_X b xs.length (fun j => xs.getD j 0) s s.heap := ⟨scr, hcb, hof, hkn, hsz, hval⟩
    have K : W p l e room_1 s m #[Value.ref b] below meth c s₁.heap [] 0 0 (lw_Z below #[Value.ref b] s) (entryFrame m ([Value.ref b] : List Value).toArray 7) := by
      rw [hh0]
      exact whole_start l hflags hbd ⟨B.exec, B.bytes, B.returns, hml, hown, hts, hX, hbl, B.notSynchronized, hgv⟩
    obtain ⟨t, a1, o, b1, b2, b3⟩ := K s₁ rfl X₀
    exact ⟨t, o, a1, b1, b2, b3⟩
theorem lw_pre_spec {args : Array Value} {s : State} (h : (Jvm.Cond.and given_1 narrow_1).before args s = true) (hr : rest_1_c.before args s = true) : ∃ (b : Addr) (xs : List Int32), lw_P b xs args s := by
  have hs := flat_of_before _ h
  have hq := flat_of_before _ hr
  have hc : (Cond.count 1).before args s = true := hs _ (by decide +kernel)
  have harr : (Cond.arrayOf (.arg 0) .int).before args s = true := hs _ (by decide +kernel)
  have hle : (Cond.le (.length (.arg 0)) (.int 3072)).before args s = true := hs _ (by decide +kernel)
  have hlen : (Cond.isInt (.length (.arg 0))).before args s = true := hq _ (by decide +kernel)
  have hall : (Cond.all (.arg 0) (.isInt (.elem (.arg 0) (.index 0)))).before args s = true := hq _ (by decide +kernel)
  obtain ⟨b, xs, hb, hx⟩ := State.ints_of_pre rfl harr hlen hall
  have hsm : xs.length < 2 ^ 31 := hx.choose_spec.2.2.2
  have hev : (Term.length (.arg 0)).eval args s none [] s = some (.int xs.length.toInt32) := hx.length_eval hb
  have hv := Cond.le_ints hev (show (Term.int 3072).eval args s none [] s = some (.int 3072) from rfl)
  have hd : xs.length.toInt32 ≤ 3072 := by
    simpa [Cond.before, Cond.holds, hv] using hle
  have hN : xs.length ≤ 3072 := (Int32.ofNat_le_ofNat hsm (by decide)).mp (show Int32.ofNat xs.length ≤ Int32.ofNat 3072 from hd)
  exact ⟨b, xs, Cond.one_arg hc (show args[0]? = some (.ref b) from hb), hx, hN, h⟩
theorem lw_comes (l : Launch) (hflags : l.flags = flags0) : Comes l x (Jvm.Cond.code x code maxLocals ret :: tables_1) room_1 (fun tb e args s => Calls_1 tb e args s ∧ rest_1 tb e args s ∧ Pre_1 tb e args s)
    (fun _ _ args s o t => lw_Q args s o t) := by
  intro p e ha hc hk s m args below hf hfit hheap happ hpre
  obtain ⟨b, xs, hP⟩ := lw_pre_spec hpre.2.2 hpre.2.1
  obtain ⟨k, o, h1, h2, h3, hQ⟩ := lw_walk l hflags b xs p e ha hc hk s m args below hf ((Spec.applies_iff_loose hf).mp happ).1 hP trivial
  exact ⟨k, o, h1, h2, h3, hQ⟩
theorem lw_frame {s t : State} {o : Outcome} {args : Array Value} (h : Framed s o t [] 1119 65510) :
    Framed s o t (fieldLocs frame_1_writes args s ++ arrayLocs frame_1_arrays args s ++ staticLocs frame_1_statics s) 1119 65510 := h
theorem lw_limb (L : Cond) (hL : ∀ (args : Array Value) (s t : State), L.after args s (.returned (some (.int 1))) t = true) :
    ArmFor flags0 classFile x code maxLocals ret World_1 tables_1 room_1 Calls_1 rest_1 Pre_1
      (fun tb e a s o t => postC L tb e a s o t ∧ Framed s o t (fieldLocs frame_1_writes a s ++ arrayLocs frame_1_arrays a s ++ staticLocs frame_1_statics s) 1119 65510) := by
  intro l hflags _ _ p e ha hc hk s m args below hf hfit hheap happ hpre
  obtain ⟨k, o, h1, h2, h3, rfl, hF⟩ := lw_comes l hflags p e ha hc hk s m args below hf hfit hheap happ hpre
  exact ⟨k, _, h1, h2, h3, hL args s _, lw_frame hF⟩
theorem i_vc : Claimed_1_1 ∧ Claimed_1_2 := ⟨lw_limb limb_1_1 (fun args s t => by simp [limb_1_1, Cond.after, Cond.holds, Cond.value]), lw_limb limb_1_2 (fun args s t => Cond.after_iff.mpr (by
  first | (rw [show limb_1_2 = Cond.eq .result (.int 1) from rfl, Cond.eq_ints (x := 1) (y := 1) rfl rfl]; simp; done) | (simp [limb_1_2, Cond.value, Term.eval]; done)))⟩
