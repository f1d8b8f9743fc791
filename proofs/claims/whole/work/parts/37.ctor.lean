/-! constructors: what is carried, worlds that grow -/
def u_first (j : Nat) : Int32 := ([0, 0, 10, 20, 4, 24, 400, 3, 4, 500, 10, 150, 200, 3, 0, 60] : List Int32).getD j 0
def u_nc : List (String × Nat × MethodName) := [(RX11, 9, yX7_init), (RX5, 11, yX9_init), (RX6, 11, yX9_init)]
def c_Z (fa : Nat) (A : Nat → Prop) (U : State) (H : Heap) : Prop :=
  va_Z "PitchMarks$Bounds" "FIRST" "[I" (.ref fa) A U H ∧ va_X fa 16 u_first U H ∧ ¬ A fa ∧ fa < H.size ∧ ∀ q ∈ u_nc, va_Nw (.methodLinkNest q.1 q.2.1 q.2.2 "PitchMarks") U
theorem c_Z.to {fa : Nat} {A A' : Nat → Prop} {s U : State} {H : Heap} {locs : List Loc} (h : c_Z fa A s s.heap) (hS : va_S A s.heap H locs) (hn : ∀ q, A' q → A q) (hU : U.heap = H) (hW : s.WarmedH U.vm) : c_Z fa A' U U.heap := by
  obtain ⟨a1, a2, a3, a4, d3⟩ := h
  have hq := hS.2.1
  rw [hU]
  exact ⟨((a1.kept hq).moved hW.alike).narrow hn, (a2.kept (hq _ a4 a3)).moved hW.alike, fun z => a3 (hn _ z), Nat.lt_of_lt_of_le a4 hS.1, fun q hq => va_Nw.warmM hW (d3 q hq)⟩
theorem c_Z.same {fa : Nat} {A : Nat → Prop} {u U : State} {H : Heap} (h : c_Z fa A u H) (hv : U.vm = u.vm) : c_Z fa A U H := by
  obtain ⟨a1, a2, a3, a4, d3⟩ := h
  have hA : u.vm.Alike U.vm := by rw [hv]; exact Vm.Alike.refl _
  exact ⟨a1.moved hA, a2.moved hA, a3, a4, fun q hq => va_Nw.same rfl hv.symm (d3 q hq)⟩
abbrev uT : Type := ClassId × ClassId × ClassId
abbrev c_ty (t : uT) : List (ClassId × FieldType) := [(t.1, .int), (t.2.1, .boolean), (t.2.2, .long)]
def c_Pc (D : va_G) (t : uT) (fa : Nat) (argv : List Value) (ws : va_W) (sz : Nat) : Array Value → State → Prop := va_Pc argv (fun U => U.heap.size = sz ∧ va_P D vwCl ws U.heap ∧ va_K D vwCl (c_ty t) U ∧ va_D (fun _ => True) ws ∧ c_Z fa (va_A ws sz) U U.heap)
theorem c_Pc.blind {D : va_G} {t : uT} {fa : Nat} {argv : List Value} {ws : va_W} {sz : Nat} : FrameBlind (c_Pc D t fa argv ws sz) := by
  intro a U g mk q
  obtain ⟨q0, q1, qP, qK, qJ, qZ⟩ := q
  exact ⟨q0, q1, qP, va_K.moved (u := U) (U := U.calling g mk a) (Vm.Alike.refl U.vm) qK, qJ, c_Z.same (U := U.calling g mk a) qZ rfl⟩
abbrev c_Q (D : va_G) (w1 : (Nat → Nat) → va_W) (h0 : Nat) (A : Nat → Prop) : Array Value → State → Outcome → State → Prop := va_Qv (fun u : Nat → Nat => u 0 = h0) (fun u t => va_P D vwCl (w1 u) t.heap ∧ va_D A (w1 u)) A
def CtC (l : Launch) (D : va_G) (t : uT) (fa : Nat) (y : MethodName) (cc : ByteArray) (nL fr lo mc ms : Nat) (argv : List Value) (ws : va_W) (h0 : Nat) (w1 : (Nat → Nat) → va_W) : Prop :=
  ∀ (sz : Nat), Met l y (Cond.code y cc nL none :: TG) { frames := fr, cells := mc, slots := ms, locals := lo } (c_Pc D t fa argv ws sz) (c_Q D w1 h0 (va_A ws sz)) mc ms (va_A ws sz)
theorem c_newa {p : Program} {l : Launch} {e : Env} {R : Room} {s : State} {m : MethodId} {args : Array Value} {below : List Frame} {meth : Method} {c : Code} {H H0 : Heap} {locs : List Loc} {cells slots : Nat} {Q : State → Prop} {cc : ByteArray} {pc : Nat} {ls : Array Slot} {rest : List Value} {D : va_G} {cl : List vw_C} {tys : List (ClassId × FieldType)} {ws : va_W} {A : Nat → Prop} (hexec : p.tables.exec = Jvm.exec) (hb : c.code = cc) {atype : ArrayType} (harr : (Cond.arrayClass (newarray.typeOf atype)).before args s = true) {ty : FieldType} (hty : newarray.typeOf atype = ty) (hK : va_K D cl tys s) (hP : va_P D cl ws H) (hD : va_D A ws) (hS : va_S A H0 H locs) (hA : ∀ q, H0.size ≤ q → A q)
    (t0 : Nat) {cA : ClassId} (ht : tys[t0]? = some (cA, ty)) (hr : ∀ c9, va_RA s c9 ty → s.vm.findClass ("[" ++ ty.toString) = some c9) {n : Int32} {N' : Nat} {a0 : vp_A} (ha : ∀ cA : ClassId, vp_cell cA a0 = arrV cA N' (fun _ => defaultValue ty)) (hn : ¬ n < 0) (hN : n.toNatClampNeg = N') (hbytes : N' * componentBytes ty ≤ 536870912) (hcells : cells + 1 ≤ R.cells) (hslots : slots + N' ≤ R.slots) (hdg : decode cc pc = .ok (.newarray atype, 2))
    (kk : ∀ (q : Nat) (H1 : Heap), va_P D cl (ws ++ [(q, .inl (cA, a0))]) H1 → va_D A (ws ++ [(q, .inl (cA, a0))]) → va_S A H0 H1 locs →
      W p l e R s m args below meth c H1 locs (cells + 1) (slots + N') Q (F0 m (pc + 2) ls (.ref q :: rest))) : W p l e R s m args below meth c H locs cells slots Q (F0 m pc ls (.int n :: rest)) := by
  refine va_newa hexec hb harr hty hK hP hD hS hA ha hn hN hbytes hcells hslots hdg (fun q cB H1 hK1 hP1 hD1 hS1 => ?_)
  have h1 := hr _ (hK1.2 tys.length (cB, ty) (by simp)).2
  have h2 := hr _ (hK.2 t0 _ ht).2
  have e : cB = cA := Option.some.inj (h1.symm.trans h2)
  subst e
  exact kk q H1 hP1 hD1 hS1
def b_up (i j : Nat) : Int32 := if j < i then u_first j else 0
theorem b_up_s (i : Nat) : upd (b_up i) i (u_first i) = b_up (i + 1) := by
  funext j
  unfold upd b_up
  by_cases h : j = i
  · subst h
    simp
  · by_cases h2 : j < i
    · rw [if_neg h, if_pos h2, if_pos (by omega)]
    · rw [if_neg h, if_neg h2, if_neg (by omega)]
theorem b_up_z : (fun _ => 0) = b_up 0 := by
  funext j
  simp [b_up]
theorem b_up_16 : b_up 16 = u_first := by
  funext j
  unfold b_up
  by_cases h : j < 16
  · rw [if_pos h]
  · rw [if_neg h]
    unfold u_first
    rw [List.getD_eq_getElem?_getD, List.getElem?_eq_none (by simpa using h)]
    rfl
theorem e_P {D : va_G} {cl : List vw_C} {wr : va_W} {q : Nat × va_E} {H : Heap} (h : va_P D cl (wr ++ [q]) H) : va_P D cl [q] H := by
  intro k z hk
  have h0 : k < 1 := (List.getElem?_eq_some_iff.mp hk).1
  obtain rfl : k = 0 := by omega
  cases hk
  exact h wr.length q (by simp)
theorem e_D {A : Nat → Prop} {wr : va_W} {q : Nat × va_E} (h : va_D A (wr ++ [q])) : va_D A [q] := by
  refine ⟨fun i j p z hi hj _ => ?_, fun k z hk => ?_⟩
  · have h0 : i < 1 := (List.getElem?_eq_some_iff.mp hi).1
    have h1 : j < 1 := (List.getElem?_eq_some_iff.mp hj).1
    omega
  · have h0 : k < 1 := (List.getElem?_eq_some_iff.mp hk).1
    obtain rfl : k = 0 := by omega
    cases hk
    exact h.2 wr.length q (by simp)
theorem e_F {A0 : Nat → Prop} {wr : va_W} {q : Nat × va_E} {H0 H : Heap} {locs : List Loc} (hD : va_D A0 (wr ++ [q])) (hS : va_S A0 H0 H locs) (hA : ∀ x, H0.size ≤ x → A0 x) : ∀ x, va_A [q] H.size x → A0 x := va_free hD hS hA [wr.length] (by simp)
theorem e_nd : ∀ (l : List Nat), l.Nodup → va_nd l = true
  | [], _ => rfl
  | a :: l, h => by
    rw [List.nodup_cons] at h
    simp only [va_nd, Bool.and_eq_true, decide_eq_true_eq]
    exact ⟨h.1, e_nd l h.2⟩
theorem e_J {A0 : Nat → Prop} {D : va_G} {cl : List vw_C} {wr w1 : va_W} {q : Nat × va_E} {H H1 : Heap} (hP : va_P D cl (wr ++ [q]) H) (hD : va_D A0 (wr ++ [q])) (hk : ∀ x : Nat, x < H.size → ¬ va_A [q] H.size x → H1[x]? = H[x]?) (hF : ∀ x, va_A [q] H.size x → A0 x) (hP1 : va_P D cl w1 H1) (hD1 : va_D (va_A [q] H.size) w1) : va_P D cl (wr ++ w1) H1 ∧ va_D A0 (wr ++ w1) := by
  refine va_join (wc := [q]) hP hD [wr.length] (List.range wr.length) (by simp) ?_ (e_nd _ List.nodup_range) ?_ hk hF hP1 hD1
  · apply List.ext_getElem?
    intro i
    rw [List.getElem?_map, List.getElem?_map]
    by_cases h : i < wr.length
    · rw [List.getElem?_range h]
      simp only [Option.map_some]
      rw [List.getElem?_append_left h, List.getElem?_eq_getElem h]
      rfl
    · rw [List.getElem?_eq_none (by simpa using h), List.getElem?_eq_none (by omega)]
      rfl
  · intro i hi
    have := List.mem_range.mp hi
    simp
    omega
