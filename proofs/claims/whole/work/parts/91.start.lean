/-! the start -/
def s0 : uS := fun k j => match k with
  | 5 => u_first j
  | 56 => u_first j
  | 57 => u_least j
  | 58 => u_most j
  | _ => 0
theorem mt_1 {w : Cond} (h : w ∈ tables_1_1) : w ∈ lw_tbl := List.mem_append_right _ (List.mem_append_left _ h)
theorem mt_2 {w : Cond} (h : w ∈ tables_1_2) : w ∈ lw_tbl := List.mem_append_right _ (List.mem_append_right _ (List.mem_append_left _ h))
theorem mt_3 {w : Cond} (h : w ∈ tables_1_3) : w ∈ lw_tbl := List.mem_append_right _ (List.mem_append_right _ (List.mem_append_right _ (List.mem_append_left _ h)))
theorem mt_4 {w : Cond} (h : w ∈ tables_1_4) : w ∈ lw_tbl := List.mem_append_right _ (List.mem_append_right _ (List.mem_append_right _ (List.mem_append_right _ (List.mem_append_left _ h))))
theorem mt_5 {w : Cond} (h : w ∈ tables_1_5) : w ∈ lw_tbl := List.mem_append_right _ (List.mem_append_right _ (List.mem_append_right _ (List.mem_append_right _ (List.mem_append_right _ (List.mem_append_left _ h)))))
theorem mt_6 {w : Cond} (h : w ∈ tables_1_6) : w ∈ lw_tbl := List.mem_append_right _ (List.mem_append_right _ (List.mem_append_right _ (List.mem_append_right _ (List.mem_append_right _ (List.mem_append_right _ (List.mem_append_left _ h))))))
theorem mt_7 {w : Cond} (h : w ∈ tables_1_7) : w ∈ lw_tbl := List.mem_append_right _ (List.mem_append_right _ (List.mem_append_right _ (List.mem_append_right _ (List.mem_append_right _ (List.mem_append_right _ (List.mem_append_right _ (List.mem_append_left _ h)))))))
theorem mt_8 {w : Cond} (h : w ∈ tables_1_8) : w ∈ lw_tbl := List.mem_append_right _ (List.mem_append_right _ (List.mem_append_right _ (List.mem_append_right _ (List.mem_append_right _ (List.mem_append_right _ (List.mem_append_right _ (List.mem_append_right _ (List.mem_append_left _ h))))))))
theorem mt_9 {w : Cond} (h : w ∈ tables_1_9) : w ∈ lw_tbl := List.mem_append_right _ (List.mem_append_right _ (List.mem_append_right _ (List.mem_append_right _ (List.mem_append_right _ (List.mem_append_right _ (List.mem_append_right _ (List.mem_append_right _ (List.mem_append_right _ (h)))))))))
theorem st_X {args : Array Value} {s : State} {tm : Term} {N : Nat} {f : Nat → Int32} (hN : N < 2 ^ 31) (harr : (Cond.arrayOf tm .int).before args s = true) (hlen : (Term.length tm).eval args s none [] s = some (.int (Int32.ofNat N))) (hel : ∀ j : Nat, j < N → (Term.elem tm (.int (Int32.ofNat j))).eval args s none [] s = some (.int (f j))) : ∃ t : Nat, tm.eval args s none [] s = some (.ref t) ∧ va_X t N f s s.heap ∧ t < s.heap.size := by
  obtain ⟨t, cell, ht, hat, hv⟩ := Term.length_spec hlen
  have hsz : cell.slots.size < 2 ^ 31 := by
    have hq := hlen
    simp only [Term.eval, ht, hat, Option.bind_eq_bind, Option.bind_some] at hq
    by_cases hlt : cell.slots.size < 2147483648
    · exact hlt
    · simp [hlt] at hq
  obtain ⟨hcell, hkn, -, -⟩ := State.arrayAt?_spec hat
  obtain ⟨hof, -⟩ := Cond.arrayOf_spec harr ht hcell
  have key : ∀ j : Nat, j < N → cell.slots[j]? = some (.int (f j)) := by
    intro j hj
    obtain ⟨a, i, cell2, h1, h2, h3, h4, h5⟩ := Term.elem_spec (hel j hj)
    cases ht.symm.trans h1
    cases hat.symm.trans h3
    have hi : i = Int32.ofNat j := by
      have e : (Term.int (Int32.ofNat j)).eval args s none [] s = some (.int (Int32.ofNat j)) := rfl
      cases h2.symm.trans e
      rfl
    have hc : i.toNatClampNeg = j := by rw [hi]; exact Int32.toNatClampNeg_ofNat_of_lt (Nat.lt_trans hj hN)
    rw [hc] at h5
    exact h5
  have hs : cell.slots.size = N := by
    have e : cell.slots.size.toInt32 = Int32.ofNat N := (Value.int.inj hv).symm
    have e2 := congrArg Int32.toNatClampNeg e
    rw [Int32.toNatClampNeg_ofNat_of_lt hN] at e2
    rw [← e2]
    exact (Int32.toNatClampNeg_ofNat_of_lt hsz).symm
  exact ⟨t, ht, ⟨cell, hcell, hof, hkn, hs, key⟩, (Array.getElem?_eq_some_iff.mp hcell).1⟩
theorem st_FIRST {args : Array Value} {s : State} (hs : ∀ c ∈ flatC (Jvm.Cond.and given_1 narrow_1), c.before args s = true) : ∃ t : Nat, (Term.static "PitchMarks$Bounds" "FIRST" "[I").eval args s none [] s = some (.ref t) ∧ va_X t 16 u_first s s.heap ∧ t < s.heap.size := by
  refine st_X (by decide) (hs (Cond.arrayOf (Term.static "PitchMarks$Bounds" "FIRST" "[I") .int) (List.mem_of_getElem? (i := 5) rfl)) (va_eqt (hs (Cond.eq (Term.length (Term.static "PitchMarks$Bounds" "FIRST" "[I")) (.int 16)) (List.mem_of_getElem? (i := 6) rfl))) (fun j hj => ?_)
  match j, hj with
  | 0, _ => exact va_eqt (hs (Cond.eq (Term.elem (Term.static "PitchMarks$Bounds" "FIRST" "[I") (.int 0)) (.int 0)) (List.mem_of_getElem? (i := 7) rfl))
  | 1, _ => exact va_eqt (hs (Cond.eq (Term.elem (Term.static "PitchMarks$Bounds" "FIRST" "[I") (.int 1)) (.int 0)) (List.mem_of_getElem? (i := 8) rfl))
  | 2, _ => exact va_eqt (hs (Cond.eq (Term.elem (Term.static "PitchMarks$Bounds" "FIRST" "[I") (.int 2)) (.int 10)) (List.mem_of_getElem? (i := 9) rfl))
  | 3, _ => exact va_eqt (hs (Cond.eq (Term.elem (Term.static "PitchMarks$Bounds" "FIRST" "[I") (.int 3)) (.int 20)) (List.mem_of_getElem? (i := 10) rfl))
  | 4, _ => exact va_eqt (hs (Cond.eq (Term.elem (Term.static "PitchMarks$Bounds" "FIRST" "[I") (.int 4)) (.int 4)) (List.mem_of_getElem? (i := 11) rfl))
  | 5, _ => exact va_eqt (hs (Cond.eq (Term.elem (Term.static "PitchMarks$Bounds" "FIRST" "[I") (.int 5)) (.int 24)) (List.mem_of_getElem? (i := 12) rfl))
  | 6, _ => exact va_eqt (hs (Cond.eq (Term.elem (Term.static "PitchMarks$Bounds" "FIRST" "[I") (.int 6)) (.int 400)) (List.mem_of_getElem? (i := 13) rfl))
  | 7, _ => exact va_eqt (hs (Cond.eq (Term.elem (Term.static "PitchMarks$Bounds" "FIRST" "[I") (.int 7)) (.int 3)) (List.mem_of_getElem? (i := 14) rfl))
  | 8, _ => exact va_eqt (hs (Cond.eq (Term.elem (Term.static "PitchMarks$Bounds" "FIRST" "[I") (.int 8)) (.int 4)) (List.mem_of_getElem? (i := 15) rfl))
  | 9, _ => exact va_eqt (hs (Cond.eq (Term.elem (Term.static "PitchMarks$Bounds" "FIRST" "[I") (.int 9)) (.int 500)) (List.mem_of_getElem? (i := 16) rfl))
  | 10, _ => exact va_eqt (hs (Cond.eq (Term.elem (Term.static "PitchMarks$Bounds" "FIRST" "[I") (.int 10)) (.int 10)) (List.mem_of_getElem? (i := 17) rfl))
  | 11, _ => exact va_eqt (hs (Cond.eq (Term.elem (Term.static "PitchMarks$Bounds" "FIRST" "[I") (.int 11)) (.int 150)) (List.mem_of_getElem? (i := 18) rfl))
  | 12, _ => exact va_eqt (hs (Cond.eq (Term.elem (Term.static "PitchMarks$Bounds" "FIRST" "[I") (.int 12)) (.int 200)) (List.mem_of_getElem? (i := 19) rfl))
  | 13, _ => exact va_eqt (hs (Cond.eq (Term.elem (Term.static "PitchMarks$Bounds" "FIRST" "[I") (.int 13)) (.int 3)) (List.mem_of_getElem? (i := 20) rfl))
  | 14, _ => exact va_eqt (hs (Cond.eq (Term.elem (Term.static "PitchMarks$Bounds" "FIRST" "[I") (.int 14)) (.int 0)) (List.mem_of_getElem? (i := 21) rfl))
  | 15, _ => exact va_eqt (hs (Cond.eq (Term.elem (Term.static "PitchMarks$Bounds" "FIRST" "[I") (.int 15)) (.int 60)) (List.mem_of_getElem? (i := 22) rfl))
  | k + 16, h => exact absurd h (by omega)
theorem st_LEAST {args : Array Value} {s : State} (hs : ∀ c ∈ flatC (Jvm.Cond.and given_1 narrow_1), c.before args s = true) : ∃ t : Nat, (Term.static "PitchMarks$Bounds" "LEAST" "[I").eval args s none [] s = some (.ref t) ∧ va_X t 16 u_least s s.heap ∧ t < s.heap.size := by
  refine st_X (by decide) (hs (Cond.arrayOf (Term.static "PitchMarks$Bounds" "LEAST" "[I") .int) (List.mem_of_getElem? (i := 24) rfl)) (va_eqt (hs (Cond.eq (Term.length (Term.static "PitchMarks$Bounds" "LEAST" "[I")) (.int 16)) (List.mem_of_getElem? (i := 25) rfl))) (fun j hj => ?_)
  match j, hj with
  | 0, _ => exact va_eqt (hs (Cond.eq (Term.elem (Term.static "PitchMarks$Bounds" "LEAST" "[I") (.int 0)) (.int 0)) (List.mem_of_getElem? (i := 26) rfl))
  | 1, _ => exact va_eqt (hs (Cond.eq (Term.elem (Term.static "PitchMarks$Bounds" "LEAST" "[I") (.int 1)) (.int 0)) (List.mem_of_getElem? (i := 27) rfl))
  | 2, _ => exact va_eqt (hs (Cond.eq (Term.elem (Term.static "PitchMarks$Bounds" "LEAST" "[I") (.int 2)) (.int 8)) (List.mem_of_getElem? (i := 28) rfl))
  | 3, _ => exact va_eqt (hs (Cond.eq (Term.elem (Term.static "PitchMarks$Bounds" "LEAST" "[I") (.int 3)) (.int 4)) (List.mem_of_getElem? (i := 29) rfl))
  | 4, _ => exact va_eqt (hs (Cond.eq (Term.elem (Term.static "PitchMarks$Bounds" "LEAST" "[I") (.int 4)) (.int 2)) (List.mem_of_getElem? (i := 30) rfl))
  | 5, _ => exact va_eqt (hs (Cond.eq (Term.elem (Term.static "PitchMarks$Bounds" "LEAST" "[I") (.int 5)) (.int 3)) (List.mem_of_getElem? (i := 31) rfl))
  | 6, _ => exact va_eqt (hs (Cond.eq (Term.elem (Term.static "PitchMarks$Bounds" "LEAST" "[I") (.int 6)) (.int 0)) (List.mem_of_getElem? (i := 32) rfl))
  | 7, _ => exact va_eqt (hs (Cond.eq (Term.elem (Term.static "PitchMarks$Bounds" "LEAST" "[I") (.int 7)) (.int 1)) (List.mem_of_getElem? (i := 33) rfl))
  | 8, _ => exact va_eqt (hs (Cond.eq (Term.elem (Term.static "PitchMarks$Bounds" "LEAST" "[I") (.int 8)) (.int 0)) (List.mem_of_getElem? (i := 34) rfl))
  | 9, _ => exact va_eqt (hs (Cond.eq (Term.elem (Term.static "PitchMarks$Bounds" "LEAST" "[I") (.int 9)) (.int 0)) (List.mem_of_getElem? (i := 35) rfl))
  | 10, _ => exact va_eqt (hs (Cond.eq (Term.elem (Term.static "PitchMarks$Bounds" "LEAST" "[I") (.int 10)) (.int 0)) (List.mem_of_getElem? (i := 36) rfl))
  | 11, _ => exact va_eqt (hs (Cond.eq (Term.elem (Term.static "PitchMarks$Bounds" "LEAST" "[I") (.int 11)) (.int 0)) (List.mem_of_getElem? (i := 37) rfl))
  | 12, _ => exact va_eqt (hs (Cond.eq (Term.elem (Term.static "PitchMarks$Bounds" "LEAST" "[I") (.int 12)) (.int 0)) (List.mem_of_getElem? (i := 38) rfl))
  | 13, _ => exact va_eqt (hs (Cond.eq (Term.elem (Term.static "PitchMarks$Bounds" "LEAST" "[I") (.int 13)) (.int 0)) (List.mem_of_getElem? (i := 39) rfl))
  | 14, _ => exact va_eqt (hs (Cond.eq (Term.elem (Term.static "PitchMarks$Bounds" "LEAST" "[I") (.int 14)) (.int 0)) (List.mem_of_getElem? (i := 40) rfl))
  | 15, _ => exact va_eqt (hs (Cond.eq (Term.elem (Term.static "PitchMarks$Bounds" "LEAST" "[I") (.int 15)) (.int 0)) (List.mem_of_getElem? (i := 41) rfl))
  | k + 16, h => exact absurd h (by omega)
theorem st_MOST {args : Array Value} {s : State} (hs : ∀ c ∈ flatC (Jvm.Cond.and given_1 narrow_1), c.before args s = true) : ∃ t : Nat, (Term.static "PitchMarks$Bounds" "MOST" "[I").eval args s none [] s = some (.ref t) ∧ va_X t 16 u_most s s.heap ∧ t < s.heap.size := by
  refine st_X (by decide) (hs (Cond.arrayOf (Term.static "PitchMarks$Bounds" "MOST" "[I") .int) (List.mem_of_getElem? (i := 43) rfl)) (va_eqt (hs (Cond.eq (Term.length (Term.static "PitchMarks$Bounds" "MOST" "[I")) (.int 16)) (List.mem_of_getElem? (i := 44) rfl))) (fun j hj => ?_)
  match j, hj with
  | 0, _ => exact va_eqt (hs (Cond.eq (Term.elem (Term.static "PitchMarks$Bounds" "MOST" "[I") (.int 0)) (.int 0)) (List.mem_of_getElem? (i := 45) rfl))
  | 1, _ => exact va_eqt (hs (Cond.eq (Term.elem (Term.static "PitchMarks$Bounds" "MOST" "[I") (.int 1)) (.int 0)) (List.mem_of_getElem? (i := 46) rfl))
  | 2, _ => exact va_eqt (hs (Cond.eq (Term.elem (Term.static "PitchMarks$Bounds" "MOST" "[I") (.int 2)) (.int 40)) (List.mem_of_getElem? (i := 47) rfl))
  | 3, _ => exact va_eqt (hs (Cond.eq (Term.elem (Term.static "PitchMarks$Bounds" "MOST" "[I") (.int 3)) (.int 60)) (List.mem_of_getElem? (i := 48) rfl))
  | 4, _ => exact va_eqt (hs (Cond.eq (Term.elem (Term.static "PitchMarks$Bounds" "MOST" "[I") (.int 4)) (.int 47)) (List.mem_of_getElem? (i := 49) rfl))
  | 5, _ => exact va_eqt (hs (Cond.eq (Term.elem (Term.static "PitchMarks$Bounds" "MOST" "[I") (.int 5)) (.int 48)) (List.mem_of_getElem? (i := 50) rfl))
  | 6, _ => exact va_eqt (hs (Cond.eq (Term.elem (Term.static "PitchMarks$Bounds" "MOST" "[I") (.int 6)) (.int 2000)) (List.mem_of_getElem? (i := 51) rfl))
  | 7, _ => exact va_eqt (hs (Cond.eq (Term.elem (Term.static "PitchMarks$Bounds" "MOST" "[I") (.int 7)) (.int 5)) (List.mem_of_getElem? (i := 52) rfl))
  | 8, _ => exact va_eqt (hs (Cond.eq (Term.elem (Term.static "PitchMarks$Bounds" "MOST" "[I") (.int 8)) (.int 20)) (List.mem_of_getElem? (i := 53) rfl))
  | 9, _ => exact va_eqt (hs (Cond.eq (Term.elem (Term.static "PitchMarks$Bounds" "MOST" "[I") (.int 9)) (.int 2000)) (List.mem_of_getElem? (i := 54) rfl))
  | 10, _ => exact va_eqt (hs (Cond.eq (Term.elem (Term.static "PitchMarks$Bounds" "MOST" "[I") (.int 10)) (.int 50)) (List.mem_of_getElem? (i := 55) rfl))
  | 11, _ => exact va_eqt (hs (Cond.eq (Term.elem (Term.static "PitchMarks$Bounds" "MOST" "[I") (.int 11)) (.int 2000)) (List.mem_of_getElem? (i := 56) rfl))
  | 12, _ => exact va_eqt (hs (Cond.eq (Term.elem (Term.static "PitchMarks$Bounds" "MOST" "[I") (.int 12)) (.int 2000)) (List.mem_of_getElem? (i := 57) rfl))
  | 13, _ => exact va_eqt (hs (Cond.eq (Term.elem (Term.static "PitchMarks$Bounds" "MOST" "[I") (.int 13)) (.int 20)) (List.mem_of_getElem? (i := 58) rfl))
  | 14, _ => exact va_eqt (hs (Cond.eq (Term.elem (Term.static "PitchMarks$Bounds" "MOST" "[I") (.int 14)) (.int 2000)) (List.mem_of_getElem? (i := 59) rfl))
  | 15, _ => exact va_eqt (hs (Cond.eq (Term.elem (Term.static "PitchMarks$Bounds" "MOST" "[I") (.int 15)) (.int 500)) (List.mem_of_getElem? (i := 60) rfl))
  | k + 16, h => exact absurd h (by omega)
theorem st_ns {args : Array Value} {s : State} (hts : ∀ w ∈ lw_tbl, w.before args s = true) : ∀ q ∈ u_ns, va_Nw (.methodLinkNest q.1 q.2.1 q.2.2 "PitchMarks") s := by
  intro q hq
  simp only [u_ns, List.mem_cons, List.not_mem_nil, or_false] at hq
  rcases hq with rfl | rfl | rfl | rfl | rfl | rfl | rfl
  · exact va_Nw.of rfl (hts _ (mt_3 (List.mem_of_getElem? (i := 34) rfl)))
  · exact va_Nw.of rfl (hts _ (mt_3 (List.mem_of_getElem? (i := 77) rfl)))
  · exact va_Nw.of rfl (hts _ (mt_3 (List.mem_of_getElem? (i := 128) rfl)))
  · exact va_Nw.of rfl (hts _ (mt_3 (List.mem_of_getElem? (i := 187) rfl)))
  · exact va_Nw.of rfl (hts _ (mt_4 (List.mem_of_getElem? (i := 69) rfl)))
  · exact va_Nw.of rfl (hts _ (mt_5 (List.mem_of_getElem? (i := 162) rfl)))
  · exact va_Nw.of rfl (hts _ (mt_6 (List.mem_of_getElem? (i := 178) rfl)))
theorem st_nc {args : Array Value} {s : State} (hts : ∀ w ∈ lw_tbl, w.before args s = true) : ∀ q ∈ u_nc, va_Nw (.methodLinkNest q.1 q.2.1 q.2.2 "PitchMarks") s := by
  intro q hq
  simp only [u_nc, List.mem_cons, List.not_mem_nil, or_false] at hq
  rcases hq with rfl | rfl | rfl
  · exact va_Nw.of rfl (hts _ (mt_1 (List.mem_of_getElem? (i := 30) rfl)))
  · exact va_Nw.of rfl (hts _ (mt_1 (List.mem_of_getElem? (i := 122) rfl)))
  · exact va_Nw.of rfl (hts _ (mt_1 (List.mem_of_getElem? (i := 183) rfl)))
theorem st_cs {args : Array Value} {s : State} (hts : ∀ w ∈ lw_tbl, w.before args s = true) : ∀ q ∈ u_cs, va_Nw (.castable q q) s := by
  intro q hq
  simp only [u_cs, List.mem_cons, List.not_mem_nil, or_false] at hq
  rcases hq with rfl | rfl
  · exact va_Nw.of rfl (hts _ (mt_4 (List.mem_of_getElem? (i := 129) rfl)))
  · exact va_Nw.of rfl (hts _ (mt_5 (List.mem_of_getElem? (i := 100) rfl)))
theorem st_ds {args : Array Value} {s : State} (hts : ∀ w ∈ lw_tbl, w.before args s = true) : ∀ q ∈ u_ds, va_Nw (.declares (Bundle.initS q)) s := by
  intro q hq
  simp only [u_ds, List.mem_cons, List.not_mem_nil, or_false] at hq
  rcases hq with rfl | rfl | rfl
  · exact va_Nw.of rfl (hts _ (mt_4 (List.mem_of_getElem? (i := 131) rfl)))
  · exact va_Nw.of rfl (hts _ (mt_4 (List.mem_of_getElem? (i := 133) rfl)))
  · exact va_Nw.of rfl (hts _ (mt_4 (List.mem_of_getElem? (i := 135) rfl)))
theorem st_str {args : Array Value} {s : State} {k : Nat} {tx : String} (h : (Cond.exactly (Term.string "PitchMarks" k) "java/lang/String").before args s = true) (h1 : (Cond.stringRef "PitchMarks" k tx).before args s = true) : ∃ sa, vk_R "PitchMarks" k tx sa s := by
  obtain ⟨a, ha⟩ : ∃ a : Nat, (Term.string "PitchMarks" k).eval args s none [] s = some (.ref a) := by
    obtain ⟨a, _, _, _, hq, _⟩ := Cond.exactly_spec h
    exact ⟨a, hq⟩
  exact ⟨a, vk_R.of h1 ha⟩
theorem st_Z {args : Array Value} {s : State} {E : uE} (hts : ∀ w ∈ lw_tbl, w.before args s = true) (hs : ∀ c ∈ flatC (Jvm.Cond.and given_1 narrow_1), c.before args s = true) (hA : ∀ a : Nat, a < s.heap.size → ¬ u_A E s.heap.size a) (h1 : (Term.static "PitchMarks$Bounds" "LEAST" "[I").eval args s none [] s = some (.ref E.2.2.2.1)) (x1 : va_X E.2.2.2.1 16 u_least s s.heap) (l1 : E.2.2.2.1 < s.heap.size) (h2 : (Term.static "PitchMarks$Bounds" "MOST" "[I").eval args s none [] s = some (.ref E.2.2.2.2)) (x2 : va_X E.2.2.2.2 16 u_most s s.heap) (l2 : E.2.2.2.2 < s.heap.size) : u_Z E s.heap.size s s.heap := by
  refine ⟨va_Zof (hts _ (mt_3 (List.mem_of_getElem? (i := 4) rfl))) (hts _ (mt_1 (List.mem_of_getElem? (i := 3) rfl))) h1 hA, x1, hA _ l1, l1, va_Zof (hts _ (mt_3 (List.mem_of_getElem? (i := 6) rfl))) (hts _ (mt_1 (List.mem_of_getElem? (i := 3) rfl))) h2 hA, x2, hA _ l2, l2, ?_, ?_, ?_, ?_, st_ns hts, st_cs hts, st_ds hts, ?_, ?_⟩
  · exact vx_Zqof (hts _ (mt_4 (List.mem_of_getElem? (i := 154) rfl))) (hts _ (mt_1 (List.mem_of_getElem? (i := 15) rfl))) (hs _ (List.mem_of_getElem? (i := 61) rfl)) hA
  · exact vx_Zqof (hts _ (mt_4 (List.mem_of_getElem? (i := 156) rfl))) (hts _ (mt_1 (List.mem_of_getElem? (i := 15) rfl))) (hs _ (List.mem_of_getElem? (i := 62) rfl)) hA
  · exact st_str (hs _ (List.mem_of_getElem? (i := 91) rfl)) (hts _ (mt_4 (List.mem_of_getElem? (i := 167) rfl)))
  · exact st_str (hs _ (List.mem_of_getElem? (i := 113) rfl)) (hts _ (mt_5 (List.mem_of_getElem? (i := 107) rfl)))
  · exact va_Nc.of (hs _ (List.mem_of_getElem? (i := 76) rfl))
  · exact va_Nc.of (hs _ (List.mem_of_getElem? (i := 90) rfl))
theorem st_arr {args : Array Value} {s : State} {ty : FieldType} (h : (Cond.arrayClass ty).before args s = true) (hr : ∀ c9, s.vm.findClass ("[" ++ ty.toString) = some c9 → va_RA s c9 ty) : ∃ cA, ArrOfT s cA ty ∧ va_RA s cA ty := by
  obtain ⟨cA, kA, comp, h1, h2, h3⟩ := Cond.arrayClass_spec h
  exact ⟨cA, fun n z => ⟨fun k h => (by cases h), kA, h2, comp, h3⟩, hr _ h1⟩
theorem st_known {args : Array Value} {s : State} (hts : ∀ w ∈ TG, w.before args s = true) : ∃ D : va_G, ∀ (k : Nat) (q : vw_C), vwCl[k]? = some q → u_Kn s q.1 q.2.1 q.2.2 (D.1 k) (D.2 k) := by
  obtain ⟨c0, i0, h0⟩ := u_known (C := RX0) (T := TX0) (N := 1) (n := 1) hts in_X0 (hts _ (tg_1 (List.mem_of_getElem? (i := 49) rfl) rfl))
  obtain ⟨c1, i1, h1⟩ := u_known (C := RX1) (T := TX1) (N := 7) (n := 7) hts in_X1 (hts _ (tg_1 (List.mem_of_getElem? (i := 87) rfl) rfl))
  obtain ⟨c2, i2, h2⟩ := u_known (C := RX2) (T := TX2) (N := 6) (n := 6) hts in_X2 (hts _ (tg_1 (List.mem_of_getElem? (i := 61) rfl) rfl))
  obtain ⟨c3, i3, h3⟩ := u_known (C := RX3) (T := TX3) (N := 10) (n := 10) hts in_X3 (hts _ (tg_2 (List.mem_of_getElem? (i := 35) rfl) rfl))
  obtain ⟨c4, i4, h4⟩ := u_known (C := RX4) (T := TX4) (N := 10) (n := 10) hts in_X4 (hts _ (tg_1 (List.mem_of_getElem? (i := 238) rfl) rfl))
  obtain ⟨c5, i5, h5⟩ := u_known (C := RX5) (T := TX5) (N := 13) (n := 13) hts in_X5 (hts _ (tg_1 (List.mem_of_getElem? (i := 115) rfl) rfl))
  obtain ⟨c6, i6, h6⟩ := u_known (C := RX6) (T := TX6) (N := 8) (n := 8) hts in_X6 (hts _ (tg_1 (List.mem_of_getElem? (i := 177) rfl) rfl))
  obtain ⟨c7, i7, h7⟩ := u_known (C := RX7) (T := TX7) (N := 4) (n := 4) hts in_X7 (hts _ (tg_1 (List.mem_of_getElem? (i := 29) rfl) rfl))
  obtain ⟨c8, i8, h8⟩ := u_known (C := RX8) (T := TX8) (N := 7) (n := 7) hts in_X8 (hts _ (tg_1 (List.mem_of_getElem? (i := 210) rfl) rfl))
  obtain ⟨c9, i9, h9⟩ := u_known (C := RX9) (T := TX9) (N := 3) (n := 3) hts in_X9 (hts _ (tg_1 (List.mem_of_getElem? (i := 121) rfl) rfl))
  obtain ⟨c10, i10, h10⟩ := u_known (C := RX10) (T := TX10) (N := 6) (n := 6) hts in_X10 (hts _ (tg_2 (List.mem_of_getElem? (i := 72) rfl) rfl))
  obtain ⟨c11, i11, h11⟩ := u_known (C := RX11) (T := TX11) (N := 13) (n := 13) hts in_X11 (hts _ (tg_1 (List.mem_of_getElem? (i := 21) rfl) rfl))
  obtain ⟨c12, i12, h12⟩ := u_known (C := RX12) (T := TX12) (N := 50) (n := 50) hts in_X12 (hts _ (tg_6 (List.mem_of_getElem? (i := 180) rfl) rfl))
  refine ⟨(fun k => ([c0, c1, c2, c3, c4, c5, c6, c7, c8, c9, c10, c11, c12] : List ClassId).getD k c0, fun k => ([i0, i1, i2, i3, i4, i5, i6, i7, i8, i9, i10, i11, i12] : List (Nat → Nat)).getD k i0), ?_⟩
  intro k q hq
  match k, hq with
  | 0, hq => cases hq; exact h0
  | 1, hq => cases hq; exact h1
  | 2, hq => cases hq; exact h2
  | 3, hq => cases hq; exact h3
  | 4, hq => cases hq; exact h4
  | 5, hq => cases hq; exact h5
  | 6, hq => cases hq; exact h6
  | 7, hq => cases hq; exact h7
  | 8, hq => cases hq; exact h8
  | 9, hq => cases hq; exact h9
  | 10, hq => cases hq; exact h10
  | 11, hq => cases hq; exact h11
  | 12, hq => cases hq; exact h12
  | k + 13, hq => simp [vwCl] at hq
def s_ad (u v : Nat → Nat) (q : Nat) (k : Nat) : Nat := if k < 55 then u k else if k < 92 then v (k - 55) else q
def s_ws (t : uT) (u v : Nat → Nat) (q : Nat) : va_W := (w1_X11 t u ++ w1_X12 t v) ++ [(q, .inl (t.2.2, 1, .inr (.inl (fun _ => 0))))]
set_option maxRecDepth 100000 in
set_option maxHeartbeats 8000000 in
theorem s_get {E : uE} {u v : Nat → Nat} {q : Nat} (hE : E.2.1 = s_ad u v q) (k : Nat) (hk : k < u_N) : (s_ws E.2.2.1 u v q)[k]? = some (E.2.1 k, u_ce E 0 k (s0 k)) := by
  obtain ⟨D, ad, t, st⟩ := E
  have hE : ad = s_ad u v q := hE
  subst hE
  match k, hk with
  | 0, _ => rfl
  | 1, _ => rfl
  | 2, _ => rfl
  | 3, _ => rfl
  | 4, _ => rfl
  | 5, _ => rfl
  | 6, _ => rfl
  | 7, _ => rfl
  | 8, _ => rfl
  | 9, _ => rfl
  | 10, _ => rfl
  | 11, _ => rfl
  | 12, _ => rfl
  | 13, _ => rfl
  | 14, _ => rfl
  | 15, _ => rfl
  | 16, _ => rfl
  | 17, _ => rfl
  | 18, _ => rfl
  | 19, _ => rfl
  | 20, _ => rfl
  | 21, _ => rfl
  | 22, _ => rfl
  | 23, _ => rfl
  | 24, _ => rfl
  | 25, _ => rfl
  | 26, _ => rfl
  | 27, _ => rfl
  | 28, _ => rfl
  | 29, _ => rfl
  | 30, _ => rfl
  | 31, _ => rfl
  | 32, _ => rfl
  | 33, _ => rfl
  | 34, _ => rfl
  | 35, _ => rfl
  | 36, _ => rfl
  | 37, _ => rfl
  | 38, _ => rfl
  | 39, _ => rfl
  | 40, _ => rfl
  | 41, _ => rfl
  | 42, _ => rfl
  | 43, _ => rfl
  | 44, _ => rfl
  | 45, _ => rfl
  | 46, _ => rfl
  | 47, _ => rfl
  | 48, _ => rfl
  | 49, _ => rfl
  | 50, _ => rfl
  | 51, _ => rfl
  | 52, _ => rfl
  | 53, _ => rfl
  | 54, _ => rfl
  | 55, _ => rfl
  | 56, _ => rfl
  | 57, _ => rfl
  | 58, _ => rfl
  | 59, _ => rfl
  | 60, _ => rfl
  | 61, _ => rfl
  | 62, _ => rfl
  | 63, _ => rfl
  | 64, _ => rfl
  | 65, _ => rfl
  | 66, _ => rfl
  | 67, _ => rfl
  | 68, _ => rfl
  | 69, _ => rfl
  | 70, _ => rfl
  | 71, _ => rfl
  | 72, _ => rfl
  | 73, _ => rfl
  | 74, _ => rfl
  | 75, _ => rfl
  | 76, _ => rfl
  | 77, _ => rfl
  | 78, _ => rfl
  | 79, _ => rfl
  | 80, _ => rfl
  | 81, _ => rfl
  | 82, _ => rfl
  | 83, _ => rfl
  | 84, _ => rfl
  | 85, _ => rfl
  | 86, _ => rfl
  | 87, _ => rfl
  | 88, _ => rfl
  | 89, _ => rfl
  | 90, _ => rfl
  | 91, _ => rfl
  | 92, _ => rfl
  | k + 93, h => exact absurd h (by unfold u_N; omega)
