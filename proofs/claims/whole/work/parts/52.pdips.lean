/-! which dips stay: those of least rel, of like ones the lesser lag -/
def prc (R : Nat → Int) (a b : Nat) : Prop := R a < R b ∨ (R a = R b ∧ a < b)
theorem prc.as {R : Nat → Int} {a b : Nat} (h : prc R a b) : ¬ prc R b a := by
  unfold prc at *
  omega
theorem prc.tr {R : Nat → Int} {a b c : Nat} (h : prc R a b) (h2 : prc R b c) : prc R a c := by
  unfold prc at *
  omega
def ahp (D : Nat → Bool) (R : Nat → Int) (L o : Nat) : Bool := D o && (decide (R o < R L) || (decide (R o = R L) && decide (o < L)))
theorem ahp_iff {D : Nat → Bool} {R : Nat → Int} {L o : Nat} : ahp D R L o = true ↔ D o = true ∧ prc R o L := by
  unfold ahp prc
  simp
/-- how many dips are ahead of one -/
def ahd (D : Nat → Bool) (R : Nat → Int) (l : List Nat) (L : Nat) : Nat := l.countP (ahp D R L)
theorem cnt_lt {p q : Nat → Bool} {o : Nat} : ∀ (l : List Nat), (∀ x ∈ l, p x = true → q x = true) → o ∈ l → q o = true → p o = false → l.countP p < l.countP q
  | [], _, h, _, _ => by cases h
  | x :: l, hs, h, h1, h2 => by
    have hle : l.countP p ≤ l.countP q := List.countP_mono_left (fun z hz => hs z (List.mem_cons_of_mem _ hz))
    rw [List.countP_cons, List.countP_cons]
    by_cases hx : o = x
    · subst hx
      simp only [h1, h2]
      simp
      omega
    · have ho : o ∈ l := by
        rcases List.mem_cons.mp h with h | h
        · exact absurd h hx
        · exact h
      have := cnt_lt l (fun z hz => hs z (List.mem_cons_of_mem _ hz)) ho h1 h2
      have hxx := hs x List.mem_cons_self
      cases hp : p x
      · simp
        omega
      · rw [hxx hp]
        simp
        omega
def topOk (D : Nat → Bool) (R : Nat → Int) (best : Nat) (l : List Nat) (k : Nat → Bool) : Prop :=
  (∀ o ∈ l, k o = true → D o = true) ∧ (l.filter k).length ≤ best ∧ ∀ o ∈ l, D o = true → k o = false → (l.filter k).length = best ∧ ∀ z ∈ l, k z = true → prc R z o
/-- the kept ones are those that have fewer than so many ahead -/
theorem topOk.end {D : Nat → Bool} {R : Nat → Int} {best : Nat} {l : List Nat} {k : Nat → Bool} (h : topOk D R best l k) : l.filter k = l.filter (fun L => D L && decide (ahd D R l L < best)) := by
  apply List.filter_congr
  intro o ho
  obtain ⟨h1, h2, h3⟩ := h
  have hlen : l.countP k = (l.filter k).length := List.countP_eq_length_filter
  cases hk : k o
  · cases hd : D o
    · simp
    · obtain ⟨h4, h5⟩ := h3 o ho hd hk
      have : l.countP k ≤ ahd D R l o := List.countP_mono_left (fun z hz hkz => ahp_iff.mpr ⟨h1 z hz hkz, h5 z hz hkz⟩)
      simp only [Bool.true_and]
      symm
      apply decide_eq_false
      omega
  · have hd := h1 o ho hk
    rw [hd]
    simp only [Bool.true_and]
    symm
    apply decide_eq_true
    have : ahd D R l o < l.countP k := by
      refine cnt_lt l (fun z hz hp => ?_) ho hk ?_
      · obtain ⟨p1, p2⟩ := ahp_iff.mp hp
        cases hz2 : k z
        · exact absurd ((h3 z hz p1 hz2).2 o ho hk) p2.as
        · rfl
      · cases hp : ahp D R o o
        · rfl
        · have := (ahp_iff.mp hp).2
          exact absurd this this.as
    omega
theorem topOk.nil (D : Nat → Bool) (R : Nat → Int) (best : Nat) (k : Nat → Bool) : topOk D R best [] k := ⟨(fun o ho => by cases ho), (by simp), (fun o ho => by cases ho)⟩
/-- one more lag, no dip -/
theorem topOk.skip {D : Nat → Bool} {R : Nat → Int} {best L : Nat} {l : List Nat} {k : Nat → Bool} (h : topOk D R best l k) (hd : D L = false) (hk : k L = false) : topOk D R best (l ++ [L]) k ∧ (l ++ [L]).filter k = l.filter k := by
  have e : (l ++ [L]).filter k = l.filter k := by simp [List.filter_append, hk]
  refine ⟨⟨fun o ho ko => ?_, by rw [e]; exact h.2.1, fun o ho hdo ko => ?_⟩, e⟩
  · rcases List.mem_append.mp ho with ho | ho
    · exact h.1 o ho ko
    · rw [List.mem_singleton.mp ho] at ko
      rw [hk] at ko
      cases ko
  · rw [e]
    rcases List.mem_append.mp ho with ho | ho
    · refine ⟨(h.2.2 o ho hdo ko).1, fun z hz kz => ?_⟩
      rcases List.mem_append.mp hz with hz | hz
      · exact (h.2.2 o ho hdo ko).2 z hz kz
      · rw [List.mem_singleton.mp hz, hk] at kz
        cases kz
    · rw [List.mem_singleton.mp ho, hd] at hdo
      cases hdo
/-- one more dip, and room for it -/
theorem topOk.add {D : Nat → Bool} {R : Nat → Int} {best L : Nat} {l : List Nat} {k : Nat → Bool} (h : topOk D R best l k) (hd : D L = true) (hl : ∀ o ∈ l, o ≠ L) (hr : (l.filter k).length < best) : topOk D R best (l ++ [L]) (fun o => if o = L then true else k o) ∧ (l ++ [L]).filter (fun o => if o = L then true else k o) = l.filter k ++ [L] := by
  have e : (l ++ [L]).filter (fun o => if o = L then true else k o) = l.filter k ++ [L] := by
    rw [List.filter_append]
    congr 1
    · exact List.filter_congr (fun o ho => by rw [if_neg (hl o ho)])
    · simp
  refine ⟨⟨fun o ho ko => ?_, by rw [e]; simp; omega, fun o ho hdo ko => ?_⟩, e⟩
  · dsimp only at ko
    by_cases ho2 : o = L
    · rw [ho2]; exact hd
    · rw [if_neg ho2] at ko
      rcases List.mem_append.mp ho with ho | ho
      · exact h.1 o ho ko
      · exact absurd (List.mem_singleton.mp ho) ho2
  · dsimp only at ko
    by_cases ho2 : o = L
    · rw [if_pos ho2] at ko
      cases ko
    · rw [if_neg ho2] at ko
      rcases List.mem_append.mp ho with ho | ho
      · have := (h.2.2 o ho hdo ko).1
        omega
      · exact absurd (List.mem_singleton.mp ho) ho2
/-- one more dip, and the worst goes -/
theorem topOk.drop {D : Nat → Bool} {R : Nat → Int} {best L w : Nat} {l : List Nat} {k : Nat → Bool} (h : topOk D R best l k) (hd : D L = true) (hl : ∀ o ∈ l, o ≠ L) (hr : (l.filter k).length = best) (hw : w ∈ l.filter k ++ [L]) (hm : ∀ z ∈ l.filter k ++ [L], z ≠ w → prc R z w) (hn : (l ++ [L]).Nodup) : topOk D R best (l ++ [L]) (fun o => (if o = L then true else k o) && o != w) ∧ (l ++ [L]).filter (fun o => (if o = L then true else k o) && o != w) = (l.filter k ++ [L]).erase w := by
  have e0 : (l ++ [L]).filter (fun o => if o = L then true else k o) = l.filter k ++ [L] := by
    rw [List.filter_append]
    congr 1
    · exact List.filter_congr (fun o ho => by rw [if_neg (hl o ho)])
    · simp
  have hn2 : (l.filter k ++ [L]).Nodup := by
    rw [← e0]
    exact hn.sublist List.filter_sublist
  have e : (l ++ [L]).filter (fun o => (if o = L then true else k o) && o != w) = (l.filter k ++ [L]).erase w := by
    rw [hn2.erase_eq_filter, ← e0, List.filter_filter]
    exact List.filter_congr (fun o _ => by rw [Bool.and_comm])
  have hlen : ((l.filter k ++ [L]).erase w).length = best := by
    rw [List.length_erase_of_mem hw]
    simp
    omega
  have hin : ∀ z ∈ l ++ [L], (if z = L then true else k z) = true → z ∈ l.filter k ++ [L] := fun z hz hk => by
    rw [← e0]
    exact List.mem_filter.mpr ⟨hz, hk⟩
  refine ⟨⟨fun o ho ko => ?_, by rw [e, hlen]; exact Nat.le_refl _, fun o ho hdo ko => ⟨by rw [e, hlen], fun z hz kz => ?_⟩⟩, e⟩
  · have ko := (Bool.and_eq_true_iff.mp ko).1
    by_cases ho2 : o = L
    · rw [ho2]; exact hd
    · rw [if_neg ho2] at ko
      rcases List.mem_append.mp ho with ho | ho
      · exact h.1 o ho ko
      · exact absurd (List.mem_singleton.mp ho) ho2
  · dsimp only at ko
    obtain ⟨kz1, kz2⟩ := Bool.and_eq_true_iff.mp kz
    have kz2 : z ≠ w := by simpa using kz2
    have hzw : prc R z w := hm z (hin z hz kz1) kz2
    by_cases how : o = w
    · rw [how]; exact hzw
    · -- o wasn't kept: all kept ones were ahead of it
      have ko2 : (if o = L then true else k o) = false := by
        cases hh : (if o = L then true else k o)
        · rfl
        · rw [hh] at ko
          simp at ko
          exact absurd ko how
      have hoL : o ≠ L := fun q => by rw [if_pos q] at ko2; cases ko2
      rw [if_neg hoL] at ko2
      have hol : o ∈ l := by
        rcases List.mem_append.mp ho with ho | ho
        · exact ho
        · exact absurd (List.mem_singleton.mp ho) hoL
      have hk3 := (h.2.2 o hol hdo ko2).2
      rcases List.mem_append.mp (hin z hz kz1) with hz3 | hz3
      · exact hk3 z (List.mem_filter.mp hz3).1 (List.mem_filter.mp hz3).2
      · have hzL := List.mem_singleton.mp hz3
        rcases List.mem_append.mp hw with hw3 | hw3
        · exact hzw.tr (hk3 w (List.mem_filter.mp hw3).1 (List.mem_filter.mp hw3).2)
        · exact absurd (hzL.trans (List.mem_singleton.mp hw3).symm) kz2
