/-! the reference: the first way at all, and the tops -/
theorem m_ranks0 {g : uZ} {f i : Nat} {c a b : Int} (hf : f < 100) (hi : i < 6) (h74 : g 74 (6 * f + i) = 0) : ∃ g', GF_X12_ranks (f : Int) (i : Int) c a b g = some g' ∧ g' 74 (6 * f + i) = 1 ∧ g' 71 (8 * (6 * f + i)) = c ∧ (∀ u, u ≠ 6 * f + i → g' 74 u = g 74 u) ∧ ∀ u, u < 8 * (6 * f + i) ∨ 8 * (6 * f + i) + 8 ≤ u → g' 71 u = g 71 u ∧ g' 72 u = g 72 u ∧ g' 73 u = g 73 u := by
  unfold GF_X12_ranks
  rw [lt_ok, rdZ_at (6 * f + i) (by omega) (by omega), h74]
  rw [lp_for (fun _ => (0 : Int)) 0 (0 : Int) (by rfl) (by omega) (fun i hi => by omega) (by
    unfold GB_X12_ranks_2
    rw [ck_ok (by decide), if_pos (by decide)])]
  unfold GC_X12_ranks_7 GJ_X12_ranks_6
  rw [ck_ok (by decide), if_neg (by decide), rdZ_at (6 * f + i) (by omega) (by omega), h74, ck_ok (by decide), if_neg (by decide), rdZ_at (6 * f + i) (by omega) (by omega), h74]
  rw [lp_for (fun _ => ((0 : Int), g)) 0 g (by rfl) (by omega) (fun i hi => by omega) (by
    dsimp only
    unfold GB_X12_ranks_4
    rw [ck_ok (by decide), ck_ok (by decide), if_pos (by decide)])]
  unfold GC_X12_ranks_5 GF_X12_rankAt
  rw [cp_ok, wrZ_at (8 * (6 * f + i)) (by omega) (by omega), cp_ok, wrZ_at (8 * (6 * f + i)) (by omega) (by omega), cp_ok, wrZ_at (8 * (6 * f + i)) (by omega) (by omega), wrZ_at (6 * f + i) (by omega) (by omega)]
  refine ⟨_, rfl, upZ_ss _ _ _ _, ?_, fun u hu => ?_, fun u hu => ⟨?_, ?_, ?_⟩⟩
  · rw [upZ_n (by decide), upZ_n (by decide), upZ_n (by decide), upZ_ss]
  · rw [upZ_sn hu, upZ_n (by decide), upZ_n (by decide), upZ_n (by decide)]
  · rw [upZ_n (by decide), upZ_n (by decide), upZ_n (by decide), upZ_sn (by omega)]
  · rw [upZ_n (by decide), upZ_n (by decide), upZ_sn (by omega), upZ_n (by decide)]
  · rw [upZ_n (by decide), upZ_sn (by omega), upZ_n (by decide), upZ_n (by decide)]
def TT8 (g : uZ) (L : Nat) (S : Nat → Nat → Prop) (C : Nat → Nat → Int) (P : Nat → Nat × Nat) : Prop := g 55 31 = (L : Int) ∧ TopL S C L P ∧ ∀ t, t < L → g 75 t = C (P t).1 (P t).2 ∧ g 76 t = ((P t).1 : Int) ∧ g 77 t = ((P t).2 : Int)
theorem m_tops {g : uZ} {L a b : Nat} {S : Nat → Nat → Prop} {C : Nat → Nat → Int} {P : Nat → Nat × Nat} (h : TT8 g L S C P) (hlex : ∀ n k, S n k → n < a ∨ (n = a ∧ k < b)) (hb : ∀ n k, S n k → 0 ≤ C n k ∧ C n k ≤ 10000000) (hc : 0 ≤ C a b ∧ C a b ≤ 10000000) : ∃ g' L' P', GF_X12_tops (C a b) (a : Int) (b : Int) g = some g' ∧ TT8 g' L' (fun n k => S n k ∨ (n = a ∧ k = b)) C P' := by
  obtain ⟨h74, hT, hcell⟩ := h
  have hL := hT.1
  unfold GF_X12_tops
  rw [lt_ok, h74]
  obtain ⟨r, ⟨w, rfl, hw, hhi, hlo⟩, e⟩ := lp_while (f := fun z => GB_X12_tops_2 (C a b) g z) (a := (L : Int)) (k := fun z => GC_X12_tops_6 (C a b) (a : Int) (b : Int) g z) (fun q => ∃ w : Nat, q = (w : Int) ∧ w ≤ L ∧ ∀ t, w ≤ t → t < L → C a b < C (P t).1 (P t).2) (fun q => ∃ w : Nat, q = (w : Int) ∧ w ≤ L ∧ (∀ t, w ≤ t → t < L → C a b < C (P t).1 (P t).2) ∧ (w = 0 ∨ C (P (w - 1)).1 (P (w - 1)).2 ≤ C a b)) (fun q => q.toNat) ⟨L, rfl, Nat.le_refl _, fun t h1 h2 => by omega⟩ (by omega) (by
    rintro q ⟨w, rfl, hw, hhi⟩
    unfold GB_X12_tops_2
    rw [ck_ok (by omega)]
    by_cases w0 : w = 0
    · right
      rw [if_pos (by omega)]
      exact ⟨_, rfl, w, rfl, hw, hhi, Or.inl w0⟩
    · have q1 := (hcell (w - 1) (by omega)).1
      have q2 := hb _ _ (hT.2.1 (w - 1) (by omega))
      rw [if_neg (by omega), rdZ_at (w - 1) (by omega) (by omega), q1, ck_ok (by omega), ck_ok (by omega)]
      by_cases c : C (P (w - 1)).1 (P (w - 1)).2 ≤ C a b
      · right
        rw [if_pos c]
        exact ⟨_, rfl, w, rfl, hw, hhi, Or.inr c⟩
      · left
        rw [if_neg c, lt_ok]
        refine ⟨_, rfl, ⟨w - 1, by omega, by omega, fun t h1 h2 => ?_⟩, by omega⟩
        by_cases q : t = w - 1
        · subst q
          omega
        · exact hhi t (by omega) h2)
  rw [e]
  have hlo' : ∀ t, t < w → C (P t).1 (P t).2 ≤ C a b := fun t ht => by
    rcases hlo with q | q
    · omega
    · by_cases q2 : t = w - 1
      · rw [q2]; exact q
      · have := hT.lt (t := t) (u := w - 1) (by omega) (by omega)
        unfold pl at this
        omega
  unfold GC_X12_tops_6
  rw [ck_ok (by omega)]
  by_cases w8 : w = 8
  · rw [if_pos (by omega)]
    have L8 : L = 8 := by omega
    exact ⟨g, L, P, rfl, h74, hT.skip L8 hlex (hlo' 7 (by omega)), hcell⟩
  · obtain ⟨V, hV⟩ : ∃ V : Nat, V + 1 = (if L = 8 then 8 else L + 1) := by
      by_cases q : L = 8
      · exact ⟨7, by rw [if_pos q]⟩
      · exact ⟨L, by rw [if_neg q]⟩
    have hV8 : w ≤ V ∧ V ≤ 7 ∧ V ≤ L := by
      by_cases q : L = 8
      · rw [if_pos q] at hV; omega
      · rw [if_neg q] at hV; omega
    have ev : (if 8 ≤ (L : Int) then (8 : Int) else (L : Int) + 1) = ((V + 1 : Nat) : Int) := by
      by_cases q : L = 8
      · rw [if_pos q] at hV
        rw [if_pos (by omega)]; omega
      · rw [if_neg q] at hV
        rw [if_neg (by omega)]; omega
    rw [if_neg (by omega), h74, ck_ok (by omega), lt_ok, ev, pfZ_ok, lt_ok]
    generalize hg0 : upZ g 55 31 ((V + 1 : Nat) : Int) = g0
    have c31 : g0 55 31 = ((V + 1 : Nat) : Int) := by rw [← hg0, upZ_ss]
    have c75 : g0 75 = g 75 := by rw [← hg0, upZ_n (by decide)]
    have c76 : g0 76 = g 76 := by rw [← hg0, upZ_n (by decide)]
    have c77 : g0 77 = g 77 := by rw [← hg0, upZ_n (by decide)]
    rw [c31, show ((V + 1 : Nat) : Int) - 1 = (V : Int) by omega]
    have hloop : ∃ g', lp (fun z => GB_X12_tops_4 (w : Int) z.1 z.2) ((V : Int), g0) (fun z => GC_X12_tops_5 (C a b) (a : Int) (b : Int) (w : Int) z) = some g' ∧ (g' 55 31 = ((V + 1 : Nat) : Int) ∧ (∀ u, u < w ∨ V < u → g' 75 u = g 75 u ∧ g' 76 u = g 76 u ∧ g' 77 u = g 77 u) ∧ (g' 75 w = C a b ∧ g' 76 w = (a : Int) ∧ g' 77 w = (b : Int)) ∧ ∀ t, w ≤ t → t < V → g' 75 (t + 1) = g 75 t ∧ g' 76 (t + 1) = g 76 t ∧ g' 77 (t + 1) = g 77 t) := by
      refine lp_wh (fun q => ∃ p : Nat, q.1 = (p : Int) ∧ w ≤ p ∧ p ≤ V ∧ q.2 55 31 = ((V + 1 : Nat) : Int) ∧ (∀ u, u ≤ p ∨ V < u → q.2 75 u = g 75 u ∧ q.2 76 u = g 76 u ∧ q.2 77 u = g 77 u) ∧ ∀ t, p ≤ t → t < V → q.2 75 (t + 1) = g 75 t ∧ q.2 76 (t + 1) = g 76 t ∧ q.2 77 (t + 1) = g 77 t) (fun q => q 55 31 = ((V + 1 : Nat) : Int) ∧ (∀ u, u ≤ w ∨ V < u → q 75 u = g 75 u ∧ q 76 u = g 76 u ∧ q 77 u = g 77 u) ∧ ∀ t, w ≤ t → t < V → q 75 (t + 1) = g 75 t ∧ q 76 (t + 1) = g 76 t ∧ q 77 (t + 1) = g 77 t) (fun q => q.1.toNat) ⟨V, rfl, hV8.1, Nat.le_refl _, c31, fun u _ => ⟨by dsimp only; rw [c75], by dsimp only; rw [c76], by dsimp only; rw [c77]⟩, fun t h1 h2 => by omega⟩ (by dsimp only; omega) ?_ ?_
      · rintro ⟨pi, z⟩ ⟨p, e1, p1, p2, hF, hlow, hup⟩
        simp only at e1 hF hlow hup
        subst e1
        dsimp only
        unfold GB_X12_tops_4
        rw [ck_ok (by omega), ck_ok (by omega)]
        by_cases pw : p = w
        · right
          subst pw
          rw [if_pos (by omega)]
          exact ⟨z, rfl, hF, hlow, hup⟩
        · left
          have l1 := hlow (p - 1) (by omega)
          rw [if_neg (by omega), rdZ_at (p - 1) (by omega) (by omega), l1.1, wrZ_at p rfl (by omega)]
          generalize hz1 : upZ z 75 p (g 75 (p - 1)) = z1
          have a76 : z1 76 = z 76 := by rw [← hz1, upZ_n (by decide)]
          have a77 : z1 77 = z 77 := by rw [← hz1, upZ_n (by decide)]
          rw [rdZ_at (p - 1) (by omega) (by omega), a76, l1.2.1, wrZ_at p rfl (by omega)]
          generalize hz2 : upZ z1 76 p (g 76 (p - 1)) = z2
          have b77 : z2 77 = z 77 := by rw [← hz2, upZ_n (by decide), a77]
          rw [rdZ_at (p - 1) (by omega) (by omega), b77, l1.2.2, wrZ_at p rfl (by omega), lt_ok]
          generalize hz3 : upZ z2 77 p (g 77 (p - 1)) = z3
          have c75' : z3 75 = upZ z 75 p (g 75 (p - 1)) 75 := by rw [← hz3, upZ_n (by decide), ← hz2, upZ_n (by decide), ← hz1]
          have c76' : z3 76 = upZ z1 76 p (g 76 (p - 1)) 76 := by rw [← hz3, upZ_n (by decide), ← hz2]
          have d : ∀ u, u ≠ p → z3 75 u = z 75 u ∧ z3 76 u = z 76 u ∧ z3 77 u = z 77 u := fun u hu => by
            refine ⟨by rw [c75', upZ_sn hu], by rw [c76', upZ_sn hu, a76], by rw [← hz3, upZ_sn hu, b77]⟩
          refine ⟨_, rfl, ⟨p - 1, by dsimp only; omega, by omega, by omega, ?_, fun u hu => ?_, fun t h1 h2 => ?_⟩, by dsimp only; omega⟩
          · dsimp only
            rw [← hz3, upZ_n (by decide), ← hz2, upZ_n (by decide), ← hz1, upZ_n (by decide)]
            exact hF
          · dsimp only
            have dd := d u (by omega)
            rw [dd.1, dd.2.1, dd.2.2]
            exact hlow u (by omega)
          · dsimp only
            by_cases q : t = p - 1
            · subst q
              rw [show p - 1 + 1 = p by omega, c75', upZ_ss, c76', upZ_ss, ← hz3, upZ_ss]
              exact ⟨rfl, rfl, rfl⟩
            · have dd := d (t + 1) (by omega)
              rw [dd.1, dd.2.1, dd.2.2]
              exact hup t (by omega) h2
      · rintro z ⟨hF, hlow, hup⟩
        unfold GC_X12_tops_5
        rw [wrZ_at w rfl (by omega), wrZ_at w rfl (by omega), wrZ_at w rfl (by omega)]
        refine ⟨_, rfl, ?_, fun u hu => ?_, ⟨?_, ?_, ?_⟩, fun t h1 h2 => ?_⟩
        · rw [upZ_n (by decide), upZ_n (by decide), upZ_n (by decide)]
          exact hF
        · have l := hlow u (by omega)
          refine ⟨?_, ?_, ?_⟩
          · rw [upZ_n (by decide), upZ_n (by decide), upZ_sn (by omega)]
            exact l.1
          · rw [upZ_n (by decide), upZ_sn (by omega), upZ_n (by decide)]
            exact l.2.1
          · rw [upZ_sn (by omega), upZ_n (by decide), upZ_n (by decide)]
            exact l.2.2
        · rw [upZ_n (by decide), upZ_n (by decide), upZ_ss]
        · rw [upZ_n (by decide), upZ_ss]
        · rw [upZ_ss]
        · have l := hup t h1 h2
          refine ⟨?_, ?_, ?_⟩
          · rw [upZ_n (by decide), upZ_n (by decide), upZ_sn (by omega)]
            exact l.1
          · rw [upZ_n (by decide), upZ_sn (by omega), upZ_n (by decide)]
            exact l.2.1
          · rw [upZ_sn (by omega), upZ_n (by decide), upZ_n (by decide)]
            exact l.2.2
    obtain ⟨g', e', g1, g3, g4, g5⟩ := hloop
    have hT2 := hT.ins (P' := fun t => if t < w then P t else if t = w then (a, b) else P (t - 1)) hlex hw hlo' hhi (by omega) (fun t ht => if_pos ht) (by rw [if_neg (by omega), if_pos rfl]) (fun t h1 h2 => by rw [if_neg (by omega), if_neg (by omega), show t + 1 - 1 = t by omega])
    rw [← hV] at hT2
    refine ⟨g', V + 1, _, e', g1, hT2, fun t ht => ?_⟩
    rcases Nat.lt_trichotomy t w with q | q | q
    · rw [if_pos q]
      have := g3 t (by omega)
      rw [this.1, this.2.1, this.2.2]
      exact hcell t (by omega)
    · subst q
      rw [if_neg (by omega), if_pos rfl]
      exact g4
    · rw [if_neg (by omega), if_neg (by omega)]
      obtain ⟨u, rfl⟩ : ∃ u, t = u + 1 := ⟨t - 1, by omega⟩
      have := g5 u (by omega) (by omega)
      rw [this.1, this.2.1, this.2.2, show u + 1 - 1 = u by omega]
      exact hcell u (by omega)
