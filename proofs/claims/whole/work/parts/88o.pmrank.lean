/-! the reference: one more way comes in -/
def TM8 (g : uZ) (y L : Nat) (S : Nat → Nat → Prop) (C : Nat → Nat → Int) (P : Nat → Nat × Nat) : Prop := g 74 y = (L : Int) ∧ TopL S C L P ∧ ∀ t, t < L → g 71 (8 * y + t) = C (P t).1 (P t).2 ∧ g 72 (8 * y + t) = ((P t).1 : Int) ∧ g 73 (8 * y + t) = ((P t).2 : Int)
theorem m_ranks {g : uZ} {f i L a b : Nat} {S : Nat → Nat → Prop} {C : Nat → Nat → Int} {P : Nat → Nat × Nat} (hf : f < 100) (hi : i < 6) (h : TM8 g (6 * f + i) L S C P) (hlex : ∀ n k, S n k → n < a ∨ (n = a ∧ k < b)) (hb : ∀ n k, S n k → 0 ≤ C n k ∧ C n k ≤ 10000000) (hc : 0 ≤ C a b ∧ C a b ≤ 10000000) : ∃ g' L' P', GF_X12_ranks (f : Int) (i : Int) (C a b) (a : Int) (b : Int) g = some g' ∧ TM8 g' (6 * f + i) L' (fun n k => S n k ∨ (n = a ∧ k = b)) C P' ∧ (∀ u, u ≠ 6 * f + i → g' 74 u = g 74 u) ∧ ∀ u, u < 8 * (6 * f + i) ∨ 8 * (6 * f + i) + 8 ≤ u → g' 71 u = g 71 u ∧ g' 72 u = g 72 u ∧ g' 73 u = g 73 u := by
  obtain ⟨h74, hT, hcell⟩ := h
  have hL := hT.1
  unfold GF_X12_ranks
  rw [lt_ok, rdZ_at (6 * f + i) (by omega) (by omega), h74]
  -- how far it comes forward
  obtain ⟨r, ⟨w, rfl, hw, hhi, hlo⟩, e⟩ := lp_while (f := fun z => GB_X12_ranks_2 (f : Int) (i : Int) (C a b) g z) (a := (L : Int)) (k := fun z => GC_X12_ranks_7 (f : Int) (i : Int) (C a b) (a : Int) (b : Int) (6 * (f : Int) + (i : Int)) g z) (fun q => ∃ w : Nat, q = (w : Int) ∧ w ≤ L ∧ ∀ t, w ≤ t → t < L → C a b < C (P t).1 (P t).2) (fun q => ∃ w : Nat, q = (w : Int) ∧ w ≤ L ∧ (∀ t, w ≤ t → t < L → C a b < C (P t).1 (P t).2) ∧ (w = 0 ∨ C (P (w - 1)).1 (P (w - 1)).2 ≤ C a b)) (fun q => q.toNat) ⟨L, rfl, Nat.le_refl _, fun t h1 h2 => by omega⟩ (by omega) (by
    rintro q ⟨w, rfl, hw, hhi⟩
    unfold GB_X12_ranks_2 GF_X12_rankAt
    rw [ck_ok (by omega)]
    by_cases w0 : w = 0
    · right
      rw [if_pos (by omega)]
      exact ⟨_, rfl, w, rfl, hw, hhi, Or.inl w0⟩
    · have q1 := (hcell (w - 1) (by omega)).1
      have q2 := hb _ _ (hT.2.1 (w - 1) (by omega))
      rw [if_neg (by omega), cp_ok, rdZ_at (8 * (6 * f + i) + (w - 1)) (by omega) (by omega), q1, ck_ok (by omega), ck_ok (by omega)]
      by_cases c : C (P (w - 1)).1 (P (w - 1)).2 ≤ C a b
      · right
        rw [if_pos c]
        exact ⟨_, rfl, w, rfl, hw, hhi, Or.inr c⟩
      · left
        rw [if_neg c, lt_ok]
        refine ⟨_, rfl, ⟨w - 1, by omega, by omega, fun t h1 h2 => ?_⟩, by omega⟩
        by_cases q : t = w - 1
        · subst q
          omega
        · exact hhi t (by omega) h2)
  rw [e]
  have hlo' : ∀ t, t < w → C (P t).1 (P t).2 ≤ C a b := fun t ht => by
    rcases hlo with q | q
    · omega
    · by_cases q2 : t = w - 1
      · rw [q2]; exact q
      · have := hT.lt (t := t) (u := w - 1) (by omega) (by omega)
        unfold pl at this
        omega
  unfold GC_X12_ranks_7
  rw [ck_ok (by omega)]
  by_cases w8 : w = 8
  · rw [if_pos (by omega)]
    have L8 : L = 8 := by omega
    exact ⟨g, L, P, rfl, ⟨h74, hT.skip L8 hlex (hlo' 7 (by omega)), hcell⟩, fun u _ => rfl, fun u _ => ⟨rfl, rfl, rfl⟩⟩
  · rw [if_neg (by omega), rdZ_at (6 * f + i) (by omega) (by omega), h74, ck_ok (by omega), rdZ_at (6 * f + i) (by omega) (by omega), h74]
    -- shifting
    have main : ∀ V : Nat, V + 1 = (if L = 8 then 8 else L + 1) → ∃ g' L' P', GJ_X12_ranks_6 (f : Int) (i : Int) (C a b) (a : Int) (b : Int) (6 * (f : Int) + (i : Int)) (w : Int) g (V : Int) = some g' ∧ TM8 g' (6 * f + i) L' (fun n k => S n k ∨ (n = a ∧ k = b)) C P' ∧ (∀ u, u ≠ 6 * f + i → g' 74 u = g 74 u) ∧ ∀ u, u < 8 * (6 * f + i) ∨ 8 * (6 * f + i) + 8 ≤ u → g' 71 u = g 71 u ∧ g' 72 u = g 72 u ∧ g' 73 u = g 73 u := by
      intro V hV
      have hV8 : w ≤ V ∧ V ≤ 7 ∧ V ≤ L := by
        by_cases q : L = 8
        · rw [if_pos q] at hV; omega
        · rw [if_neg q] at hV; omega
      unfold GJ_X12_ranks_6
      have hloop : ∃ g', lp (fun z => GB_X12_ranks_4 (f : Int) (i : Int) (w : Int) z.1 z.2) ((V : Int), g) (fun z => GC_X12_ranks_5 (f : Int) (i : Int) (C a b) (a : Int) (b : Int) (6 * (f : Int) + (i : Int)) (w : Int) (V : Int) z) = some g' ∧ (g' 74 (6 * f + i) = (V : Int) + 1 ∧ (∀ u, u ≠ 6 * f + i → g' 74 u = g 74 u) ∧ (∀ u, u < 8 * (6 * f + i) + w ∨ 8 * (6 * f + i) + V < u → g' 71 u = g 71 u ∧ g' 72 u = g 72 u ∧ g' 73 u = g 73 u) ∧ (g' 71 (8 * (6 * f + i) + w) = C a b ∧ g' 72 (8 * (6 * f + i) + w) = (a : Int) ∧ g' 73 (8 * (6 * f + i) + w) = (b : Int)) ∧ ∀ t, w ≤ t → t < V → g' 71 (8 * (6 * f + i) + (t + 1)) = g 71 (8 * (6 * f + i) + t) ∧ g' 72 (8 * (6 * f + i) + (t + 1)) = g 72 (8 * (6 * f + i) + t) ∧ g' 73 (8 * (6 * f + i) + (t + 1)) = g 73 (8 * (6 * f + i) + t)) := by
        refine lp_wh (fun q => ∃ p : Nat, q.1 = (p : Int) ∧ w ≤ p ∧ p ≤ V ∧ Fr [71, 72, 73] [] g q.2 ∧ (∀ u, u ≤ 8 * (6 * f + i) + p ∨ 8 * (6 * f + i) + V < u → q.2 71 u = g 71 u ∧ q.2 72 u = g 72 u ∧ q.2 73 u = g 73 u) ∧ ∀ t, p ≤ t → t < V → q.2 71 (8 * (6 * f + i) + (t + 1)) = g 71 (8 * (6 * f + i) + t) ∧ q.2 72 (8 * (6 * f + i) + (t + 1)) = g 72 (8 * (6 * f + i) + t) ∧ q.2 73 (8 * (6 * f + i) + (t + 1)) = g 73 (8 * (6 * f + i) + t)) (fun q => Fr [71, 72, 73] [] g q ∧ (∀ u, u ≤ 8 * (6 * f + i) + w ∨ 8 * (6 * f + i) + V < u → q 71 u = g 71 u ∧ q 72 u = g 72 u ∧ q 73 u = g 73 u) ∧ ∀ t, w ≤ t → t < V → q 71 (8 * (6 * f + i) + (t + 1)) = g 71 (8 * (6 * f + i) + t) ∧ q 72 (8 * (6 * f + i) + (t + 1)) = g 72 (8 * (6 * f + i) + t) ∧ q 73 (8 * (6 * f + i) + (t + 1)) = g 73 (8 * (6 * f + i) + t)) (fun q => q.1.toNat) ⟨V, rfl, hV8.1, Nat.le_refl _, Fr.rf, fun u _ => ⟨rfl, rfl, rfl⟩, fun t h1 h2 => by omega⟩ (by dsimp only; omega) ?_ ?_
        · rintro ⟨pi, z⟩ ⟨p, e1, p1, p2, hF, hlow, hup⟩
          simp only at e1 hF hlow hup
          subst e1
          dsimp only
          unfold GB_X12_ranks_4 GF_X12_rankAt
          rw [ck_ok (by omega), ck_ok (by omega)]
          by_cases pw : p = w
          · right
            subst pw
            rw [if_pos (by omega)]
            exact ⟨z, rfl, hF, hlow, hup⟩
          · left
            have l1 := hlow (8 * (6 * f + i) + (p - 1)) (by omega)
            rw [if_neg (by omega), cp_ok, cp_ok, rdZ_at (8 * (6 * f + i) + (p - 1)) (by omega) (by omega), l1.1, wrZ_at (8 * (6 * f + i) + p) (by omega) (by omega), cp_ok, cp_ok]
            generalize hz1 : upZ z 71 (8 * (6 * f + i) + p) (g 71 (8 * (6 * f + i) + (p - 1))) = z1
            have a72 : z1 72 = z 72 := by rw [← hz1, upZ_n (by decide)]
            have a73 : z1 73 = z 73 := by rw [← hz1, upZ_n (by decide)]
            rw [rdZ_at (8 * (6 * f + i) + (p - 1)) (by omega) (by omega), a72, l1.2.1, wrZ_at (8 * (6 * f + i) + p) (by omega) (by omega), cp_ok, cp_ok]
            generalize hz2 : upZ z1 72 (8 * (6 * f + i) + p) (g 72 (8 * (6 * f + i) + (p - 1))) = z2
            have b73 : z2 73 = z 73 := by rw [← hz2, upZ_n (by decide), a73]
            rw [rdZ_at (8 * (6 * f + i) + (p - 1)) (by omega) (by omega), b73, l1.2.2, wrZ_at (8 * (6 * f + i) + p) (by omega) (by omega), lt_ok]
            generalize hz3 : upZ z2 73 (8 * (6 * f + i) + p) (g 73 (8 * (6 * f + i) + (p - 1))) = z3
            have c71 : z3 71 = upZ z 71 (8 * (6 * f + i) + p) (g 71 (8 * (6 * f + i) + (p - 1))) 71 := by rw [← hz3, upZ_n (by decide), ← hz2, upZ_n (by decide), ← hz1]
            have c72 : z3 72 = upZ z1 72 (8 * (6 * f + i) + p) (g 72 (8 * (6 * f + i) + (p - 1))) 72 := by rw [← hz3, upZ_n (by decide), ← hz2]
            have d : ∀ u, u ≠ 8 * (6 * f + i) + p → z3 71 u = z 71 u ∧ z3 72 u = z 72 u ∧ z3 73 u = z 73 u := fun u hu => by
              refine ⟨by rw [c71, upZ_sn hu], by rw [c72, upZ_sn hu, a72], by rw [← hz3, upZ_sn hu, b73]⟩
            refine ⟨_, rfl, ⟨p - 1, by dsimp only; omega, by omega, by omega, ?_, fun u hu => ?_, fun t h1 h2 => ?_⟩, by dsimp only; omega⟩
            · dsimp only
              rw [← hz3, ← hz2, ← hz1]
              exact ((hF.wr (by decide)).wr (by decide)).wr (by decide)
            · dsimp only
              have dd := d u (by omega)
              rw [dd.1, dd.2.1, dd.2.2]
              exact hlow u (by omega)
            · dsimp only
              by_cases q : t = p - 1
              · subst q
                rw [show p - 1 + 1 = p by omega, c71, upZ_ss, c72, upZ_ss, ← hz3, upZ_ss]
                exact ⟨rfl, rfl, rfl⟩
              · have dd := d (8 * (6 * f + i) + (t + 1)) (by omega)
                rw [dd.1, dd.2.1, dd.2.2]
                exact hup t (by omega) h2
        · rintro z ⟨hF, hlow, hup⟩
          unfold GC_X12_ranks_5 GF_X12_rankAt
          rw [cp_ok, wrZ_at (8 * (6 * f + i) + w) (by omega) (by omega), cp_ok, wrZ_at (8 * (6 * f + i) + w) (by omega) (by omega), cp_ok, wrZ_at (8 * (6 * f + i) + w) (by omega) (by omega), wrZ_at (6 * f + i) (by omega) (by omega)]
          refine ⟨_, rfl, upZ_ss _ _ _ _, fun u hu => ?_, fun u hu => ?_, ⟨?_, ?_, ?_⟩, fun t h1 h2 => ?_⟩
          · rw [upZ_sn hu, upZ_n (by decide), upZ_n (by decide), upZ_n (by decide), hF.f 74 (by decide) (by decide)]
          · have l := hlow u (by omega)
            refine ⟨?_, ?_, ?_⟩
            · rw [upZ_n (by decide), upZ_n (by decide), upZ_n (by decide), upZ_sn (by omega)]
              exact l.1
            · rw [upZ_n (by decide), upZ_n (by decide), upZ_sn (by omega), upZ_n (by decide)]
              exact l.2.1
            · rw [upZ_n (by decide), upZ_sn (by omega), upZ_n (by decide), upZ_n (by decide)]
              exact l.2.2
          · rw [upZ_n (by decide), upZ_n (by decide), upZ_n (by decide), upZ_ss]
          · rw [upZ_n (by decide), upZ_n (by decide), upZ_ss]
          · rw [upZ_n (by decide), upZ_ss]
          · have l := hup t h1 h2
            refine ⟨?_, ?_, ?_⟩
            · rw [upZ_n (by decide), upZ_n (by decide), upZ_n (by decide), upZ_sn (by omega)]
              exact l.1
            · rw [upZ_n (by decide), upZ_n (by decide), upZ_sn (by omega), upZ_n (by decide)]
              exact l.2.1
            · rw [upZ_n (by decide), upZ_sn (by omega), upZ_n (by decide), upZ_n (by decide)]
              exact l.2.2
      obtain ⟨g', e', g1, g2, g3, g4, g5⟩ := hloop
      have hT2 := hT.ins (P' := fun t => if t < w then P t else if t = w then (a, b) else P (t - 1)) hlex hw hlo' hhi (by omega) (fun t ht => if_pos ht) (by rw [if_neg (by omega), if_pos rfl]) (fun t h1 h2 => by rw [if_neg (by omega), if_neg (by omega), show t + 1 - 1 = t by omega])
      rw [← hV] at hT2
      refine ⟨g', V + 1, _, e', ⟨by rw [g1]; omega, hT2, fun t ht => ?_⟩, g2, fun u hu => g3 u (by omega)⟩
      rcases Nat.lt_trichotomy t w with q | q | q
      · rw [if_pos q]
        have := g3 (8 * (6 * f + i) + t) (by omega)
        rw [this.1, this.2.1, this.2.2]
        exact hcell t (by omega)
      · subst q
        rw [if_neg (by omega), if_pos rfl]
        exact g4
      · rw [if_neg (by omega), if_neg (by omega)]
        obtain ⟨u, rfl⟩ : ∃ u, t = u + 1 := ⟨t - 1, by omega⟩
        have := g5 u (by omega) (by omega)
        rw [this.1, this.2.1, this.2.2, show u + 1 - 1 = u by omega]
        exact hcell u (by omega)
    by_cases L8 : 8 ≤ (L : Int)
    · rw [if_pos L8]
      exact main 7 (by rw [if_pos (by omega)])
    · rw [if_neg L8]
      exact main L (by rw [if_neg (by omega)])
