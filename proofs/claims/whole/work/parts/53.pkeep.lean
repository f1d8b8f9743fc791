/-! the class keeps dips -/
def arr (g : uZ) (c b : Nat) (l : List Nat) : Prop := ∀ i, i < l.length → g c (b + i) = ((l.getD i 0 : Nat) : Int)
theorem getD_er (l : List Nat) (w j : Nat) : (l.eraseIdx w).getD j 0 = if j < w then l.getD j 0 else l.getD (j + 1) 0 := by
  rw [List.getD_eq_getElem?_getD, List.getElem?_eraseIdx]
  split <;> rw [List.getD_eq_getElem?_getD]
theorem getD_mem {l : List Nat} {i : Nat} (h : i < l.length) : l.getD i 0 ∈ l := by
  rw [List.getD_eq_getElem?_getD, List.getElem?_eq_getElem h]
  exact List.getElem_mem h
theorem p2_rel {g : uZ} {f L : Nat} (hf : f < 100) (hL : L < 50) : GF_X2_relAt f L g = some (g 8 (50 * f + L)) := by
  unfold GF_X2_relAt
  rw [ck_ok (by omega), if_neg (by omega), if_neg (by omega), ck_ok (by omega), if_neg (by omega), if_pos (by omega), rdZ_at (50 * f + L) (by omega) (by omega)]
theorem p2_diffAt {g : uZ} {f L : Nat} (hf : f < 100) (hL : L < 50) : GF_X2_diffAt f L g = some (g 7 (50 * f + L)) := by
  unfold GF_X2_diffAt
  rw [ck_ok (by omega), if_neg (by omega), if_neg (by omega), ck_ok (by omega), if_neg (by omega), if_pos (by omega), rdZ_at (50 * f + L) (by omega) (by omega)]
theorem p2_loudAt {g : uZ} {f : Nat} (hf : f < 100) : GF_X2_loudAt f g = some (g 9 f) := by
  unfold GF_X2_loudAt GJ_X2_loudAt_2
  rw [ck_ok (by omega), if_neg (by omega), if_pos (by omega), rdZ_at f rfl (by omega)]
def dipR (R : Nat → Int) (deep : Nat) (L : Nat) : Bool := decide (R L ≤ deep) && (decide (R L < R (L - 1)) && decide (R L ≤ R (L + 1)))
theorem p1_isDip {g : uZ} {f L : Nat} {R : Nat → Int} {hi : Nat} (hB : BOk (g 5)) (hf : f < 100) (h1 : 1 ≤ L) (hL : L ≤ hi) (hh : hi ≤ 48) (hR : ∀ l, l ≤ hi + 1 → g 8 (50 * f + l) = R l ∧ inR (R l)) : GF_X1_isDip f L g = some (if dipR R (bN (g 5) 6) L = true then 1 else 0) := by
  have h6 := hB.b6
  unfold GF_X1_isDip GJ_X1_isDip_1 GJ_X1_isDip_2
  have r0 := hR L (by omega)
  have r1 := hR (L - 1) (by omega)
  have r2 := hR (L + 1) (by omega)
  have e1 : (L : Int) - 1 = ((L - 1 : Nat) : Int) := by omega
  have e2 : (L : Int) + 1 = ((L + 1 : Nat) : Int) := by omega
  rw [p2_rel hf (by omega), cp_ok, p0_6, cp_ok, e1, p2_rel hf (by omega), cp_ok, e2, p2_rel hf (by omega), cp_ok, r0.1, r1.1, r2.1, ck_ok (by omega), ck_ok r0.2]
  unfold dipR
  by_cases c1 : R L ≤ (bN (g 5) 6 : Int)
  · rw [if_neg (by omega), ck_ok r1.2]
    by_cases c2 : R L < R (L - 1)
    · rw [if_neg (by omega), ck_ok r2.2]
      by_cases c3 : R L ≤ R (L + 1)
      · rw [if_neg (by omega), bzZ_1]
        simp [c1, c2, c3]
      · rw [if_pos (by omega), bzZ_0]
        simp [c3]
    · rw [if_pos (by omega), bzZ_0]
      simp [c2]
  · rw [if_pos (by omega), bzZ_0]
    simp [c1]
theorem p1_dropWorst {g : uZ} {f : Nat} {R : Nat → Int} {K : List Nat} (hf : f < 100) (hk : 1 ≤ K.length) (hk6 : K.length ≤ 6) (hR : ∀ l ∈ K, l < 50 ∧ g 8 (50 * f + l) = R l ∧ inR (R l)) (ha : arr g 12 (6 * f) K) : ∃ g', GF_X1_dropWorst f K.length g = some g' ∧ ∃ w, w < K.length ∧ (∀ j, j < K.length → j ≠ w → R (K.getD j 0) < R (K.getD w 0) ∨ (R (K.getD j 0) = R (K.getD w 0) ∧ j < w)) ∧ arr g' 12 (6 * f) (K.eraseIdx w) ∧ ∀ j, j < 6 * f ∨ 6 * f + 6 ≤ j → g' 12 j = g 12 j := by
  have hrel : ∀ i, i < K.length → g 12 (6 * f + i) = ((K.getD i 0 : Nat) : Int) ∧ K.getD i 0 < 50 ∧ g 8 (50 * f + K.getD i 0) = R (K.getD i 0) ∧ inR (R (K.getD i 0)) := fun i hi => ⟨ha i hi, hR _ (getD_mem hi)⟩
  unfold GF_X1_dropWorst
  refine lp_go (fun t q => q.2 = ((t + 1 : Nat) : Int) ∧ ∃ w : Nat, q.1 = w ∧ w ≤ t ∧ ∀ j, j ≤ t → j ≠ w → R (K.getD j 0) < R (K.getD w 0) ∨ (R (K.getD j 0) = R (K.getD w 0) ∧ j < w)) (fun q => ∃ w : Nat, q = w ∧ w < K.length ∧ ∀ j, j < K.length → j ≠ w → R (K.getD j 0) < R (K.getD w 0) ∨ (R (K.getD j 0) = R (K.getD w 0) ∧ j < w)) (K.length - 1) (by omega) ⟨rfl, 0, rfl, by omega, fun j hj h0 => by omega⟩ ?_ ?_ ?_
  · rintro t ⟨v, i⟩ ht ⟨e2, w, e1, hw, hm⟩
    simp only at e1 e2
    subst e1 e2
    have r1 := hrel (t + 1) (by omega)
    have r2 := hrel w (by omega)
    dsimp only
    unfold GB_X1_dropWorst_2 GF_X11_cell
    rw [ck_ok (by omega), ck_ok (by omega), if_neg (by omega), cp_ok, rdZ_at (6 * f + (t + 1)) (by omega) (by omega), r1.1, p2_rel hf r1.2.1, cp_ok, cp_ok, rdZ_at (6 * f + w) (by omega) (by omega), r2.1, p2_rel hf r2.2.1, cp_ok, r1.2.2.1, r2.2.2.1, ck_ok r1.2.2.2, ck_ok r2.2.2.2, lt_ok, lt_ok]
    refine ⟨_, rfl, ?_⟩
    dsimp only
    refine ⟨by omega, ?_⟩
    by_cases hc : R (K.getD (t + 1) 0) < R (K.getD w 0)
    · refine ⟨w, by rw [if_pos hc], by omega, fun j hj hjw => ?_⟩
      by_cases hjt : j = t + 1
      · subst hjt
        exact Or.inl hc
      · exact hm j (by omega) hjw
    · refine ⟨t + 1, by rw [if_neg hc], by omega, fun j hj hjw => ?_⟩
      by_cases hjw2 : j = w
      · subst hjw2
        omega
      · have := hm j (by omega) hjw2
        omega
  · rintro ⟨v, i⟩ ⟨e2, w, e1, hw, hm⟩
    simp only at e1 e2
    subst e1 e2
    dsimp only
    unfold GB_X1_dropWorst_2
    rw [ck_ok (by omega), ck_ok (by omega), if_pos (by omega)]
    exact ⟨_, rfl, w, rfl, by omega, fun j hj => hm j (by omega)⟩
  · rintro q ⟨w, rfl, hw, hm⟩
    unfold GC_X1_dropWorst_6
    refine lp_go (fun t q => q.1 = ((w + t : Nat) : Int) ∧ (∀ j, j < K.length → q.2 12 (6 * f + j) = if w ≤ j ∧ j < w + t then ((K.getD (j + 1) 0 : Nat) : Int) else ((K.getD j 0 : Nat) : Int)) ∧ ∀ j, j < 6 * f ∨ 6 * f + 6 ≤ j → q.2 12 j = g 12 j) (fun q => (∀ j, j < K.length → q 12 (6 * f + j) = if w ≤ j ∧ j < K.length - 1 then ((K.getD (j + 1) 0 : Nat) : Int) else ((K.getD j 0 : Nat) : Int)) ∧ ∀ j, j < 6 * f ∨ 6 * f + 6 ≤ j → q 12 j = g 12 j) (K.length - 1 - w) (by omega) ⟨rfl, fun j hj => by rw [if_neg (by omega)]; exact ha j hj, fun j _ => rfl⟩ ?_ ?_ ?_
    · rintro t ⟨i, q⟩ ht ⟨e1, hq, hout⟩
      simp only at e1 hq hout
      subst e1
      dsimp only
      unfold GB_X1_dropWorst_4 GF_X11_cell
      rw [ck_ok (by omega), ck_ok (by omega), if_neg (by omega), cp_ok, cp_ok, rdZ_at (6 * f + (w + t + 1)) (by omega) (by omega), wrZ_at (6 * f + (w + t)) (by omega) (by omega), lt_ok]
      refine ⟨_, rfl, ?_⟩
      dsimp only
      refine ⟨by omega, fun j hj => ?_, fun j hj => ?_⟩
      · rw [upZ_s]
        by_cases hjt : j = w + t
        · subst hjt
          rw [if_pos rfl, if_pos (by omega), hq _ (by omega), if_neg (by omega)]
        · rw [if_neg (by omega), hq j hj]
          by_cases hc : w ≤ j ∧ j < w + t
          · rw [if_pos hc, if_pos (by omega)]
          · rw [if_neg hc, if_neg (by omega)]
      · rw [upZ_sn (by omega)]
        exact hout j hj
    · rintro ⟨i, q⟩ ⟨e1, hq, hout⟩
      simp only at e1 hq hout
      subst e1
      dsimp only
      unfold GB_X1_dropWorst_4
      rw [ck_ok (by omega), ck_ok (by omega), if_pos (by omega)]
      refine ⟨_, rfl, fun j hj => ?_, hout⟩
      rw [hq j hj]
      have e : w + (K.length - 1 - w) = K.length - 1 := by omega
      rw [e]
    · rintro q ⟨hq, hout⟩
      refine ⟨q, rfl, w, hw, hm, fun i hi => ?_, hout⟩
      rw [List.length_eraseIdx, if_pos hw] at hi
      rw [hq i (by omega), getD_er]
      by_cases hc : i < w
      · rw [if_neg (by omega), if_pos hc]
      · rw [if_pos (by omega), if_neg hc]
