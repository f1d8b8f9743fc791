/-! ranks -/
def cN (g : uZ) (e i : Nat) : Nat := (g 21 (6 * e + i)).toNat
def kN (g : uZ) (e i : Nat) : Nat := (g 20 (6 * e + i)).toNat
theorem p1_hasL {g : uZ} {a b : Int} (ha : inR a) (h : a < 0) : GF_X1_has a b g = some 0 := by
  unfold GF_X1_has GJ_X1_has_1 GJ_X1_has_2
  rw [ck_ok ha, if_pos h, bzZ_0]
theorem p5_isAhead {g : uZ} {N : Nat} {m : Nat → Nat} {f a b : Nat} (h11 : g 11 6 = N) (hN : N ≤ 100) (hfN : f < N) (h15 : ∀ e, e < N → g 15 e = (m e : Int) ∧ m e ≤ 6) (ha : a < 6) (hb : b < 6) (hc : ∀ i, i = a ∨ i = b → 0 ≤ g 21 (6 * f + i) ∧ g 21 (6 * f + i) < 6 ∧ ∀ e, f = e + 1 → g 21 (6 * f + i) < m e) (hk : ∀ e, f = e + 1 → ∀ k, k < m e → 0 ≤ g 20 (6 * e + k) ∧ g 20 (6 * e + k) < 6) : GF_X5_isAhead f a b g = some (if ahC (cN g) (kN g) f a b = true then 1 else 0) := by
  have h1 := hc a (Or.inl rfl)
  have h2 := hc b (Or.inr rfl)
  have low : GJ_X5_isAhead_1 a b = some (if decide (a < b) = true then 1 else 0) := by
    unfold GJ_X5_isAhead_1
    rw [ck_ok (by omega), ck_ok (by omega), lt_ok]
    by_cases h : a < b
    · rw [if_neg (by omega), if_pos (decide_eq_true h), bzZ_1]
    · rw [if_pos (by omega), if_neg (by simp [h]), bzZ_0]
  unfold GF_X5_isAhead GF_X11_cell ahC cN
  rw [cp_ok, rdZ_at (6 * f + a) (by omega) (by omega), cp_ok, rdZ_at (6 * f + b) (by omega) (by omega), ck_ok (by omega), ck_ok (by omega)]
  by_cases hcc : g 21 (6 * f + a) = g 21 (6 * f + b)
  · rw [if_pos hcc, if_pos (Or.inr (by rw [hcc])), low]
  · rw [if_neg hcc]
    by_cases h0 : f = 0
    · rw [p1_hasL (by omega) (by omega), cp_ok, ck_ok (by decide), if_pos rfl, if_pos (Or.inl h0), low]
    · obtain ⟨e, rfl⟩ : ∃ e, f = e + 1 := ⟨f - 1, by omega⟩
      have ee : ((e + 1 : Nat) : Int) - 1 = (e : Int) := by omega
      have ca := h1.2.2 e rfl
      have cb := h2.2.2 e rfl
      have ka := hk e rfl (g 21 (6 * (e + 1) + a)).toNat (by omega)
      have kb := hk e rfl (g 21 (6 * (e + 1) + b)).toNat (by omega)
      have hh : ∀ y : Int, 0 ≤ y → y < m e → GF_X1_has (e : Int) y g = some 1 := by
        intro y y0 y1
        obtain ⟨k, rfl⟩ : ∃ k : Nat, y = (k : Int) := ⟨y.toNat, by omega⟩
        have hm := h15 e (by omega)
        rw [p1_has h11 hN (by omega) hm.1 hm.2 (by omega), if_pos (by omega)]
      rw [ee, hh _ h1.1 ca, cp_ok, ck_ok (by decide), if_neg (by decide), hh _ h2.1 cb, cp_ok, ck_ok (by decide), if_neg (by decide), cp_ok, rdZ_at (6 * e + (g 21 (6 * (e + 1) + a)).toNat) (by omega) (by omega), cp_ok, rdZ_at (6 * e + (g 21 (6 * (e + 1) + b)).toNat) (by omega) (by omega), ck_ok (by omega), ck_ok (by omega), lt_ok, if_neg (c := e + 1 = 0 ∨ (g 21 (6 * (e + 1) + a)).toNat = (g 21 (6 * (e + 1) + b)).toNat) (by omega), Nat.add_sub_cancel]
      unfold kN
      by_cases hlt : g 20 (6 * e + (g 21 (6 * (e + 1) + a)).toNat) < g 20 (6 * e + (g 21 (6 * (e + 1) + b)).toNat)
      · rw [if_neg (by omega), bzZ_1, if_pos (decide_eq_true (by omega))]
      · rw [if_pos (by omega), bzZ_0, if_neg (by simp; omega)]
theorem p5_aheadOf {g : uZ} {N : Nat} {m : Nat → Nat} {lag : Nat → Nat → Nat} {own : Nat → Nat → Int} (hC : CT N m lag own g) {f i c : Nat} (hf : f < N) (hi : i < m f) (hc : g 21 (6 * f + i) = (c : Int)) (hp : ∀ e, f = e + 1 → c < m e) : GF_X5_aheadOf f i g = some (if f = 0 then 0 else (c : Int)) := by
  obtain ⟨c11, c100, hCf⟩ := id hC
  obtain ⟨m1, m6, mz, -⟩ := hCf f hf
  unfold GF_X5_aheadOf GJ_X5_aheadOf_1 GF_X11_cell
  rw [p1_has c11 c100 hf mz m6 (by omega), cp_ok, if_pos hi, ck_ok (by decide), if_neg (by decide), cp_ok, rdZ_at (6 * f + i) (by omega) (by omega), hc]
  by_cases h0 : f = 0
  · rw [p1_hasL (by omega) (by omega), cp_ok, ck_ok (by decide), if_pos rfl, lt_ok, if_pos h0]
  · obtain ⟨e, rfl⟩ : ∃ e, f = e + 1 := ⟨f - 1, by omega⟩
    have hce := hp e rfl
    obtain ⟨n1, n6, nz, -⟩ := hCf e (by omega)
    have ee : ((e + 1 : Nat) : Int) - 1 = (e : Int) := by omega
    rw [ee, p1_has c11 c100 (by omega) nz n6 (by omega), cp_ok, if_pos hce, ck_ok (by decide), if_neg (by decide), lt_ok, if_neg h0]
theorem p5_findRanks {g : uZ} {N : Nat} {m : Nat → Nat} {lag : Nat → Nat → Nat} {own : Nat → Nat → Int} {f : Nat} (hC : CT N m lag own g) (hf : f < N) (hc : ∀ i, i < m f → 0 ≤ g 21 (6 * f + i) ∧ g 21 (6 * f + i) < 6 ∧ ∀ e, f = e + 1 → g 21 (6 * f + i) < m e) (hk : ∀ e, f = e + 1 → ∀ k, k < m e → 0 ≤ g 20 (6 * e + k) ∧ g 20 (6 * e + k) < 6) : ∃ g', GF_X5_findRanks f g = some g' ∧ (∀ i, i < m f → g' 20 (6 * f + i) = (((List.range (m f)).countP (fun k => ahC (cN g) (kN g) f k i) : Nat) : Int)) ∧ ∀ z, z < 6 * f ∨ 6 * f + 6 ≤ z → g' 20 z = g 20 z := by
  obtain ⟨c11, c100, hCf⟩ := id hC
  obtain ⟨m1, m6, mz, hcand⟩ := hCf f hf
  unfold GF_X5_findRanks
  refine lp_go (fun t q => q.1 = t ∧ Fr [20] [] g q.2 ∧ (∀ i, i < t → q.2 20 (6 * f + i) = (((List.range (m f)).countP (fun k => ahC (cN g) (kN g) f k i) : Nat) : Int)) ∧ ∀ z, z < 6 * f ∨ 6 * f + 6 ≤ z → q.2 20 z = g 20 z) (fun q => (∀ i, i < m f → q 20 (6 * f + i) = (((List.range (m f)).countP (fun k => ahC (cN g) (kN g) f k i) : Nat) : Int)) ∧ ∀ z, z < 6 * f ∨ 6 * f + 6 ≤ z → q 20 z = g 20 z) (m f) (by omega) ⟨rfl, Fr.rf, fun i hi => by omega, fun z _ => rfl⟩ ?_ ?_ (fun q hq => ⟨q, rfl, hq⟩)
  · rintro t ⟨w, q⟩ ht ⟨e1, hF, hq, hout⟩
    simp only at e1 hF hq hout
    subst e1
    have hCq : CT N m lag own q := hC.cg (hF 11 6 (by decide) (by decide)) (hF.f 12 (by decide) (by decide)) (hF.f 13 (by decide) (by decide)) (hF.f 15 (by decide) (by decide))
    have q21 : q 21 = g 21 := hF.f 21 (by decide) (by decide)
    have hah : ∀ k, k < m f → GF_X5_isAhead f k t q = some (if ahC (cN g) (kN g) f k t = true then 1 else 0) := by
      intro k hkm
      have hcn : cN q = cN g := by unfold cN; rw [q21]
      have e : ahC (cN q) (kN q) f k t = ahC (cN g) (kN g) f k t := by
        unfold ahC
        rw [hcn]
        by_cases hz : f = 0 ∨ cN g f k = cN g f t
        · rw [if_pos hz, if_pos hz]
        · rw [if_neg hz, if_neg hz]
          obtain ⟨e, rfl⟩ : ∃ e, f = e + 1 := ⟨f - 1, by omega⟩
          have c1 := (hc k hkm)
          have c2 := (hc t ht)
          have c3 := c1.2.2 e rfl
          have c4 := c2.2.2 e rfl
          have mm := (hCf e (by omega)).2.1
          have hkq : ∀ l, l < m e → kN q e l = kN g e l := fun l hl => by unfold kN; rw [hout _ (by omega)]
          rw [Nat.add_sub_cancel, hkq _ (by unfold cN; omega), hkq _ (by unfold cN; omega)]
      rw [p5_isAhead (m := m) hCq.1 c100 hf (fun e he => ⟨(hCq.2.2 e he).2.2.1, (hCq.2.2 e he).2.1⟩) (by omega) (by omega) (by
        rw [q21]
        rintro i (rfl | rfl)
        · exact hc i hkm
        · exact hc i ht) (by
        intro e he k2 hk2
        have mm := (hCf e (by omega)).2.1
        rw [hout _ (by omega)]
        exact hk e he k2 hk2), e]
    dsimp only
    unfold GB_X5_findRanks_6
    rw [hCq.size hf, cp_ok, ck_ok (by omega), ck_ok (by omega), if_neg (by omega)]
    have hcb : ∀ s, (List.range s).countP (fun k => ahC (cN g) (kN g) f k t) ≤ s := fun s => by
      have := List.countP_le_length (p := fun k => ahC (cN g) (kN g) f k t) (l := List.range s)
      simpa using this
    rw [lp_for (fun s => ((((List.range s).countP (fun k => ahC (cN g) (kN g) f k t) : Nat) : Int), (s : Int))) (m f) (((List.range (m f)).countP (fun k => ahC (cN g) (kN g) f k t) : Nat) : Int) (by rfl) (by omega)]
    · unfold GC_X5_findRanks_5 GF_X11_cell
      rw [cp_ok, wrZ_at (6 * f + t) (by omega) (by omega), lt_ok]
      refine ⟨_, rfl, ?_⟩
      dsimp only
      refine ⟨by omega, hF.wr (by decide), fun i hi => ?_, fun z hz => ?_⟩
      · rw [upZ_s]
        by_cases hit : i = t
        · subst hit
          rw [if_pos rfl]
        · rw [if_neg (by omega)]
          exact hq i (by omega)
      · rw [upZ_sn (by omega)]
        exact hout z hz
    · intro s hs
      have hcs := hcb s
      have hsu : (List.range (s + 1)).countP (fun k => ahC (cN g) (kN g) f k t) = (List.range s).countP (fun k => ahC (cN g) (kN g) f k t) + if ahC (cN g) (kN g) f s t = true then 1 else 0 := by
        rw [List.range_succ, List.countP_append]
        congr 1
        rw [List.countP_cons]
        simp
      dsimp only
      rw [hsu]
      generalize (List.range s).countP (fun k => ahC (cN g) (kN g) f k t) = cn at *
      unfold GB_X5_findRanks_4 GJ_X5_findRanks_3
      rw [hCq.size hf, cp_ok, ck_ok (by omega), ck_ok (by omega), if_neg (by omega), hah s hs, cp_ok, ck_ok (by split <;> omega)]
      cases hA : ahC (cN g) (kN g) f s t
      · rw [b0, if_pos rfl, lt_ok, if_neg (by simp)]
        congr 3
      · rw [b1, if_neg (by omega), lt_ok, lt_ok, if_pos rfl]
        congr 3
    · dsimp only
      unfold GB_X5_findRanks_4
      rw [hCq.size hf, cp_ok, ck_ok (by omega), ck_ok (by omega), if_pos (by omega)]
  · rintro ⟨w, q⟩ ⟨e1, hF, hq, hout⟩
    simp only at e1 hF hq hout
    subst e1
    have hCq : CT N m lag own q := hC.cg (hF 11 6 (by decide) (by decide)) (hF.f 12 (by decide) (by decide)) (hF.f 13 (by decide) (by decide)) (hF.f 15 (by decide) (by decide))
    dsimp only
    unfold GB_X5_findRanks_6
    rw [hCq.size hf, cp_ok, ck_ok (by omega), ck_ok (by omega), if_pos (by omega)]
    exact ⟨_, rfl, hq, hout⟩
