/-! the class finds candidates -/
def ff (p : Nat → Bool) : Nat → Int
  | 0 => -1
  | n + 1 => if ff p n = -1 then (if p n then (n : Int) else -1) else ff p n
theorem ff_none {p : Nat → Bool} : ∀ {n : Nat}, (∀ j, j < n → p j = false) → ff p n = -1
  | 0, _ => rfl
  | n + 1, h => by
    have h1 : ff p n = -1 := ff_none (fun j hj => h j (by omega))
    have h2 := h n (by omega)
    unfold ff
    rw [if_pos h1, h2]
    rfl
theorem ff_some {p : Nat → Bool} {k : Nat} : ∀ {n : Nat}, k < n → p k = true → (∀ j, j < k → p j = false) → ff p n = k
  | 0, h, _, _ => by omega
  | n + 1, h, hp, hj => by
    unfold ff
    by_cases hk : k = n
    · subst hk
      rw [if_pos (ff_none hj), if_pos hp]
    · have h1 : ff p n = k := ff_some (by omega) hp hj
      rw [h1, if_neg (by omega)]
theorem ff_r (p : Nat → Bool) : ∀ n, -1 ≤ ff p n ∧ ff p n < n
  | 0 => by unfold ff; omega
  | n + 1 => by
    have := ff_r p n
    unfold ff
    split
    · split <;> omega
    · omega
theorem ff_eq {p q : Nat → Bool} : ∀ {n : Nat}, (∀ j, j < n → p j = q j) → ff p n = ff q n
  | 0, _ => rfl
  | n + 1, h => by
    unfold ff
    rw [ff_eq (fun j hj => h j (by omega)), h n (by omega)]
def lgS (x B : Nat → Int) (f i : Nat) : Nat := (clS x B f).getD i 0
def mS (x B : Nat → Int) (f : Nat) : Nat := (clS x B f).length + 1
def owS (x B : Nat → Int) (f i : Nat) : Int := if lgS x B f i = 0 then (bN B 9 : Int) else relF x B f (lgS x B f i) + (bN B 8 : Int) * (lgS x B f i : Int)
def hlp (lag : Nat → Nat) (i k : Nat) : Bool := decide (k ≠ i) && (decide (lag k ≠ 0) && (decide (lag i ≠ 0) && decide (ab ((lag i : Int) - 2 * (lag k : Int)) ≤ 1)))
def hfS (x B : Nat → Int) (f i : Nat) : Int := ff (hlp (lgS x B f) i) (mS x B f)
theorem mS_6 {x B : Nat → Int} (hB : BOk B) (f : Nat) : 1 ≤ mS x B f ∧ mS x B f ≤ 6 := by
  have := clS_len x B f
  have := hB.b7
  unfold mS
  omega
theorem lgS_r {x B : Nat → Int} (hB : BOk B) (f i : Nat) : (i + 1 < mS x B f → bN B 4 ≤ lgS x B f i) ∧ lgS x B f i ≤ bN B 5 ∧ (mS x B f ≤ i + 1 → lgS x B f i = 0) := by
  have h4 := hB.b4
  unfold lgS mS
  by_cases h : i < (clS x B f).length
  · have := clS_mem hB (getD_mem h)
    refine ⟨fun _ => this.1, this.2, fun _ => by omega⟩
  · have e : (clS x B f).getD i 0 = 0 := by
      rw [List.getD_eq_getElem?_getD, List.getElem?_eq_none (by omega)]
      rfl
    rw [e]
    refine ⟨fun _ => by omega, by omega, fun _ => rfl⟩
theorem owS_r {x B : Nat → Int} (hB : BOk B) (hx : XOk x) (f i : Nat) : 0 ≤ owS x B f i ∧ owS x B f i ≤ 49960 := by
  have h3 := hB.b3
  have h4 := hB.b4
  have h5 := hB.b5
  have h8 := hB.b8
  have h9 := hB.b9
  have hl := lgS_r hB (x := x) f i
  unfold owS
  split
  · omega
  · have h1 := rlS_bd hx (hop := bN B 2) (f := f) (wide := bN B 3) (L := lgS x B f i) (by omega) (by omega)
    have h2 : (bN B 8 : Int) * (lgS x B f i : Int) ≤ 20 * 48 := Int.mul_le_mul (by omega) (by omega) (by omega) (by omega)
    have h6 : 0 ≤ (bN B 8 : Int) * (lgS x B f i : Int) := Int.mul_nonneg (by omega) (by omega)
    unfold relF
    omega
/-- a frame's candidates in the class's rooms -/
def CR (x B : Nat → Int) (g : uZ) (f : Nat) : Prop := g 15 f = (mS x B f : Int) ∧ ∀ i, i < mS x B f → g 12 (6 * f + i) = (lgS x B f i : Int) ∧ g 13 (6 * f + i) = owS x B f i ∧ g 14 (6 * f + i) = hfS x B f i
theorem p1_has {g : uZ} {N m f i : Nat} (hN : g 11 6 = N) (hN1 : N ≤ 100) (hf : f < N) (hm : g 15 f = m) (hm6 : m ≤ 6) (hi : i < 100) : GF_X1_has f i g = some (if i < m then 1 else 0) := by
  unfold GF_X1_has GJ_X1_has_1 GJ_X1_has_2
  rw [ck_ok (by omega), if_neg (by omega), ck_ok (by omega), if_neg (by omega), ck_ok (by omega), if_neg (by omega), rdZ_at f rfl (by omega), ck_ok (by omega)]
  by_cases h : i < m
  · rw [if_neg (by omega), if_pos h, bzZ_1]
  · rw [if_pos (by omega), if_neg h, bzZ_0]
theorem p1_lagOf {g : uZ} {N m f i : Nat} (hN : g 11 6 = N) (hN1 : N ≤ 100) (hf : f < N) (hm : g 15 f = m) (hm6 : m ≤ 6) (hi : i < m) : GF_X1_lagOf f i g = some (g 12 (6 * f + i)) := by
  unfold GF_X1_lagOf GJ_X1_lagOf_1 GF_X11_cell
  rw [p1_has hN hN1 hf hm hm6 (by omega), if_pos hi, cp_ok, ck_ok (by omega), if_neg (by omega), cp_ok, rdZ_at (6 * f + i) (by omega) (by omega)]
theorem p1_ownOf {g : uZ} {N m f i : Nat} (hN : g 11 6 = N) (hN1 : N ≤ 100) (hf : f < N) (hm : g 15 f = m) (hm6 : m ≤ 6) (hi : i < m) : GF_X1_ownOf f i g = some (g 13 (6 * f + i)) := by
  unfold GF_X1_ownOf GJ_X1_ownOf_1 GF_X11_cell
  rw [p1_has hN hN1 hf hm hm6 (by omega), if_pos hi, cp_ok, ck_ok (by omega), if_neg (by omega), cp_ok, rdZ_at (6 * f + i) (by omega) (by omega)]
theorem p1_halfOf {g : uZ} {N m f i : Nat} (hN : g 11 6 = N) (hN1 : N ≤ 100) (hf : f < N) (hm : g 15 f = m) (hm6 : m ≤ 6) (hi : i < m) : GF_X1_halfOf f i g = some (g 14 (6 * f + i)) := by
  unfold GF_X1_halfOf GJ_X1_halfOf_1 GF_X11_cell
  rw [p1_has hN hN1 hf hm hm6 (by omega), if_pos hi, cp_ok, ck_ok (by omega), if_neg (by omega), cp_ok, rdZ_at (6 * f + i) (by omega) (by omega)]
theorem p1_sizeOf {g : uZ} {N m f : Nat} (hN : g 11 6 = N) (hN1 : N ≤ 100) (hf : f < N) (hm : g 15 f = m) : GF_X1_sizeOf f g = some (m : Int) := by
  unfold GF_X1_sizeOf GJ_X1_sizeOf_2
  rw [ck_ok (by omega), if_neg (by omega), ck_ok (by omega), if_pos (by omega), rdZ_at f rfl (by omega), hm]
theorem p1_findHalf {g : uZ} {N m f i : Nat} {lag : Nat → Nat} (hN : g 11 6 = N) (hN1 : N ≤ 100) (hf : f < N) (hm : g 15 f = m) (hm6 : m ≤ 6) (hi : i < m) (hlag : ∀ j, j < m → g 12 (6 * f + j) = (lag j : Int) ∧ lag j ≤ 48) : GF_X1_findHalf f i g = some (ff (hlp lag i) m) := by
  unfold GF_X1_findHalf
  rw [p1_lagOf hN hN1 hf hm hm6 hi, cp_ok, (hlag i hi).1]
  have hli := (hlag i hi).2
  suffices hh : ∃ z, lp (fun z => GB_X1_findHalf_3 f i (lag i) g z) 0 (fun z => ex2 (fun x => GC_X1_findHalf_4) (fun q => some q) z) = some z ∧ z = ff (hlp lag i) m by
    obtain ⟨z, e, rfl⟩ := hh
    exact e
  refine lp_wh (fun q => ∃ k : Nat, q = k ∧ k ≤ m ∧ ∀ j, j < k → hlp lag i j = false) (fun b => ex2 (fun _ => (-1 : Int)) (fun q => q) b = ff (hlp lag i) m) (fun q => (m - q).toNat) ⟨0, rfl, by omega, fun j hj => by omega⟩ (by omega) ?_ ?_
  · rintro q ⟨k, rfl, hk, hj⟩
    unfold GB_X1_findHalf_3 GJ_X1_findHalf_2
    rw [p1_sizeOf hN hN1 hf hm, cp_ok, ck_ok (by omega), ck_ok (by omega)]
    by_cases hkm : k < m
    · rw [if_neg (by omega), p1_lagOf hN hN1 hf hm hm6 hkm, cp_ok, (hlag k hkm).1]
      have hlk := (hlag k hkm).2
      have go : hlp lag i k = false → ∃ a', (lt ((k : Int) + 1) fun v11 => some (Sum.inl (β := Unit ⊕ Int) v11)) = some (Sum.inl a') ∧ (∃ k : Nat, a' = k ∧ k ≤ m ∧ ∀ j, j < k → hlp lag i j = false) ∧ (m - a').toNat < ((m : Int) - k).toNat := by
        intro hf
        rw [lt_ok]
        refine ⟨_, rfl, ⟨k + 1, by omega, by omega, fun j hj2 => ?_⟩, by omega⟩
        by_cases hjk : j = k
        · rw [hjk]; exact hf
        · exact hj j (by omega)
      rw [ck_ok (by omega)]
      by_cases h1 : (k : Int) = i
      · rw [if_pos h1]
        left
        exact go (by unfold hlp; rw [decide_eq_false (by omega)]; rfl)
      · rw [if_neg h1, ck_ok (by omega)]
        by_cases h2 : (lag k : Int) = 0
        · rw [if_pos h2]
          left
          exact go (by unfold hlp; rw [decide_eq_false (p := lag k ≠ 0) (by omega)]; simp)
        · rw [if_neg h2, ck_ok (by omega)]
          by_cases h3 : (lag i : Int) = 0
          · rw [if_pos h3]
            left
            exact go (by unfold hlp; rw [decide_eq_false (p := lag i ≠ 0) (by omega)]; simp)
          · have hab : inR (ab ((lag i : Int) - 2 * (lag k : Int))) := by unfold ab; split <;> omega
            rw [if_neg h3, p_abs g (by omega), cp_ok, ck_ok hab]
            by_cases h4 : 1 < ab ((lag i : Int) - 2 * (lag k : Int))
            · rw [if_pos h4]
              left
              exact go (by unfold hlp; rw [decide_eq_false (p := ab ((lag i : Int) - 2 * (lag k : Int)) ≤ 1) (by omega)]; simp)
            · rw [if_neg h4]
              right
              refine ⟨_, rfl, ?_⟩
              show (k : Int) = _
              symm
              refine ff_some hkm ?_ hj
              unfold hlp
              simp
              omega
    · rw [if_pos (by omega)]
      right
      refine ⟨_, rfl, ?_⟩
      show (-1 : Int) = _
      symm
      obtain rfl : k = m := by omega
      exact ff_none hj
  · intro b hb
    rcases b with b | b
    · exact ⟨-1, rfl, hb⟩
    · exact ⟨b, rfl, hb⟩
theorem p1_ownCost {g : uZ} {f L : Nat} (hB : BOk (g 5)) (hf : f < 100) (hL : L < 50) : GF_X1_ownCost f L g = some (if L = 0 then (bN (g 5) 9 : Int) else g 8 (50 * f + L) + (bN (g 5) 8 : Int) * (L : Int)) := by
  have h8 := hB.b8
  have h9 := hB.b9
  unfold GF_X1_ownCost GJ_X1_ownCost_1
  rw [ck_ok (by omega)]
  by_cases h : L = 0
  · rw [if_pos (by omega), if_pos h, p0_9, cp_ok, h9.1]
  · rw [if_neg (by omega), if_neg h, p2_rel hf hL, cp_ok, p0_8, cp_ok, h8.1]
/-- what find does behind a frame's dips -/
theorem p1_find5 {g : uZ} {x : Nat → Int} {N f : Nat} (hN : g 11 6 = N) (hN1 : N ≤ 100) (hf : f < N) (hB : BOk (g 5)) (hrow : rowOk x (bN (g 5) 2) (bN (g 5) 3) (bN (g 5) 5) g f) (ha : arr g 12 (6 * f) (clS x (g 5) f)) : ∃ g', GJ_X1_find_5 f ((clS x (g 5) f).length : Int) g = some (Sum.inl (((f + 1 : Nat) : Int), g')) ∧ CR x (g 5) g' f ∧ (∀ j, j < 6 * f ∨ 6 * f + 6 ≤ j → g' 12 j = g 12 j ∧ g' 13 j = g 13 j ∧ g' 14 j = g 14 j) ∧ (∀ j, j ≠ f → g' 15 j = g 15 j) ∧ g' 11 = g 11 := by
  have h5 := hB.b5
  have hlen := clS_len x (g 5) f
  have h7 := hB.b7
  have hmm : mS x (g 5) f = (clS x (g 5) f).length + 1 := rfl
  have hlg : ∀ i, lgS x (g 5) f i = (clS x (g 5) f).getD i 0 := fun _ => rfl
  unfold GJ_X1_find_5 GF_X11_cell
  rw [cp_ok, wrZ_at (6 * f + (clS x (g 5) f).length) (by omega) (by omega), wrZ_at f rfl (by omega)]
  generalize hK : clS x (g 5) f = K at *
  generalize hg1 : upZ (upZ g 12 (6 * f + K.length) 0) 15 f ((K.length : Int) + 1) = g1
  have hF1 : Fr [12, 15] [] g g1 := by rw [← hg1]; exact (Fr.rf.wr (by decide)).wr (by decide)
  have g15 : g1 15 f = ((K.length + 1 : Nat) : Int) := by rw [← hg1, upZ_ss]; omega
  have g15o : ∀ j, j ≠ f → g1 15 j = g 15 j := fun j hj => by rw [← hg1, upZ_sn hj, upZ_n (by decide)]
  have g12 : ∀ j, j < K.length + 1 → g1 12 (6 * f + j) = (lgS x (g 5) f j : Int) := fun j hj => by
    rw [← hg1, upZ_n (by decide), upZ_s, hlg]
    by_cases hjk : j = K.length
    · subst hjk
      rw [if_pos rfl, List.getD_eq_getElem?_getD, List.getElem?_eq_none (by omega)]
      rfl
    · rw [if_neg (by omega)]
      exact ha j (by omega)
  have g12o : ∀ j, j < 6 * f ∨ 6 * f + 6 ≤ j → g1 12 j = g 12 j := fun j hj => by rw [← hg1, upZ_n (by decide), upZ_sn (by omega)]
  refine (?_ : ∃ z, _ = some (Sum.inl (((f + 1 : Nat) : Int), z)) ∧ _)
  suffices hh : ∃ z, lp (fun z => GB_X1_find_3 (K.length : Int) f z.1 z.2) (0, g1) (fun z => GC_X1_find_4 f z) = some z ∧ ∃ g', z = Sum.inl (((f + 1 : Nat) : Int), g') ∧ CR x (g 5) g' f ∧ (∀ j, j < 6 * f ∨ 6 * f + 6 ≤ j → g' 12 j = g 12 j ∧ g' 13 j = g 13 j ∧ g' 14 j = g 14 j) ∧ (∀ j, j ≠ f → g' 15 j = g 15 j) ∧ g' 11 = g 11 by
    obtain ⟨z, e, g', rfl, h⟩ := hh
    exact ⟨g', e, h⟩
  refine lp_go (fun t q => q.1 = t ∧ Fr [13, 14] [] g1 q.2 ∧ (∀ i, i < t → q.2 13 (6 * f + i) = owS x (g 5) f i ∧ q.2 14 (6 * f + i) = hfS x (g 5) f i) ∧ (∀ j, j < 6 * f ∨ 6 * f + 6 ≤ j → q.2 13 j = g1 13 j ∧ q.2 14 j = g1 14 j)) (fun q => Fr [13, 14] [] g1 q ∧ (∀ i, i < K.length + 1 → q 13 (6 * f + i) = owS x (g 5) f i ∧ q 14 (6 * f + i) = hfS x (g 5) f i) ∧ (∀ j, j < 6 * f ∨ 6 * f + 6 ≤ j → q 13 j = g1 13 j ∧ q 14 j = g1 14 j)) (K.length + 1) (by omega) ⟨rfl, Fr.rf, fun i hi => by omega, fun j _ => ⟨rfl, rfl⟩⟩ ?_ ?_ ?_
  · rintro t ⟨w, q⟩ ht ⟨e1, hF, hq, hout⟩
    simp only at e1 hF hq hout
    subst e1
    have q11 : q 11 6 = N := (hF 11 6 (by decide) (by decide)).trans ((hF1 11 6 (by decide) (by decide)).trans hN)
    have q15 : q 15 f = ((K.length + 1 : Nat) : Int) := (hF 15 f (by decide) (by simp)).trans g15
    have q12 : q 12 = g1 12 := hF.f 12 (by decide) (by decide)
    have q8 : q 8 = g 8 := (hF.f 8 (by decide) (by decide)).trans (hF1.f 8 (by decide) (by decide))
    have q5 : q 5 = g 5 := (hF.f 5 (by decide) (by decide)).trans (hF1.f 5 (by decide) (by decide))
    have hl := lgS_r hB (x := x) f t
    dsimp only
    unfold GB_X1_find_3 GF_X11_cell
    rw [ck_ok (by omega), ck_ok (by omega), if_neg (by omega), cp_ok, p1_lagOf q11 hN1 hf q15 (by omega) ht, cp_ok, q12, g12 t ht, p1_ownCost (q5 ▸ hB) (by omega) (by omega), cp_ok, wrZ_at (6 * f + t) (by omega) (by omega), cp_ok]
    have hown : (if lgS x (g 5) f t = 0 then (bN (q 5) 9 : Int) else q 8 (50 * f + lgS x (g 5) f t) + (bN (q 5) 8 : Int) * (lgS x (g 5) f t : Int)) = owS x (g 5) f t := by
      unfold owS relF
      rw [q5, q8, (hrow.1 _ (by omega)).2]
    rw [hown, p1_findHalf (lag := lgS x (g 5) f) (by rw [upZ_n (by decide)]; exact q11) hN1 hf (by rw [upZ_n (by decide)]; exact q15) (by omega) ht (fun j hj => ⟨by rw [upZ_n (by decide), q12]; exact g12 j hj, by have := lgS_r hB (x := x) f j; omega⟩), cp_ok, wrZ_at (6 * f + t) (by omega) (by omega), lt_ok]
    refine ⟨_, rfl, ?_⟩
    dsimp only
    refine ⟨by omega, (hF.wr (by decide)).wr (by decide), fun i hi => ?_, fun j hj => ?_⟩
    · rw [upZ_n (by decide : (13 : Nat) ≠ 14), upZ_s, upZ_s, upZ_n (by decide : (14 : Nat) ≠ 13)]
      by_cases hit : i = t
      · subst hit
        rw [if_pos rfl, if_pos rfl]
        refine ⟨rfl, ?_⟩
        unfold hfS
        rw [hmm]
      · rw [if_neg (by omega), if_neg (by omega)]
        exact hq i (by omega)
    · rw [upZ_n (by decide : (13 : Nat) ≠ 14), upZ_s, upZ_s, upZ_n (by decide : (14 : Nat) ≠ 13), if_neg (by omega), if_neg (by omega)]
      exact hout j hj
  · rintro ⟨w, q⟩ ⟨e1, hF, hq, hout⟩
    simp only at e1 hF hq hout
    subst e1
    dsimp only
    unfold GB_X1_find_3
    rw [ck_ok (by omega), ck_ok (by omega), if_pos (by omega)]
    exact ⟨_, rfl, hF, hq, hout⟩
  · rintro q ⟨hF, hq, hout⟩
    unfold GC_X1_find_4
    rw [lt_ok]
    refine ⟨_, rfl, q, by congr 3, ⟨?_, fun i hi => ⟨?_, hq i (by omega)⟩⟩, fun j hj => ⟨?_, ?_, ?_⟩, fun j hj => ?_, (hF.f 11 (by decide) (by decide)).trans (hF1.f 11 (by decide) (by decide))⟩
    · rw [hF.f 15 (by decide) (by decide), g15, hmm]
    · rw [hF.f 12 (by decide) (by decide)]
      exact g12 i (by omega)
    · rw [hF.f 12 (by decide) (by decide)]
      exact g12o j hj
    · rw [(hout j hj).1, hF1.f 13 (by decide) (by decide)]
    · rw [(hout j hj).2, hF1.f 14 (by decide) (by decide)]
    · rw [hF.f 15 (by decide) (by decide)]
      exact g15o j hj
theorem p1_find {g : uZ} {n : Nat} (h : g 1 2 = n) (hn : n ≤ 800) (hB : BOk (g 5)) (hx : XOk (g 2)) (hrow : ∀ f, f < nfS (g 5) n → rowOk (g 2) (bN (g 5) 2) (bN (g 5) 3) (bN (g 5) 5) g f) : ∃ g', GF_X1_find g = some g' ∧ g' 11 6 = (nfS (g 5) n : Int) ∧ ∀ f, f < nfS (g 5) n → CR (g 2) (g 5) g' f := by
  have h100 := nfS_100 hB hn
  have h14 := hB.b14
  unfold GF_X1_find
  rw [p2_size h hn hB, cp_ok, pfZ_ok]
  generalize hNe : nfS (g 5) n = N at *
  refine lp_go (fun t q => q.1 = t ∧ Fr [12, 13, 14, 15] [(11, 6)] g q.2 ∧ q.2 11 6 = N ∧ ∀ f, f < t → CR (g 2) (g 5) q.2 f) (fun q => q 11 6 = N ∧ ∀ f, f < N → CR (g 2) (g 5) q f) N (by omega) ⟨rfl, Fr.rf.pf (by decide), by dsimp only; exact upZ_ss _ _ _ _, fun f hf => by omega⟩ ?_ ?_ (fun q hq => ⟨q, rfl, hq⟩)
  · rintro t ⟨w, q⟩ ht ⟨e1, hF, q11, hq⟩
    simp only at e1 hF q11 hq
    subst e1
    have q5 : q 5 = g 5 := hF.f 5 (by decide) (by decide)
    have q7 : q 7 = g 7 := hF.f 7 (by decide) (by decide)
    have q8 : q 8 = g 8 := hF.f 8 (by decide) (by decide)
    have q9 : q 9 = g 9 := hF.f 9 (by decide) (by decide)
    have hrt : rowOk (g 2) (bN (g 5) 2) (bN (g 5) 3) (bN (g 5) 5) q t := (hrow t ht).cg (fun L _ => by rw [q7, q8]; exact ⟨rfl, rfl⟩) (by rw [q9])
    have hl := ldS_r hx (bN (g 5) 2) (bN (g 5) 3) t
    have h3 := hB.b3
    have fin : ∀ q2 : uZ, Fr [12] [] q q2 → (∀ j, j < 6 * t ∨ 6 * t + 6 ≤ j → q2 12 j = q 12 j) → arr q2 12 (6 * t) (clS (g 2) (g 5) t) → ∃ a', GJ_X1_find_5 t ((clS (g 2) (g 5) t).length : Int) q2 = some (Sum.inl a') ∧ a'.1 = ((t + 1 : Nat) : Int) ∧ Fr [12, 13, 14, 15] [(11, 6)] g a'.2 ∧ a'.2 11 6 = (N : Int) ∧ ∀ f, f < t + 1 → CR (g 2) (g 5) a'.2 f := by
      intro q2 hF2 hout2 ha2
      have p5 : q2 5 = g 5 := (hF2.f 5 (by decide) (by decide)).trans q5
      have p11 : q2 11 6 = N := (hF2 11 6 (by decide) (by decide)).trans q11
      have hr2 : rowOk (g 2) (bN (q2 5) 2) (bN (q2 5) 3) (bN (q2 5) 5) q2 t := by
        rw [p5]
        exact hrt.cg (fun L _ => by rw [hF2.f 7 (by decide) (by decide), hF2.f 8 (by decide) (by decide)]; exact ⟨rfl, rfl⟩) (by rw [hF2.f 9 (by decide) (by decide)])
      obtain ⟨q3, e3, hcr, ho, ho15, ho11⟩ := p1_find5 (x := g 2) p11 h100 ht (p5 ▸ hB) hr2 (by rw [p5]; exact ha2)
      rw [p5] at e3 hcr
      have hF3 : Fr [12, 13, 14, 15] [(11, 6)] q2 q3 := fJ_X1_find_5 Fr.rf e3
      refine ⟨_, e3, rfl, ?_⟩
      dsimp only
      refine ⟨?_, ?_, fun f hf => ?_⟩
      · exact (hF.tr hF2 (by decide) (by decide)).tr hF3 (by decide) (by decide)
      · rw [ho11]
        exact p11
      · by_cases hft : f = t
        · subst hft
          exact hcr
        · obtain ⟨c1, c2⟩ := hq f (by omega)
          refine ⟨by rw [ho15 f hft, hF2.f 15 (by decide) (by decide)]; exact c1, fun i hi => ?_⟩
          have h6 := mS_6 hB (x := g 2) f
          have hh := ho (6 * f + i) (by omega)
          rw [hh.1, hh.2.1, hh.2.2, hout2 _ (by omega), hF2.f 13 (by decide) (by decide), hF2.f 14 (by decide) (by decide)]
          exact c2 i hi
    dsimp only
    unfold GB_X1_find_6
    rw [ck_ok (by omega), ck_ok (by omega), if_neg (by omega), p2_loudAt (by omega), cp_ok, p0_14, cp_ok, q9, q5, (hrow t ht).2, ck_ok (by omega), ck_ok (by omega)]
    by_cases hlo : g 5 14 ≤ ldS (g 2) (bN (g 5) 2) (bN (g 5) 3) t
    · rw [if_pos hlo]
      have hDS : DS (g 2) (g 5) t = dipS (g 2) (g 5) t := by
        funext L
        unfold DS louF
        rw [decide_eq_true (by omega)]
        rfl
      obtain ⟨q2, e2, ha2, ho2⟩ := p1_keepDips (g := q) (f := t) (x := g 2) (q5 ▸ hB) hx (by omega) (by rw [q5]; exact hrt)
      rw [q5, ← hDS] at e2 ha2
      have hF2 : Fr [12] [] q q2 := fF_X1_keepDips Fr.rf e2
      rw [e2, clZ_ok]
      exact fin q2 hF2 ho2 ha2
    · rw [if_neg hlo]
      have hcl : clS (g 2) (g 5) t = [] := by
        unfold clS clD
        apply List.filter_eq_nil_iff.mpr
        intro L _
        unfold DS louF
        rw [decide_eq_false (by omega)]
        simp
      have := fin q Fr.rf (fun _ _ => rfl) (by rw [hcl]; intro i hi; simp at hi)
      rw [hcl] at this
      exact this
  · rintro ⟨w, q⟩ ⟨e1, hF, q11, hq⟩
    simp only at e1 hF q11 hq
    subst e1
    dsimp only
    unfold GB_X1_find_6
    rw [ck_ok (by omega), ck_ok (by omega), if_pos (by omega)]
    exact ⟨_, rfl, q11, hq⟩
