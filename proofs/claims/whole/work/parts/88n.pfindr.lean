/-! Ranking.find -/
def lenC (g : uZ) (f i : Nat) : Nat := (g 31 (6 * (f + 1) + i)).toNat
def prC (g : uZ) (f i t : Nat) : Int := g 29 (8 * (6 * (f + 1) + i) + t)
def nxC (g : uZ) (f i t : Nat) : Nat × Nat := ((g 30 (8 * (6 * (f + 1) + i) + t)).toNat / 8, (g 30 (8 * (6 * (f + 1) + i) + t)).toNat % 8)
def NC (N : Nat) (m : Nat → Nat) (own : Nat → Nat → Int) (st : Nat → Nat → Nat → Int) (g : uZ) (f i : Nat) : Prop := (0 ≤ g 31 (6 * (f + 1) + i) ∧ lenC g f i ≤ 8) ∧ (f + 1 < N → ∀ t, t < lenC g f i → 0 ≤ g 30 (8 * (6 * (f + 1) + i) + t)) ∧ RKn N m own st (lenC g) (prC g) (nxC g) f i
theorem NC.cg {N : Nat} {m : Nat → Nat} {own : Nat → Nat → Int} {st : Nat → Nat → Nat → Int} {g g' : uZ} {f i : Nat} (hm : ∀ f, f < N → m f ≤ 6) (hf : f < N) (hi : i < m f) (h : NC N m own st g f i) (h31 : ∀ y, 6 * (f + 1) ≤ y → y = 6 * (f + 1) + i ∨ 6 * (f + 2) ≤ y → g' 31 y = g 31 y) (h29 : ∀ y t, t < 8 → 6 * (f + 1) ≤ y → y = 6 * (f + 1) + i ∨ 6 * (f + 2) ≤ y → g' 29 (8 * y + t) = g 29 (8 * y + t) ∧ g' 30 (8 * y + t) = g 30 (8 * y + t)) (h8 : f + 1 < N → ∀ n, n < m (f + 1) → lenC g (f + 1) n ≤ 8) : NC N m own st g' f i := by
  have m6 := hm f hf
  have e1 : lenC g' f i = lenC g f i := by unfold lenC; rw [h31 _ (by omega) (by omega)]
  obtain ⟨⟨a1, a2⟩, a3, a4⟩ := h
  refine ⟨⟨by rw [h31 _ (by omega) (by omega)]; exact a1, by rw [e1]; exact a2⟩, fun q t ht => ?_, a4.cg e1 (fun t ht => ⟨?_, fun _ => ?_⟩) (fun q n hn => ⟨?_, fun k hk => ?_⟩)⟩
  · rw [e1] at ht
    rw [(h29 (6 * (f + 1) + i) t (by omega) (by omega) (by omega)).2]
    exact a3 q t ht
  · unfold prC
    rw [(h29 (6 * (f + 1) + i) t (by omega) (by omega) (by omega)).1]
  · unfold nxC
    rw [(h29 (6 * (f + 1) + i) t (by omega) (by omega) (by omega)).2]
  · unfold lenC
    rw [h31 _ (by omega) (by omega)]
  · have := h8 q n hn
    unfold prC
    rw [(h29 (6 * (f + 1 + 1) + n) k (by omega) (by omega) (by omega)).1]
theorem NC.srt {N : Nat} {m : Nat → Nat} {own : Nat → Nat → Int} {st : Nat → Nat → Nat → Int} {g : uZ} {f i : Nat} (h : NC N m own st g f i) (hf : f < N) : ∀ k, k + 1 < lenC g f i → prC g f i k ≤ prC g f i (k + 1) := by
  intro k hk
  obtain ⟨-, -, b1, b2, -⟩ := h
  by_cases q : f + 1 = N
  · have := (b1 q).1
    omega
  · obtain ⟨c1, c2⟩ := b2 (by omega)
    have c3 := c1.2.2.1 k hk
    rw [c2 k (by omega), c2 (k + 1) hk]
    unfold pl at c3
    dsimp only at c3
    omega
/-- one node -/
theorem p6_node {g : uZ} {N f i : Nat} {m : Nat → Nat} {lag : Nat → Nat → Nat} {own : Nat → Nat → Int} {j o v : Nat} (hC : CT N m lag own g) (h0 : g 28 0 = j) (h1 : g 28 1 = o) (h2 : g 28 2 = v) (hj : j ≤ 50) (ho : o ≤ 2000) (hv : v ≤ 2000) (hf : f < N) (hi : i < m f) (hnext : f + 1 < N → ∀ n, n < m (f + 1) → NC N m own (fun e a b => spS j o v (lag e a) (lag (e + 1) b)) g (f + 1) n) : ∃ g', GF_X6_findWays (f : Int) (i : Int) g = some g' ∧ NC N m own (fun e a b => spS j o v (lag e a) (lag (e + 1) b)) g' f i ∧ (∀ y, y ≠ 6 * (f + 1) + i → g' 31 y = g 31 y) ∧ ∀ y, y < 8 * (6 * (f + 1) + i) ∨ 8 * (6 * (f + 1) + i) + 8 ≤ y → g' 29 y = g 29 y ∧ g' 30 y = g 30 y := by
  have hN := hC.2.1
  have hm := hC.2.2 f hf
  have oi := (hm.2.2.2 i hi).2.2.2
  unfold GF_X6_findWays GF_X6_place GF_X11_cell GF_X1_frameCount
  rw [hC.own hf hi, cp_ok, cp_ok, cp_ok, cp_ok, hC.1, ck_ok (by omega), ck_ok (by omega)]
  by_cases q : f + 1 < N
  · have hm1 := hC.2.2 (f + 1) q
    rw [if_pos (by omega)]
    obtain ⟨z, hFr, hz, e⟩ := p6_prep (a := (f : Int)) (b := (i : Int)) (F := f + 1) (sp := fun n => spS j o v (lag f i) (lag (f + 1) n)) (K := fun z => GC_X6_findWays_7 (f : Int) (i : Int) (own f i) ((((f : Int) + 1) * 6 + (i : Int)) * 8) z) hC h0 h1 h2 q (by omega) (Or.inr ⟨f, i, rfl, rfl, hi, fun n => rfl⟩)
    rw [e, show (((f : Int) + 1) * 6 + (i : Int)) * 8 = 8 * ((6 * (f + 1) + i : Nat) : Int) by omega]
    have hCz := hC.cg (hFr 11 6 (by decide) (by decide)) (hFr.f 12 (by decide) (by decide)) (hFr.f 13 (by decide) (by decide)) (hFr.f 15 (by decide) (by decide))
    have hn := hnext q
    obtain ⟨g', h3, s, P, w1, w2, w3, w4, w5⟩ := p6_merge (c := 6 * (f + 1) + i) (l := lenC g (f + 1)) (pr := prC g (f + 1)) (sp := fun n => spS j o v (lag f i) (lag (f + 1) n)) (ow := own f i) (a := (f : Int)) hCz q (by omega) (show i < 6 by omega) rfl (fun n hn' => by
      rw [hFr.f 31 (by decide) (by decide)]
      have a1 := (hn n hn').1
      refine ⟨?_, a1.2⟩
      unfold lenC
      rw [Int.toNat_of_nonneg a1.1]) (fun n hn' => (hz n hn').1) (fun n hn' => ⟨(hz n hn').2, spS_r hj ho hv (hm.2.2.2 i hi).2.1 (hm1.2.2.2 n hn').2.1⟩) (fun n k hn' hk => by
      rw [hFr.f 29 (by decide) (by decide)]
      have a1 := (hn n hn').2.2.2.2 k hk
      refine ⟨rfl, a1.1, ?_⟩
      have : ((N - (f + 1) : Nat) : Int) ≤ 100 := by omega
      omega) (fun n hn' => (hn n hn').srt q)
    rw [hFr.f 29 (by decide) (by decide), hFr.f 30 (by decide) (by decide)] at w4
    rw [hFr.f 31 (by decide) (by decide)] at w5
    refine ⟨g', h3, ?_, w5, w4⟩
    have hl : lenC g' f i = s := by unfold lenC; rw [w1]; exact Int.toNat_natCast s
    have s8 := w2.1
    have hln : ∀ n, n < m (f + 1) → lenC g' (f + 1) n = lenC g (f + 1) n ∧ ∀ k, k < lenC g (f + 1) n → prC g' (f + 1) n k = prC g (f + 1) n k := fun n hn' => by
      have a2 := (hn n hn').1.2
      refine ⟨by unfold lenC; rw [w5 _ (by omega)], fun k hk => by unfold prC; rw [(w4 _ (by omega)).1]⟩
    have hPb : ∀ t, t < s → (P t).1 < m (f + 1) ∧ (P t).2 < lenC g (f + 1) (P t).1 := fun t ht => w2.2.1 t ht
    have hnx : ∀ t, t < s → nxC g' f i t = P t := fun t ht => by
      have a1 := (w3 t ht).2
      have a2 := hPb t ht
      have a3 := (hn _ a2.1).1.2
      unfold nxC
      rw [a1]
      refine Prod.ext ?_ ?_
      · dsimp only
        omega
      · dsimp only
        omega
    refine ⟨⟨by rw [w1]; omega, by rw [hl]; exact s8⟩, fun _ t ht => ?_, fun q2 => by omega, fun _ => ⟨?_, fun t ht => ?_⟩, fun t ht => ?_⟩
    · rw [hl] at ht
      rw [(w3 t ht).2]
      omega
    · rw [hl]
      exact (w2.cg (fun n k => ⟨fun hs => ⟨hs.1, by rw [(hln n hs.1).1]; exact hs.2⟩, fun hs => ⟨hs.1, by have := hs.2; rw [(hln n hs.1).1] at this; exact this⟩⟩) (fun n k hs => by rw [(hln n hs.1).2 k hs.2])).pc hnx
    · rw [hl] at ht
      have a2 := hPb t ht
      rw [hnx t ht, (hln _ a2.1).2 _ a2.2]
      unfold prC
      exact (w3 t ht).1
    · rw [hl] at ht
      have a2 := hPb t ht
      have a3 := (hn _ a2.1).2.2.2.2 _ a2.2
      have a4 := spS_r (j := j) (o := o) (v := v) hj ho hv (hm.2.2.2 i hi).2.1 (hm1.2.2.2 _ a2.1).2.1
      have a5 : prC g' f i t = own f i + spS j o v (lag f i) (lag (f + 1) (P t).1) + prC g (f + 1) (P t).1 (P t).2 := (w3 t ht).1
      rw [a5]
      have : ((N - f : Nat) : Int) = ((N - (f + 1) : Nat) : Int) + 1 := by omega
      omega
  · have qN : f + 1 = N := by omega
    rw [if_neg (by omega), wrZ_at (8 * (6 * (f + 1) + i)) (by omega) (by omega), cp_ok, wrZ_at (6 * (f + 1) + i) (by omega) (by omega)]
    have e0 : prC (upZ (upZ g 29 (8 * (6 * (f + 1) + i)) (own f i)) 31 (6 * (f + 1) + i) 1) f i 0 = own f i := by
      unfold prC
      rw [upZ_n (by decide)]
      exact upZ_ss _ _ _ _
    refine ⟨_, rfl, ⟨⟨?_, ?_⟩, fun q2 => absurd q2 q, fun _ => ⟨?_, ?_⟩, fun q2 => absurd q2 q, fun t ht => ?_⟩, fun y hy => ?_, fun y hy => ?_⟩
    · rw [upZ_ss]; decide
    · unfold lenC; rw [upZ_ss]; decide
    · unfold lenC; rw [upZ_ss]; decide
    · exact e0
    · have hl : t < (1 : Int).toNat := by unfold lenC at ht; rw [upZ_ss] at ht; exact ht
      have t0 : t = 0 := by have : (1 : Int).toNat = 1 := rfl
                            omega
      subst t0
      rw [e0]
      have : ((N - f : Nat) : Int) = 1 := by omega
      omega
    · rw [upZ_sn hy, upZ_n (by decide)]
    · refine ⟨?_, ?_⟩
      · rw [upZ_n (by decide), upZ_sn (by omega)]
      · rw [upZ_n (by decide), upZ_n (by decide)]

theorem p6_root {g : uZ} {N : Nat} {m : Nat → Nat} {lag : Nat → Nat → Nat} {own : Nat → Nat → Int} {j o v : Nat} {st : Nat → Nat → Nat → Int} (hC : CT N m lag own g) (h0 : g 28 0 = j) (h1 : g 28 1 = o) (h2 : g 28 2 = v) (hN1 : 0 < N) (hnext : ∀ n, n < m 0 → NC N m own st g 0 n) : ∃ (g' : uZ) (s : Nat) (P : Nat → Nat × Nat), GF_X6_findWays (-1) 0 g = some g' ∧ g' 31 0 = (s : Int) ∧ TopL (fun n k => n < m 0 ∧ k < lenC g 0 n) (prC g 0) s P ∧ (∀ t, t < s → g' 29 t = prC g 0 (P t).1 (P t).2 ∧ g' 30 t = 8 * ((P t).1 : Int) + ((P t).2 : Int)) ∧ (∀ y, y ≠ 0 → g' 31 y = g 31 y) ∧ ∀ y, 8 ≤ y → g' 29 y = g 29 y ∧ g' 30 y = g 30 y := by
  have hN := hC.2.1
  have hm1 := hC.2.2 0 hN1
  have how : GF_X1_ownOf (-1) 0 g = some 0 := by
    unfold GF_X1_ownOf GF_X1_has GJ_X1_has_1 GJ_X1_has_2 GJ_X1_ownOf_1
    rw [ck_ok (by decide), if_pos (by decide), bzZ_0, cp_ok, ck_ok (by decide), if_pos rfl]
  unfold GF_X6_findWays GF_X6_place GF_X11_cell GF_X1_frameCount
  rw [how, cp_ok, cp_ok, cp_ok, cp_ok, hC.1, ck_ok (by decide), ck_ok (by omega), if_pos (by omega)]
  obtain ⟨z, hFr, hz, e⟩ := p6_prep (a := -1) (b := 0) (F := 0) (sp := fun _ => 0) (K := fun z => GC_X6_findWays_7 (-1) 0 0 (((-1 + 1) * 6 + 0) * 8) z) hC h0 h1 h2 hN1 (by decide) (Or.inl ⟨rfl, fun n => rfl⟩)
  rw [e]
  have hCz := hC.cg (hFr 11 6 (by decide) (by decide)) (hFr.f 12 (by decide) (by decide)) (hFr.f 13 (by decide) (by decide)) (hFr.f 15 (by decide) (by decide))
  obtain ⟨g', h3, s, P, w1, w2, w3, w4, w5⟩ := p6_merge (i := 0) (c := 0) (F := 0) (l := lenC g 0) (pr := prC g 0) (sp := fun _ => 0) (ow := 0) (a := -1) hCz hN1 (by decide) (by decide) (by decide) (fun n hn' => by
    rw [hFr.f 31 (by decide) (by decide)]
    have a1 := (hnext n hn').1
    refine ⟨?_, a1.2⟩
    unfold lenC
    rw [Int.toNat_of_nonneg a1.1]) (fun n hn' => (hz n hn').1) (fun n hn' => ⟨(hz n hn').2, by decide, by decide⟩) (fun n k hn' hk => by
    rw [hFr.f 29 (by decide) (by decide)]
    have a1 := (hnext n hn').2.2.2.2 k hk
    refine ⟨rfl, a1.1, ?_⟩
    have : ((N - 0 : Nat) : Int) ≤ 100 := by omega
    omega) (fun n hn' => (hnext n hn').srt hN1)
  rw [hFr.f 29 (by decide) (by decide), hFr.f 30 (by decide) (by decide)] at w4
  rw [hFr.f 31 (by decide) (by decide)] at w5
  refine ⟨g', s, P, h3, w1, w2.cg (fun n k => Iff.rfl) (fun n k _ => by dsimp only; omega), fun t ht => ?_, w5, fun y hy => w4 y (by omega)⟩
  have a := w3 t ht
  rw [Nat.mul_zero, Nat.zero_add] at a
  exact ⟨by rw [a.1]; dsimp only; omega, a.2⟩

def RW (N : Nat) (m : Nat → Nat) (own : Nat → Nat → Int) (st : Nat → Nat → Nat → Int) (g : uZ) : Prop := (N = 0 → g 31 0 = 1 ∧ g 29 0 = 0) ∧ (0 < N → (∀ f i, f < N → i < m f → NC N m own st g f i) ∧ ∃ (s : Nat) (P : Nat → Nat × Nat), g 31 0 = (s : Int) ∧ TopL (fun n k => n < m 0 ∧ k < lenC g 0 n) (prC g 0) s P ∧ ∀ t, t < s → g 29 t = prC g 0 (P t).1 (P t).2 ∧ g 30 t = 8 * ((P t).1 : Int) + ((P t).2 : Int))
theorem p6_find {g : uZ} {N : Nat} {m : Nat → Nat} {lag : Nat → Nat → Nat} {own : Nat → Nat → Int} (hC : CT N m lag own g) (hB : BOk (g 5)) : ∃ g', GF_X6_find g = some g' ∧ RW N m own (fun e a b => spS (bN (g 5) 10) (bN (g 5) 11) (bN (g 5) 12) (lag e a) (lag (e + 1) b)) g' := by
  have hN := hC.2.1
  have b10 := hB.b10
  have b11 := hB.b11
  have b12 := hB.b12
  unfold GF_X6_find GF_X9_setBy_28_4 GF_X9_set_28 GF_X1_frameCount
  rw [p0_10, cp_ok, p0_11, cp_ok, p0_12, cp_ok, pfZ_ok, pfZ_ok, pfZ_ok, cp_ok, cp_ok, cp_ok, b10.1, b11.1, b12.1]
  generalize hg1 : upZ (upZ (upZ g 28 0 (bN (g 5) 10 : Int)) 28 1 (bN (g 5) 11 : Int)) 28 2 (bN (g 5) 12 : Int) = g1
  have a0 : g1 28 0 = (bN (g 5) 10 : Int) := by rw [← hg1, upZ_sn (by decide), upZ_sn (by decide), upZ_ss]
  have a1 : g1 28 1 = (bN (g 5) 11 : Int) := by rw [← hg1, upZ_sn (by decide), upZ_ss]
  have a2 : g1 28 2 = (bN (g 5) 12 : Int) := by rw [← hg1, upZ_ss]
  have f1 : Fr [] [(28, 0), (28, 1), (28, 2)] g g1 := by rw [← hg1]; exact ((Fr.rf.pf (by decide)).pf (by decide)).pf (by decide)
  have hC1 := hC.cg (f1 11 6 (by decide) (by decide)) (f1.f 12 (by decide) (by decide)) (f1.f 13 (by decide) (by decide)) (f1.f 15 (by decide) (by decide))
  have hm6 : ∀ f, f < N → m f ≤ 6 := fun f hf => (hC.2.2 f hf).2.1
  have cgn : ∀ {f i f' i' : Nat} {y y' : uZ}, f < N → i < m f → f' < N → i' < m f' → (f' = f ∧ i' ≠ i ∨ f < f') → (∀ u, u ≠ 6 * (f + 1) + i → y' 31 u = y 31 u) → (∀ u, u < 8 * (6 * (f + 1) + i) ∨ 8 * (6 * (f + 1) + i) + 8 ≤ u → y' 29 u = y 29 u ∧ y' 30 u = y 30 u) → (f' + 1 < N → ∀ n, n < m (f' + 1) → lenC y (f' + 1) n ≤ 8) → NC N m own (fun e a b => spS (bN (g 5) 10) (bN (g 5) 11) (bN (g 5) 12) (lag e a) (lag (e + 1) b)) y f' i' → NC N m own (fun e a b => spS (bN (g 5) 10) (bN (g 5) 11) (bN (g 5) 12) (lag e a) (lag (e + 1) b)) y' f' i' := by
    intro f i f' i' y y' hf hi hf' hi' hne h31 h29 h8 hnc
    have q1 := hm6 f hf
    have q2 := hm6 f' hf'
    exact hnc.cg hm6 hf' hi' (fun u h1 h2 => h31 u (by omega)) (fun u t ht h1 h2 => h29 _ (by omega)) h8
  rw [hC1.1, lt_ok]
  refine lp_go (fun t z => z.1 = (N : Int) - 1 - (t : Int) ∧ Fr [29, 30, 31, 32, 33] [] g1 z.2 ∧ ∀ f i, N ≤ f + t → f < N → i < m f → NC N m own (fun e a b => spS (bN (g 5) 10) (bN (g 5) 11) (bN (g 5) 12) (lag e a) (lag (e + 1) b)) z.2 f i) (fun z => Fr [29, 30, 31, 32, 33] [] g1 z ∧ ∀ f i, f < N → i < m f → NC N m own (fun e a b => spS (bN (g 5) 10) (bN (g 5) 11) (bN (g 5) 12) (lag e a) (lag (e + 1) b)) z f i) N (by omega) ⟨by dsimp only; omega, Fr.rf, fun f i h1 h2 => by omega⟩ ?_ ?_ ?_
  · rintro t ⟨w, z⟩ ht ⟨e1, hF, hz⟩
    simp only at e1 hF hz
    subst e1
    dsimp only
    obtain ⟨f, hf⟩ : ∃ f : Nat, N = f + t + 1 := ⟨N - t - 1, by omega⟩
    have ef : (N : Int) - 1 - (t : Int) = (f : Int) := by omega
    have hfN : f < N := by omega
    unfold GB_X6_find_5
    rw [ef, ck_ok (by omega), if_neg (by omega)]
    refine lp_gi (fun s y => y.1 = (s : Int) ∧ Fr [29, 30, 31, 32, 33] [] g1 y.2 ∧ (∀ f' i, f < f' → f' < N → i < m f' → NC N m own (fun e a b => spS (bN (g 5) 10) (bN (g 5) 11) (bN (g 5) 12) (lag e a) (lag (e + 1) b)) y.2 f' i) ∧ ∀ i, i < s → NC N m own (fun e a b => spS (bN (g 5) 10) (bN (g 5) 11) (bN (g 5) 12) (lag e a) (lag (e + 1) b)) y.2 f i) (fun y => Fr [29, 30, 31, 32, 33] [] g1 y ∧ (∀ f' i, f < f' → f' < N → i < m f' → NC N m own (fun e a b => spS (bN (g 5) 10) (bN (g 5) 11) (bN (g 5) 12) (lag e a) (lag (e + 1) b)) y f' i) ∧ ∀ i, i < m f → NC N m own (fun e a b => spS (bN (g 5) 10) (bN (g 5) 11) (bN (g 5) 12) (lag e a) (lag (e + 1) b)) y f i) (m f) (by have := hm6 f hfN; omega) ⟨rfl, hF, fun f' i h1 h2 h3 => hz f' i (by omega) h2 h3, fun i hi => absurd hi (Nat.not_lt_zero _)⟩ ?_ ?_ ?_
    · rintro s ⟨w, y⟩ hs ⟨e1, hG, hy, hr⟩
      simp only at e1 hG hy hr
      subst e1
      dsimp only
      have hCy := hC1.cg (hG 11 6 (by decide) (by decide)) (hG.f 12 (by decide) (by decide)) (hG.f 13 (by decide) (by decide)) (hG.f 15 (by decide) (by decide))
      have y28 : y 28 = g1 28 := hG.f 28 (by decide) (by decide)
      obtain ⟨y', n1, n2, n3, n4⟩ := p6_node hCy (by rw [y28]; exact a0) (by rw [y28]; exact a1) (by rw [y28]; exact a2) b10.2.2 b11.2.2 b12.2.2 hfN hs (fun q n hn => hy (f + 1) n (by omega) q hn)
      have m6 := hm6 f hfN
      unfold GB_X6_find_3
      rw [hCy.size hfN, cp_ok, ck_ok (by omega), ck_ok (by omega), if_neg (by omega), n1, cp_ok, lt_ok]
      refine ⟨_, rfl, by dsimp only; omega, hG.tr (fF_X6_findWays Fr.rf n1) (by decide) (by decide), fun f' i h1 h2 h3 => ?_, fun i hi => ?_⟩
      · exact cgn hfN hs h2 h3 (Or.inr h1) n3 n4 (fun q n hn => (hy (f' + 1) n (by omega) q hn).1.2) (hy f' i h1 h2 h3)
      · by_cases q : i = s
        · subst q
          exact n2
        · exact cgn hfN hs hfN (show i < m f by omega) (Or.inl ⟨rfl, q⟩) n3 n4 (fun q n hn => (hy (f + 1) n (by omega) q hn).1.2) (hr i (by omega))
    · rintro ⟨w, y⟩ ⟨e1, hG, hy, hr⟩
      simp only at e1 hG hy hr
      subst e1
      dsimp only
      have hCy := hC1.cg (hG 11 6 (by decide) (by decide)) (hG.f 12 (by decide) (by decide)) (hG.f 13 (by decide) (by decide)) (hG.f 15 (by decide) (by decide))
      have m6 := hm6 f hfN
      refine ⟨y, ?_, hG, hy, hr⟩
      unfold GB_X6_find_3
      rw [hCy.size hfN, cp_ok, ck_ok (by omega), ck_ok (by omega), if_pos (by omega)]
    · rintro y ⟨hG, hy, hr⟩
      unfold GC_X6_find_4
      rw [lt_ok]
      refine ⟨_, rfl, by dsimp only; omega, hG, fun f' i h1 h2 h3 => ?_⟩
      by_cases q : f' = f
      · subst q
        exact hr i h3
      · exact hy f' i (by omega) h2 h3
  · rintro ⟨w, z⟩ ⟨e1, hF, hz⟩
    simp only at e1 hF hz
    subst e1
    dsimp only
    refine ⟨z, ?_, hF, fun f i h1 h2 => hz f i (by omega) h1 h2⟩
    unfold GB_X6_find_5
    rw [ck_ok (by omega), if_pos (by omega)]
  · rintro z ⟨hF, hz⟩
    have hCz := hC1.cg (hF 11 6 (by decide) (by decide)) (hF.f 12 (by decide) (by decide)) (hF.f 13 (by decide) (by decide)) (hF.f 15 (by decide) (by decide))
    have z28 : z 28 = g1 28 := hF.f 28 (by decide) (by decide)
    unfold GC_X6_find_6
    by_cases hN0 : N = 0
    · subst hN0
      have how : GF_X1_ownOf (-1) 0 z = some 0 := by
        unfold GF_X1_ownOf GF_X1_has GJ_X1_has_1 GJ_X1_has_2 GJ_X1_ownOf_1
        rw [ck_ok (by decide), if_pos (by decide), bzZ_0, cp_ok, ck_ok (by decide), if_pos rfl]
      unfold GF_X6_findWays GF_X6_place GF_X11_cell GF_X1_frameCount
      rw [how, cp_ok, cp_ok, cp_ok, cp_ok, hCz.1, ck_ok (by decide), ck_ok (by decide), if_neg (by decide), wrZ_at 0 (by rfl) (by omega), cp_ok, wrZ_at 0 (by rfl) (by omega), cp_ok]
      exact ⟨_, rfl, fun _ => ⟨upZ_ss _ _ _ _, by rw [upZ_n (by decide), upZ_ss]⟩, fun h => by omega⟩
    · obtain ⟨z', s, P, r1, r2, r3, r4, r5, r6⟩ := p6_root hCz (by rw [z28]; exact a0) (by rw [z28]; exact a1) (by rw [z28]; exact a2) (by omega) (fun n hn => hz 0 n (by omega) hn)
      rw [r1, cp_ok]
      have hl : ∀ f i, lenC z' f i = lenC z f i := fun f i => by unfold lenC; rw [r5 _ (by omega)]
      have hp : ∀ f i t, prC z' f i t = prC z f i t := fun f i t => by unfold prC; rw [(r6 _ (by omega)).1]
      refine ⟨z', rfl, fun h => absurd h hN0, fun _ => ⟨fun f i hf hi => ?_, s, P, r2, ?_, fun t ht => ?_⟩⟩
      · exact (hz f i hf hi).cg hm6 hf hi (fun u h1 h2 => r5 u (by omega)) (fun u t ht h1 h2 => r6 _ (by omega)) (fun q n hn => (hz (f + 1) n q hn).1.2)
      · exact r3.cg (fun n k => by rw [hl]) (fun n k _ => (hp 0 n k).symm)
      · rw [hp]
        exact r4 t ht
