/-! the reference lays the ranking -/
def lenM (g : uZ) (f i : Nat) : Nat := (g 74 (6 * f + i)).toNat
def prM (g : uZ) (f i t : Nat) : Int := g 71 (8 * (6 * f + i) + t)
def nxM (g : uZ) (f i t : Nat) : Nat × Nat := ((g 72 (8 * (6 * f + i) + t)).toNat, (g 73 (8 * (6 * f + i) + t)).toNat)
def NM (N : Nat) (m : Nat → Nat) (own : Nat → Nat → Int) (st : Nat → Nat → Nat → Int) (g : uZ) (f i : Nat) : Prop := (0 ≤ g 74 (6 * f + i) ∧ lenM g f i ≤ 8) ∧ (f + 1 < N → ∀ t, t < lenM g f i → 0 ≤ g 72 (8 * (6 * f + i) + t) ∧ 0 ≤ g 73 (8 * (6 * f + i) + t)) ∧ RKn N m own st (lenM g) (prM g) (nxM g) f i
theorem NM.cg {N : Nat} {m : Nat → Nat} {own : Nat → Nat → Int} {st : Nat → Nat → Nat → Int} {g g' : uZ} {f i : Nat} (hm : ∀ f, f < N → m f ≤ 6) (hf : f < N) (hi : i < m f) (h : NM N m own st g f i) (h74 : ∀ y, 6 * f ≤ y → y = 6 * f + i ∨ 6 * (f + 1) ≤ y → g' 74 y = g 74 y) (h71 : ∀ y t, t < 8 → 6 * f ≤ y → y = 6 * f + i ∨ 6 * (f + 1) ≤ y → g' 71 (8 * y + t) = g 71 (8 * y + t) ∧ g' 72 (8 * y + t) = g 72 (8 * y + t) ∧ g' 73 (8 * y + t) = g 73 (8 * y + t)) (h8 : f + 1 < N → ∀ n, n < m (f + 1) → lenM g (f + 1) n ≤ 8) : NM N m own st g' f i := by
  have m6 := hm f hf
  have e1 : lenM g' f i = lenM g f i := by unfold lenM; rw [h74 _ (by omega) (by omega)]
  obtain ⟨⟨a1, a2⟩, a3, a4⟩ := h
  refine ⟨⟨by rw [h74 _ (by omega) (by omega)]; exact a1, by rw [e1]; exact a2⟩, fun q t ht => ?_, a4.cg e1 (fun t ht => ⟨?_, fun _ => ?_⟩) (fun q n hn => ⟨?_, fun k hk => ?_⟩)⟩
  · rw [e1] at ht
    have := (h71 (6 * f + i) t (by omega) (by omega) (by omega)).2
    rw [this.1, this.2]
    exact a3 q t ht
  · unfold prM
    rw [(h71 (6 * f + i) t (by omega) (by omega) (by omega)).1]
  · unfold nxM
    have := (h71 (6 * f + i) t (by omega) (by omega) (by omega)).2
    rw [this.1, this.2]
  · unfold lenM
    rw [h74 _ (by omega) (by omega)]
  · have := h8 q n hn
    unfold prM
    rw [(h71 (6 * (f + 1) + n) k (by omega) (by omega) (by omega)).1]
theorem TM8.cg {g : uZ} {y L : Nat} {S S' : Nat → Nat → Prop} {C : Nat → Nat → Int} {P : Nat → Nat × Nat} (h : TM8 g y L S C P) (hS : ∀ n k, S n k ↔ S' n k) : TM8 g y L S' C P := ⟨h.1, h.2.1.cg hS (fun _ _ _ => rfl), h.2.2⟩
theorem m_node {g : uZ} {N f i : Nat} {m : Nat → Nat} {lag : Nat → Nat → Nat} {own : Nat → Nat → Int} {j o v : Nat} (h17 : g 55 17 = N) (hT : MT N m lag own g) (hP : MP j o v g) (hf : f < N) (hi : i < m f) (hnext : f + 1 < N → ∀ n, n < m (f + 1) → NM N m own (fun e a b => spS j o v (lag e a) (lag (e + 1) b)) g (f + 1) n) : ∃ g', GF_X12_ranksFrom (f : Int) (i : Int) g = some g' ∧ NM N m own (fun e a b => spS j o v (lag e a) (lag (e + 1) b)) g' f i ∧ (∀ y, y ≠ 6 * f + i → g' 74 y = g 74 y) ∧ ∀ y, y < 8 * (6 * f + i) ∨ 8 * (6 * f + i) + 8 ≤ y → g' 71 y = g 71 y ∧ g' 72 y = g 72 y ∧ g' 73 y = g 73 y := by
  have hN := hT.1
  have hm := hT.2 f hf
  have oi := (hm.2.2.2 i hi).2.2.2
  obtain ⟨p1, p2, p3, pj, po, pv⟩ := id hP
  unfold GF_X12_ranksFrom
  rw [wrZ_at (6 * f + i) (by omega) (by omega)]
  generalize hg1 : upZ g 74 (6 * f + i) 0 = g1
  have f1 : Fr [71, 72, 73, 74] [] g g1 := by rw [← hg1]; exact Fr.rf.wr (by decide)
  have a74 : g1 74 (6 * f + i) = 0 := by rw [← hg1, upZ_ss]
  have n74 : ∀ u, u ≠ 6 * f + i → g1 74 u = g 74 u := fun u hu => by rw [← hg1, upZ_sn hu]
  have a71 : g1 71 = g 71 := by rw [← hg1, upZ_n (by decide)]
  have a72 : g1 72 = g 72 := by rw [← hg1, upZ_n (by decide)]
  have a73 : g1 73 = g 73 := by rw [← hg1, upZ_n (by decide)]
  have hT1 := hT.cg (f1.f 64 (by decide) (by decide)) (f1.f 65 (by decide) (by decide)) (f1.f 66 (by decide) (by decide))
  rw [f1 55 17 (by decide) (by decide), h17, ck_ok (by omega), ck_ok (by omega)]
  by_cases q : f + 1 < N
  · have hm1 := hT.2 (f + 1) q
    have hn := hnext q
    rw [if_neg (by omega)]
    have hCb : ∀ n k, n < m (f + 1) → k < lenM g (f + 1) n → 0 ≤ own f i + spS j o v (lag f i) (lag (f + 1) n) + prM g (f + 1) n k ∧ own f i + spS j o v (lag f i) (lag (f + 1) n) + prM g (f + 1) n k ≤ 60000 * ((N - f : Nat) : Int) := fun n k h1 h2 => by
      have b1 := spS_r (j := j) (o := o) (v := v) pj po pv (hm.2.2.2 i hi).2.1 (hm1.2.2.2 n h1).2.1
      have b2 := (hn n h1).2.2.2.2 k h2
      have : ((N - f : Nat) : Int) = ((N - (f + 1) : Nat) : Int) + 1 := by omega
      omega
    have h100 : ((N - f : Nat) : Int) ≤ 100 := by omega
    have hmain : ∃ g', lp (fun z => GB_X12_ranksFrom_5 (f : Int) (i : Int) z.1 z.2) (0, g1) (fun z => GC_X12_ranksFrom_6 z) = some g' ∧ (∃ L P, TM8 g' (6 * f + i) L (fun n k => n < m (f + 1) ∧ k < lenM g (f + 1) n) (fun n k => own f i + spS j o v (lag f i) (lag (f + 1) n) + prM g (f + 1) n k) P) ∧ (∀ y, y ≠ 6 * f + i → g' 74 y = g 74 y) ∧ ∀ y, y < 8 * (6 * f + i) ∨ 8 * (6 * f + i) + 8 ≤ y → g' 71 y = g 71 y ∧ g' 72 y = g 72 y ∧ g' 73 y = g 73 y := by
      refine lp_go (fun t z => z.1 = (t : Int) ∧ Fr [71, 72, 73, 74] [] g z.2 ∧ (∃ L P, TM8 z.2 (6 * f + i) L (fun n k => n < t ∧ k < lenM g (f + 1) n) (fun n k => own f i + spS j o v (lag f i) (lag (f + 1) n) + prM g (f + 1) n k) P) ∧ (∀ y, y ≠ 6 * f + i → z.2 74 y = g 74 y) ∧ ∀ y, y < 8 * (6 * f + i) ∨ 8 * (6 * f + i) + 8 ≤ y → z.2 71 y = g 71 y ∧ z.2 72 y = g 72 y ∧ z.2 73 y = g 73 y) (fun z => (∃ L P, TM8 z (6 * f + i) L (fun n k => n < m (f + 1) ∧ k < lenM g (f + 1) n) (fun n k => own f i + spS j o v (lag f i) (lag (f + 1) n) + prM g (f + 1) n k) P) ∧ (∀ y, y ≠ 6 * f + i → z 74 y = g 74 y) ∧ ∀ y, y < 8 * (6 * f + i) ∨ 8 * (6 * f + i) + 8 ≤ y → z 71 y = g 71 y ∧ z 72 y = g 72 y ∧ z 73 y = g 73 y) (m (f + 1)) (by omega) ⟨rfl, f1, ⟨0, fun _ => (0, 0), a74, (TopL.nil _ _).cg (fun n k => ⟨fun h => h.elim, fun h => absurd h.1 (Nat.not_lt_zero _)⟩) (fun _ _ _ => rfl), fun t ht => absurd ht (Nat.not_lt_zero _)⟩, n74, fun y _ => by dsimp only; rw [a71, a72, a73]; exact ⟨rfl, rfl, rfl⟩⟩ ?_ ?_ (fun z hz => ⟨z, rfl, hz⟩)
      · rintro t ⟨w, z⟩ ht ⟨e1, hF, ⟨L, P, hTM⟩, hz4, hz1⟩
        simp only at e1 hF hTM hz4 hz1
        subst e1
        dsimp only
        have hTz := hT.cg (hF.f 64 (by decide) (by decide)) (hF.f 65 (by decide) (by decide)) (hF.f 66 (by decide) (by decide))
        have hPz : MP j o v z := hF.tra (fun q => MP j o v q) hP
        have l8 := (hn t ht).1
        have el : g 74 (6 * (f + 1) + t) = (lenM g (f + 1) t : Int) := by unfold lenM; rw [Int.toNat_of_nonneg l8.1]
        unfold GB_X12_ranksFrom_5
        rw [rdZ_at (f + 1) (by omega) (by omega), hF.f 66 (by decide) (by decide), hm1.2.2.1, ck_ok (by omega), ck_ok (by omega), if_neg (by omega), hTz.own hf hi, cp_ok, hTz.btw hPz q hi ht, cp_ok, lt_ok]
        refine lp_gi (fun s y => y.1 = (s : Int) ∧ Fr [71, 72, 73, 74] [] g y.2 ∧ (∃ L P, TM8 y.2 (6 * f + i) L (fun n k => (n < t ∧ k < lenM g (f + 1) n) ∨ (n = t ∧ k < s)) (fun n k => own f i + spS j o v (lag f i) (lag (f + 1) n) + prM g (f + 1) n k) P) ∧ (∀ u, u ≠ 6 * f + i → y.2 74 u = g 74 u) ∧ ∀ u, u < 8 * (6 * f + i) ∨ 8 * (6 * f + i) + 8 ≤ u → y.2 71 u = g 71 u ∧ y.2 72 u = g 72 u ∧ y.2 73 u = g 73 u) (fun y => Fr [71, 72, 73, 74] [] g y ∧ (∃ L P, TM8 y (6 * f + i) L (fun n k => (n < t ∧ k < lenM g (f + 1) n) ∨ (n = t ∧ k < lenM g (f + 1) t)) (fun n k => own f i + spS j o v (lag f i) (lag (f + 1) n) + prM g (f + 1) n k) P) ∧ (∀ u, u ≠ 6 * f + i → y 74 u = g 74 u) ∧ ∀ u, u < 8 * (6 * f + i) ∨ 8 * (6 * f + i) + 8 ≤ u → y 71 u = g 71 u ∧ y 72 u = g 72 u ∧ y 73 u = g 73 u) (lenM g (f + 1) t) (by omega) ⟨rfl, hF, ⟨L, P, hTM.cg (fun n k => by constructor <;> intro h <;> omega)⟩, hz4, hz1⟩ ?_ ?_ ?_
        · rintro s ⟨w, y⟩ hs ⟨e1, hG, ⟨L, P, hTM⟩, hy4, hy1⟩
          simp only at e1 hG hTM hy4 hy1
          subst e1
          dsimp only
          have c0 := hCb t s ht hs
          obtain ⟨y', L', P', r1, r2, r3, r4⟩ := m_ranks (a := t) (b := s) (by omega) (show i < 6 by omega) hTM (fun n k hnk => by omega) (fun n k hnk => by
            have : n < m (f + 1) ∧ k < lenM g (f + 1) n := by
              rcases hnk with h | ⟨rfl, h⟩
              · exact ⟨by omega, h.2⟩
              · exact ⟨ht, by omega⟩
            have := hCb n k this.1 this.2
            omega) (by omega)
          unfold GB_X12_ranksFrom_3 GF_X12_rankAt
          rw [rdZ_at (6 * (f + 1) + t) (by omega) (by omega), hy4 _ (by omega), el, ck_ok (by omega), ck_ok (by omega), if_neg (by omega), cp_ok, rdZ_at (8 * (6 * (f + 1) + t) + s) (by omega) (by omega), (hy1 _ (by omega)).1]
          unfold prM at r1
          rw [r1, cp_ok, lt_ok]
          refine ⟨_, rfl, by dsimp only; omega, hG.tr (fF_X12_ranks Fr.rf r1) (by decide) (by decide), ⟨L', P', r2.cg (fun n k => by constructor <;> intro h <;> omega)⟩, fun u hu => (r3 u hu).trans (hy4 u hu), fun u hu => ?_⟩
          dsimp only
          have x1 := r4 u hu
          have x2 := hy1 u hu
          exact ⟨x1.1.trans x2.1, x1.2.1.trans x2.2.1, x1.2.2.trans x2.2.2⟩
        · rintro ⟨w, y⟩ ⟨e1, hG, hTM, hy4, hy1⟩
          simp only at e1 hG hTM hy4 hy1
          subst e1
          dsimp only
          refine ⟨y, ?_, hG, hTM, hy4, hy1⟩
          unfold GB_X12_ranksFrom_3
          rw [rdZ_at (6 * (f + 1) + t) (by omega) (by omega), hy4 _ (by omega), el, ck_ok (by omega), ck_ok (by omega), if_pos (by omega)]
        · rintro y ⟨hG, ⟨L, P, hTM⟩, hy4, hy1⟩
          unfold GC_X12_ranksFrom_4
          rw [lt_ok]
          refine ⟨_, rfl, by dsimp only; omega, hG, ⟨L, P, hTM.cg (fun n k => ⟨fun h => ?_, fun h => ?_⟩)⟩, hy4, hy1⟩
          · rcases h with h | ⟨rfl, h⟩
            · exact ⟨by omega, h.2⟩
            · exact ⟨by omega, h⟩
          · by_cases c : n = t
            · subst c
              exact Or.inr ⟨rfl, h.2⟩
            · exact Or.inl ⟨by omega, h.2⟩
      · rintro ⟨w, z⟩ ⟨e1, hF, hTM, hz4, hz1⟩
        simp only at e1 hF hTM hz4 hz1
        subst e1
        dsimp only
        refine ⟨z, ?_, hTM, hz4, hz1⟩
        unfold GB_X12_ranksFrom_5
        rw [rdZ_at (f + 1) (by omega) (by omega), hF.f 66 (by decide) (by decide), hm1.2.2.1, ck_ok (by omega), ck_ok (by omega), if_pos (by omega)]
    obtain ⟨g', e', ⟨L, P, t1, t2, t3⟩, h74', h71'⟩ := hmain
    refine ⟨g', e', ?_, h74', h71'⟩
    have hl : lenM g' f i = L := by unfold lenM; rw [t1]; exact Int.toNat_natCast L
    have hln : ∀ n, n < m (f + 1) → lenM g' (f + 1) n = lenM g (f + 1) n ∧ ∀ k, k < lenM g (f + 1) n → prM g' (f + 1) n k = prM g (f + 1) n k := fun n hn' => by
      have a2 := (hn n hn').1.2
      refine ⟨by unfold lenM; rw [h74' _ (by omega)], fun k hk => by unfold prM; rw [(h71' _ (by omega)).1]⟩
    have hPb : ∀ t, t < L → (P t).1 < m (f + 1) ∧ (P t).2 < lenM g (f + 1) (P t).1 := fun t ht => t2.2.1 t ht
    have hnx : ∀ t, t < L → nxM g' f i t = P t := fun t ht => by
      have a1 := (t3 t ht).2
      unfold nxM
      rw [a1.1, a1.2]
      exact Prod.ext (Int.toNat_natCast _) (Int.toNat_natCast _)
    refine ⟨⟨by rw [t1]; omega, by rw [hl]; exact t2.1⟩, fun _ t ht => ?_, fun q2 => by omega, fun _ => ⟨?_, fun t ht => ?_⟩, fun t ht => ?_⟩
    · rw [hl] at ht
      rw [(t3 t ht).2.1, (t3 t ht).2.2]
      omega
    · rw [hl]
      exact (t2.cg (fun n k => ⟨fun hs => ⟨hs.1, by rw [(hln n hs.1).1]; exact hs.2⟩, fun hs => ⟨hs.1, by have := hs.2; rw [(hln n hs.1).1] at this; exact this⟩⟩) (fun n k hs => by rw [(hln n hs.1).2 k hs.2])).pc hnx
    · rw [hl] at ht
      have a2 := hPb t ht
      rw [hnx t ht, (hln _ a2.1).2 _ a2.2]
      exact (t3 t ht).1
    · rw [hl] at ht
      have a2 := hPb t ht
      have a3 := hCb _ _ a2.1 a2.2
      have a5 : prM g' f i t = own f i + spS j o v (lag f i) (lag (f + 1) (P t).1) + prM g (f + 1) (P t).1 (P t).2 := (t3 t ht).1
      rw [a5]
      exact a3
  · have qN : f + 1 = N := by omega
    obtain ⟨g', r1, r2, r3, r4, r5⟩ := m_ranks0 (g := g1) (f := f) (i := i) (c := own f i) (a := -1) (b := -1) (by omega) (by omega) a74
    rw [if_pos (by omega), hT1.own hf hi, cp_ok, r1, cp_ok]
    have hl : lenM g' f i = 1 := by unfold lenM; rw [r2]; rfl
    have e0 : prM g' f i 0 = own f i := r3
    refine ⟨g', rfl, ⟨⟨by rw [r2]; decide, by rw [hl]; decide⟩, fun q2 => absurd q2 q, fun _ => ⟨hl, e0⟩, fun q2 => absurd q2 q, fun t ht => ?_⟩, fun y hy => (r4 y hy).trans (n74 y hy), fun y hy => ?_⟩
    · rw [hl] at ht
      have t0 : t = 0 := by omega
      subst t0
      rw [e0]
      have : ((N - f : Nat) : Int) = 1 := by omega
      omega
    · have := r5 y hy
      rw [a71, a72, a73] at this
      exact this

theorem m_tops0 {g : uZ} (h : g 55 31 = 0) : ∃ g', GF_X12_tops 0 (-1) (-1) g = some g' ∧ g' 55 31 = 1 ∧ g' 75 0 = 0 := by
  unfold GF_X12_tops
  rw [lt_ok, h]
  rw [lp_for (fun _ => (0 : Int)) 0 (0 : Int) (by rfl) (by omega) (fun i hi => by omega) (by
    unfold GB_X12_tops_2
    rw [ck_ok (by decide), if_pos (by decide)])]
  unfold GC_X12_tops_6
  rw [ck_ok (by decide), if_neg (by decide), h, ck_ok (by decide), lt_ok, if_neg (by decide), pfZ_ok, lt_ok, upZ_ss]
  rw [lp_for (fun _ => ((0 : Int), upZ g 55 31 (0 + 1))) 0 (upZ g 55 31 (0 + 1)) (by rfl) (by omega) (fun i hi => by omega) (by
    dsimp only
    unfold GB_X12_tops_4
    rw [ck_ok (by decide), ck_ok (by decide), if_pos (by decide)])]
  unfold GC_X12_tops_5
  rw [wrZ_at 0 (by rfl) (by omega), wrZ_at 0 (by rfl) (by omega), wrZ_at 0 (by rfl) (by omega)]
  refine ⟨_, rfl, ?_, ?_⟩
  · rw [upZ_n (by decide), upZ_n (by decide), upZ_n (by decide), upZ_ss]
    rfl
  · rw [upZ_n (by decide), upZ_n (by decide), upZ_ss]
def MRW (N : Nat) (m : Nat → Nat) (own : Nat → Nat → Int) (st : Nat → Nat → Nat → Int) (g : uZ) : Prop := (N = 0 → g 55 31 = 1 ∧ g 75 0 = 0) ∧ (0 < N → (∀ f i, f < N → i < m f → NM N m own st g f i) ∧ ∃ (s : Nat) (P : Nat → Nat × Nat), TT8 g s (fun n k => n < m 0 ∧ k < lenM g 0 n) (prM g 0) P)
theorem TT8.cg {g : uZ} {L : Nat} {S S' : Nat → Nat → Prop} {C : Nat → Nat → Int} {P : Nat → Nat × Nat} (h : TT8 g L S C P) (hS : ∀ n k, S n k ↔ S' n k) : TT8 g L S' C P := ⟨h.1, h.2.1.cg hS (fun _ _ _ => rfl), h.2.2⟩
theorem m_laysTops {x B : Nat → Int} {n : Nat} {z0 : uZ} (hM : MB x B n z0) (hn : n ≤ 800) (hB : BOk B) (hx : XOk x) : ∃ g', GF_X12_laysTops z0 = some g' ∧ MRW (nfS B n) (mS x B) (owS x B) (stB x B) g' := by
  obtain ⟨g2, g3, e1, e2, h17, hT, hP, -, -⟩ := m_opened hM hn hB hx
  have hN := hT.1
  unfold GF_X12_laysTops
  rw [e1, cp_ok, e2, cp_ok, pfZ_ok]
  generalize hg4 : upZ g3 55 31 0 = g4
  have f4 : Fr [] [(55, 31)] g3 g4 := by rw [← hg4]; exact Fr.rf.pf (by decide)
  have a31 : g4 55 31 = 0 := by rw [← hg4, upZ_ss]
  have a17 : g4 55 17 = (nfS B n : Int) := (f4 55 17 (by decide) (by decide)).trans h17
  have hT4 := hT.cg (f4.f 64 (by decide) (by decide)) (f4.f 65 (by decide) (by decide)) (f4.f 66 (by decide) (by decide))
  have hP4 : MP (bN B 10) (bN B 11) (bN B 12) g4 := f4.tra (fun q => MP (bN B 10) (bN B 11) (bN B 12) q) hP
  rw [lt_ok, a17]
  generalize hNN : nfS B n = N at *
  have hm6 : ∀ f, f < N → mS x B f ≤ 6 := fun f hf => (hT.2 f hf).2.1
  have cgn : ∀ {f i f' i' : Nat} {y y' : uZ}, f < N → i < mS x B f → f' < N → i' < mS x B f' → (f' = f ∧ i' ≠ i ∨ f < f') → (∀ u, u ≠ 6 * f + i → y' 74 u = y 74 u) → (∀ u, u < 8 * (6 * f + i) ∨ 8 * (6 * f + i) + 8 ≤ u → y' 71 u = y 71 u ∧ y' 72 u = y 72 u ∧ y' 73 u = y 73 u) → (f' + 1 < N → ∀ n, n < mS x B (f' + 1) → lenM y (f' + 1) n ≤ 8) → NM N (mS x B) (owS x B) (stB x B) y f' i' → NM N (mS x B) (owS x B) (stB x B) y' f' i' := by
    intro f i f' i' y y' hf hi hf' hi' hne h31 h29 h8 hnc
    have q1 := hm6 f hf
    have q2 := hm6 f' hf'
    exact hnc.cg hm6 hf' hi' (fun u h1 h2 => h31 u (by omega)) (fun u t ht h1 h2 => h29 _ (by omega)) h8
  refine lp_go (fun t z => z.1 = (N : Int) - 1 - (t : Int) ∧ Fr [71, 72, 73, 74] [] g4 z.2 ∧ ∀ f i, N ≤ f + t → f < N → i < mS x B f → NM N (mS x B) (owS x B) (stB x B) z.2 f i) (fun z => Fr [71, 72, 73, 74] [] g4 z ∧ ∀ f i, f < N → i < mS x B f → NM N (mS x B) (owS x B) (stB x B) z f i) N (by omega) ⟨by dsimp only; omega, Fr.rf, fun f i h1 h2 => by omega⟩ ?_ ?_ ?_
  · rintro t ⟨w, z⟩ ht ⟨e1, hF, hz⟩
    simp only at e1 hF hz
    subst e1
    dsimp only
    obtain ⟨f, hf⟩ : ∃ f : Nat, N = f + t + 1 := ⟨N - t - 1, by omega⟩
    have ef : (N : Int) - 1 - (t : Int) = (f : Int) := by omega
    have hfN : f < N := by omega
    have m6 := hm6 f hfN
    unfold GB_X12_laysTops_5
    rw [ef, ck_ok (by omega), if_neg (by omega)]
    refine lp_gi (fun s y => y.1 = (s : Int) ∧ Fr [71, 72, 73, 74] [] g4 y.2 ∧ (∀ f' i, f < f' → f' < N → i < mS x B f' → NM N (mS x B) (owS x B) (stB x B) y.2 f' i) ∧ ∀ i, i < s → NM N (mS x B) (owS x B) (stB x B) y.2 f i) (fun y => Fr [71, 72, 73, 74] [] g4 y ∧ (∀ f' i, f < f' → f' < N → i < mS x B f' → NM N (mS x B) (owS x B) (stB x B) y f' i) ∧ ∀ i, i < mS x B f → NM N (mS x B) (owS x B) (stB x B) y f i) (mS x B f) (by omega) ⟨rfl, hF, fun f' i h1 h2 h3 => hz f' i (by omega) h2 h3, fun i hi => absurd hi (Nat.not_lt_zero _)⟩ ?_ ?_ ?_
    · rintro s ⟨w, y⟩ hs ⟨e1, hG, hy, hr⟩
      simp only at e1 hG hy hr
      subst e1
      dsimp only
      have hTy := hT4.cg (hG.f 64 (by decide) (by decide)) (hG.f 65 (by decide) (by decide)) (hG.f 66 (by decide) (by decide))
      have hPy : MP (bN B 10) (bN B 11) (bN B 12) y := hG.tra (fun q => MP (bN B 10) (bN B 11) (bN B 12) q) hP4
      obtain ⟨y', n1, n2, n3, n4⟩ := m_node ((hG 55 17 (by decide) (by decide)).trans a17) hTy hPy hfN hs (fun q n hn => hy (f + 1) n (by omega) q hn)
      unfold GB_X12_laysTops_3
      rw [rdZ_at f rfl (by omega), (hTy.2 f hfN).2.2.1, ck_ok (by omega), ck_ok (by omega), if_neg (by omega), n1, cp_ok, lt_ok]
      refine ⟨_, rfl, by dsimp only; omega, hG.tr (fF_X12_ranksFrom Fr.rf n1) (by decide) (by decide), fun f' i h1 h2 h3 => ?_, fun i hi => ?_⟩
      · exact cgn hfN hs h2 h3 (Or.inr h1) n3 n4 (fun q n hn => (hy (f' + 1) n (by omega) q hn).1.2) (hy f' i h1 h2 h3)
      · by_cases q : i = s
        · subst q
          exact n2
        · exact cgn hfN hs hfN (show i < mS x B f by omega) (Or.inl ⟨rfl, q⟩) n3 n4 (fun q n hn => (hy (f + 1) n (by omega) q hn).1.2) (hr i (by omega))
    · rintro ⟨w, y⟩ ⟨e1, hG, hy, hr⟩
      simp only at e1 hG hy hr
      subst e1
      dsimp only
      have hTy := hT4.cg (hG.f 64 (by decide) (by decide)) (hG.f 65 (by decide) (by decide)) (hG.f 66 (by decide) (by decide))
      refine ⟨y, ?_, hG, hy, hr⟩
      unfold GB_X12_laysTops_3
      rw [rdZ_at f rfl (by omega), (hTy.2 f hfN).2.2.1, ck_ok (by omega), ck_ok (by omega), if_pos (by omega)]
    · rintro y ⟨hG, hy, hr⟩
      unfold GC_X12_laysTops_4
      rw [lt_ok]
      refine ⟨_, rfl, by dsimp only; omega, hG, fun f' i h1 h2 h3 => ?_⟩
      by_cases q : f' = f
      · subst q
        exact hr i h3
      · exact hy f' i (by omega) h2 h3
  · rintro ⟨w, z⟩ ⟨e1, hF, hz⟩
    simp only at e1 hF hz
    subst e1
    dsimp only
    refine ⟨z, ?_, hF, fun f i h1 h2 => hz f i (by omega) h1 h2⟩
    unfold GB_X12_laysTops_5
    rw [ck_ok (by omega), if_pos (by omega)]
  · rintro z ⟨hF, hz⟩
    have hTz := hT4.cg (hF.f 64 (by decide) (by decide)) (hF.f 65 (by decide) (by decide)) (hF.f 66 (by decide) (by decide))
    have z31 : z 55 31 = 0 := (hF 55 31 (by decide) (by decide)).trans a31
    unfold GC_X12_laysTops_12
    rw [hF 55 17 (by decide) (by decide), a17, ck_ok (by omega)]
    by_cases hN0 : N = 0
    · obtain ⟨g', t1, t2, t3⟩ := m_tops0 z31
      rw [if_pos (by omega), t1, cp_ok]
      exact ⟨g', rfl, fun _ => ⟨t2, t3⟩, fun h => by omega⟩
    · have m6 := hm6 0 (by omega)
      have hNpos : 0 < N := by omega
      rw [if_neg (by omega)]
      have hCb : ∀ n k, n < mS x B 0 → k < lenM z 0 n → 0 ≤ prM z 0 n k ∧ prM z 0 n k ≤ 10000000 := fun n k h1 h2 => by
        have := (hz 0 n hNpos h1).2.2.2.2 k h2
        have : ((N - 0 : Nat) : Int) ≤ 100 := by omega
        omega
      refine lp_go (fun t y => y.1 = (t : Int) ∧ Fr [75, 76, 77] [(55, 31)] z y.2 ∧ ∃ L P, TT8 y.2 L (fun n k => n < t ∧ k < lenM z 0 n) (prM z 0) P) (fun y => Fr [75, 76, 77] [(55, 31)] z y ∧ ∃ L P, TT8 y L (fun n k => n < mS x B 0 ∧ k < lenM z 0 n) (prM z 0) P) (mS x B 0) (by omega) ⟨rfl, Fr.rf, 0, fun _ => (0, 0), z31, (TopL.nil _ _).cg (fun n k => ⟨fun h => h.elim, fun h => absurd h.1 (Nat.not_lt_zero _)⟩) (fun _ _ _ => rfl), fun t ht => absurd ht (Nat.not_lt_zero _)⟩ ?_ ?_ ?_
      · rintro t ⟨w, y⟩ ht ⟨e1, hG, L, P, hTT⟩
        simp only at e1 hG hTT
        subst e1
        dsimp only
        have l8 := (hz 0 t hNpos ht).1
        rw [Nat.mul_zero, Nat.zero_add] at l8
        have el : z 74 t = (lenM z 0 t : Int) := by unfold lenM; rw [Nat.mul_zero, Nat.zero_add, Int.toNat_of_nonneg l8.1]
        unfold GB_X12_laysTops_10
        rw [rdZ_at 0 (by rfl) (by omega), hG.f 66 (by decide) (by decide), (hTz.2 0 hNpos).2.2.1, ck_ok (by omega), ck_ok (by omega), if_neg (by omega)]
        refine lp_gi (fun s u => u.1 = (s : Int) ∧ Fr [75, 76, 77] [(55, 31)] z u.2 ∧ ∃ L P, TT8 u.2 L (fun n k => (n < t ∧ k < lenM z 0 n) ∨ (n = t ∧ k < s)) (prM z 0) P) (fun u => Fr [75, 76, 77] [(55, 31)] z u ∧ ∃ L P, TT8 u L (fun n k => (n < t ∧ k < lenM z 0 n) ∨ (n = t ∧ k < lenM z 0 t)) (prM z 0) P) (lenM z 0 t) (by omega) ⟨rfl, hG, L, P, hTT.cg (fun n k => by constructor <;> intro h <;> omega)⟩ ?_ ?_ ?_
        · rintro s ⟨w, u⟩ hs ⟨e1, hU, L, P, hTU⟩
          simp only at e1 hU hTU
          subst e1
          dsimp only
          obtain ⟨u', L', P', r1, r2⟩ := m_tops (a := t) (b := s) hTU (fun n k hnk => by omega) (fun n k hnk => by
            have : n < mS x B 0 ∧ k < lenM z 0 n := by
              rcases hnk with h | ⟨rfl, h⟩
              · exact ⟨by omega, h.2⟩
              · exact ⟨ht, by omega⟩
            exact hCb n k this.1 this.2) (hCb t s ht hs)
          have fr := fF_X12_tops Fr.rf r1
          unfold GB_X12_laysTops_8 GF_X12_rankAt
          rw [rdZ_at t rfl (by omega), hU.f 74 (by decide) (by decide), el, ck_ok (by omega), ck_ok (by omega), if_neg (by omega), cp_ok, rdZ_at (8 * (6 * 0 + t) + s) (by omega) (by omega), hU.f 71 (by decide) (by decide)]
          unfold prM at r1
          rw [r1, cp_ok, lt_ok]
          exact ⟨_, rfl, by dsimp only; omega, hU.tr fr (by decide) (by decide), L', P', r2.cg (fun n k => by constructor <;> intro h <;> omega)⟩
        · rintro ⟨w, u⟩ ⟨e1, hU, hTU⟩
          simp only at e1 hU hTU
          subst e1
          dsimp only
          refine ⟨u, ?_, hU, hTU⟩
          unfold GB_X12_laysTops_8
          rw [rdZ_at t rfl (by omega), hU.f 74 (by decide) (by decide), el, ck_ok (by omega), ck_ok (by omega), if_pos (by omega)]
        · rintro u ⟨hU, L, P, hTU⟩
          unfold GC_X12_laysTops_9
          rw [lt_ok]
          refine ⟨_, rfl, by dsimp only; omega, hU, L, P, hTU.cg (fun n k => ⟨fun h => ?_, fun h => ?_⟩)⟩
          · rcases h with h | ⟨rfl, h⟩
            · exact ⟨by omega, h.2⟩
            · exact ⟨by omega, h⟩
          · by_cases c : n = t
            · subst c
              exact Or.inr ⟨rfl, h.2⟩
            · exact Or.inl ⟨by omega, h.2⟩
      · rintro ⟨w, y⟩ ⟨e1, hG, hTT⟩
        simp only at e1 hG hTT
        subst e1
        dsimp only
        refine ⟨y, ?_, hG, hTT⟩
        unfold GB_X12_laysTops_10
        rw [rdZ_at 0 (by rfl) (by omega), hG.f 66 (by decide) (by decide), (hTz.2 0 hNpos).2.2.1, ck_ok (by omega), ck_ok (by omega), if_pos (by omega)]
      · rintro y ⟨hG, L, P, hTT⟩
        have y74 : y 74 = z 74 := hG.f 74 (by decide) (by decide)
        have y71 : y 71 = z 71 := hG.f 71 (by decide) (by decide)
        refine ⟨y, rfl, fun h => absurd h hN0, fun _ => ⟨fun f i hf hi => ?_, L, P, ?_⟩⟩
        · exact (hz f i hf hi).cg hm6 hf hi (fun u _ _ => by rw [y74]) (fun u t _ _ _ => by rw [y71, hG.f 72 (by decide) (by decide), hG.f 73 (by decide) (by decide)]; exact ⟨rfl, rfl, rfl⟩) (fun q n hn => (hz (f + 1) n q hn).1.2)
        · have hl : ∀ n, lenM y 0 n = lenM z 0 n := fun n => by unfold lenM; rw [y74]
          refine ⟨hTT.1, hTT.2.1.cg (fun n k => by rw [hl]) (fun n k _ => by unfold prM; rw [y71]), fun t ht => ?_⟩
          have := hTT.2.2 t ht
          unfold prM at this ⊢
          rw [y71]
          exact this
