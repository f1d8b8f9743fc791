/-! sample, count, feed, tune, hush, cut, poke -/
theorem IVn.sz {R M : uZ → Prop} {n : Nat} {g : uZ} (h : IVn R M n g) : g 55 6 = (n : Int) ∧ g 59 = g 2 ∧ g 56 = g 5 := h.2.2.2.2.2.2.1
theorem p7_has {g : uZ} {n : Nat} (h : g 1 2 = (n : Int)) (hn : n ≤ 800) {a : Int} (ha : inR a) : GF_X7_has a g = some (if 0 ≤ a ∧ a < (n : Int) then 1 else 0) := by
  unfold GF_X7_has GJ_X7_has_1 GJ_X7_has_2
  rw [ck_ok ha, h]
  by_cases h0 : a < 0
  · rw [if_pos h0, bzZ_0, if_neg (by omega)]
  · rw [if_neg h0, ck_ok (by omega)]
    by_cases h1 : (n : Int) ≤ a
    · rw [if_pos h1, bzZ_0, if_neg (by omega)]
    · rw [if_neg h1, bzZ_1, if_pos (by omega)]
theorem o_sample {R M : uZ → Prop} (hR : Kp R) (hM : Kp M) {a : Int} (ha : inR a) : opT (IV R M) [(1, 1)] (GF_X11_sample a) (GF_X12_sample a) := by
  rintro g ⟨n, hI⟩
  have hn := hI.n
  have h9 : upZ g 55 9 0 55 9 = 0 := upZ_ss _ _ _ _
  obtain ⟨s1, s2, s3⟩ := hI.sz
  have e6 : upZ g 55 9 0 55 6 = (n : Int) := by rw [upZ_sn (by decide)]; exact s1
  unfold GF_X11_sample
  rw [p7_has hI.s hn ha, cp_ok]
  by_cases hA : 0 ≤ a ∧ a < (n : Int)
  · left
    obtain ⟨j, rfl⟩ : ∃ j : Nat, a = (j : Int) := ⟨a.toNat, by omega⟩
    rw [if_pos hA, ck_ok (by decide), if_neg (by decide), p7_at hI.s hn ha, cp_ok]
    have hB : GF_X12_sample (j : Int) g = some (atS (g 2) n (j : Int), upZ g 55 9 0) := by
      unfold GF_X12_sample GJ_X12_sample_1
      rw [pfZ_ok, e6, m_isIn _ ha (by decide) (by omega), cp_ok, if_pos (by omega), m_right1 h9, clZ_ok, ck_ok (by decide), if_neg (by decide), rdZ_at j rfl (by omega), upZ_n (by decide), s2]
      unfold atS
      rw [if_pos hA, Int.toNat_natCast]
    exact ⟨_, _, _, rfl, hB, h9, n, hI.flag hR hM 0⟩
  · right
    rw [if_neg hA, ck_ok (by decide), if_pos rfl]
    have hB : GF_X12_sample a g = some (0, upZ (upZ g 55 9 0) 55 9 1) := by
      unfold GF_X12_sample GJ_X12_sample_1
      rw [pfZ_ok, e6, m_isIn _ ha (by decide) (by omega), cp_ok, if_neg (by omega), m_right0 h9 (Or.inl rfl), clZ_ok, ck_ok (by decide), if_pos rfl]
    exact ⟨(1, 1), List.mem_singleton.mpr rfl, _, _, _, rfl, hB, upZ_ss _ _ _ _, n, (hI.flag hR hM 0).flag hR hM 1⟩
theorem o_count {R M : uZ → Prop} (hR : Kp R) (hM : Kp M) {a : Int} (ha : inR a) : opT (IV R M) [(1, 1)] (GF_X11_count a) (GF_X12_count a) := by
  rintro g ⟨n, hI⟩
  have hn := hI.n
  have h9 : upZ g 55 9 0 55 9 = 0 := upZ_ss _ _ _ _
  obtain ⟨s1, s2, s3⟩ := hI.sz
  obtain ⟨K, -, k2, k3, -⟩ := hI.tn
  obtain ⟨⟨tp, -, t1, t2⟩, -⟩ := hI.2.2.2.2.2.2.2
  by_cases hA : 0 ≤ a ∧ a ≤ 17
  · left
    have hB : GF_X12_count a g = some (if a = 0 then (n : Int) else if a = 1 then (nfS (g 5) n : Int) else if a = 16 then (tp : Int) else if a = 17 then (K : Int) else g 5 a.toNat, upZ g 55 9 0) := by
      unfold GF_X12_count
      rw [pfZ_ok, m_isIn _ ha (by decide) (by decide), cp_ok, if_pos hA, m_right1 h9, clZ_ok, ck_ok (by decide), if_neg (by decide), ck_ok ha, m_frames (hI.mb (fr9 g 0)) hn hI.b, cp_ok, upZ_sn (by decide), upZ_sn (by decide), upZ_sn (by decide), upZ_n (by decide), s1, s3, t2, k3]
      by_cases a0 : a = 0
      · rw [if_pos a0, if_pos a0]
      · rw [if_neg a0, if_neg a0]
        by_cases a1 : a = 1
        · rw [if_pos a1, if_pos a1]
        · rw [if_neg a1, if_neg a1]
          by_cases a2 : a = 16
          · rw [if_pos a2, if_pos a2]
          · rw [if_neg a2, if_neg a2]
            by_cases a3 : a = 17
            · rw [if_pos a3, if_pos a3]
            · rw [if_neg a3, if_neg a3, rdZ_ok (by omega) (by omega)]
    refine ⟨_, g, _, ?_, hB, h9, n, hI.flag hR hM 0⟩
    unfold GF_X11_count GJ_X11_count_2 GF_X7_size GF_X7_tapeSize GF_X10_size GF_X0_of GJ_X0_of_1 GJ_X0_of_2
    rw [ck_ok ha, if_neg (by omega), if_neg (by omega), ck_ok (by decide), if_neg (by decide), ck_ok ha, cp_ok, cp_ok, cp_ok, p2_size hI.s hn hI.b, cp_ok, hI.s, t1, k2, ck_ok ha]
    by_cases a0 : a = 0
    · rw [if_pos a0, if_pos a0]
    · rw [if_neg a0, if_neg a0]
      by_cases a1 : a = 1
      · rw [if_pos a1, if_pos a1]
      · rw [if_neg a1, if_neg a1]
        by_cases a2 : a = 16
        · rw [if_pos a2, if_pos a2]
        · rw [if_neg a2, if_neg a2]
          by_cases a3 : a = 17
          · rw [if_pos a3, if_pos a3]
          · rw [if_neg a3, if_neg a3, if_neg (by omega), if_pos (by omega), rdZ_ok (by omega) (by omega), cp_ok]
  · right
    have hB : GF_X12_count a g = some (0, upZ (upZ g 55 9 0) 55 9 1) := by
      unfold GF_X12_count
      rw [pfZ_ok, m_isIn _ ha (by decide) (by decide), cp_ok, if_neg hA, m_right0 h9 (Or.inl rfl), clZ_ok, ck_ok (by decide), if_pos rfl]
    refine ⟨(1, 1), List.mem_singleton.mpr rfl, _, g, _, ?_, hB, upZ_ss _ _ _ _, n, (hI.flag hR hM 0).flag hR hM 1⟩
    unfold GF_X11_count GJ_X11_count_1 GJ_X11_count_2
    rw [ck_ok ha]
    by_cases a0 : a < 0
    · rw [if_pos a0, ck_ok (by decide), if_pos rfl]
    · rw [if_neg a0, if_pos (by omega), ck_ok (by decide), if_pos rfl]
/-- what the class has after a change -/
def CP (n : Nat) (g : uZ) : Prop := g 1 2 = (n : Int) ∧ n ≤ 800 ∧ XOk (g 2) ∧ BOk (g 5) ∧ Cache (g 2) (g 5) n g ∧ (g 0 10 = 0 ∧ g 0 11 = 0 ∧ g 0 12 = 0)
theorem CP.iv {R M : uZ → Prop} {n : Nat} {g : uZ} (h : CP n g) (hm : MB (g 2) (g 5) n g) (ht : TT g) : IV R M g := ⟨n, h.1, h.2.1, h.2.2.1, h.2.2.2.1, h.2.2.2.2.1, Or.inl h.2.2.2.2.2, hm, ht⟩
theorem p11_changed {g : uZ} {n : Nat} {a b : Int} (h : g 1 2 = (n : Int)) (hn : n ≤ 800) (hx : XOk (g 2)) (hB : BOk (g 5)) (ha : inR a) (hb : inR b) (hk : ∀ f, f < 100 → g 10 f = 0 ∨ (g 10 f = 1 ∧ ((((f * bN (g 5) 2 : Nat) : Int) < b ∧ a < ((f * bN (g 5) 2 + rcS (g 5) : Nat) : Int)) ∨ (f * bN (g 5) 2 + rcS (g 5) ≤ n ∧ rowOk (g 2) (bN (g 5) 2) (bN (g 5) 3) (bN (g 5) 5) g f)))) : ∃ g', GF_X11_changedFrom a b g = some ((n : Int), g') ∧ CP n g' ∧ Fr [10] [(0, 10), (0, 11), (0, 12)] g g' := by
  unfold GF_X11_changedFrom GF_X11_forgetAnswers GF_X7_size
  obtain ⟨g1, h1, h2⟩ := p2_forgetThose (g := g) hB ha hb
  have f1 : Fr [10] [] g g1 := fF_X2_forgetThose Fr.rf h1
  rw [h1, cp_ok, pfZ_ok, pfZ_ok, pfZ_ok, cp_ok, cp_ok]
  have f2 : Fr [10] [(0, 10), (0, 11), (0, 12)] g (upZ (upZ (upZ g1 0 10 0) 0 11 0) 0 12 0) := ((((Fr.rf (L := [10]) (M := [(0, 10), (0, 11), (0, 12)])).tr f1 (by decide) (by decide)).pf (by decide)).pf (by decide)).pf (by decide)
  generalize hg2 : upZ (upZ (upZ g1 0 10 0) 0 11 0) 0 12 0 = g2 at f2
  have e2 : g2 2 = g 2 := f2.f 2 (by decide) (by decide)
  have e5 : g2 5 = g 5 := f2.f 5 (by decide) (by decide)
  have e1 : g2 1 2 = (n : Int) := (f2 1 2 (by decide) (by decide)).trans h
  refine ⟨g2, by rw [e1], ⟨e1, hn, by rw [e2]; exact hx, by rw [e5]; exact hB, ?_, ?_⟩, f2⟩
  · rw [e2, e5]
    intro f hf
    have e10 : g2 10 f = g1 10 f := by rw [← hg2, upZ_n (by decide), upZ_n (by decide), upZ_n (by decide)]
    have q := h2 f hf
    rw [e10, q]
    rcases hk f hf with k0 | ⟨k1, k2 | k2⟩
    · left
      split
      · rfl
      · exact k0
    · left
      rw [if_pos k2]
    · by_cases c : ((f * bN (g 5) 2 : Nat) : Int) < b ∧ a < ((f * bN (g 5) 2 + rcS (g 5) : Nat) : Int)
      · left
        rw [if_pos c]
      · right
        rw [if_neg c]
        exact ⟨k1, k2.1, f2.tra (fun q => rowOk (g 2) (bN (g 5) 2) (bN (g 5) 3) (bN (g 5) 5) q f) k2.2⟩
  · rw [← hg2]
    refine ⟨?_, ?_, ?_⟩
    · rw [upZ_sn (by decide), upZ_sn (by decide), upZ_ss]
    · rw [upZ_sn (by decide), upZ_ss]
    · rw [upZ_ss]
theorem o_cut {R M : uZ → Prop} (hR : Kp R) (hM : Kp M) {a : Int} (ha : inR a) : opV (IV R M) (GF_X11_cut a) (GF_X12_cut a) := by
  rintro g ⟨n, hI⟩
  have hn := hI.n
  obtain ⟨s1, s2, s3⟩ := hI.sz
  have e6 : upZ g 55 9 0 55 6 = (n : Int) := by rw [upZ_sn (by decide)]; exact s1
  by_cases hA : 0 ≤ a ∧ a ≤ (n : Int)
  · obtain ⟨k, rfl⟩ : ∃ k : Nat, a = (k : Int) := ⟨a.toNat, by omega⟩
    have f5 : Fr [] [(1, 2)] g (upZ g 1 2 ((n - k : Nat) : Int)) := Fr.rf.pf (by decide)
    have hdr : GF_X7_drop (k : Int) g = some (upZ g 1 2 ((n - k : Nat) : Int)) := by
      unfold GF_X7_drop
      rw [hI.s, p_max g (by decide) (by omega), cp_ok, pfZ_ok]
      congr 2
      split <;> omega
    generalize hg5 : upZ g 1 2 ((n - k : Nat) : Int) = g5 at *
    have e2 : g5 2 = g 2 := f5.f 2 (by decide) (by decide)
    have e5 : g5 5 = g 5 := f5.f 5 (by decide) (by decide)
    have e10 : g5 10 = g 10 := f5.f 10 (by decide) (by decide)
    have e1 : g5 1 2 = ((n - k : Nat) : Int) := by rw [← hg5, upZ_ss]
    obtain ⟨g7, h7, hcp, f7⟩ := p11_changed (g := g5) (n := n - k) (a := ((n - k : Nat) : Int)) (b := (n : Int)) e1 (by omega) (by rw [e2]; exact hI.x) (by rw [e5]; exact hI.b) (by omega) (by omega) (fun f hf => by
      rw [e10, e5, e2]
      rcases hI.2.2.2.2.1 f hf with q | ⟨q1, q2, q3⟩
      · exact Or.inl q
      · refine Or.inr ⟨q1, ?_⟩
        by_cases c : f * bN (g 5) 2 + rcS (g 5) ≤ n - k
        · exact Or.inr ⟨c, f5.tra (fun q => rowOk (g 2) (bN (g 5) 2) (bN (g 5) 3) (bN (g 5) 5) q f) q3⟩
        · have hr : 0 < rcS (g 5) := by unfold rcS; omega
          exact Or.inl ⟨by omega, by omega⟩)
    have f57 : Fr [10] [(0, 10), (0, 11), (0, 12), (1, 2)] g g7 := ((Fr.rf (L := [10]) (M := [(0, 10), (0, 11), (0, 12), (1, 2)])).tr f5 (by decide) (by decide)).tr f7 (by decide) (by decide)
    have f8 : Fr [] [(55, 6), (55, 9)] g7 (upZ (upZ g7 55 9 0) 55 6 ((n : Int) - (k : Int))) := (Fr.rf.pf (by decide)).pf (by decide)
    have e76 : upZ g7 55 9 0 55 6 = (n : Int) := by rw [upZ_sn (by decide), f57 55 6 (by decide) (by decide)]; exact s1
    have hB : GF_X12_cut (k : Int) g7 = some (((n - k : Nat) : Int), upZ (upZ g7 55 9 0) 55 6 ((n : Int) - (k : Int))) := by
      unfold GF_X12_cut
      rw [pfZ_ok, e76, m_isIn _ ha (by decide) (by omega), cp_ok, if_pos hA, ck_ok (by decide), if_neg (by decide), pfZ_ok, upZ_ss, show (n : Int) - (k : Int) = ((n - k : Nat) : Int) by omega]
    refine ⟨_, g7, _, ?_, hB, ?_⟩
    · unfold GF_X11_cut GF_X7_size
      rw [ck_ok ha, if_neg (by omega), cp_ok, hI.s, ck_ok (by omega), if_pos hA.2, hdr, cp_ok, cp_ok, cp_ok, e1, h7, clZ_ok]
    · generalize hg8 : upZ (upZ g7 55 9 0) 55 6 ((n : Int) - (k : Int)) = g8 at f8
      have hcp8 : CP (n - k) g8 := f8.tra (fun q => CP (n - k) q) hcp
      refine hcp8.iv ⟨?_, ?_, ?_⟩ ?_
      · rw [← hg8, upZ_ss]
        omega
      · rw [f8.f 59 (by decide) (by decide), f57.f 59 (by decide) (by decide), s2, f8.f 2 (by decide) (by decide), f57.f 2 (by decide) (by decide)]
      · rw [f8.f 56 (by decide) (by decide), f57.f 56 (by decide) (by decide), s3, f8.f 5 (by decide) (by decide), f57.f 5 (by decide) (by decide)]
      · exact f8.tra TT (f57.tra TT hI.2.2.2.2.2.2.2)
  · have hB : GF_X12_cut a g = some (-1000, upZ g 55 9 0) := by
      unfold GF_X12_cut
      rw [pfZ_ok, e6, m_isIn _ ha (by decide) (by omega), cp_ok, if_neg hA, ck_ok (by decide), if_pos rfl]
    refine ⟨_, g, _, ?_, hB, n, hI.flag hR hM 0⟩
    unfold GF_X11_cut GJ_X11_cut_1 GF_X7_size
    rw [ck_ok ha]
    by_cases a0 : a < 0
    · rw [if_pos a0]
    · rw [if_neg a0, cp_ok, hI.s, ck_ok (by omega), if_neg (by omega)]
theorem o_poke {R M : uZ → Prop} (hR : Kp R) (hM : Kp M) {a b : Int} (ha : inR a) (hb : inR b) : opV (IV R M) (GF_X11_poke a b) (GF_X12_poke a b) := by
  rintro g ⟨n, hI⟩
  have hn := hI.n
  obtain ⟨s1, s2, s3⟩ := hI.sz
  have e6 : upZ g 55 9 0 55 6 = (n : Int) := by rw [upZ_sn (by decide)]; exact s1
  by_cases hA : (0 ≤ a ∧ a < (n : Int)) ∧ -128 ≤ b ∧ b ≤ 127
  · obtain ⟨k, rfl⟩ : ∃ k : Nat, a = (k : Int) := ⟨a.toNat, by omega⟩
    have f5 : Fr [2] [] g (upZ g 2 k b) := Fr.rf.wr (by decide)
    have hpt : GF_X7_put (k : Int) b g = some (upZ g 2 k b) := by
      unfold GF_X7_put GJ_X7_put_1
      rw [p7_has hI.s hn ha, cp_ok, if_pos hA.1, ck_ok (by decide), if_neg (by decide), wrZ_at k rfl (by omega)]
    have c2n : ∀ j, j ≠ k → upZ g 2 k b 2 j = g 2 j := fun j hj => by rw [upZ_sn hj]
    have c2k : upZ g 2 k b 2 k = b := upZ_ss _ _ _ _
    generalize hg5 : upZ g 2 k b = g5 at *
    have e5 : g5 5 = g 5 := f5.f 5 (by decide) (by decide)
    have e10 : g5 10 = g 10 := f5.f 10 (by decide) (by decide)
    have e1 : g5 1 2 = (n : Int) := (f5 1 2 (by decide) (by decide)).trans hI.s
    have hx5 : XOk (g5 2) := fun j => by
      by_cases q : j = k
      · rw [q, c2k]; exact hA.2
      · rw [c2n j q]; exact hI.x j
    obtain ⟨g7, h7, hcp, f7⟩ := p11_changed (g := g5) (n := n) (a := (k : Int)) (b := (k : Int) + 1) e1 hn hx5 (by rw [e5]; exact hI.b) ha (by omega) (fun f hf => by
      rw [e10, e5]
      rcases hI.2.2.2.2.1 f hf with q | ⟨q1, q2, q3⟩
      · exact Or.inl q
      · refine Or.inr ⟨q1, ?_⟩
        by_cases c : f * bN (g 5) 2 ≤ k ∧ k < f * bN (g 5) 2 + rcS (g 5)
        · exact Or.inl ⟨by omega, by omega⟩
        · refine Or.inr ⟨q2, ?_⟩
          have r5 : rowOk (g 2) (bN (g 5) 2) (bN (g 5) 3) (bN (g 5) 5) g5 f := f5.tra (fun q => rowOk (g 2) (bN (g 5) 2) (bN (g 5) 3) (bN (g 5) 5) q f) q3
          refine r5.x (fun j h1 h2 => (c2n j (fun e => c ?_)).symm)
          unfold rcS
          omega)
    have f57 : Fr [2, 10] [(0, 10), (0, 11), (0, 12)] g g7 := ((Fr.rf (L := [2, 10]) (M := [(0, 10), (0, 11), (0, 12)])).tr f5 (by decide) (by decide)).tr f7 (by decide) (by decide)
    have e76 : upZ g7 55 9 0 55 6 = (n : Int) := by rw [upZ_sn (by decide), f57 55 6 (by decide) (by decide)]; exact s1
    have e59 : upZ g7 55 9 0 59 = g 2 := by rw [upZ_n (by decide), f57.f 59 (by decide) (by decide)]; exact s2
    have f8 : Fr [59] [(55, 9)] g7 (upZ (upZ g7 55 9 0) 59 k b) := (Fr.rf.pf (by decide)).wr (by decide)
    have hB : GF_X12_poke (k : Int) b g7 = some (g 2 k, upZ (upZ g7 55 9 0) 59 k b) := by
      unfold GF_X12_poke
      rw [pfZ_ok, e76, m_isIn _ ha (by decide) (by omega), cp_ok, if_pos (by omega), ck_ok (by decide), if_neg (by decide), m_isIn _ hb (by decide) (by decide), cp_ok, if_pos hA.2, ck_ok (by decide), if_neg (by decide), rdZ_at k rfl (by omega), e59, wrZ_at k rfl (by omega)]
    refine ⟨_, g7, _, ?_, hB, ?_⟩
    · unfold GF_X11_poke
      rw [p7_has hI.s hn ha, cp_ok, if_pos hA.1, ck_ok (by decide), if_neg (by decide), ck_ok hb, if_neg (by omega), if_pos hA.2.2, p7_at hI.s hn ha, cp_ok, hpt, cp_ok, h7, clZ_ok]
      unfold atS
      rw [if_pos hA.1, Int.toNat_natCast]
    · generalize hg8 : upZ (upZ g7 55 9 0) 59 k b = g8 at f8
      have hcp8 : CP n g8 := f8.tra (fun q => CP n q) hcp
      refine hcp8.iv ⟨?_, ?_, ?_⟩ ?_
      · rw [f8 55 6 (by decide) (by decide), f57 55 6 (by decide) (by decide)]
        exact s1
      · rw [f8.f 2 (by decide) (by decide), f7.f 2 (by decide) (by decide)]
        funext j
        by_cases q : j = k
        · rw [q, c2k, ← hg8, upZ_ss]
        · rw [c2n j q, ← hg8, upZ_sn q, e59]
      · rw [f8.f 56 (by decide) (by decide), f57.f 56 (by decide) (by decide), s3, f8.f 5 (by decide) (by decide), f57.f 5 (by decide) (by decide)]
      · exact f8.tra TT (f57.tra TT hI.2.2.2.2.2.2.2)
  · have hB : GF_X12_poke a b g = some (-1000, upZ g 55 9 0) := by
      unfold GF_X12_poke GJ_X12_poke_1
      rw [pfZ_ok, e6, m_isIn _ ha (by decide) (by omega), cp_ok]
      by_cases q : 0 ≤ a ∧ a < (n : Int)
      · rw [if_pos (by omega), ck_ok (by decide), if_neg (by decide), m_isIn _ hb (by decide) (by decide), cp_ok, if_neg (by omega), ck_ok (by decide), if_pos rfl]
      · rw [if_neg (by omega), ck_ok (by decide), if_pos rfl]
    refine ⟨_, g, _, ?_, hB, n, hI.flag hR hM 0⟩
    unfold GF_X11_poke GJ_X11_poke_1
    rw [p7_has hI.s hn ha, cp_ok]
    by_cases q : 0 ≤ a ∧ a < (n : Int)
    · rw [if_pos q, ck_ok (by decide), if_neg (by decide), ck_ok hb]
      by_cases b0 : b < -128
      · rw [if_pos b0]
      · rw [if_neg b0, if_neg (by omega)]
    · rw [if_neg q, ck_ok (by decide), if_pos rfl]
theorem IVn.fr2 {R M : uZ → Prop} (hR : KpL exR R) (hM : KpL exM M) {n : Nat} {g g' : uZ} (h : IVn R M n g) (hF : Fr [3, 52, 60, 61] [(1, 3), (51, 5), (55, 7), (55, 8), (55, 9)] g g') (hT : TT g') : IVn R M n g' := by
  obtain ⟨i1, i2, i3, i4, i5, i6, i7, i8⟩ := h
  have e2 : g' 2 = g 2 := hF.f 2 (by decide) (by decide)
  have e5 : g' 5 = g 5 := hF.f 5 (by decide) (by decide)
  have kp : ∀ (ex : List Nat) (S : uZ → Prop), KpL ex S → (∀ c ∈ [3, 51, 52], c ∈ ex) → S g → S g' := fun ex S hS hex => hS g g' (fun c hc hn h1 => funext fun j => hF c j (fun hm => by
    have no := inN_no hn
    have : ∀ c ∈ [3, 52, 60, 61], c = 3 ∨ c = 52 ∨ 60 ≤ c := by decide
    rcases this c hm with q | q | q
    · exact no (hex c (by rw [q]; decide))
    · exact no (hex c (by rw [q]; decide))
    · omega) (fun hm => by
    have no := inN_no hn
    have : ∀ q ∈ [(1, 3), (51, 5), (55, 7), (55, 8), (55, 9)], q.1 = 1 ∨ q.1 = 51 ∨ q.1 = 55 := by decide
    rcases this _ hm with q | q | q
    · exact h1 q
    · have q' : c = 51 := q
      exact no (hex c (by rw [q']; decide))
    · have q' : c = 55 := q
      omega)) (hF 1 2 (by decide) (by decide))
  refine ⟨(hF 1 2 (by decide) (by decide)).trans i1, i2, by rw [e2]; exact i3, by rw [e5]; exact i4, ?_, ?_, ?_, hT⟩
  · rw [e2, e5]
    exact hF.tra (fun q => Cache (g 2) (g 5) n q) i5
  · rw [hF.f 0 (by decide) (by decide), e2, e5]
    rcases i6 with i6 | ⟨k1, k2, k3, k4⟩
    · exact Or.inl i6
    · refine Or.inr ⟨k1, hF.tra (fun q => PW (g 2) (g 5) n q) k2, ?_, ?_⟩
      · rcases k3 with k3 | k3
        · exact Or.inl k3
        · exact Or.inr ⟨k3.1, kp exR R hR (by decide) k3.2⟩
      · rcases k4 with k4 | k4
        · exact Or.inl k4
        · exact Or.inr ⟨k4.1, kp exM M hM (by decide) k4.2⟩
  · rw [e2, e5]
    exact i7.cg hF (by decide) (by decide) (by decide)
theorem o_feed {R M : uZ → Prop} (hR : KpL exR R) (hM : KpL exM M) (a b c d e : Int) : opV (IV R M) (GF_X11_feed a b c d e) (GF_X12_feed a b c d e) := by
  rintro g ⟨n, hI⟩
  obtain ⟨⟨tp, t0, t1, t2⟩, t3, t4, t5, t6, t7, t8⟩ := hI.2.2.2.2.2.2.2
  obtain ⟨g1, h1, h1'⟩ := p11_feed t1 t0 a b c d e
  have f1 : Fr [3] [(1, 3)] g g1 := fF_X11_feed Fr.rf h1
  have e7 : g1 55 7 = (tp : Int) := (f1 55 7 (by decide) (by decide)).trans t2
  obtain ⟨g2, h2, h3, h4⟩ := m_feed e7 t0 a b c d e
  have f2 : Fr [60] [(55, 7), (55, 9)] g1 g2 := fF_X12_feed Fr.rf h2
  have f : Fr [3, 52, 60, 61] [(1, 3), (51, 5), (55, 7), (55, 8), (55, 9)] g g2 := ((Fr.rf (L := [3, 52, 60, 61]) (M := [(1, 3), (51, 5), (55, 7), (55, 8), (55, 9)])).tr f1 (by decide) (by decide)).tr f2 (by decide) (by decide)
  refine ⟨_, g1, g2, h1, h2, n, hI.fr2 hR hM f ?_⟩
  have e60 : g1 60 = g 3 := (f1.f 60 (by decide) (by decide)).trans t4
  have e3 : g2 3 = g1 3 := f2.f 3 (by decide) (by decide)
  have e13 : g2 1 3 = g1 1 3 := f2 1 3 (by decide) (by decide)
  have s51 : g2 51 = g 51 := (f2.f 51 (by decide) (by decide)).trans (f1.f 51 (by decide) (by decide))
  have s52 : g2 52 = g 52 := (f2.f 52 (by decide) (by decide)).trans (f1.f 52 (by decide) (by decide))
  have s61 : g2 61 = g 61 := (f2.f 61 (by decide) (by decide)).trans (f1.f 61 (by decide) (by decide))
  have s57 : g2 57 = g 57 := (f2.f 57 (by decide) (by decide)).trans (f1.f 57 (by decide) (by decide))
  have s58 : g2 58 = g 58 := (f2.f 58 (by decide) (by decide)).trans (f1.f 58 (by decide) (by decide))
  have s8 : g2 55 8 = g 55 8 := (f2 55 8 (by decide) (by decide)).trans (f1 55 8 (by decide) (by decide))
  unfold TT
  rw [e3, e13, s51, s52, s61, s57, s58, s8, h4, e60]
  by_cases q : tp + 20 ≤ 400
  · rw [if_pos q] at h1' h3
    rw [if_pos q]
    refine ⟨⟨tp + 20, q, h1'.1, h3⟩, ?_, h1'.2.symm, t5, t6, t7, t8⟩
    rw [h1'.2]
    exact fun j => tw5_r t3 j
  · rw [if_neg q] at h1' h3
    rw [if_neg q, h1']
    exact ⟨⟨tp, t0, t1, h3⟩, t3, rfl, t5, t6, t7, t8⟩
theorem o_tune {R M : uZ → Prop} (hR : KpL exR R) (hM : KpL exM M) {a : Int} (ha : inR a) : opV (IV R M) (GF_X11_tune a) (GF_X12_tune a) := by
  rintro g ⟨n, hI⟩
  obtain ⟨t1, t3, t4, ⟨k, k1, k2, k3, k4⟩, t6, t7, t8⟩ := id hI.2.2.2.2.2.2.2
  have hR' : Kp R := hR.kp (by decide)
  have hM' : Kp M := hM.kp (by decide)
  by_cases hA : (1 ≤ a ∧ a ≤ 48) ∧ k < 12
  · have hroom : GF_X10_hasRoom g = some 1 := by
      unfold GF_X10_hasRoom
      rw [k2, ck_ok (by omega), lt_ok, if_neg (by omega), bzZ_1]
    generalize hg1 : upZ (upZ g 52 k a) 51 5 ((k : Int) + 1) = g1
    have hadd : GF_X10_add a g = some g1 := by
      unfold GF_X10_add GJ_X10_add_1
      rw [hroom, cp_ok, ck_ok (by decide), if_neg (by decide), wrZ_at k k2 (by omega), pfZ_ok, upZ_n (by decide), k2, hg1]
    have f1 : Fr [52] [(51, 5)] g g1 := by rw [← hg1]; exact (Fr.rf.wr (by decide)).pf (by decide)
    have c5 : g1 51 5 = ((k + 1 : Nat) : Int) := by rw [← hg1, upZ_ss]; omega
    have c52 : g1 52 = upZ g 52 k a 52 := by rw [← hg1, upZ_n (by decide)]
    have e8 : upZ g1 55 9 0 55 8 = (k : Int) := by rw [upZ_sn (by decide), f1 55 8 (by decide) (by decide)]; exact k3
    generalize hg2 : upZ (upZ (upZ g1 55 9 0) 61 k a) 55 8 ((k : Int) + 1) = g2
    have f2 : Fr [61] [(55, 8), (55, 9)] g1 g2 := by rw [← hg2]; exact ((Fr.rf.pf (by decide)).wr (by decide)).pf (by decide)
    have d8 : g2 55 8 = ((k + 1 : Nat) : Int) := by rw [← hg2, upZ_ss]; omega
    have e8' : upZ (upZ g1 55 9 0) 61 k a 55 8 = (k : Int) := by rw [upZ_n (by decide)]; exact e8
    have hB : GF_X12_tune a g1 = some (((k + 1 : Nat) : Int), g2) := by
      unfold GF_X12_tune
      rw [pfZ_ok, m_isIn _ ha (by decide) (by decide), cp_ok, if_pos hA.1, ck_ok (by decide), if_neg (by decide), e8, ck_ok (by omega), if_neg (by omega), wrZ_at k rfl (by omega), pfZ_ok, e8', hg2, d8]
    have f : Fr [3, 52, 60, 61] [(1, 3), (51, 5), (55, 7), (55, 8), (55, 9)] g g2 := ((Fr.rf (L := [3, 52, 60, 61]) (M := [(1, 3), (51, 5), (55, 7), (55, 8), (55, 9)])).tr f1 (by decide) (by decide)).tr f2 (by decide) (by decide)
    refine ⟨_, g1, g2, ?_, hB, n, hI.fr2 hR hM f ?_⟩
    · unfold GF_X11_tune GF_X10_size
      rw [ck_ok ha, if_neg (by omega), if_neg (by omega), hroom, cp_ok, ck_ok (by decide), if_neg (by decide), hadd, cp_ok, cp_ok, c5]
    · have fg : Fr [52, 61] [(51, 5), (55, 8), (55, 9)] g g2 := ((Fr.rf (L := [52, 61]) (M := [(51, 5), (55, 8), (55, 9)])).tr f1 (by decide) (by decide)).tr f2 (by decide) (by decide)
      have c52' : g2 52 = upZ g 52 k a 52 := by rw [f2.f 52 (by decide) (by decide)]; exact c52
      refine ⟨fg.tra (fun q => ∃ tp : Nat, tp ≤ 400 ∧ q 1 3 = (tp : Int) ∧ q 55 7 = (tp : Int)) t1, fg.tra (fun q => ∀ j, -128 ≤ q 3 j ∧ q 3 j ≤ 127) t3, fg.tra (fun q => q 60 = q 3) t4, ⟨k + 1, by omega, (f2 51 5 (by decide) (by decide)).trans c5, d8, fun j hj => ?_⟩, ?_, fg.tra (fun q => q 57 = u_leastZ) t7, fg.tra (fun q => q 58 = u_mostZ) t8⟩
      · rw [c52']
        by_cases q : j = k
        · rw [q, upZ_ss]; exact hA.1
        · rw [upZ_sn q]; exact k4 j (by omega)
      · rw [c52', ← hg2, upZ_n (by decide)]
        funext j
        by_cases q : j = k
        · rw [q, upZ_ss, upZ_ss]
        · rw [upZ_sn q, upZ_sn q, upZ_n (by decide), f1.f 61 (by decide) (by decide), t6]
  · have e8 : upZ g 55 9 0 55 8 = (k : Int) := by rw [upZ_sn (by decide)]; exact k3
    have hB : GF_X12_tune a g = some (-1000, upZ g 55 9 0) := by
      unfold GF_X12_tune GJ_X12_tune_1
      rw [pfZ_ok, m_isIn _ ha (by decide) (by decide), cp_ok]
      by_cases q : 1 ≤ a ∧ a ≤ 48
      · rw [if_pos q, ck_ok (by decide), if_neg (by decide), e8, ck_ok (by omega), if_pos (by omega)]
      · rw [if_neg q, ck_ok (by decide), if_pos rfl]
    refine ⟨_, g, _, ?_, hB, n, hI.flag hR' hM' 0⟩
    unfold GF_X11_tune GJ_X11_tune_1 GF_X10_hasRoom
    rw [ck_ok ha]
    by_cases a0 : a < 1
    · rw [if_pos a0]
    · rw [if_neg a0]
      by_cases a1 : 48 < a
      · rw [if_pos a1]
      · rw [if_neg a1, k2, ck_ok (by omega), lt_ok, if_pos (by omega), bzZ_0, cp_ok, ck_ok (by decide), if_pos rfl]
theorem o_hush {R M : uZ → Prop} (hR : KpL exR R) (hM : KpL exM M) : opV (IV R M) GF_X11_hush GF_X12_hush := by
  rintro g ⟨n, hI⟩
  obtain ⟨t1, t3, t4, ⟨k, k1, k2, k3, k4⟩, t6, t7, t8⟩ := id hI.2.2.2.2.2.2.2
  have f1 : Fr [] [(51, 5)] g (upZ g 51 5 0) := Fr.rf.pf (by decide)
  have c5 : upZ g 51 5 0 51 5 = 0 := upZ_ss _ _ _ _
  have hA : GF_X11_hush g = some ((k : Int), upZ g 51 5 0) := by
    unfold GF_X11_hush GF_X10_size GF_X10_clear
    rw [cp_ok, k2, pfZ_ok, cp_ok]
  generalize hg1 : upZ g 51 5 0 = g1 at *
  have e8 : upZ g1 55 9 0 55 8 = (k : Int) := by rw [upZ_sn (by decide), f1 55 8 (by decide) (by decide)]; exact k3
  have f2 : Fr [] [(55, 8), (55, 9)] g1 (upZ (upZ g1 55 9 0) 55 8 0) := (Fr.rf.pf (by decide)).pf (by decide)
  have d8 : upZ (upZ g1 55 9 0) 55 8 0 55 8 = 0 := upZ_ss _ _ _ _
  have hB : GF_X12_hush g1 = some ((k : Int), upZ (upZ g1 55 9 0) 55 8 0) := by
    unfold GF_X12_hush
    rw [pfZ_ok, lt_ok, e8, pfZ_ok]
  generalize hg2 : upZ (upZ g1 55 9 0) 55 8 0 = g2 at *
  have f : Fr [3, 52, 60, 61] [(1, 3), (51, 5), (55, 7), (55, 8), (55, 9)] g g2 := ((Fr.rf (L := [3, 52, 60, 61]) (M := [(1, 3), (51, 5), (55, 7), (55, 8), (55, 9)])).tr f1 (by decide) (by decide)).tr f2 (by decide) (by decide)
  have fg : Fr [] [(51, 5), (55, 8), (55, 9)] g g2 := ((Fr.rf (L := []) (M := [(51, 5), (55, 8), (55, 9)])).tr f1 (by decide) (by decide)).tr f2 (by decide) (by decide)
  refine ⟨_, g1, g2, hA, hB, n, hI.fr2 hR hM f ⟨fg.tra (fun q => ∃ tp : Nat, tp ≤ 400 ∧ q 1 3 = (tp : Int) ∧ q 55 7 = (tp : Int)) t1, fg.tra (fun q => ∀ j, -128 ≤ q 3 j ∧ q 3 j ≤ 127) t3, fg.tra (fun q => q 60 = q 3) t4, ⟨0, by omega, (f2 51 5 (by decide) (by decide)).trans c5, d8, fun j hj => absurd hj (Nat.not_lt_zero _)⟩, fg.tra (fun q => q 61 = q 52) t6, fg.tra (fun q => q 57 = u_leastZ) t7, fg.tra (fun q => q 58 = u_mostZ) t8⟩⟩
