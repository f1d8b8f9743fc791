/-! through, both, single, would -/
theorem stB_e (x B : Nat → Int) : stB x B = fun e a b => spS (bN B 10) (bN B 11) (bN B 12) (lgS x B e a) (lgS x B (e + 1) b) := rfl
theorem ex_thru {x B : Nat → Int} (hB : BOk B) {N f i : Nat} (hi : i < mS x B f) : ∃ q, aP (mS x B) (fun j k => true && (decide (j ≠ f) || decide (k = i))) q 0 (N - 1) := by
  refine ⟨fun j => if j = f then i else 0, fun j _ _ => ?_⟩
  dsimp only
  by_cases jf : j = f
  · rw [if_pos jf, jf]
    exact ⟨hi, by simp⟩
  · rw [if_neg jf]
    exact ⟨by have := (mS_6 (x := x) hB j).1; omega, by simp [jf]⟩
theorem ex_two {x B : Nat → Int} (hB : BOk B) {N f i e k : Nat} (hfe : f < e) (hi : i < mS x B f) (hk : k < mS x B e) : ∃ q, aP (mS x B) (fun j l => (true && (decide (j ≠ f) || decide (l = i))) && (decide (j ≠ e) || decide (l = k))) q 0 (N - 1) := by
  refine ⟨fun j => if j = f then i else if j = e then k else 0, fun j _ _ => ?_⟩
  dsimp only
  by_cases jf : j = f
  · rw [if_pos jf, jf]
    exact ⟨hi, by simp [show f ≠ e by omega]⟩
  · rw [if_neg jf]
    by_cases je : j = e
    · rw [if_pos je, je]
      exact ⟨hk, by simp [show e ≠ f by omega]⟩
    · rw [if_neg je]
      exact ⟨by have := (mS_6 (x := x) hB j).1; omega, by simp [jf, je]⟩
theorem o_through {R M : uZ → Prop} (hR : Kp R) (hM : Kp M) {a b : Int} (ha : inR a) (hb : inR b) : opT (IV R M) [(1, 1)] (GF_X11_through a b) (GF_X12_through a b) := by
  rintro g ⟨n, hI⟩
  obtain ⟨g1, h1, hI1, hfl, hP⟩ := iv_findPath hI
  have hN := hI1.f
  have h9 : upZ g1 55 9 0 55 9 = 0 := upZ_ss _ _ _ _
  obtain ⟨g2, hy, hno⟩ := m_isCand (hI1.mb (fr9 g1 0)) hI1.n hI1.b hI1.x h9 ha hb
  obtain ⟨cy, cn⟩ := hP.has hI1.b hI1.n ha hb
  have fin : ∀ (r : Int) (g3 : uZ), GF_X12_through a b g1 = some (r, g3) → IV R M g3 := fun r g3 e => ⟨n, hI1.fr hR hM (show Fr _ _ g1 g3 from fF_X12_through Fr.rf e) (by decide) (by decide)⟩
  by_cases hcd : cdS (g1 2) (g1 5) n a b
  · left
    obtain ⟨hy1, k9, -, -⟩ := hy hcd
    have hh := cy hcd
    have hMB2 : MB (g1 2) (g1 5) n g2 := (hI1.mb (fr9 g1 0)).cg (show Fr _ _ _ g2 from fF_X12_isCandidate Fr.rf hy1) (by decide) (by decide) (by decide)
    obtain ⟨f, rfl⟩ : ∃ f : Nat, a = (f : Int) := ⟨a.toNat, by have := hcd.1; omega⟩
    obtain ⟨i, rfl⟩ : ∃ i : Nat, b = (i : Int) := ⟨b.toNat, by have := hcd.2.2.1; omega⟩
    have hfN : f < nfS (g1 5) n := by have := hcd.2.1; omega
    have hi : i < mS (g1 2) (g1 5) f := by have := hcd.2.2.2; rw [Int.toNat_natCast] at this; omega
    obtain ⟨r, hr1, hr2⟩ := p5_through hP hI1.b hI1.x hI1.n hfN hi
    obtain ⟨g3, g4, e3, e4, h17, hT, hMP, h70, q9⟩ := m_opened hMB2 hI1.n hI1.b hI1.x
    obtain ⟨g5, e5, hA⟩ := m_leavesOnly hT hfN hi h70
    have f5 : Fr [70] [] g4 g5 := fF_X12_leavesOnly Fr.rf e5
    have hT5 := hT.cg (f5.f 64 (by decide) (by decide)) (f5.f 65 (by decide) (by decide)) (f5.f 66 (by decide) (by decide))
    have hMP5 : MP (bN (g1 5) 10) (bN (g1 5) 11) (bN (g1 5) 12) g5 := f5.tra (fun q => MP (bN (g1 5) 10) (bN (g1 5) 11) (bN (g1 5) 12) q) hMP
    obtain ⟨g6, r', e6, e7, hpm, k6⟩ := m_least hT5 hMP5 (by omega) hA (ex_thru hI1.b hi)
    have er := hpm.uniq hr2
    have k9' : g6 55 9 = 0 := by rw [k6, f5 55 9 (by decide) (by decide), q9, k9]
    have hB : GF_X12_through (f : Int) (i : Int) g1 = some (r, g6) := by
      unfold GF_X12_through
      rw [pfZ_ok, hy1, clZ_ok, ck_ok (by decide), if_neg (by decide), e3, cp_ok, e4, cp_ok, e5, cp_ok, f5 55 17 (by decide) (by decide), h17, e6, cp_ok, e7, cp_ok, er]
    refine ⟨r, g1, g6, ?_, hB, k9', fin _ _ hB⟩
    unfold GF_X11_through
    rw [h1, cp_ok, hh, cp_ok, ck_ok (by decide), if_neg (by decide), hr1, cp_ok]
  · right
    obtain ⟨hn1, k9⟩ := hno hcd
    have hh := cn hcd
    have hB : GF_X12_through a b g1 = some (0, g2) := by
      unfold GF_X12_through
      rw [pfZ_ok, hn1, clZ_ok, ck_ok (by decide), if_pos rfl]
    refine ⟨(1, 1), List.mem_singleton.mpr rfl, _, g1, _, ?_, hB, k9, fin _ _ hB⟩
    unfold GF_X11_through
    rw [h1, cp_ok, hh, cp_ok, ck_ok (by decide), if_pos rfl]
theorem o_both {R M : uZ → Prop} (hR : Kp R) (hM : Kp M) {a b c d : Int} (ha : inR a) (hb : inR b) (hc : inR c) (hd : inR d) : opT (IV R M) [(1, 1), (2, 2)] (GF_X11_both a b c d) (GF_X12_both a b c d) := by
  rintro g ⟨n, hI⟩
  obtain ⟨g1, h1, hI1, hfl, hP⟩ := iv_findPath hI
  have hN := hI1.f
  have h9 : ∀ q : uZ, upZ q 55 9 0 55 9 = 0 := fun q => upZ_ss _ _ _ _
  obtain ⟨cy, cn⟩ := hP.has hI1.b hI1.n ha hb
  obtain ⟨dy, dn⟩ := hP.has hI1.b hI1.n hc hd
  by_cases hcd : cdS (g1 2) (g1 5) n a b
  · have hh := cy hcd
    by_cases hdd : cdS (g1 2) (g1 5) n c d
    · have hh2 := dy hdd
      by_cases hac : a < c
      · left
        obtain ⟨f, rfl⟩ : ∃ f : Nat, a = (f : Int) := ⟨a.toNat, by have := hcd.1; omega⟩
        obtain ⟨i, rfl⟩ : ∃ i : Nat, b = (i : Int) := ⟨b.toNat, by have := hcd.2.2.1; omega⟩
        obtain ⟨e, rfl⟩ : ∃ f : Nat, c = (f : Int) := ⟨c.toNat, by have := hdd.1; omega⟩
        obtain ⟨k, rfl⟩ : ∃ i : Nat, d = (i : Int) := ⟨d.toNat, by have := hdd.2.2.1; omega⟩
        have hfN : f < nfS (g1 5) n := by have := hcd.2.1; omega
        have hi : i < mS (g1 2) (g1 5) f := by have := hcd.2.2.2; rw [Int.toNat_natCast] at this; omega
        have heN : e < nfS (g1 5) n := by have := hdd.2.1; omega
        have hk : k < mS (g1 2) (g1 5) e := by have := hdd.2.2.2; rw [Int.toNat_natCast] at this; omega
        obtain ⟨⟨r, gc⟩, hr1, hr2⟩ := p5_two hP hI1.b hI1.x hI1.n (f := f) (e := e) (by omega) heN hi hk
        simp only at hr2
        have fr : Fr [25, 26] [] g1 gc := fF_X5_leastThroughTwo Fr.rf hr1
        have hIc := hI1.fr hR hM fr (by decide) (by decide)
        have e2 : gc 2 = g1 2 := fr.f 2 (by decide) (by decide)
        have e5 : gc 5 = g1 5 := fr.f 5 (by decide) (by decide)
        have hMBc := hIc.mb (fr9 gc 0)
        rw [e2, e5] at hMBc
        obtain ⟨g2, hy, -⟩ := m_isCand hMBc hI1.n hI1.b hI1.x (h9 gc) ha hb
        obtain ⟨hy1, k9, -, -⟩ := hy hcd
        have hMB2 : MB (g1 2) (g1 5) n g2 := hMBc.cg (show Fr _ _ _ g2 from fF_X12_isCandidate Fr.rf hy1) (by decide) (by decide) (by decide)
        obtain ⟨g3, hz, -⟩ := m_isCand hMB2 hI1.n hI1.b hI1.x k9 hc hd
        obtain ⟨hz1, k9', -, -⟩ := hz hdd
        have hMB3 : MB (g1 2) (g1 5) n g3 := hMB2.cg (show Fr _ _ _ g3 from fF_X12_isCandidate Fr.rf hz1) (by decide) (by decide) (by decide)
        obtain ⟨g4, g5, e3, e4, h17, hT, hMP, h70, q9⟩ := m_opened hMB3 hI1.n hI1.b hI1.x
        obtain ⟨g6, e6, hA⟩ := m_leavesOnly hT hfN hi h70
        have f6 : Fr [70] [] g5 g6 := fF_X12_leavesOnly Fr.rf e6
        have hT6 := hT.cg (f6.f 64 (by decide) (by decide)) (f6.f 65 (by decide) (by decide)) (f6.f 66 (by decide) (by decide))
        obtain ⟨g7, e7, hA7⟩ := m_leavesOnly hT6 heN hk hA
        have f7 : Fr [70] [] g6 g7 := fF_X12_leavesOnly Fr.rf e7
        have f57 : Fr [70] [] g5 g7 := f6.tr f7 (by decide) (by decide)
        have hT7 := hT.cg (f57.f 64 (by decide) (by decide)) (f57.f 65 (by decide) (by decide)) (f57.f 66 (by decide) (by decide))
        have hMP7 : MP (bN (g1 5) 10) (bN (g1 5) 11) (bN (g1 5) 12) g7 := f57.tra (fun q => MP (bN (g1 5) 10) (bN (g1 5) 11) (bN (g1 5) 12) q) hMP
        obtain ⟨g8, r', e8, e9, hpm, k8⟩ := m_least hT7 hMP7 (by omega) hA7 (ex_two hI1.b (by omega) hi hk)
        have er := hpm.uniq hr2
        have k9'' : g8 55 9 = 0 := by rw [k8, f57 55 9 (by decide) (by decide), q9, k9']
        have hB : GF_X12_both (f : Int) (i : Int) (e : Int) (k : Int) gc = some (r, g8) := by
          unfold GF_X12_both
          rw [pfZ_ok, hy1, clZ_ok, ck_ok (by decide), if_neg (by decide), hz1, clZ_ok, ck_ok (by decide), if_neg (by decide), ck_ok hc, ck_ok ha, lt_ok, if_neg (by omega), m_right1 k9', clZ_ok, ck_ok (by decide), if_neg (by decide), e3, cp_ok, e4, cp_ok, e6, cp_ok, e7, cp_ok, f57 55 17 (by decide) (by decide), h17, e8, cp_ok, e9, cp_ok, er]
        refine ⟨r, gc, g8, ?_, hB, k9'', n, hIc.fr hR hM (show Fr _ _ gc g8 from fF_X12_both Fr.rf hB) (by decide) (by decide)⟩
        unfold GF_X11_both
        rw [h1, cp_ok, hh, cp_ok, ck_ok (by decide), if_neg (by decide), hh2, cp_ok, ck_ok (by decide), if_neg (by decide), ck_ok hc, ck_ok ha, lt_ok, if_neg (by omega), ck_ok (by decide), if_neg (by decide), hr1, clZ_ok]
      · right
        obtain ⟨g2, hy, -⟩ := m_isCand (hI1.mb (fr9 g1 0)) hI1.n hI1.b hI1.x (h9 g1) ha hb
        obtain ⟨hy1, k9, -, -⟩ := hy hcd
        have hMB2 : MB (g1 2) (g1 5) n g2 := (hI1.mb (fr9 g1 0)).cg (show Fr _ _ _ g2 from fF_X12_isCandidate Fr.rf hy1) (by decide) (by decide) (by decide)
        obtain ⟨g3, hz, -⟩ := m_isCand hMB2 hI1.n hI1.b hI1.x k9 hc hd
        obtain ⟨hz1, k9', -, -⟩ := hz hdd
        have hB : GF_X12_both a b c d g1 = some (0, upZ g3 55 9 2) := by
          unfold GF_X12_both GJ_X12_both_1
          rw [pfZ_ok, hy1, clZ_ok, ck_ok (by decide), if_neg (by decide), hz1, clZ_ok, ck_ok (by decide), if_neg (by decide), ck_ok hc, ck_ok ha, lt_ok, if_pos (by omega), m_right0 k9' (Or.inr rfl), clZ_ok, ck_ok (by decide), if_pos rfl]
        refine ⟨(2, 2), by simp, _, g1, _, ?_, hB, upZ_ss _ _ _ _, n, hI1.fr hR hM (show Fr _ _ g1 _ from fF_X12_both Fr.rf hB) (by decide) (by decide)⟩
        unfold GF_X11_both
        rw [h1, cp_ok, hh, cp_ok, ck_ok (by decide), if_neg (by decide), hh2, cp_ok, ck_ok (by decide), if_neg (by decide), ck_ok hc, ck_ok ha, lt_ok, if_pos (by omega), ck_ok (by decide), if_pos rfl]
    · right
      have hh2 := dn hdd
      obtain ⟨g2, hy, -⟩ := m_isCand (hI1.mb (fr9 g1 0)) hI1.n hI1.b hI1.x (h9 g1) ha hb
      obtain ⟨hy1, k9, -, -⟩ := hy hcd
      have hMB2 : MB (g1 2) (g1 5) n g2 := (hI1.mb (fr9 g1 0)).cg (show Fr _ _ _ g2 from fF_X12_isCandidate Fr.rf hy1) (by decide) (by decide) (by decide)
      obtain ⟨g3, -, hz⟩ := m_isCand hMB2 hI1.n hI1.b hI1.x k9 hc hd
      obtain ⟨hz1, k9'⟩ := hz hdd
      have hB : GF_X12_both a b c d g1 = some (0, g3) := by
        unfold GF_X12_both GJ_X12_both_1
        rw [pfZ_ok, hy1, clZ_ok, ck_ok (by decide), if_neg (by decide), hz1, clZ_ok, ck_ok (by decide), if_pos rfl]
      refine ⟨(1, 1), by simp, _, g1, _, ?_, hB, k9', n, hI1.fr hR hM (show Fr _ _ g1 _ from fF_X12_both Fr.rf hB) (by decide) (by decide)⟩
      unfold GF_X11_both
      rw [h1, cp_ok, hh, cp_ok, ck_ok (by decide), if_neg (by decide), hh2, cp_ok, ck_ok (by decide), if_pos rfl]
  · right
    have hh := cn hcd
    obtain ⟨g2, -, hno⟩ := m_isCand (hI1.mb (fr9 g1 0)) hI1.n hI1.b hI1.x (h9 g1) ha hb
    obtain ⟨hn1, k9⟩ := hno hcd
    have hB : GF_X12_both a b c d g1 = some (0, g2) := by
      unfold GF_X12_both GJ_X12_both_1
      rw [pfZ_ok, hn1, clZ_ok, ck_ok (by decide), if_pos rfl]
    refine ⟨(1, 1), by simp, _, g1, _, ?_, hB, k9, n, hI1.fr hR hM (show Fr _ _ g1 _ from fF_X12_both Fr.rf hB) (by decide) (by decide)⟩
    unfold GF_X11_both
    rw [h1, cp_ok, hh, cp_ok, ck_ok (by decide), if_pos rfl]
theorem o_would {R M : uZ → Prop} (hR : Kp R) (hM : Kp M) {a b : Int} (ha : inR a) (hb : inR b) : opT (IV R M) [(2, 1)] (GF_X11_would a b) (GF_X12_would a b) := by
  rintro g ⟨n, hI⟩
  have h9 : ∀ q : uZ, upZ q 55 9 0 55 9 = 0 := fun q => upZ_ss _ _ _ _
  by_cases hA : (0 ≤ a ∧ a ≤ 2000) ∧ 0 ≤ b ∧ b ≤ 2000
  · left
    obtain ⟨g1, h1, hI1, hfl, hP⟩ := iv_findPath hI
    have hN := hI1.f
    have b10 := hI1.b.b10
    have hCT := hP.ct hI1.b hI1.x hI1.n
    obtain ⟨o, rfl⟩ : ∃ o : Nat, a = (o : Int) := ⟨a.toNat, by omega⟩
    obtain ⟨v, rfl⟩ : ∃ v : Nat, b = (v : Int) := ⟨b.toNat, by omega⟩
    generalize hg2 : upZ (upZ (upZ g1 18 0 (g1 5 10)) 18 1 (o : Int)) 18 2 (v : Int) = g2
    have fr2 : Fr [] [(18, 0), (18, 1), (18, 2)] g1 g2 := by rw [← hg2]; exact ((Fr.rf.pf (by decide)).pf (by decide)).pf (by decide)
    have hCT2 := hCT.cg (fr2 11 6 (by decide) (by decide)) (fr2.f 12 (by decide) (by decide)) (fr2.f 13 (by decide) (by decide)) (fr2.f 15 (by decide) (by decide))
    have h16 : g2 16 12 = (nfS (g1 5) n : Int) := (fr2 16 12 (by decide) (by decide)).trans hP.2.2.2.1.1
    have hhr : ∀ f i, -1 ≤ hfS (g1 2) (g1 5) f i ∧ hfS (g1 2) (g1 5) f i ≤ 6 := fun f i => by
      have := ff_r (hlp (lgS (g1 2) (g1 5) f) i) (mS (g1 2) (g1 5) f)
      have := (mS_6 (x := g1 2) hI1.b f).2
      unfold hfS
      omega
    have hex : ∃ q, aP (mS (g1 2) (g1 5)) (fun _ _ => true) q 0 (nfS (g1 5) n - 1) := ⟨fun _ => 0, fun j _ _ => ⟨by have := (mS_6 (x := g1 2) hI1.b j).1; dsimp only; omega, rfl⟩⟩
    obtain ⟨r, g3, hr1, hr2⟩ : ∃ r g3, GF_X5_leastOfAll_18 1 g2 = some (r, g3) ∧ ((nfS (g1 5) n = 0 ∧ r = 0) ∨ (1 ≤ nfS (g1 5) n ∧ PM (mS (g1 2) (g1 5)) (owS (g1 2) (g1 5)) (fun e a b => spS (bN (g1 5) 10) o v (lgS (g1 2) (g1 5) e a) (lgS (g1 2) (g1 5) (e + 1) b)) (fun _ _ => true) (nfS (g1 5) n - 1) r)) := by
      by_cases hz : nfS (g1 5) n = 0
      · refine ⟨0, g2, ?_, Or.inl ⟨hz, rfl⟩⟩
        unfold GF_X5_leastOfAll_18
        rw [h16, hz, ck_ok (by decide), if_pos (by rfl)]
      · obtain ⟨⟨r, g3⟩, q1, q2⟩ := p5_least18 (a := 1) (hf := hfS (g1 2) (g1 5)) (A := fun _ _ => true) (j := bN (g1 5) 10) (o := o) (v := v) hCT2 h16 (by decide) (by rw [← hg2, upZ_sn (by decide), upZ_sn (by decide), upZ_ss]; exact b10.1) (by rw [← hg2, upZ_sn (by decide), upZ_ss]) (by rw [← hg2, upZ_ss]) b10.2.2 (by omega) (by omega) (by omega) (fun t ht k hk => by rw [fr2.f 14 (by decide) (by decide)]; exact ⟨((hP.2.2.1 t ht).2 k hk).2.2, hhr t k⟩) (fun t k => by simp) hex
        exact ⟨r, g3, q1, Or.inr ⟨by omega, q2⟩⟩
    have fr3 : Fr [25, 26] [] g2 g3 := fF_X5_leastOfAll_18 Fr.rf hr1
    have fr : Fr [25, 26] [(18, 0), (18, 1), (18, 2)] g1 g3 := ((Fr.rf (L := [25, 26]) (M := [(18, 0), (18, 1), (18, 2)])).tr fr2 (by decide) (by decide)).tr fr3 (by decide) (by decide)
    have hI3 := hI1.fr hR hM fr (by decide) (by decide)
    have e2 : g3 2 = g1 2 := fr.f 2 (by decide) (by decide)
    have e5 : g3 5 = g1 5 := fr.f 5 (by decide) (by decide)
    have hMB := hI3.mb (fr9 g3 0)
    rw [e2, e5] at hMB
    obtain ⟨g4, g5, e3, e4, h17, hT, hMP, h70, q9⟩ := m_opened hMB hI1.n hI1.b hI1.x
    generalize hg6 : upZ (upZ g5 55 21 (o : Int)) 55 22 (v : Int) = g6
    have f6 : Fr [] [(55, 21), (55, 22)] g5 g6 := by rw [← hg6]; exact (Fr.rf.pf (by decide)).pf (by decide)
    have hT6 := hT.cg (f6.f 64 (by decide) (by decide)) (f6.f 65 (by decide) (by decide)) (f6.f 66 (by decide) (by decide))
    have hMP6 : MP (bN (g1 5) 10) o v g6 := ⟨by rw [f6.f 56 (by decide) (by decide)]; exact hMP.1, by rw [← hg6, upZ_sn (by decide), upZ_ss], by rw [← hg6, upZ_ss], hMP.2.2.2.1, by omega, by omega⟩
    have h176 : g6 55 17 = (nfS (g1 5) n : Int) := (f6 55 17 (by decide) (by decide)).trans h17
    obtain ⟨g7, e7, e8, k7⟩ : ∃ g7, GF_X12_laysCosts ((nfS (g1 5) n : Int) - 1) g6 = some g7 ∧ GF_X12_leastOfAll g7 = some r ∧ g7 55 9 = 0 := by
      rcases hr2 with ⟨hz, rz⟩ | ⟨hz, rp⟩
      · obtain ⟨l1, l2⟩ := m_least0 g6
        refine ⟨_, by rw [hz]; exact l1, by rw [rz]; exact l2, ?_⟩
        rw [upZ_sn (by decide), f6 55 9 (by decide) (by decide), q9]
        exact h9 g3
      · obtain ⟨g7, r', e7, e8, hpm, k7⟩ := m_least (A := fun _ _ => true) hT6 hMP6 hz (fun e k he hk => by rw [f6.f 70 (by decide) (by decide)]; exact h70 e k he hk) hex
        refine ⟨g7, e7, by rw [e8, hpm.uniq rp], ?_⟩
        rw [k7, f6 55 9 (by decide) (by decide), q9]
        exact h9 g3
    have hB : GF_X12_would (o : Int) (v : Int) g3 = some (r, g7) := by
      unfold GF_X12_would GJ_X12_would_2
      rw [pfZ_ok, m_isIn _ ha (by decide) (by decide), cp_ok, if_pos hA.1, ck_ok (by decide), if_neg (by decide), m_isIn _ hb (by decide) (by decide), cp_ok, if_pos hA.2, ck_ok (by decide), if_neg (by decide), m_right1 (h9 g3), clZ_ok, ck_ok (by decide), if_neg (by decide), e3, cp_ok, e4, cp_ok, pfZ_ok, pfZ_ok, hg6, h176, e7, cp_ok, e8, cp_ok]
    refine ⟨r, g3, g7, ?_, hB, k7, n, hI3.fr hR hM (show Fr _ _ g3 g7 from fF_X12_would Fr.rf hB) (by decide) (by decide)⟩
    unfold GF_X11_would GJ_X11_would_2 GF_X5_leastWith GF_X9_set_18
    rw [ck_ok ha, if_neg (by omega), if_neg (by omega), ck_ok hb, if_neg (by omega), if_neg (by omega), ck_ok (by decide), if_neg (by decide), h1, cp_ok, p0_10, cp_ok, pfZ_ok, pfZ_ok, pfZ_ok, cp_ok, hg2, hr1, clZ_ok, clZ_ok]
  · right
    have hB : GF_X12_would a b g = some (0, upZ (upZ g 55 9 0) 55 9 1) := by
      unfold GF_X12_would GJ_X12_would_1 GJ_X12_would_2
      rw [pfZ_ok, m_isIn _ ha (by decide) (by decide), cp_ok]
      by_cases q : 0 ≤ a ∧ a ≤ 2000
      · rw [if_pos q, ck_ok (by decide), if_neg (by decide), m_isIn _ hb (by decide) (by decide), cp_ok, if_neg (by omega), ck_ok (by decide), if_pos rfl, m_right0 (h9 g) (Or.inl rfl), clZ_ok, ck_ok (by decide), if_pos rfl]
      · rw [if_neg q, ck_ok (by decide), if_pos rfl, m_right0 (h9 g) (Or.inl rfl), clZ_ok, ck_ok (by decide), if_pos rfl]
    refine ⟨(2, 1), List.mem_singleton.mpr rfl, _, g, _, ?_, hB, upZ_ss _ _ _ _, n, (hI.flag hR hM 0).flag hR hM 1⟩
    unfold GF_X11_would GJ_X11_would_1 GJ_X11_would_2
    simp only [ck_ok ha, ck_ok hb, ck_ok (show inR 0 by decide)]
    by_cases q1 : a < 0
    · rw [if_pos q1]
      rfl
    · rw [if_neg q1]
      by_cases q2 : 2000 < a
      · rw [if_pos q2]
        rfl
      · rw [if_neg q2]
        by_cases q3 : b < 0
        · rw [if_pos q3]
          rfl
        · rw [if_neg q3, if_pos (show 2000 < b by omega)]
          rfl
theorem hf_last {x B : Nat → Int} (hB : BOk B) (f : Nat) : hfS x B f (mS x B f - 1) = -1 := by
  have h1 := (mS_6 (x := x) hB f).1
  have h := (lgS_r (x := x) hB f (mS x B f - 1)).2.2 (by omega)
  unfold hfS
  refine ff_none (fun j _ => ?_)
  unfold hlp
  simp [h]
theorem narz0 : (vp_nar .boolean (zI 0)).toInt = 0 := by decide +kernel
theorem narz1 : (vp_nar .boolean (zI 1)).toInt = 1 := by decide +kernel
theorem m_singles {γ : Type} {x B : Nat → Int} {N : Nat} {g : uZ} {R : γ → Prop} {K : uZ → Option γ} (h17 : g 55 17 = N) (hT : MT N (mS x B) (lgS x B) (owS x B) g) (hK : ∀ z, Fr [70] [] g z → (∀ e k, e < N → k < mS x B e → z 70 (6 * e + k) = if decide (hfS x B e k = -1) = true then 0 else 1) → ∃ r, K z = some r ∧ R r) : ∃ r, lp (fun z => GB_X12_single_5 z.1 z.2) (0, g) K = some r ∧ R r := by
  have hN := hT.1
  refine lp_go (fun t z => z.1 = (t : Int) ∧ Fr [70] [] g z.2 ∧ ∀ e k, e < t → k < mS x B e → z.2 70 (6 * e + k) = if decide (hfS x B e k = -1) = true then 0 else 1) (fun z => Fr [70] [] g z ∧ ∀ e k, e < N → k < mS x B e → z 70 (6 * e + k) = if decide (hfS x B e k = -1) = true then 0 else 1) N (by omega) ⟨rfl, Fr.rf, fun e k he => absurd he (Nat.not_lt_zero _)⟩ ?_ ?_ (fun z hz => hK z hz.1 hz.2)
  · rintro t ⟨w, z⟩ ht ⟨e1, hF, hz⟩
    simp only at e1 hF hz
    subst e1
    dsimp only
    have hm := hT.2 t ht
    unfold GB_X12_single_5
    rw [hF 55 17 (by decide) (by decide), h17, ck_ok (by omega), ck_ok (by omega), if_neg (by omega)]
    refine lp_gi (fun s y => y.1 = (s : Int) ∧ Fr [70] [] g y.2 ∧ (∀ e k, e < t → k < mS x B e → y.2 70 (6 * e + k) = if decide (hfS x B e k = -1) = true then 0 else 1) ∧ ∀ k, k < s → y.2 70 (6 * t + k) = if decide (hfS x B t k = -1) = true then 0 else 1) (fun y => Fr [70] [] g y ∧ (∀ e k, e < t → k < mS x B e → y 70 (6 * e + k) = if decide (hfS x B e k = -1) = true then 0 else 1) ∧ ∀ k, k < mS x B t → y 70 (6 * t + k) = if decide (hfS x B t k = -1) = true then 0 else 1) (mS x B t) (by omega) ⟨rfl, hF, hz, fun k hk => absurd hk (Nat.not_lt_zero _)⟩ ?_ ?_ ?_
    · rintro s ⟨w, y⟩ hs ⟨e1, hG, hy, hr⟩
      simp only at e1 hG hy hr
      subst e1
      dsimp only
      have hd := m_doubleOf (g := y) (lag := lgS x B t) (f := t) (i := s) (by rw [hG.f 66 (by decide) (by decide)]; exact hm.2.2.1) hm.2.1 (by omega) hs (fun j hj => by rw [hG.f 64 (by decide) (by decide)]; exact ⟨(hm.2.2.2 j hj).1, (hm.2.2.2 j hj).2.1⟩)
      have hrg := ff_r (hlp (lgS x B t) s) (mS x B t)
      have wr : ∀ (v : Int), v = (if decide (hfS x B t s = -1) = true then 0 else 1) → ∃ a' : Int × uZ, (wrZ y 70 660 (6 * (t : Int) + (s : Int)) v fun g16 => lt ((s : Int) + 1) fun v17 => some (Sum.inl (v17, g16)) : Option ((Int × uZ) ⊕ uZ)) = some (Sum.inl a') ∧ a'.1 = ((s + 1 : Nat) : Int) ∧ Fr [70] [] g a'.2 ∧ (∀ e k, e < t → k < mS x B e → a'.2 70 (6 * e + k) = if decide (hfS x B e k = -1) = true then 0 else 1) ∧ ∀ k, k < s + 1 → a'.2 70 (6 * t + k) = if decide (hfS x B t k = -1) = true then 0 else 1 := by
        intro v hv
        rw [wrZ_at (6 * t + s) (by omega) (by omega), lt_ok]
        refine ⟨_, rfl, by dsimp only; omega, hG.wr (by decide), fun e k he hk => ?_, fun k hk => ?_⟩
        · have m6 := (hT.2 e (by omega)).2.1
          dsimp only
          rw [upZ_sn (by omega)]
          exact hy e k he hk
        · dsimp only
          by_cases ks : k = s
          · subst ks
            rw [upZ_ss]
            exact hv
          · rw [upZ_sn (by omega)]
            exact hr k (by omega)
      unfold GB_X12_single_3
      rw [rdZ_at t rfl (by omega), hG.f 66 (by decide) (by decide), hm.2.2.1, ck_ok (by omega), ck_ok (by omega), if_neg (by omega), hd, cp_ok, ck_ok (by omega), lt_ok]
      by_cases c : ff (hlp (lgS x B t) s) (mS x B t) = -1
      · rw [if_pos c, narz0]
        exact wr 0 (by rw [if_pos (decide_eq_true (show hfS x B t s = -1 from c))])
      · rw [if_neg c, narz1]
        exact wr 1 (by rw [if_neg (by rw [decide_eq_true_eq]; exact c)])
    · rintro ⟨w, y⟩ ⟨e1, hG, hy, hr⟩
      simp only at e1 hG hy hr
      subst e1
      dsimp only
      refine ⟨y, ?_, hG, hy, hr⟩
      unfold GB_X12_single_3
      rw [rdZ_at t rfl (by omega), hG.f 66 (by decide) (by decide), hm.2.2.1, ck_ok (by omega), ck_ok (by omega), if_pos (by omega)]
    · rintro y ⟨hG, hy, hr⟩
      unfold GC_X12_single_4
      rw [lt_ok]
      refine ⟨_, rfl, by dsimp only; omega, hG, fun e k he hk => ?_⟩
      by_cases et : e = t
      · subst et
        exact hr k hk
      · exact hy e k (by omega) hk
  · rintro ⟨w, z⟩ ⟨e1, hF, hz⟩
    simp only at e1 hF hz
    subst e1
    dsimp only
    refine ⟨z, ?_, hF, hz⟩
    unfold GB_X12_single_5
    rw [hF 55 17 (by decide) (by decide), h17, ck_ok (by omega), ck_ok (by omega), if_pos (by omega)]
theorem o_single {R M : uZ → Prop} (hR : Kp R) (hM : Kp M) : opV (IV R M) GF_X11_single GF_X12_single := by
  rintro g ⟨n, hI⟩
  obtain ⟨g1, h1, hI1, hfl, hP⟩ := iv_findPath hI
  have hN := hI1.f
  have b10 := hI1.b.b10
  have b11 := hI1.b.b11
  have b12 := hI1.b.b12
  have hCT := hP.ct hI1.b hI1.x hI1.n
  have h16 := hP.2.2.2.1.1
  have hhr : ∀ f i, -1 ≤ hfS (g1 2) (g1 5) f i ∧ hfS (g1 2) (g1 5) f i ≤ 6 := fun f i => by
    have := ff_r (hlp (lgS (g1 2) (g1 5) f) i) (mS (g1 2) (g1 5) f)
    have := (mS_6 (x := g1 2) hI1.b f).2
    unfold hfS
    omega
  have hex : ∃ q, aP (mS (g1 2) (g1 5)) (fun e k => decide (hfS (g1 2) (g1 5) e k = -1)) q 0 (nfS (g1 5) n - 1) := ⟨fun f => mS (g1 2) (g1 5) f - 1, fun j _ _ => ⟨by have := (mS_6 (x := g1 2) hI1.b j).1; dsimp only; omega, decide_eq_true (hf_last hI1.b j)⟩⟩
  obtain ⟨r, g3, hr1, hr2⟩ : ∃ r g3, GF_X5_leastOfAll_17 0 g1 = some (r, g3) ∧ ((nfS (g1 5) n = 0 ∧ r = 0) ∨ (1 ≤ nfS (g1 5) n ∧ PM (mS (g1 2) (g1 5)) (owS (g1 2) (g1 5)) (fun e a b => spS (bN (g1 5) 10) (bN (g1 5) 11) (bN (g1 5) 12) (lgS (g1 2) (g1 5) e a) (lgS (g1 2) (g1 5) (e + 1) b)) (fun e k => decide (hfS (g1 2) (g1 5) e k = -1)) (nfS (g1 5) n - 1) r)) := by
    by_cases hz : nfS (g1 5) n = 0
    · refine ⟨0, g1, ?_, Or.inl ⟨hz, rfl⟩⟩
      unfold GF_X5_leastOfAll_17
      rw [h16, hz, ck_ok (by decide), if_pos (by rfl)]
    · obtain ⟨p0, p1, p2⟩ := hP.2.2.2.2.1
      obtain ⟨⟨r, g3⟩, q1, q2⟩ := p5_least17 (a := 0) (hf := hfS (g1 2) (g1 5)) (A := fun e k => decide (hfS (g1 2) (g1 5) e k = -1)) hCT h16 (by decide) p0 p1 p2 b10.2.2 b11.2.2 b12.2.2 (by omega) (fun t ht k hk => ⟨((hP.2.2.1 t ht).2 k hk).2.2, hhr t k⟩) (fun t k => by simp) hex
      exact ⟨r, g3, q1, Or.inr ⟨by omega, q2⟩⟩
  have fr : Fr [25, 26] [] g1 g3 := fF_X5_leastOfAll_17 Fr.rf hr1
  have hI3 := hI1.fr hR hM fr (by decide) (by decide)
  have e2 : g3 2 = g1 2 := fr.f 2 (by decide) (by decide)
  have e5 : g3 5 = g1 5 := fr.f 5 (by decide) (by decide)
  have hMB := hI3.mb (fr9 g3 0)
  rw [e2, e5] at hMB
  obtain ⟨g4, g5, e3, e4, h17, hT, hMP, h70, q9⟩ := m_opened hMB hI1.n hI1.b hI1.x
  obtain ⟨z, hz1, hz2⟩ := m_singles (R := fun z : Int × uZ => z.1 = r) (K := fun z => GC_X12_single_6 z) h17 hT (fun z hF hA => by
    have hTz := hT.cg (hF.f 64 (by decide) (by decide)) (hF.f 65 (by decide) (by decide)) (hF.f 66 (by decide) (by decide))
    have hMPz : MP (bN (g1 5) 10) (bN (g1 5) 11) (bN (g1 5) 12) z := hF.tra (fun q => MP (bN (g1 5) 10) (bN (g1 5) 11) (bN (g1 5) 12) q) hMP
    unfold GC_X12_single_6
    rw [hF 55 17 (by decide) (by decide), h17]
    rcases hr2 with ⟨hz, rz⟩ | ⟨hz, rp⟩
    · obtain ⟨l1, l2⟩ := m_least0 z
      rw [hz, l1, cp_ok, l2, cp_ok]
      exact ⟨_, rfl, rz.symm⟩
    · obtain ⟨g7, r', e7, e8, hpm, k7⟩ := m_least (A := fun e k => decide (hfS (g1 2) (g1 5) e k = -1)) hTz hMPz hz hA hex
      rw [e7, cp_ok, e8, cp_ok]
      exact ⟨_, rfl, hpm.uniq rp⟩)
  obtain ⟨r', g7⟩ := z
  simp only at hz2
  subst hz2
  have hB : GF_X12_single g3 = some (r', g7) := by
    unfold GF_X12_single
    rw [pfZ_ok, e3, cp_ok, e4, cp_ok]
    exact hz1
  refine ⟨r', g3, g7, ?_, hB, n, hI3.fr hR hM (show Fr _ _ g3 g7 from fF_X12_single Fr.rf hB) (by decide) (by decide)⟩
  unfold GF_X11_single GF_X5_leastWithoutDoubles
  rw [h1, cp_ok, hr1, clZ_ok, clZ_ok]
