/-! candidates asked for -/
theorem m_doubleOf {g : uZ} {m f i : Nat} {lag : Nat → Nat} (h66 : g 66 f = (m : Int)) (hm6 : m ≤ 6) (hf : f < 100) (hi : i < m) (hlag : ∀ j, j < m → g 64 (6 * f + j) = (lag j : Int) ∧ lag j ≤ 48) : GF_X12_doubleOf (f : Int) (i : Int) g = some (ff (hlp lag i) m) := by
  have hat : ∀ j, j < m → GF_X12_lagAt1 (f : Int) (j : Int) g = some (lag j : Int) := fun j hj => by
    unfold GF_X12_lagAt1
    rw [rdZ_at (6 * f + j) (by omega) (by omega), (hlag j hj).1]
  have li := (hlag i hi).2
  unfold GF_X12_doubleOf
  rw [hat i hi, cp_ok, ck_ok (by omega)]
  by_cases h0 : lag i = 0
  · rw [if_pos (by omega), ff_none (fun j _ => by unfold hlp; simp [h0])]
  · rw [if_neg (by omega)]
    have : ∃ z, lp (fun z => GB_X12_doubleOf_3 (f : Int) (i : Int) (lag i : Int) g z) 0 (fun z => ex2 (fun x => GC_X12_doubleOf_4) (fun q => some q) z) = some z ∧ z = ff (hlp lag i) m := by
      refine lp_wh (fun q => ∃ t : Nat, q = (t : Int) ∧ t ≤ m ∧ ∀ j, j < t → hlp lag i j = false) (fun b => b = Sum.inl () ∧ (∀ j, j < m → hlp lag i j = false) ∨ ∃ t : Nat, b = Sum.inr (t : Int) ∧ t < m ∧ hlp lag i t = true ∧ ∀ j, j < t → hlp lag i j = false) (fun q => ((m : Int) - q).toNat) ⟨0, rfl, by omega, fun j hj => absurd hj (Nat.not_lt_zero _)⟩ (by omega) ?_ ?_
      · rintro q ⟨t, rfl, ht, hj⟩
        unfold GB_X12_doubleOf_3 GJ_X12_doubleOf_2
        rw [rdZ_at f rfl (by omega), h66, ck_ok (by omega), ck_ok (by omega)]
        by_cases htm : t = m
        · right
          subst htm
          rw [if_pos (by omega)]
          exact ⟨_, rfl, Or.inl ⟨rfl, hj⟩⟩
        · have lt := (hlag t (by omega)).2
          rw [if_neg (by omega), hat t (by omega), cp_ok, ck_ok (by omega), lt_ok]
          have go : ∀ _ : Unit, hlp lag i t = false → ∃ a', (some (Sum.inl ((t : Int) + 1)) : Option (Int ⊕ (Unit ⊕ Int))) = some (Sum.inl a') ∧ (∃ t' : Nat, a' = (t' : Int) ∧ t' ≤ m ∧ ∀ j, j < t' → hlp lag i j = false) ∧ ((m : Int) - a').toNat < ((m : Int) - (t : Int)).toNat := fun _ hn => ⟨_, rfl, ⟨t + 1, by omega, by omega, fun j hjt => by
            by_cases q : j = t
            · subst q; exact hn
            · exact hj j (by omega)⟩, by omega⟩
          by_cases hti : t = i
          · left
            rw [if_pos (by omega)]
            exact go () (by unfold hlp; simp [hti])
          · rw [if_neg (by omega), ck_ok (by omega)]
            by_cases hz : lag t = 0
            · left
              rw [if_pos (by omega)]
              exact go () (by unfold hlp; simp [hz])
            · rw [if_neg (by omega), m_apart g (by omega) (by omega), cp_ok, ck_ok (by unfold ab; split <;> omega)]
              by_cases hab : ab ((lag i : Int) - 2 * (lag t : Int)) ≤ 1
              · right
                rw [if_neg (by omega)]
                exact ⟨_, rfl, Or.inr ⟨t, rfl, by omega, by unfold hlp; simp [hti, hz, h0, hab], hj⟩⟩
              · left
                rw [if_pos (by omega)]
                exact go () (by unfold hlp; simp [hab])
      · rintro b (⟨rfl, hall⟩ | ⟨t, rfl, h1, h2, h3⟩)
        · exact ⟨_, rfl, (ff_none hall).symm⟩
        · exact ⟨_, rfl, (ff_some h1 h2 h3).symm⟩
    obtain ⟨z, e, rfl⟩ := this
    exact e
def chS (own : Nat → Int) (i : Nat) : Nat → Nat
  | 0 => 0
  | t + 1 => chS own i t + if own i ≤ own t then 0 else 1
theorem p1_cheaper {g : uZ} {N : Nat} {m : Nat → Nat} {lag : Nat → Nat → Nat} {own : Nat → Nat → Int} (hC : CT N m lag own g) {f i : Nat} (hf : f < N) (hi : i < m f) : GF_X1_cheaperThan (f : Int) (i : Int) g = some (chS (own f) i (m f) : Int) := by
  have h6 := (hC.2.2 f hf).2.1
  have bd : ∀ j, j < m f → 0 ≤ own f j ∧ own f j ≤ 50000 := fun j hj => ((hC.2.2 f hf).2.2.2 j hj).2.2.2
  unfold GF_X1_cheaperThan
  rw [lp_for (fun t => ((chS (own f) i t : Int), (t : Int))) (m f) (chS (own f) i (m f) : Int) (by rfl) (by omega)]
  · rfl
  · intro t ht
    have b1 := bd t ht
    have b2 := bd i hi
    have e : chS (own f) i (t + 1) = chS (own f) i t + if own f i ≤ own f t then 0 else 1 := rfl
    dsimp only
    unfold GB_X1_cheaperThan_3 GJ_X1_cheaperThan_2
    rw [hC.size hf, cp_ok, ck_ok (by omega), ck_ok (by omega), if_neg (by omega), hC.own hf ht, cp_ok, hC.own hf hi, cp_ok, ck_ok (by omega), ck_ok (by omega), e]
    by_cases q : own f i ≤ own f t
    · rw [if_pos q, if_pos q, lt_ok]; rfl
    · rw [if_neg q, if_neg q, lt_ok, lt_ok]; rfl
  · dsimp only
    unfold GB_X1_cheaperThan_3
    rw [hC.size hf, cp_ok, ck_ok (by omega), ck_ok (by omega), if_pos (by omega)]
theorem m_cheaper {g : uZ} {m f i : Nat} {own : Nat → Int} (h66 : g 66 f = (m : Int)) (hm6 : m ≤ 6) (hf : f < 100) (hi : i < m) (hown : ∀ j, j < m → g 65 (6 * f + j) = own j ∧ 0 ≤ own j ∧ own j ≤ 50000) : lp (fun z => GB_X12_candidate_2 (f : Int) (i : Int) g z.1 z.2) (0, 0) (fun z => GC_X12_candidate_3 g z) = some ((chS own i m : Int), g) := by
  have hat : ∀ j, j < m → GF_X12_ownAt (f : Int) (j : Int) g = some (own j) := fun j hj => by
    unfold GF_X12_ownAt
    rw [rdZ_at (6 * f + j) (by omega) (by omega), (hown j hj).1]
  rw [lp_for (fun t => ((chS own i t : Int), (t : Int))) m (chS own i m : Int) (by rfl) (by omega)]
  · rfl
  · intro t ht
    have b1 := (hown t ht).2
    have b2 := (hown i hi).2
    have e : chS own i (t + 1) = chS own i t + if own i ≤ own t then 0 else 1 := rfl
    dsimp only
    unfold GB_X12_candidate_2
    rw [rdZ_at f rfl (by omega), h66, ck_ok (by omega), ck_ok (by omega), if_neg (by omega), hat t ht, cp_ok, hat i hi, cp_ok, ck_ok (by omega), ck_ok (by omega), lt_ok, lt_ok, lt_ok, e]
    by_cases q : own i ≤ own t
    · rw [if_pos q, if_pos q]; rfl
    · rw [if_neg q, if_neg q]; rfl
  · dsimp only
    unfold GB_X12_candidate_2
    rw [rdZ_at f rfl (by omega), h66, ck_ok (by omega), ck_ok (by omega), if_pos (by omega)]
theorem p1_has2 {g : uZ} {N : Nat} {m : Nat → Nat} (h11 : g 11 6 = N) (hN : N ≤ 100) (h15 : ∀ f, f < N → g 15 f = (m f : Int) ∧ m f ≤ 6) {a b : Int} (ha : inR a) (hb : inR b) : GF_X1_has a b g = some (if 0 ≤ a ∧ a < (N : Int) ∧ 0 ≤ b ∧ b < (m a.toNat : Int) then 1 else 0) := by
  unfold GF_X1_has GJ_X1_has_1 GJ_X1_has_2
  rw [ck_ok ha, h11]
  by_cases q1 : a < 0
  · rw [if_pos q1, bzZ_0, if_neg (by omega)]
  · rw [if_neg q1, ck_ok (by omega)]
    by_cases q2 : (N : Int) ≤ a
    · rw [if_pos q2, bzZ_0, if_neg (by omega)]
    · rw [if_neg q2, ck_ok hb]
      by_cases q3 : b < 0
      · rw [if_pos q3, bzZ_0, if_neg (by omega)]
      · have h := h15 a.toNat (by omega)
        rw [if_neg q3, rdZ_at a.toNat (by omega) (by omega), h.1, ck_ok (by omega)]
        by_cases q4 : (m a.toNat : Int) ≤ b
        · rw [if_pos q4, bzZ_0, if_neg (by omega)]
        · rw [if_neg q4, bzZ_1, if_pos (by omega)]
def cdS (x B : Nat → Int) (n : Nat) (a b : Int) : Prop := 0 ≤ a ∧ a < (nfS B n : Int) ∧ 0 ≤ b ∧ b < (mS x B a.toNat : Int)
theorem m_isCand {x B : Nat → Int} {n : Nat} {g : uZ} (hMB : MB x B n g) (hn : n ≤ 800) (hB : BOk B) (hx : XOk x) (h9 : g 55 9 = 0) {a b : Int} (ha : inR a) (hb : inR b) : ∃ g', (cdS x B n a b → GF_X12_isCandidate a b g = some (1, g') ∧ g' 55 9 = 0 ∧ MR x B g' a.toNat ∧ ∀ L, L ≤ bN B 5 + 1 → g' 62 L = dfS x (bN B 2) (bN B 3) a.toNat L) ∧ (¬ cdS x B n a b → GF_X12_isCandidate a b g = some (0, g') ∧ g' 55 9 = 1) := by
  have hN := nfS_100 hB hn
  unfold GF_X12_isCandidate
  rw [m_isFrame hMB hn hB h9 ha]
  by_cases hf : 0 ≤ a ∧ a < nfS B n
  · obtain ⟨f, rfl⟩ : ∃ f : Nat, a = (f : Int) := ⟨a.toNat, by omega⟩
    obtain ⟨g2, h2, hMR, hdf, -⟩ := m_laysFrame hMB hn hB hx (f := f) (by omega)
    have k9 : g2 55 9 = 0 := (fF_X12_laysFrame Fr.rf h2 55 9 (by decide) (by decide)).trans h9
    have hm := mS_6 (x := x) hB f
    rw [if_pos hf, clZ_ok, ck_ok (by decide), if_neg (by decide), h2, cp_ok, rdZ_at f rfl (by omega), hMR.1, m_isIn g2 hb (by decide) (by omega), cp_ok]
    by_cases hc : 0 ≤ b ∧ b < (mS x B f : Int)
    · refine ⟨g2, fun _ => ⟨?_, k9, ?_, ?_⟩, fun h => absurd ⟨hf.1, hf.2, hc.1, by rw [Int.toNat_natCast]; exact hc.2⟩ h⟩
      · rw [if_pos (by omega), m_right1 k9, clZ_ok, bzZ_1]
      · rw [Int.toNat_natCast]; exact hMR
      · rw [Int.toNat_natCast]; exact fun L hL => (hdf L hL).1
    · refine ⟨upZ g2 55 9 1, fun h => absurd ⟨h.2.2.1, by have := h.2.2.2; rw [Int.toNat_natCast] at this; exact this⟩ hc, fun _ => ⟨?_, upZ_ss _ _ _ _⟩⟩
      rw [if_neg (by omega), m_right0 k9 (Or.inl rfl), clZ_ok, bzZ_0]
  · refine ⟨upZ g 55 9 1, fun h => absurd ⟨h.1, h.2.1⟩ hf, fun _ => ⟨?_, upZ_ss _ _ _ _⟩⟩
    rw [if_neg hf, clZ_ok, ck_ok (by decide), if_pos rfl]
theorem PW.ct {x B : Nat → Int} {n : Nat} {g : uZ} (h : PW x B n g) (hB : BOk B) (hx : XOk x) (hn : n ≤ 800) : CT (nfS B n) (mS x B) (lgS x B) (owS x B) g := CR.ct hB hx (nfS_100 hB hn) h.2.1 h.2.2.1
theorem PW.has {x B : Nat → Int} {n : Nat} {g : uZ} (h : PW x B n g) (hB : BOk B) (hn : n ≤ 800) {a b : Int} (ha : inR a) (hb : inR b) : (cdS x B n a b → GF_X1_has a b g = some 1) ∧ (¬ cdS x B n a b → GF_X1_has a b g = some 0) := by
  have e := p1_has2 (m := mS x B) h.2.1 (nfS_100 hB hn) (fun f hf => ⟨(h.2.2.1 f hf).1, (mS_6 hB f).2⟩) ha hb
  refine ⟨fun q => ?_, fun q => ?_⟩
  · unfold cdS at q
    rw [e, if_pos q]
  · unfold cdS at q
    rw [e, if_neg q]
theorem o_candidates {R M : uZ → Prop} (hR : Kp R) (hM : Kp M) {a : Int} (ha : inR a) : opT (IV R M) [(1, 1)] (GF_X11_candidates a) (GF_X12_candidates a) := by
  rintro g ⟨n, hI⟩
  have hN := hI.f
  unfold GF_X11_candidates
  rw [p2_has hI.s hI.n hI.b ha, cp_ok]
  by_cases hf : 0 ≤ a ∧ a < nfS (g 5) n
  · left
    rw [if_pos hf, ck_ok (by decide), if_neg (by decide)]
    obtain ⟨g1, h1, hI1, hfl, hP⟩ := iv_findPath hI
    have e5 := findPath_5 h1
    obtain ⟨f, rfl⟩ : ∃ f : Nat, a = (f : Int) := ⟨a.toNat, by omega⟩
    have hfN : f < nfS (g1 5) n := by rw [e5]; omega
    rw [h1, cp_ok, (hP.ct hI1.b hI1.x hI1.n).size hfN, cp_ok]
    have h9 : upZ g1 55 9 0 55 9 = 0 := upZ_ss _ _ _ _
    obtain ⟨g2, h2, hMR, -⟩ := m_laysFrame (hI1.mb (fr9 g1 0)) hI1.n hI1.b hI1.x hfN
    have k9 : g2 55 9 = 0 := (fF_X12_laysFrame Fr.rf h2 55 9 (by decide) (by decide)).trans h9
    have hB : GF_X12_candidates (f : Int) g1 = some ((mS (g1 2) (g1 5) f : Int), g2) := by
      unfold GF_X12_candidates
      rw [pfZ_ok, m_isFrame (hI1.mb (fr9 g1 0)) hI1.n hI1.b h9 ha, if_pos (by omega), clZ_ok, ck_ok (by decide), if_neg (by decide), h2, cp_ok, rdZ_at f rfl (by omega), hMR.1]
    exact ⟨_, _, g2, rfl, hB, k9, n, hI1.fr hR hM (show Fr _ _ g1 g2 from fF_X12_candidates Fr.rf hB) (by decide) (by decide)⟩
  · right
    rw [if_neg hf, ck_ok (by decide), if_pos rfl]
    have h9 : upZ g 55 9 0 55 9 = 0 := upZ_ss _ _ _ _
    have hB : GF_X12_candidates a g = some (0, upZ (upZ g 55 9 0) 55 9 1) := by
      unfold GF_X12_candidates
      rw [pfZ_ok, m_isFrame (hI.mb (fr9 g 0)) hI.n hI.b h9 ha, if_neg hf, clZ_ok, ck_ok (by decide), if_pos rfl]
    exact ⟨(1, 1), List.mem_singleton.mpr rfl, _, _, _, rfl, hB, upZ_ss _ _ _ _, n, (hI.flag hR hM 0).flag hR hM 1⟩
theorem o_candidate {R M : uZ → Prop} (hR : Kp R) (hM : Kp M) {a b c : Int} (ha : inR a) (hb : inR b) (hc : inR c) : opT (IV R M) [(1, 1)] (GF_X11_candidate a b c) (GF_X12_candidate a b c) := by
  rintro g ⟨n, hI⟩
  obtain ⟨g1, h1, hI1, hfl, hP⟩ := iv_findPath hI
  have hN := hI1.f
  have h9 : upZ g1 55 9 0 55 9 = 0 := upZ_ss _ _ _ _
  have hCT := hP.ct hI1.b hI1.x hI1.n
  obtain ⟨g2, hy, hno⟩ := m_isCand (hI1.mb (fr9 g1 0)) hI1.n hI1.b hI1.x h9 ha hb
  obtain ⟨cy, cn⟩ := hP.has hI1.b hI1.n ha hb
  have fin : ∀ (r : Int) (g3 : uZ), GF_X12_candidate a b c g1 = some (r, g3) → IV R M g3 := fun r g3 e => ⟨n, hI1.fr hR hM (show Fr _ _ g1 g3 from fF_X12_candidate Fr.rf e) (by decide) (by decide)⟩
  by_cases hcd : cdS (g1 2) (g1 5) n a b
  · obtain ⟨hy1, k9, hMR, -⟩ := hy hcd
    have hh := cy hcd
    obtain ⟨f, rfl⟩ : ∃ f : Nat, a = (f : Int) := ⟨a.toNat, by have := hcd.1; omega⟩
    obtain ⟨i, rfl⟩ : ∃ i : Nat, b = (i : Int) := ⟨b.toNat, by have := hcd.2.2.1; omega⟩
    rw [Int.toNat_natCast] at hMR
    have hfN : f < nfS (g1 5) n := by have := hcd.2.1; omega
    have hi : i < mS (g1 2) (g1 5) f := by have := hcd.2.2.2; rw [Int.toNat_natCast] at this; omega
    have hm6 := (mS_6 (x := g1 2) hI1.b f).2
    by_cases hA : 0 ≤ c ∧ c ≤ 3
    · left
      have hown : ∀ j, j < mS (g1 2) (g1 5) f → g2 65 (6 * f + j) = owS (g1 2) (g1 5) f j ∧ 0 ≤ owS (g1 2) (g1 5) f j ∧ owS (g1 2) (g1 5) f j ≤ 50000 := fun j hj => by
        have := owS_r hI1.b hI1.x f j
        exact ⟨(hMR.2 j hj).2, by omega, by omega⟩
      have hB : GF_X12_candidate (f : Int) (i : Int) c g1 = some (if c = 0 then (lgS (g1 2) (g1 5) f i : Int) else if c = 1 then owS (g1 2) (g1 5) f i else if c = 2 then hfS (g1 2) (g1 5) f i else (chS (owS (g1 2) (g1 5) f) i (mS (g1 2) (g1 5) f) : Int), g2) := by
        unfold GF_X12_candidate
        rw [pfZ_ok, hy1, clZ_ok, ck_ok (by decide), if_neg (by decide), m_isIn g2 hc (by decide) (by decide), cp_ok, if_pos hA, m_right1 k9, clZ_ok, ck_ok (by decide), if_neg (by decide), ck_ok hc]
        unfold GF_X12_lagAt1 GF_X12_ownAt
        rw [rdZ_at (6 * f + i) (by omega) (by omega), rdZ_at (6 * f + i) (by omega) (by omega), (hMR.2 i hi).1, (hMR.2 i hi).2, cp_ok, cp_ok, m_doubleOf (lag := lgS (g1 2) (g1 5) f) hMR.1 hm6 (by omega) hi (fun j hj => ⟨(hMR.2 j hj).1, ((hCT.2.2 f hfN).2.2.2 j hj).2.1⟩), cp_ok, m_cheaper hMR.1 hm6 (by omega) hi hown]
        by_cases c0 : c = 0
        · rw [if_pos c0, if_pos c0]
        · by_cases c1 : c = 1
          · rw [if_neg c0, if_neg c0, if_pos c1, if_pos c1]
          · by_cases c2 : c = 2
            · rw [if_neg c0, if_neg c0, if_neg c1, if_neg c1, if_pos c2, if_pos c2]
              rfl
            · rw [if_neg c0, if_neg c0, if_neg c1, if_neg c1, if_neg c2, if_neg c2]
      refine ⟨_, g1, g2, ?_, hB, k9, fin _ _ hB⟩
      have hCR := hP.2.2.1 f hfN
      unfold GF_X11_candidate GJ_X11_candidate_2
      rw [h1, cp_ok, hh, cp_ok, ck_ok (by decide), if_neg (by decide), ck_ok hc, if_neg (by omega), if_neg (by omega), ck_ok (by decide), if_neg (by decide), hCT.lag hfN hi, cp_ok, hCT.own hfN hi, cp_ok, p1_halfOf hP.2.1 hN hfN hCR.1 hm6 hi, cp_ok, (hCR.2 i hi).2.2, p1_cheaper hCT hfN hi, cp_ok, ck_ok hc]
      by_cases c0 : c = 0
      · rw [if_pos c0, if_pos c0]
      · by_cases c1 : c = 1
        · rw [if_neg c0, if_neg c0, if_pos c1, if_pos c1]
        · by_cases c2 : c = 2
          · rw [if_neg c0, if_neg c0, if_neg c1, if_neg c1, if_pos c2, if_pos c2]
          · rw [if_neg c0, if_neg c0, if_neg c1, if_neg c1, if_neg c2, if_neg c2]
    · right
      have hB : GF_X12_candidate (f : Int) (i : Int) c g1 = some (0, upZ g2 55 9 1) := by
        unfold GF_X12_candidate GJ_X12_candidate_4
        rw [pfZ_ok, hy1, clZ_ok, ck_ok (by decide), if_neg (by decide), m_isIn g2 hc (by decide) (by decide), cp_ok, if_neg hA, m_right0 k9 (Or.inl rfl), clZ_ok, ck_ok (by decide), if_pos rfl]
      refine ⟨(1, 1), List.mem_singleton.mpr rfl, _, g1, _, ?_, hB, upZ_ss _ _ _ _, fin _ _ hB⟩
      unfold GF_X11_candidate GJ_X11_candidate_1 GJ_X11_candidate_2
      rw [h1, cp_ok, hh, cp_ok, ck_ok (by decide), if_neg (by decide), ck_ok hc]
      by_cases c0 : c < 0
      · rw [if_pos c0, ck_ok (by decide), if_pos rfl]
      · rw [if_neg c0, if_pos (by omega), ck_ok (by decide), if_pos rfl]
  · right
    obtain ⟨hn1, k9⟩ := hno hcd
    have hh := cn hcd
    have hB : GF_X12_candidate a b c g1 = some (0, g2) := by
      unfold GF_X12_candidate GJ_X12_candidate_4
      rw [pfZ_ok, hn1, clZ_ok, ck_ok (by decide), if_pos rfl]
    refine ⟨(1, 1), List.mem_singleton.mpr rfl, _, g1, _, ?_, hB, k9, fin _ _ hB⟩
    unfold GF_X11_candidate
    rw [h1, cp_ok, hh, cp_ok, ck_ok (by decide), if_pos rfl]
