/-! diff, rel, loud, spans -/
theorem iv_meas {R M : uZ → Prop} (hR : Kp R) (hM : Kp M) {n : Nat} {g : uZ} (h : IVn R M n g) {j : Nat} (hj : j < nfS (g 5) n) : ∃ g', GF_X2_measure j g = some g' ∧ IVn R M n g' ∧ rowOk (g 2) (bN (g 5) 2) (bN (g 5) 3) (bN (g 5) 5) g' j ∧ g' 2 = g 2 ∧ g' 5 = g 5 := by
  obtain ⟨i1, i2, i3, i4, i5, i6, i7, i8⟩ := h
  obtain ⟨g', h1, c1, ⟨k1, -⟩, r1⟩ := p2_meas i1 i2 i4 i3 i5 hj
  have hrow : rowOk (g 2) (bN (g 5) 2) (bN (g 5) 3) (bN (g 5) 5) g' j := by
    have h100 := nfS_100 i4 i2
    rcases c1 j (by omega) with q | q
    · rw [k1] at q
      exact absurd q (by decide)
    · exact q.2.2
  have f : Fr [7, 8, 9, 10] [] g g' := fF_X2_measure Fr.rf h1
  have e2 : g' 2 = g 2 := f.f 2 (by decide) (by decide)
  have e5 : g' 5 = g 5 := f.f 5 (by decide) (by decide)
  have kp : ∀ S : uZ → Prop, Kp S → S g → S g' := fun S hS => hS g g' (fun c h0 hc => funext fun j => f c j (fun hm => by
    rcases List.mem_cons.mp hm with q | hm
    · subst q; exact absurd hc (by decide)
    rcases List.mem_cons.mp hm with q | hm
    · subst q; exact absurd hc (by decide)
    rcases List.mem_cons.mp hm with q | hm
    · subst q; exact absurd hc (by decide)
    rcases List.mem_cons.mp hm with q | hm
    · subst q; exact absurd hc (by decide)
    exact absurd hm List.not_mem_nil) List.not_mem_nil)
  refine ⟨g', h1, ⟨(f 1 2 (by decide) (by decide)).trans i1, i2, by rw [e2]; exact i3, by rw [e5]; exact i4, by rw [e2, e5]; exact c1, ?_, ?_, ?_⟩, hrow, e2, e5⟩
  · rw [f.f 0 (by decide) (by decide), e2, e5]
    rcases i6 with i6 | ⟨k1, k2, k3, k4⟩
    · exact Or.inl i6
    · refine Or.inr ⟨k1, ⟨fun f hf => r1 f (k2.1 f hf), f.tra (fun q => q 11 6 = (nfS (g 5) n : Int) ∧ (∀ f, f < nfS (g 5) n → CR (g 2) (g 5) q f) ∧ PO (nfS (g 5) n) (mS (g 2) (g 5)) (lgS (g 2) (g 5)) (owS (g 2) (g 5)) (stB (g 2) (g 5)) q ∧ (q 17 0 = (bN (g 5) 10 : Int) ∧ q 17 1 = (bN (g 5) 11 : Int) ∧ q 17 2 = (bN (g 5) 12 : Int)) ∧ SP (q 24) (nfS (g 5) n) q ∧ NQ (q 24) (nfS (g 5) n) q ∧ ∀ f, f < nfS (g 5) n → 0 ≤ q 24 f ∧ q 24 f ≤ 48) k2.2⟩, ?_, ?_⟩
      · rcases k3 with k3 | k3
        · exact Or.inl k3
        · exact Or.inr ⟨k3.1, kp R hR k3.2⟩
      · rcases k4 with k4 | k4
        · exact Or.inl k4
        · exact Or.inr ⟨k4.1, kp M hM k4.2⟩
  · rw [e2, e5]
    exact i7.cg f (by decide) (by decide) (by decide)
  · exact f.tra TT i8
theorem o_loud {R M : uZ → Prop} (hR : Kp R) (hM : Kp M) {a : Int} (ha : inR a) : opT (IV R M) [(1, 1)] (GF_X11_loud a) (GF_X12_loud a) := by
  rintro g ⟨n, hI⟩
  have hN := hI.f
  unfold GF_X11_loud
  rw [p2_has hI.s hI.n hI.b ha, cp_ok]
  by_cases hf : 0 ≤ a ∧ a < nfS (g 5) n
  · left
    rw [if_pos hf, ck_ok (by decide), if_neg (by decide)]
    obtain ⟨f, rfl⟩ : ∃ f : Nat, a = (f : Int) := ⟨a.toNat, by omega⟩
    have hfN : f < nfS (g 5) n := by omega
    obtain ⟨g1, h1, hI1, hrow, e2, e5⟩ := iv_meas hR hM hI hfN
    have hL : GF_X2_loudAt (f : Int) g1 = some (ldS (g 2) (bN (g 5) 2) (bN (g 5) 3) f) := by
      unfold GF_X2_loudAt GJ_X2_loudAt_2
      rw [ck_ok ha, if_neg (by omega), if_pos (by omega), rdZ_at f rfl (by omega), hrow.2]
    rw [h1, cp_ok, hL, cp_ok]
    have h9 : upZ g1 55 9 0 55 9 = 0 := upZ_ss _ _ _ _
    have hmb := hI1.mb (fr9 g1 0)
    rw [e2, e5] at hmb
    have hfit := (nfS_lt hI.b n f).mp hfN
    have hB : GF_X12_loud (f : Int) g1 = some (ldS (g 2) (bN (g 5) 2) (bN (g 5) 3) f, upZ g1 55 9 0) := by
      unfold GF_X12_loud GJ_X12_loud_1
      rw [pfZ_ok, m_isFrame hmb hI.n hI.b h9 ha, if_pos hf, clZ_ok, ck_ok (by decide), if_neg (by decide), m_loudOf hmb hI.n hI.b hI.x (by unfold rcS at hfit; omega), cp_ok]
    exact ⟨_, _, _, rfl, hB, h9, n, hI1.flag hR hM 0⟩
  · right
    rw [if_neg hf, ck_ok (by decide), if_pos rfl]
    have h9 : upZ g 55 9 0 55 9 = 0 := upZ_ss _ _ _ _
    have hB : GF_X12_loud a g = some (0, upZ (upZ g 55 9 0) 55 9 1) := by
      unfold GF_X12_loud GJ_X12_loud_1
      rw [pfZ_ok, m_isFrame (hI.mb (fr9 g 0)) hI.n hI.b h9 ha, if_neg hf, clZ_ok, ck_ok (by decide), if_pos rfl]
    exact ⟨(1, 1), List.mem_singleton.mpr rfl, _, _, _, rfl, hB, upZ_ss _ _ _ _, n, (hI.flag hR hM 0).flag hR hM 1⟩
theorem o_diff {R M : uZ → Prop} (hR : Kp R) (hM : Kp M) {a b : Int} (ha : inR a) (hb : inR b) : opT (IV R M) [(1, 1)] (GF_X11_diff a b) (GF_X12_diff a b) := by
  rintro g ⟨n, hI⟩
  have hN := hI.f
  have h9 : ∀ q : uZ, upZ q 55 9 0 55 9 = 0 := fun q => upZ_ss _ _ _ _
  by_cases hA : (0 ≤ a ∧ a < nfS (g 5) n) ∧ 0 ≤ b ∧ b ≤ (bN (g 5) 5 + 1 : Nat)
  · left
    obtain ⟨f, rfl⟩ : ∃ f : Nat, a = (f : Int) := ⟨a.toNat, by omega⟩
    obtain ⟨l, rfl⟩ : ∃ l : Nat, b = (l : Int) := ⟨b.toNat, by omega⟩
    have hfN : f < nfS (g 5) n := by omega
    obtain ⟨g1, h1, hI1, hrow, e2, e5⟩ := iv_meas hR hM hI hfN
    have b5 := hI.b.b5
    have hL : GF_X2_diffAt (f : Int) (l : Int) g1 = some (dfS (g 2) (bN (g 5) 2) (bN (g 5) 3) f l) := by
      unfold GF_X2_diffAt
      rw [ck_ok ha, if_neg (by omega), if_neg (by omega), ck_ok hb, if_neg (by omega), if_pos (by omega), rdZ_at (50 * f + l) (by omega) (by omega), (hrow.1 l (by omega)).1]
    have hmb := hI1.mb (fr9 g1 0)
    rw [e2, e5] at hmb
    obtain ⟨g2, h2, hd⟩ := m_laysDiffs hmb hI.n hI.b hI.x ((nfS_lt hI.b n f).mp hfN)
    have k9 : g2 55 9 = 0 := (fF_X12_laysDiffs Fr.rf h2 55 9 (by decide) (by decide)).trans (h9 g1)
    have hB : GF_X12_diff (f : Int) (l : Int) g1 = some (dfS (g 2) (bN (g 5) 2) (bN (g 5) 3) f l, g2) := by
      unfold GF_X12_diff
      rw [pfZ_ok, m_isFrame hmb hI.n hI.b (h9 g1) ha, if_pos hA.1, clZ_ok, ck_ok (by decide), if_neg (by decide), m_isLag hmb hI.b (h9 g1) hb, if_pos hA.2, clZ_ok, ck_ok (by decide), if_neg (by decide), h2, cp_ok, rdZ_at l rfl (by omega), (hd l (by omega)).1]
    refine ⟨_, g1, g2, ?_, hB, k9, n, hI1.fr hR hM (show Fr _ _ g1 g2 from fF_X12_diff Fr.rf hB) (by decide) (by decide)⟩
    unfold GF_X11_diff GJ_X11_diff_2
    rw [p2_has hI.s hI.n hI.b ha, cp_ok, if_pos hA.1, ck_ok (by decide), if_neg (by decide), p11_isLag hI.b hb, cp_ok, if_pos hA.2, ck_ok (by decide), if_neg (by decide), ck_ok (by decide), if_neg (by decide), h1, cp_ok, hL, cp_ok]
  · right
    obtain ⟨g2, hB, hI2⟩ : ∃ g2, GF_X12_diff a b g = some (0, g2) ∧ g2 = upZ (upZ g 55 9 0) 55 9 1 := by
      unfold GF_X12_diff GJ_X12_diff_1
      rw [pfZ_ok, m_isFrame (hI.mb (fr9 g 0)) hI.n hI.b (h9 g) ha]
      by_cases q : 0 ≤ a ∧ a < nfS (g 5) n
      · rw [if_pos q, clZ_ok, ck_ok (by decide), if_neg (by decide), m_isLag (hI.mb (fr9 g 0)) hI.b (h9 g) hb, if_neg (by omega), clZ_ok, ck_ok (by decide), if_pos rfl]
        exact ⟨_, rfl, rfl⟩
      · rw [if_neg q, clZ_ok, ck_ok (by decide), if_pos rfl]
        exact ⟨_, rfl, rfl⟩
    subst hI2
    refine ⟨(1, 1), List.mem_singleton.mpr rfl, _, g, _, ?_, hB, upZ_ss _ _ _ _, n, (hI.flag hR hM 0).flag hR hM 1⟩
    unfold GF_X11_diff GJ_X11_diff_1 GJ_X11_diff_2
    rw [p2_has hI.s hI.n hI.b ha, cp_ok]
    by_cases q : 0 ≤ a ∧ a < nfS (g 5) n
    · rw [if_pos q, ck_ok (by decide), if_neg (by decide), p11_isLag hI.b hb, cp_ok, if_neg (by omega), ck_ok (by decide), if_pos rfl, ck_ok (by decide), if_pos rfl]
    · rw [if_neg q, ck_ok (by decide), if_pos rfl, ck_ok (by decide), if_pos rfl]
theorem o_rel {R M : uZ → Prop} (hR : Kp R) (hM : Kp M) {a b : Int} (ha : inR a) (hb : inR b) : opT (IV R M) [(1, 1)] (GF_X11_rel a b) (GF_X12_rel a b) := by
  rintro g ⟨n, hI⟩
  have hN := hI.f
  have h9 : ∀ q : uZ, upZ q 55 9 0 55 9 = 0 := fun q => upZ_ss _ _ _ _
  by_cases hA : (0 ≤ a ∧ a < nfS (g 5) n) ∧ 0 ≤ b ∧ b ≤ (bN (g 5) 5 + 1 : Nat)
  · left
    obtain ⟨f, rfl⟩ : ∃ f : Nat, a = (f : Int) := ⟨a.toNat, by omega⟩
    obtain ⟨l, rfl⟩ : ∃ l : Nat, b = (l : Int) := ⟨b.toNat, by omega⟩
    have hfN : f < nfS (g 5) n := by omega
    obtain ⟨g1, h1, hI1, hrow, e2, e5⟩ := iv_meas hR hM hI hfN
    have b5 := hI.b.b5
    have hL : GF_X2_relAt (f : Int) (l : Int) g1 = some (rlS (g 2) (bN (g 5) 2) (bN (g 5) 3) f l) := by
      unfold GF_X2_relAt
      rw [ck_ok ha, if_neg (by omega), if_neg (by omega), ck_ok hb, if_neg (by omega), if_pos (by omega), rdZ_at (50 * f + l) (by omega) (by omega), (hrow.1 l (by omega)).2]
    have hmb := hI1.mb (fr9 g1 0)
    rw [e2, e5] at hmb
    obtain ⟨g2, h2, hd⟩ := m_laysDiffs hmb hI.n hI.b hI.x ((nfS_lt hI.b n f).mp hfN)
    have k9 : g2 55 9 = 0 := (fF_X12_laysDiffs Fr.rf h2 55 9 (by decide) (by decide)).trans (h9 g1)
    have hB : GF_X12_rel (f : Int) (l : Int) g1 = some (rlS (g 2) (bN (g 5) 2) (bN (g 5) 3) f l, g2) := by
      unfold GF_X12_rel
      rw [pfZ_ok, m_isFrame hmb hI.n hI.b (h9 g1) ha, if_pos hA.1, clZ_ok, ck_ok (by decide), if_neg (by decide), m_isLag hmb hI.b (h9 g1) hb, if_pos hA.2, clZ_ok, ck_ok (by decide), if_neg (by decide), h2, cp_ok, rdZ_at l rfl (by omega), (hd l (by omega)).2]
    refine ⟨_, g1, g2, ?_, hB, k9, n, hI1.fr hR hM (show Fr _ _ g1 g2 from fF_X12_rel Fr.rf hB) (by decide) (by decide)⟩
    unfold GF_X11_rel GJ_X11_rel_2
    rw [p2_has hI.s hI.n hI.b ha, cp_ok, if_pos hA.1, ck_ok (by decide), if_neg (by decide), p11_isLag hI.b hb, cp_ok, if_pos hA.2, ck_ok (by decide), if_neg (by decide), ck_ok (by decide), if_neg (by decide), h1, cp_ok, hL, cp_ok]
  · right
    obtain ⟨g2, hB, hI2⟩ : ∃ g2, GF_X12_rel a b g = some (0, g2) ∧ g2 = upZ (upZ g 55 9 0) 55 9 1 := by
      unfold GF_X12_rel GJ_X12_rel_1
      rw [pfZ_ok, m_isFrame (hI.mb (fr9 g 0)) hI.n hI.b (h9 g) ha]
      by_cases q : 0 ≤ a ∧ a < nfS (g 5) n
      · rw [if_pos q, clZ_ok, ck_ok (by decide), if_neg (by decide), m_isLag (hI.mb (fr9 g 0)) hI.b (h9 g) hb, if_neg (by omega), clZ_ok, ck_ok (by decide), if_pos rfl]
        exact ⟨_, rfl, rfl⟩
      · rw [if_neg q, clZ_ok, ck_ok (by decide), if_pos rfl]
        exact ⟨_, rfl, rfl⟩
    subst hI2
    refine ⟨(1, 1), List.mem_singleton.mpr rfl, _, g, _, ?_, hB, upZ_ss _ _ _ _, n, (hI.flag hR hM 0).flag hR hM 1⟩
    unfold GF_X11_rel GJ_X11_rel_1 GJ_X11_rel_2
    rw [p2_has hI.s hI.n hI.b ha, cp_ok]
    by_cases q : 0 ≤ a ∧ a < nfS (g 5) n
    · rw [if_pos q, ck_ok (by decide), if_neg (by decide), p11_isLag hI.b hb, cp_ok, if_neg (by omega), ck_ok (by decide), if_pos rfl, ck_ok (by decide), if_pos rfl]
    · rw [if_neg q, ck_ok (by decide), if_pos rfl, ck_ok (by decide), if_pos rfl]
theorem iv_spans {R M : uZ → Prop} {n : Nat} {g z : uZ} (h : IVn R M n g) (hP : PW (g 2) (g 5) n g) (hz : Fr [] [(55, 9)] g z) : ∃ g2, GF_X12_laysSpans z = some g2 ∧ MSp (g 24) (nfS (g 5) n) g2 ∧ g2 78 (nS (g 24) (nfS (g 5) n)) = (nfS (g 5) n : Int) ∧ g2 55 9 = z 55 9 ∧ LGP (nfS (g 5) n) (g 24) g2 := by
  obtain ⟨g2, h2, hL, h69, k9, hO⟩ := iv_laysPath h hP hz
  obtain ⟨g3, h3, hF, h4, h5⟩ := m_spans (L := g 24) hO.1 hO.2.1 (fun f hf => by rw [h69 f hf]; exact ⟨(hP.pth hf).1, (hP.pth hf).2.1⟩) (fun f hf => by rw [h69 f hf]; exact (hP.pth hf).2.2)
  have e : GF_X12_laysSpans z = some g3 := by
    unfold GF_X12_laysSpans
    rw [h2, cp_ok]
    exact h3
  exact ⟨g3, e, h4, h5, (hF 55 9 (by decide) (by decide)).trans k9, hL.fr (hF 55 17 (by decide) (by decide)) (hF.f 64 (by decide) (by decide)) (hF.f 65 (by decide) (by decide)) (hF.f 66 (by decide) (by decide)) (hF.f 69 (by decide) (by decide))⟩
theorem o_spans {R M : uZ → Prop} (hR : Kp R) (hM : Kp M) : opV (IV R M) GF_X11_spans GF_X12_spans := by
  rintro g ⟨n, hI⟩
  obtain ⟨g1, h1, hI1, hfl, hP⟩ := iv_findPath hI
  obtain ⟨g2, h2, hm, -⟩ := iv_spans hI1 hP (fr9 g1 0)
  have hB : GF_X12_spans g1 = some (g1 34 6, g2) := by
    unfold GF_X12_spans
    rw [pfZ_ok, h2, cp_ok, hm.1, hP.2.2.2.2.2.1.1]
  refine ⟨g1 34 6, g1, g2, ?_, hB, n, hI1.fr hR hM (show Fr _ _ g1 g2 from fF_X12_spans Fr.rf hB) (by decide) (by decide)⟩
  unfold GF_X11_spans GF_X8_size
  rw [h1, cp_ok, cp_ok]
