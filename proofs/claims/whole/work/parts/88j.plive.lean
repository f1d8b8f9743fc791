/-! live, settles -/
def enS (N f d : Nat) : Nat := if f + d ≤ N - 1 then f + d else N - 1
theorem p5_live {x B : Nat → Int} {n : Nat} {g : uZ} (h : PW x B n g) (hB : BOk B) (hx : XOk x) (hn : n ≤ 800) {f d : Nat} (hf : f < nfS B n) (hd : d ≤ 20) : ∃ p, GF_X5_chosenLive (f : Int) (d : Int) g = some (p f : Int) ∧ bestP (mS x B) (owS x B) (stB x B) (enS (nfS B n) f d) p := by
  have hCT := h.ct hB hx hn
  have hN := hCT.2.1
  obtain ⟨-, -, -, ⟨h16, p2, p3, -, -⟩, -⟩ := h
  have he1 : f ≤ enS (nfS B n) f d := by unfold enS; split <;> omega
  have he2 : enS (nfS B n) f d < nfS B n := by unfold enS; split <;> omega
  have emin : (if (nfS B n : Int) - 1 < (f : Int) + (d : Int) then (nfS B n : Int) - 1 else (f : Int) + (d : Int)) = (enS (nfS B n) f d : Int) := by
    unfold enS
    split <;> split <;> omega
  generalize enS (nfS B n) f d = e at *
  obtain ⟨i, hi, him, hik⟩ := p5_firstAtEnd (st := stB x B) hCT he2 (fun d hd => p2 d (by omega))
  have fw := RowF.fw (E := e) (fun d hd => p2 d (by omega))
  obtain ⟨hb, hc⟩ := fw.best (Nat.le_refl _) him (fun k hk hne => hik k hk hne)
  refine ⟨Pf (cN g) e i, ?_, hb⟩
  have hcell : ∀ j, j ≤ e → ∀ k, k < mS x B j → g 21 (6 * j + k) = (cN g j k : Int) := fun j hj k hk => by
    obtain ⟨c, c1, -⟩ := p2 j (by omega) k hk
    unfold cN
    rw [c1]
    simp
  unfold GF_X5_chosenLive
  rw [h16, p_min g (by omega) (by omega), cp_ok, emin, ck_ok (by omega), if_neg (by omega), ck_ok (by omega), if_pos (by omega), hi, cp_ok]
  rw [lp_for (fun t => ((Pf (cN g) e i (e - t) : Int), ((e - t : Nat) : Int))) (e - f) (Pf (cN g) e i f : Int) (by rw [Nat.sub_zero, Pf_e]) (by omega)]
  · rfl
  · intro t ht
    have hm := hb.1 (e - t) (by omega)
    have h6 := (hCT.2.2 (e - t) (by omega)).2.1
    obtain ⟨s, hs⟩ : ∃ s, e - t = s + 1 := ⟨e - t - 1, by omega⟩
    dsimp only
    obtain ⟨c, c1, -, -, c4, -⟩ := p2 (e - t) (by omega) _ hm
    have hpc : ∀ d, e - t = d + 1 → c < mS x B d := fun d hd => by
      rw [hd] at c4
      exact c4.1
    have hcn : (c : Int) = (cN g (e - t) (Pf (cN g) e i (e - t)) : Int) := by rw [← c1]; exact hcell (e - t) (by omega) _ hm
    unfold GB_X5_chosenLive_2
    rw [ck_ok (by omega), ck_ok (by omega), if_neg (by omega), p5_aheadOf hCT (by omega) hm c1 hpc, cp_ok, lt_ok, if_neg (by omega), hcn]
    have e1 : e - (t + 1) = s := by omega
    have e2 : ((e - t : Nat) : Int) + (-1) = (s : Int) := by omega
    rw [e1, e2, hs, Pf_prev (cN g) e i s (by omega)]
  · have e1 : e - (e - f) = f := by omega
    dsimp only
    rw [e1]
    unfold GB_X5_chosenLive_2
    rw [ck_ok (by omega), ck_ok (by omega), if_pos (by omega)]
def MOp (x B : Nat → Int) (N : Nat) (g : uZ) : Prop := g 55 17 = (N : Int) ∧ MT N (mS x B) (lgS x B) (owS x B) g ∧ MP (bN B 10) (bN B 11) (bN B 12) g ∧ ∀ e k, e < N → k < mS x B e → g 70 (6 * e + k) = 0
theorem m_livesBy {x B : Nat → Int} {N : Nat} {g : uZ} (h : MOp x B N g) {f d : Nat} (hf : f < N) (hd : d ≤ 20) : ∃ (p : Nat → Nat) (g' : uZ), GF_X12_livesBy (f : Int) (d : Int) g = some ((p f : Int), g') ∧ bestP (mS x B) (owS x B) (stB x B) (enS N f d) p ∧ MOp x B N g' := by
  obtain ⟨h17, hT, hP, h70⟩ := h
  have hN := hT.1
  have he1 : f ≤ enS N f d := by unfold enS; split <;> omega
  have he2 : enS N f d < N := by unfold enS; split <;> omega
  have emin : (if (N : Int) ≤ (f : Int) + (d : Int) then (N : Int) - 1 else (f : Int) + (d : Int)) = (enS N f d : Int) := by
    unfold enS
    split <;> split <;> omega
  generalize enS N f d = e at *
  obtain ⟨g3, e3, h23, hrow⟩ := m_laysCosts (A := fun _ _ => true) (e := e) hT hP he2 (fun f i hf hi => by rw [if_pos rfl]; exact h70 f i (by omega) hi)
  have hF3 : Fr [68] [(55, 23)] g g3 := fF_X12_laysCosts Fr.rf e3
  have hT3 := hT.cg (hF3.f 64 (by decide) (by decide)) (hF3.f 65 (by decide) (by decide)) (hF3.f 66 (by decide) (by decide))
  have hP3 : MP (bN B 10) (bN B 11) (bN B 12) g3 := hF3.tra (fun q => MP (bN B 10) (bN B 11) (bN B 12) q) hP
  obtain ⟨g4, e4, hnn, hbest⟩ := m_goesAlong hT3 hP3 he2 h23 hrow
  have hF4 : Fr [69] [] g3 g4 := fF_X12_goesAlong Fr.rf e4
  have hF : Fr [68, 69] [(55, 23)] g g4 := ((Fr.rf (L := [68, 69]) (M := [(55, 23)])).tr hF3 (by decide) (by decide)).tr hF4 (by decide) (by decide)
  refine ⟨fun f => (g4 69 f).toNat, g4, ?_, hbest, (hF 55 17 (by decide) (by decide)).trans h17, hT.cg (hF.f 64 (by decide) (by decide)) (hF.f 65 (by decide) (by decide)) (hF.f 66 (by decide) (by decide)), hF.tra (fun q => MP (bN B 10) (bN B 11) (bN B 12) q) hP, fun e k he hk => by rw [hF.f 70 (by decide) (by decide)]; exact h70 e k he hk⟩
  unfold GF_X12_livesBy
  have nn := hnn f he1
  rw [h17, ck_ok (by omega), ck_ok (by omega), lt_ok, emin, e3, cp_ok, e4, cp_ok, rdZ_at f rfl (by omega)]
  dsimp only
  rw [Int.toNat_of_nonneg nn]
theorem m_openedp {x B : Nat → Int} {n : Nat} {z : uZ} (hM : MB x B n z) (hn : n ≤ 800) (hB : BOk B) (hx : XOk x) : ∃ g2 g3, GF_X12_laysAll z = some g2 ∧ GF_X12_opens g2 = some g3 ∧ MOp x B (nfS B n) g3 ∧ g3 55 9 = z 55 9 := by
  obtain ⟨g2, g3, a1, a2, a3, a4, a5, a6, a7⟩ := m_opened hM hn hB hx
  exact ⟨g2, g3, a1, a2, ⟨a3, a4, a5, fun e k he hk => by have := a6 e k he hk; rw [if_pos rfl] at this; exact this⟩, a7⟩
theorem o_live {R M : uZ → Prop} (hR : Kp R) (hM : Kp M) {a b : Int} (ha : inR a) (hb : inR b) : opT (IV R M) [(1, 1), (2, 2)] (GF_X11_live a b) (GF_X12_live a b) := by
  rintro g ⟨n, hI⟩
  have hN := hI.f
  have h9 : ∀ q : uZ, upZ q 55 9 0 55 9 = 0 := fun q => upZ_ss _ _ _ _
  unfold GF_X11_live GJ_X11_live_1 GJ_X11_live_2
  rw [p2_has hI.s hI.n hI.b ha, cp_ok]
  by_cases hf : 0 ≤ a ∧ a < nfS (g 5) n
  · rw [if_pos hf, ck_ok (show inR 1 by decide), if_neg (show ¬ (1 : Int) = 0 by decide)]
    obtain ⟨g1, h1, hI1, hfl, hP⟩ := iv_findPath hI
    have e5 := findPath_5 h1
    obtain ⟨f, rfl⟩ : ∃ f : Nat, a = (f : Int) := ⟨a.toNat, by omega⟩
    have hfN : f < nfS (g1 5) n := by rw [e5]; omega
    have hmb := hI1.mb (fr9 g1 0)
    have hif := m_isFrame hmb hI1.n hI1.b (h9 g1) ha
    rw [if_pos (by omega)] at hif
    rw [h1, cp_ok, ck_ok hb]
    by_cases hA : 0 ≤ b ∧ b ≤ 20
    · left
      obtain ⟨d, rfl⟩ : ∃ d : Nat, b = (d : Int) := ⟨b.toNat, by omega⟩
      obtain ⟨p, hp1, hp2⟩ := p5_live hP hI1.b hI1.x hI1.n hfN (d := d) (by omega)
      obtain ⟨g2, g3, e3, e4, hMO, q9⟩ := m_openedp hmb hI1.n hI1.b hI1.x
      obtain ⟨p', g4, hl1, hl2, -⟩ := m_livesBy hMO hfN (d := d) (by omega)
      have he1 : f ≤ enS (nfS (g1 5) n) f d := by unfold enS; split <;> omega
      have ep := hl2.uniq hp2 f he1
      have k9 : g4 55 9 = 0 := by
        rw [(show Fr _ _ g3 g4 from fF_X12_livesBy Fr.rf hl1) 55 9 (by decide) (by decide), q9]
        exact h9 g1
      have hB : GF_X12_live (f : Int) (d : Int) g1 = some ((p f : Int), g4) := by
        unfold GF_X12_live
        rw [pfZ_ok, hif, clZ_ok, ck_ok (by decide), if_neg (by decide), m_isIn _ hb (by decide) (by decide), cp_ok, if_pos hA, m_right1 (h9 g1), clZ_ok, ck_ok (by decide), if_neg (by decide), e3, cp_ok, e4, cp_ok, hl1, clZ_ok, ep]
      refine ⟨_, g1, g4, ?_, hB, k9, n, hI1.fr hR hM (show Fr _ _ g1 g4 from fF_X12_live Fr.rf hB) (by decide) (by decide)⟩
      rw [if_neg (by omega), if_neg (by omega), ck_ok (by decide), if_neg (by decide), hp1, cp_ok]
    · right
      have hB : GF_X12_live (f : Int) b g1 = some (0, upZ (upZ g1 55 9 0) 55 9 2) := by
        unfold GF_X12_live GJ_X12_live_1
        rw [pfZ_ok, hif, clZ_ok, ck_ok (by decide), if_neg (by decide), m_isIn _ hb (by decide) (by decide), cp_ok, if_neg hA, m_right0 (h9 g1) (Or.inr rfl), clZ_ok, ck_ok (by decide), if_pos rfl]
      refine ⟨(2, 2), by simp, _, g1, _, ?_, hB, upZ_ss _ _ _ _, n, (hI1.flag hR hM 0).flag hR hM 2⟩
      simp only [ck_ok (show inR 0 by decide)]
      by_cases b0 : b < 0
      · rw [if_pos b0]
        rfl
      · rw [if_neg b0, if_pos (show 20 < b by omega)]
        rfl
  · right
    have hB : GF_X12_live a b g = some (0, upZ (upZ g 55 9 0) 55 9 1) := by
      unfold GF_X12_live GJ_X12_live_1
      rw [pfZ_ok, m_isFrame (hI.mb (fr9 g 0)) hI.n hI.b (h9 g) ha, if_neg hf, clZ_ok, ck_ok (by decide), if_pos rfl]
    refine ⟨(1, 1), by simp, _, g, _, ?_, hB, upZ_ss _ _ _ _, n, (hI.flag hR hM 0).flag hR hM 1⟩
    rw [if_neg hf, ck_ok (show inR 0 by decide), if_pos rfl]
def stl (L : Nat → Int) (r : Nat) : Prop := r ≤ 20 ∧ (∀ d, r ≤ d → d < 20 → L d = L 20) ∧ (r = 0 ∨ L (r - 1) ≠ L 20)
theorem stl.uniq {L : Nat → Int} {r s : Nat} (h1 : stl L r) (h2 : stl L s) : r = s := by
  rcases Nat.lt_trichotomy r s with q | q | q
  · rcases h2.2.2 with z | z
    · omega
    · exact absurd (h1.2.1 (s - 1) (by omega) (by have := h2.1; omega)) z
  · exact q
  · rcases h1.2.2 with z | z
    · omega
    · exact absurd (h2.2.1 (r - 1) (by omega) (by have := h1.1; omega)) z
theorem o_settles {R M : uZ → Prop} (hR : Kp R) (hM : Kp M) {a : Int} (ha : inR a) : opT (IV R M) [(1, 1)] (GF_X11_settles a) (GF_X12_settles a) := by
  rintro g ⟨n, hI⟩
  have hN := hI.f
  have h9 : ∀ q : uZ, upZ q 55 9 0 55 9 = 0 := fun q => upZ_ss _ _ _ _
  unfold GF_X11_settles
  rw [p2_has hI.s hI.n hI.b ha, cp_ok]
  by_cases hf : 0 ≤ a ∧ a < nfS (g 5) n
  · left
    rw [if_pos hf, ck_ok (show inR 1 by decide), if_neg (show ¬ (1 : Int) = 0 by decide)]
    obtain ⟨g1, h1, hI1, hfl, hP⟩ := iv_findPath hI
    have e5 := findPath_5 h1
    obtain ⟨f, rfl⟩ : ∃ f : Nat, a = (f : Int) := ⟨a.toNat, by omega⟩
    have hfN : f < nfS (g1 5) n := by rw [e5]; omega
    have hN1 := hI1.f
    have hmb := hI1.mb (fr9 g1 0)
    have hif := m_isFrame hmb hI1.n hI1.b (h9 g1) ha
    rw [if_pos (by omega)] at hif
    rw [h1, cp_ok]
    have he1 : ∀ d, f ≤ enS (nfS (g1 5) n) f d ∧ enS (nfS (g1 5) n) f d < nfS (g1 5) n := fun d => by unfold enS; split <;> omega
    generalize hLd : (fun d : Nat => (GF_X5_chosenLive (f : Int) (d : Int) g1).getD 0) = L
    have hLv : ∀ d : Nat, d ≤ 20 → GF_X5_chosenLive (f : Int) (d : Int) g1 = some (L d) ∧ (0 ≤ L d ∧ L d ≤ 6) ∧ ∃ p, bestP (mS (g1 2) (g1 5)) (owS (g1 2) (g1 5)) (stB (g1 2) (g1 5)) (enS (nfS (g1 5) n) f d) p ∧ L d = (p f : Int) := fun d hd => by
      obtain ⟨p, hp1, hp2⟩ := p5_live hP hI1.b hI1.x hI1.n hfN hd
      have eL : L d = (p f : Int) := by rw [← hLd]; dsimp only; rw [hp1]; rfl
      have m1 := hp2.1 f (he1 d).1
      have m6 := (mS_6 (x := g1 2) hI1.b f).2
      exact ⟨by rw [hp1, eL], by omega, p, hp2, eL⟩
    have hRf : ∀ (z : uZ) (d : Nat), MOp (g1 2) (g1 5) (nfS (g1 5) n) z → d ≤ 20 → ∃ z', GF_X12_livesBy (f : Int) (d : Int) z = some (L d, z') ∧ MOp (g1 2) (g1 5) (nfS (g1 5) n) z' ∧ z' 55 9 = z 55 9 := fun z d hz hd => by
      obtain ⟨p, z', l1, l2, l3⟩ := m_livesBy hz hfN hd
      obtain ⟨-, -, p', hp2, eL⟩ := hLv d hd
      have ep := l2.uniq hp2 f (he1 d).1
      exact ⟨z', by rw [l1, eL, ep], l3, (show Fr _ _ z z' from fF_X12_livesBy Fr.rf l1) 55 9 (by decide) (by decide)⟩
    have h20 := hLv 20 (by omega)
    have hcl : ∃ z, lp (fun z => GB_X11_settles_2 (f : Int) (L 20) g1 z) 20 (fun z => GC_X11_settles_3 g1 z) = some z ∧ ∃ r : Nat, z = (Sum.inl (r : Int), g1) ∧ stl L r := by
      refine lp_wh (fun q => ∃ w : Nat, q = (w : Int) ∧ w ≤ 20 ∧ ∀ d, w ≤ d → d < 20 → L d = L 20) (fun q => ∃ w : Nat, q = (w : Int) ∧ stl L w) (fun q => q.toNat) ⟨20, rfl, by omega, fun d h1 h2 => by omega⟩ (by decide) ?_ ?_
      · rintro q ⟨w, rfl, hw, hd⟩
        unfold GB_X11_settles_2
        rw [ck_ok (by omega)]
        by_cases w0 : w = 0
        · right
          rw [if_pos (by omega)]
          exact ⟨_, rfl, w, rfl, hw, hd, Or.inl w0⟩
        · have hl := hLv (w - 1) (by omega)
          have ew : ((w : Int) - 1) = ((w - 1 : Nat) : Int) := by omega
          rw [if_neg (by omega), ew, hl.1, cp_ok, ck_ok (by omega), ck_ok (by omega)]
          by_cases c : L (w - 1) = L 20
          · left
            rw [if_pos c, lt_ok]
            refine ⟨_, rfl, ⟨w - 1, by omega, by omega, fun d h1 h2 => ?_⟩, by omega⟩
            by_cases q : d = w - 1
            · rw [q]; exact c
            · exact hd d (by omega) h2
          · right
            rw [if_neg c]
            exact ⟨_, rfl, w, rfl, hw, hd, Or.inr c⟩
      · rintro q ⟨w, rfl, hs⟩
        exact ⟨_, rfl, w, rfl, hs⟩
    obtain ⟨zc, hc1, r, rfl, hst⟩ := hcl
    obtain ⟨g2, g3, e3, e4, hMO, q9⟩ := m_openedp hmb hI1.n hI1.b hI1.x
    obtain ⟨g4, l1, hMO4, k4⟩ := hRf g3 20 hMO (by omega)
    have hrf : ∃ z, lp (fun z => GB_X12_settles_2 (f : Int) (L 20) z.1 z.2) (20, g4) (fun z => GC_X12_settles_3 z.1 z.2) = some z ∧ ∃ s : Nat, z.1 = (s : Int) ∧ stl L s ∧ z.2 55 9 = 0 := by
      refine lp_wh (fun q => MOp (g1 2) (g1 5) (nfS (g1 5) n) q.2 ∧ q.2 55 9 = 0 ∧ ∃ w : Nat, q.1 = (w : Int) ∧ w ≤ 20 ∧ ∀ d, w ≤ d → d < 20 → L d = L 20) (fun q => q.2 55 9 = 0 ∧ ∃ w : Nat, q.1 = (w : Int) ∧ stl L w) (fun q => q.1.toNat) ⟨hMO4, (k4.trans q9).trans (h9 g1), 20, rfl, by omega, fun d h1 h2 => by omega⟩ (by dsimp only; omega) ?_ ?_
      · rintro ⟨q, z⟩ ⟨hz, z9, w, e1, hw, hd⟩
        simp only at hz z9 e1
        subst e1
        dsimp only
        unfold GB_X12_settles_2
        rw [ck_ok (by omega)]
        by_cases w0 : w = 0
        · right
          rw [if_pos (by omega)]
          exact ⟨_, rfl, z9, w, rfl, hw, hd, Or.inl w0⟩
        · have hl := hLv (w - 1) (by omega)
          obtain ⟨z', m1, m2, m3⟩ := hRf z (w - 1) hz (by omega)
          have ew : ((w : Int) - 1) = ((w - 1 : Nat) : Int) := by omega
          rw [if_neg (by omega), ew, m1, clZ_ok, ck_ok (by omega), ck_ok (by omega)]
          by_cases c : L (w - 1) = L 20
          · left
            rw [if_pos c, lt_ok]
            refine ⟨_, rfl, ⟨m2, m3.trans z9, w - 1, by dsimp only; omega, by omega, fun d h1 h2 => ?_⟩, by dsimp only; omega⟩
            by_cases q : d = w - 1
            · rw [q]; exact c
            · exact hd d (by omega) h2
          · right
            rw [if_neg c]
            exact ⟨_, rfl, m3.trans z9, w, rfl, hw, hd, Or.inr c⟩
      · rintro ⟨q, z⟩ ⟨z9, w, e1, hs⟩
        simp only at e1 z9
        subst e1
        exact ⟨_, rfl, w, rfl, hs, z9⟩
    obtain ⟨⟨s', g5⟩, hr1, s, es, hs, k9⟩ := hrf
    simp only at es k9
    subst es
    have ers := hs.uniq hst
    subst ers
    have hB : GF_X12_settles (f : Int) g1 = some ((s : Int), g5) := by
      unfold GF_X12_settles
      rw [pfZ_ok, hif, clZ_ok, ck_ok (by decide), if_neg (by decide), e3, cp_ok, e4, cp_ok, show (20 : Int) = ((20 : Nat) : Int) from rfl, l1, clZ_ok]
      exact hr1
    refine ⟨_, g1, g5, ?_, hB, k9, n, hI1.fr hR hM (show Fr _ _ g1 g5 from fF_X12_settles Fr.rf hB) (by decide) (by decide)⟩
    have h20' := h20.1
    rw [show ((20 : Nat) : Int) = 20 from rfl] at h20'
    rw [h20', cp_ok]
    exact hc1
  · right
    have hB : GF_X12_settles a g = some (0, upZ (upZ g 55 9 0) 55 9 1) := by
      unfold GF_X12_settles
      rw [pfZ_ok, m_isFrame (hI.mb (fr9 g 0)) hI.n hI.b (h9 g) ha, if_neg hf, clZ_ok, ck_ok (by decide), if_pos rfl]
    refine ⟨(1, 1), by simp, _, g, _, ?_, hB, upZ_ss _ _ _ _, n, (hI.flag hR hM 0).flag hR hM 1⟩
    rw [if_neg hf, ck_ok (show inR 0 by decide), if_pos rfl]
