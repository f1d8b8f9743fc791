/-! marks asked for -/
theorem MKp.mark {x B L : Nat → Int} {n S : Nat} {sb : Nat → Nat} {cn : Nat → Nat} {pl so sw : Nat → Int} (hx : XOk x) (hB : BOk B) (hn : n ≤ 800) (hSB : SB L (nfS B n) S sb) (hL : ∀ f, f < nfS B n → L f = 0 ∨ (2 ≤ L f ∧ L f ≤ 48)) (h : MKp x B L n sb S cn pl so sw) : ∀ t, t ≤ S → ∀ c, c < cn t → ∃ i, i < t ∧ L (sb i) ≠ 0 ∧ cn i ≤ c ∧ c < cn (i + 1) ∧ so c = (i : Int) ∧ ∃ m : Nat, pl c = (m : Int) ∧ frS B sb i ≤ m ∧ m < toS B n sb i ∧ (c + 1 < cn (i + 1) → so (c + 1) = (i : Int) ∧ ∃ m' : Nat, pl (c + 1) = (m' : Int) ∧ m + 2 ≤ m' ∧ m' < toS B n sb i) := by
  intro t
  induction t with
  | zero => intro _ c hc; have := h.1; omega
  | succ t ih =>
    intro ht c hc
    by_cases q : c < cn t
    · obtain ⟨i, h1, h2⟩ := ih (by omega) c q
      exact ⟨i, by omega, h2⟩
    · have b := h.2 t (by omega)
      by_cases hv : L (sb t) = 0
      · have := (b.2 hv).1
        omega
      · obtain ⟨k, e1, e2, e3, -⟩ := b.1 hv
        have f := sp_facts hB hn hSB (show t < S by omega) hL hv
        have wb := Wi_b hx hB hn hSB (show t < S by omega) hL hv
        have cb := ch_b (nx := fun s => (Wi x B L n sb t s).2) (m0 := m0i x B L n sb t) (mk0_b f.1) (fun s h1 h2 => (wb s h1 h2).2)
        obtain ⟨j, rfl⟩ : ∃ j, c = cn t + j := ⟨c - cn t, by omega⟩
        have g1 := e3 j (by omega)
        rcases cb j with z | ⟨m, z, z1, z2⟩
        · exact absurd z (e1.1 j (by omega))
        · refine ⟨t, by omega, hv, by omega, hc, g1.2, m, by rw [g1.1, z], by omega, z2, fun hc2 => ?_⟩
          have g2 := e3 (j + 1) (by omega)
          have w := (wb m (by omega) z2).2
          have nx := ch_s (nx := fun s => (Wi x B L n sb t s).2) z
          refine ⟨g2.2, ?_⟩
          rcases w with w | ⟨m', w, w1, w2⟩
          · exact absurd (nx.trans w) (e1.1 (j + 1) (by omega))
          · exact ⟨m', by rw [show cn t + j + 1 = cn t + (j + 1) by omega, g2.1, nx]; exact w, w1, w2⟩
def MQd (n C : Nat) (pl so : Nat → Int) : Prop := n ≤ 800 ∧ C ≤ 400 ∧ (∀ c, c < C → (0 ≤ pl c ∧ pl c < (n : Int)) ∧ 0 ≤ so c ∧ so c < 100) ∧ ∀ c, c + 1 < C → so c = so (c + 1) → pl c + 2 ≤ pl (c + 1)
theorem MKn.q {n : Nat} {g : uZ} {cn : Nat → Nat} (h : MKn n g cn) (hP : PW (g 2) (g 5) n g) (h1 : g 1 2 = (n : Int)) (hn : n ≤ 800) (hx : XOk (g 2)) (hB : BOk (g 5)) : MQd n (cn (nS (g 24) (nfS (g 5) n))) (g 47) (g 48) := by
  obtain ⟨-, -, ⟨-, hSB, -⟩, hL⟩ := PW.cls (x := g 2) (B := g 5) hP h1 hn hx hB
  have hN := nfS_100 hB hn
  have hS := nS_le (g 24) (nfS (g 5) n)
  have mk := h.1.mark hx hB hn hSB hL _ (Nat.le_refl _)
  refine ⟨hn, by have := h.2.2.2.1; omega, fun c hc => ?_, fun c hc hs => ?_⟩
  · obtain ⟨i, i1, i2, i3, i4, i5, m, m1, m2, m3, -⟩ := mk c hc
    have f := sp_facts hB hn hSB i1 hL i2
    rw [m1, i5]
    omega
  · obtain ⟨i, i1, i2, i3, i4, i5, m, m1, m2, m3, m4⟩ := mk c (by omega)
    obtain ⟨i', j1, j2, j3, j4, j5, -⟩ := mk (c + 1) hc
    rw [i5, j5] at hs
    have e : i = i' := by omega
    subst e
    obtain ⟨-, m', k1, k2, -⟩ := m4 j4
    rw [m1, k1]
    omega
theorem iv_marks {R M : uZ → Prop} {n : Nat} {g z : uZ} {cn : Nat → Nat} (hI : IVn R M n g) (hP : PW (g 2) (g 5) n g) (h : MKn n g cn) (hz : Fr [] [(55, 9)] g z) : ∃ g2, GF_X12_laysMarks z = some g2 ∧ g2 55 9 = z 55 9 ∧ RlS (g 2) (g 5) (g 24) n (nS (g 24) (nfS (g 5) n)) (sbC (nfS (g 5) n) (nS (g 24) (nfS (g 5) n)) g) g2 ∧ g2 55 49 = (cn (nS (g 24) (nfS (g 5) n)) : Int) ∧ (∀ c, c < cn (nS (g 24) (nfS (g 5) n)) → g2 88 c = g 47 c ∧ g2 89 c = g 48 c) ∧ (∀ i, i ≤ nS (g 24) (nfS (g 5) n) → g2 90 i = (cn i : Int)) ∧ ∀ i, i < nS (g 24) (nfS (g 5) n) → g2 91 i = g 50 i := by
  obtain ⟨-, -, ⟨-, hSB, -⟩, hL⟩ := PW.cls (x := g 2) (B := g 5) hP hI.s hI.n hI.x hI.b
  obtain ⟨gs, s1, s2, s3, s4, s5⟩ := iv_spans hI hP hz
  have fs := fF_X12_laysSpans Fr.rf s1
  have mb := (hI.mb hz).cg fs (by decide) (by decide) (by decide)
  have hR : RlS (g 2) (g 5) (g 24) n (nS (g 24) (nfS (g 5) n)) (sbC (nfS (g 5) n) (nS (g 24) (nfS (g 5) n)) g) gs := ⟨⟨mb.1, hI.n, mb.2.1, mb.2.2, s5⟩, ⟨hI.x, hI.b⟩, ⟨s2.1, hSB, s2.sb s3 hSB⟩, hL⟩
  obtain ⟨g2, l1, l2, cn', l3, l4, l5, -⟩ := m_layMarks hR
  have e : GF_X12_laysMarks z = some g2 := by
    unfold GF_X12_laysMarks
    rw [s1, cp_ok]
    exact l1
  have u := h.1.uniq l3
  have uS := u _ (Nat.le_refl _)
  refine ⟨g2, e, (l2 55 9 (by decide) (by decide)).trans s4, hR.fr l2 (by decide) (by decide) (by decide), by rw [l4, uS.1], fun c hc => ?_, fun i hi => by rw [l5 i hi, (u i hi).1], fun i hi => (uS.2.2 i hi).symm⟩
  have := uS.2.1 c hc
  exact ⟨this.1.symm, this.2.symm⟩
theorem p3_has {g : uZ} {C : Nat} (h : g 44 9 = (C : Int)) (hC : C ≤ 400) {a : Int} (ha : inR a) : GF_X3_has a g = some (if 0 ≤ a ∧ a < (C : Int) then 1 else 0) := by
  unfold GF_X3_has GJ_X3_has_1 GJ_X3_has_2
  rw [ck_ok ha, h]
  by_cases h0 : a < 0
  · rw [if_pos h0, bzZ_0, if_neg (by omega)]
  · rw [if_neg h0, ck_ok (by omega)]
    by_cases h1 : (C : Int) ≤ a
    · rw [if_pos h1, bzZ_0, if_neg (by omega)]
    · rw [if_neg h1, bzZ_1, if_pos (by omega)]
theorem p3_at {g : uZ} {C c : Nat} (h : g 44 9 = (C : Int)) (hC : C ≤ 400) (hc : c < C) : GF_X3_at (c : Int) g = some (g 47 c) := by
  unfold GF_X3_at GJ_X3_at_1
  rw [p3_has h hC (by omega), cp_ok, if_pos (by omega), ck_ok (by decide), if_neg (by decide), rdZ_at c rfl (by omega)]
theorem o_marks {R : uZ → Prop} (hR : KpL exR R) : opV (IV R MKg) GF_X11_marks GF_X12_marks := by
  have hR' : Kp R := hR.kp (by decide)
  have hM' : Kp MKg := kM.kp (by decide)
  rintro g ⟨n, hI⟩
  obtain ⟨g1, h1, hI1, hP, ⟨cn, hm⟩, -⟩ := iv_findMarks hR hI
  obtain ⟨g2, h2, k9, hRl, c49, -⟩ := iv_marks hI1 hP hm (fr9 g1 0)
  have hB : GF_X12_marks g1 = some (g1 44 9, g2) := by
    unfold GF_X12_marks
    rw [pfZ_ok, h2, cp_ok, c49, hm.2.1]
  refine ⟨_, g1, g2, ?_, hB, n, hI1.fr hR' hM' (show Fr _ _ g1 g2 from fF_X12_marks Fr.rf hB) (by decide) (by decide)⟩
  unfold GF_X11_marks GF_X3_size
  rw [h1, cp_ok, cp_ok]
theorem o_mark {R : uZ → Prop} (hR : KpL exR R) {a : Int} (ha : inR a) : opT (IV R MKg) [(1, 1)] (GF_X11_mark a) (GF_X12_mark a) := by
  have hR' : Kp R := hR.kp (by decide)
  have hM' : Kp MKg := kM.kp (by decide)
  rintro g ⟨n, hI⟩
  obtain ⟨g1, h1, hI1, hP, ⟨cn, hm⟩, -⟩ := iv_findMarks hR hI
  obtain ⟨g2, h2, k9, hRl, c49, c88, -⟩ := iv_marks hI1 hP hm (fr9 g1 0)
  have mq := hm.q hP hI1.s hI1.n hI1.x hI1.b
  have h44 := hm.2.1
  rw [upZ_ss] at k9
  generalize cn (nS (g1 24) (nfS (g1 5) n)) = C at *
  have hC := mq.2.1
  have fin : ∀ (r : Int) (g3 : uZ), GF_X12_mark a g1 = some (r, g3) → IV R MKg g3 := fun r g3 e => ⟨n, hI1.fr hR' hM' (show Fr _ _ g1 g3 from fF_X12_mark Fr.rf e) (by decide) (by decide)⟩
  unfold GF_X11_mark
  rw [h1, cp_ok, p3_has h44 hC ha, cp_ok]
  by_cases hA : 0 ≤ a ∧ a < (C : Int)
  · left
    obtain ⟨c, rfl⟩ : ∃ c : Nat, a = (c : Int) := ⟨a.toNat, by omega⟩
    have hB : GF_X12_mark (c : Int) g1 = some (g1 47 c, g2) := by
      unfold GF_X12_mark GJ_X12_mark_1
      rw [pfZ_ok, h2, cp_ok, c49, m_isIn _ ha (by decide) (by omega), cp_ok, if_pos (by omega), m_right1 k9, clZ_ok, ck_ok (by decide), if_neg (by decide), rdZ_at c rfl (by omega), (c88 c (by omega)).1]
    rw [if_pos hA, ck_ok (by decide), if_neg (by decide), p3_at h44 hC (by omega), cp_ok]
    exact ⟨_, g1, g2, rfl, hB, k9, fin _ _ hB⟩
  · right
    have hB : GF_X12_mark a g1 = some (0, upZ g2 55 9 1) := by
      unfold GF_X12_mark GJ_X12_mark_1
      rw [pfZ_ok, h2, cp_ok, c49, m_isIn _ ha (by decide) (by omega), cp_ok, if_neg (by omega), m_right0 k9 (Or.inl rfl), clZ_ok, ck_ok (by decide), if_pos rfl]
    rw [if_neg hA, ck_ok (by decide), if_pos rfl]
    exact ⟨(1, 1), by simp, _, g1, _, rfl, hB, upZ_ss _ _ _ _, fin _ _ hB⟩
theorem o_behind {R : uZ → Prop} (hR : KpL exR R) {a : Int} (ha : inR a) : opV (IV R MKg) (GF_X11_behind a) (GF_X12_behind a) := by
  have hR' : Kp R := hR.kp (by decide)
  have hM' : Kp MKg := kM.kp (by decide)
  rintro g ⟨n, hI⟩
  obtain ⟨g1, h1, hI1, hP, ⟨cn, hm⟩, -⟩ := iv_findMarks hR hI
  obtain ⟨g2, h2, k9, hRl, c49, c88, -⟩ := iv_marks hI1 hP hm (fr9 g1 0)
  have mq := hm.q hP hI1.s hI1.n hI1.x hI1.b
  have h44 := hm.2.1
  generalize cn (nS (g1 24) (nfS (g1 5) n)) = C at *
  obtain ⟨hn, hC, mb, -⟩ := mq
  have cl : ∃ z, lp (fun z => GB_X11_behind_2 a g1 z) 0 (fun z => ex2 (fun x => GC_X11_behind_3 g1) (fun q => some q) z) = some z ∧ z = (if ff (fun c => decide (a < g1 47 c)) C = -1 then (-1 : Int) else g1 47 (ff (fun c => decide (a < g1 47 c)) C).toNat, g1) := by
    refine lp_wh (fun q => ∃ t : Nat, q = (t : Int) ∧ t ≤ C ∧ ∀ j, j < t → decide (a < g1 47 j) = false) (fun b => b = Sum.inl () ∧ (∀ j, j < C → decide (a < g1 47 j) = false) ∨ ∃ t : Nat, b = Sum.inr (g1 47 t, g1) ∧ t < C ∧ decide (a < g1 47 t) = true ∧ ∀ j, j < t → decide (a < g1 47 j) = false) (fun q => ((C : Int) - q).toNat) ⟨0, rfl, Nat.zero_le _, fun j hj => absurd hj (Nat.not_lt_zero _)⟩ (by omega) ?_ ?_
    · rintro q ⟨t, rfl, ht, hj⟩
      unfold GB_X11_behind_2 GF_X3_size
      rw [cp_ok, h44, ck_ok (by omega), ck_ok (by omega)]
      by_cases c : t = C
      · right
        subst c
        rw [if_pos (by omega)]
        exact ⟨_, rfl, Or.inl ⟨rfl, hj⟩⟩
      · have b := (mb t (by omega)).1
        rw [if_neg (by omega), p3_at h44 hC (by omega), cp_ok, ck_ok (by omega), ck_ok ha]
        by_cases d : g1 47 t ≤ a
        · left
          rw [if_pos d, lt_ok]
          refine ⟨_, rfl, ⟨t + 1, by omega, by omega, fun j hjt => ?_⟩, by omega⟩
          by_cases e : j = t
          · rw [e, decide_eq_false (by omega)]
          · exact hj j (by omega)
        · right
          rw [if_neg d, cp_ok]
          exact ⟨_, rfl, Or.inr ⟨t, rfl, by omega, decide_eq_true (by omega), hj⟩⟩
    · rintro b (⟨rfl, hall⟩ | ⟨t, rfl, t1, t2, t3⟩)
      · rw [ff_none hall, if_pos rfl]
        exact ⟨_, rfl, rfl⟩
      · rw [ff_some t1 t2 t3, if_neg (by omega), Int.toNat_natCast]
        exact ⟨_, rfl, rfl⟩
  have rl : ∃ z, lp (fun z => GB_X12_behind_2 a g2 z) 0 (fun z => ex2 (fun x => GC_X12_behind_3 g2) (fun q => some q) z) = some z ∧ z = (if ff (fun c => decide (a < g1 47 c)) C = -1 then (-1 : Int) else g1 47 (ff (fun c => decide (a < g1 47 c)) C).toNat, g2) := by
    refine lp_wh (fun q => ∃ t : Nat, q = (t : Int) ∧ t ≤ C ∧ ∀ j, j < t → decide (a < g1 47 j) = false) (fun b => b = Sum.inl () ∧ (∀ j, j < C → decide (a < g1 47 j) = false) ∨ ∃ t : Nat, b = Sum.inr (g1 47 t, g2) ∧ t < C ∧ decide (a < g1 47 t) = true ∧ ∀ j, j < t → decide (a < g1 47 j) = false) (fun q => ((C : Int) - q).toNat) ⟨0, rfl, Nat.zero_le _, fun j hj => absurd hj (Nat.not_lt_zero _)⟩ (by omega) ?_ ?_
    · rintro q ⟨t, rfl, ht, hj⟩
      unfold GB_X12_behind_2
      rw [c49, ck_ok (by omega), ck_ok (by omega)]
      by_cases c : t = C
      · right
        subst c
        rw [if_pos (by omega)]
        exact ⟨_, rfl, Or.inl ⟨rfl, hj⟩⟩
      · have b := (mb t (by omega)).1
        rw [if_neg (by omega), rdZ_at t rfl (by omega), (c88 t (by omega)).1, ck_ok (by omega), ck_ok ha]
        by_cases d : g1 47 t ≤ a
        · left
          rw [if_pos d, lt_ok]
          refine ⟨_, rfl, ⟨t + 1, by omega, by omega, fun j hjt => ?_⟩, by omega⟩
          by_cases e : j = t
          · rw [e, decide_eq_false (by omega)]
          · exact hj j (by omega)
        · right
          rw [if_neg d, rdZ_at t rfl (by omega), (c88 t (by omega)).1]
          exact ⟨_, rfl, Or.inr ⟨t, rfl, by omega, decide_eq_true (by omega), hj⟩⟩
    · rintro b (⟨rfl, hall⟩ | ⟨t, rfl, t1, t2, t3⟩)
      · rw [ff_none hall, if_pos rfl]
        exact ⟨_, rfl, rfl⟩
      · rw [ff_some t1 t2 t3, if_neg (by omega), Int.toNat_natCast]
        exact ⟨_, rfl, rfl⟩
  obtain ⟨zc, e1, rfl⟩ := cl
  obtain ⟨zr, e2, rfl⟩ := rl
  have hB : GF_X12_behind a g1 = some (if ff (fun c => decide (a < g1 47 c)) C = -1 then (-1 : Int) else g1 47 (ff (fun c => decide (a < g1 47 c)) C).toNat, g2) := by
    unfold GF_X12_behind
    rw [pfZ_ok, h2, cp_ok]
    exact e2
  refine ⟨_, g1, g2, ?_, hB, n, hI1.fr hR' hM' (show Fr _ _ g1 g2 from fF_X12_behind Fr.rf hB) (by decide) (by decide)⟩
  unfold GF_X11_behind
  rw [h1, cp_ok]
  exact e1
