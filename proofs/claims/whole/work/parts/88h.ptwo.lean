/-! through one candidate, through two -/
theorem PW.st {x B : Nat → Int} {n : Nat} {g : uZ} (h : PW x B n g) {f i : Nat} (hf : f < nfS B n) (hi : i < mS x B f) : (0 ≤ g 19 (6 * f + i) ∧ g 19 (6 * f + i) ≤ 60000 * (f + 1 : Nat)) ∧ ((∃ q, aP (mS x B) (fun _ _ => true) q 0 f ∧ q f = i ∧ cst (owS x B) (stB x B) q f = g 19 (6 * f + i)) ∧ ∀ q, aP (mS x B) (fun _ _ => true) q 0 f → q f = i → g 19 (6 * f + i) ≤ cst (owS x B) (stB x B) q f) ∧ TM (mS x B) (owS x B) (stB x B) (fun _ _ => true) (nfS B n - 1) f i (g 22 (6 * f + i)) := by
  obtain ⟨-, -, -, ⟨-, p2, p3, -, -⟩, -⟩ := h
  have fw := (RowF.fw (E := f) (fun e he => p2 e (by omega))).all f (Nat.le_refl _)
  obtain ⟨a1, a2, a3⟩ := fw.1 i hi
  obtain ⟨c, -, b1, b2, -⟩ := p2 f hf i hi
  refine ⟨⟨b1, b2⟩, ⟨⟨_, fun j _ hj => ⟨a1 j hj, rfl⟩, Pf_e _ _ _, a2⟩, fun q hq hqi => ?_⟩, (p3 f hf i hi).1⟩
  have := a3 q (fun j hj => (hq j (Nat.zero_le _) hj).1) hqi
  omega
theorem p5_through {x B : Nat → Int} {n : Nat} {g : uZ} (h : PW x B n g) (hB : BOk B) (hx : XOk x) (hn : n ≤ 800) {f i : Nat} (hf : f < nfS B n) (hi : i < mS x B f) : ∃ r, GF_X5_leastThrough (f : Int) (i : Int) g = some r ∧ PM (mS x B) (owS x B) (stB x B) (fun j k => true && (decide (j ≠ f) || decide (k = i))) (nfS B n - 1) r := by
  have hCT := h.ct hB hx hn
  have hN := hCT.2.1
  have hm6 := (mS_6 (x := x) hB f).2
  obtain ⟨-, hh, ht⟩ := h.st hf hi
  have hg := glue (E := nfS B n - 1) (by omega) hh ht (fun _ _ _ => rfl)
  refine ⟨_, ?_, hg⟩
  unfold GF_X5_leastThrough GF_X11_cell
  rw [p1_has h.2.1 hN hf (h.2.2.1 f hf).1 hm6 (by omega), if_pos hi, cp_ok, ck_ok (by decide), if_neg (by decide), cp_ok, rdZ_at (6 * f + i) (by omega) (by omega), cp_ok, rdZ_at (6 * f + i) (by omega) (by omega), hCT.own hf hi, cp_ok]
theorem p5_two {x B : Nat → Int} {n : Nat} {g : uZ} (h : PW x B n g) (hB : BOk B) (hx : XOk x) (hn : n ≤ 800) {f i e k : Nat} (hfe : f < e) (he : e < nfS B n) (hi : i < mS x B f) (hk : k < mS x B e) : ∃ z, GF_X5_leastThroughTwo (f : Int) (i : Int) (e : Int) (k : Int) g = some z ∧ PM (mS x B) (owS x B) (stB x B) (fun j l => (true && (decide (j ≠ f) || decide (l = i))) && (decide (j ≠ e) || decide (l = k))) (nfS B n - 1) z.1 := by
  have hCT := h.ct hB hx hn
  have hN := hCT.2.1
  have hf : f < nfS B n := by omega
  have hm6 := (mS_6 (x := x) hB f).2
  have hm6e := (mS_6 (x := x) hB e).2
  obtain ⟨hb, hh, -⟩ := h.st hf hi
  obtain ⟨-, -, ht⟩ := h.st he hk
  obtain ⟨-, -, -, -, ⟨p0, p1, p2⟩, -⟩ := h
  have b10 := hB.b10
  have b11 := hB.b11
  have b12 := hB.b12
  unfold GF_X5_leastThroughTwo
  rw [p1_has hCT.1 hN hf (hCT.2.2 f hf).2.2.1 hm6 (by omega), if_pos hi, cp_ok, ck_ok (by decide), if_neg (by decide), p1_has hCT.1 hN he (hCT.2.2 e he).2.2.1 hm6e (by omega), if_pos hk, cp_ok, ck_ok (by decide), if_neg (by decide)]
  refine lp_go (fun t z => z.1 = (t : Int) ∧ Fr [25, 26] [] g z.2 ∧ ∀ l, l < t → HP (mS x B) (owS x B) (stB x B) (fun j l => true && (decide (j ≠ f) || decide (l = i))) f l (z.2 25 l)) (fun z => Fr [25, 26] [] g z ∧ ∀ l, l < mS x B f → HP (mS x B) (owS x B) (stB x B) (fun j l => true && (decide (j ≠ f) || decide (l = i))) f l (z 25 l)) (mS x B f) (by omega) ⟨rfl, Fr.rf, fun l hl => absurd hl (Nat.not_lt_zero _)⟩ ?_ ?_ ?_
  · rintro t ⟨w, z⟩ ht ⟨e1, hF, hz⟩
    simp only at e1 hF hz
    subst e1
    dsimp only
    have hCz := hCT.cg (hF 11 6 (by decide) (by decide)) (hF.f 12 (by decide) (by decide)) (hF.f 13 (by decide) (by decide)) (hF.f 15 (by decide) (by decide))
    unfold GB_X5_leastThroughTwo_3 GJ_X5_leastThroughTwo_2 GF_X11_cell
    rw [hCz.size hf, cp_ok, ck_ok (by omega), ck_ok (by omega), if_neg (by omega), ck_ok (by omega)]
    by_cases c : t = i
    · rw [if_pos (by omega), cp_ok, rdZ_at (6 * f + i) (by omega) (by omega), hF.f 19 (by decide) (by decide), wrZ_at t rfl (by omega), lt_ok]
      refine ⟨_, rfl, ?_⟩
      dsimp only
      refine ⟨by omega, hF.wr (by decide), fun l hl => ?_⟩
      by_cases lt : l = t
      · subst lt
        subst c
        rw [upZ_ss]
        obtain ⟨⟨q, hq, hqi, hqc⟩, hmin⟩ := hh
        refine Or.inr ⟨hb.1, hb.2, ⟨q, fun j h1 h2 => ⟨(hq j h1 h2).1, ?_⟩, hqi, hqc⟩, fun q hq hqi => hmin q (fun j h1 h2 => ⟨(hq j h1 h2).1, rfl⟩) hqi⟩
        by_cases jf : j = f
        · subst jf; simp [hqi]
        · simp [jf]
      · rw [upZ_sn (by omega)]
        exact hz l (by omega)
    · rw [if_neg (by omega), wrZ_at t rfl (by omega), lt_ok]
      refine ⟨_, rfl, ?_⟩
      dsimp only
      refine ⟨by omega, hF.wr (by decide), fun l hl => ?_⟩
      by_cases lt : l = t
      · subst lt
        rw [upZ_ss]
        refine Or.inl ⟨by decide, by decide, fun q hq hqi => ?_⟩
        have := (hq f (by omega) (Nat.le_refl _)).2
        rw [hqi] at this
        simp at this
        exact c this
      · rw [upZ_sn (by omega)]
        exact hz l (by omega)
  · rintro ⟨w, z⟩ ⟨e1, hF, hz⟩
    simp only at e1 hF hz
    subst e1
    dsimp only
    have hCz := hCT.cg (hF 11 6 (by decide) (by decide)) (hF.f 12 (by decide) (by decide)) (hF.f 13 (by decide) (by decide)) (hF.f 15 (by decide) (by decide))
    refine ⟨z, ?_, hF, hz⟩
    unfold GB_X5_leastThroughTwo_3
    rw [hCz.size hf, cp_ok, ck_ok (by omega), ck_ok (by omega), if_pos (by omega)]
  · rintro z ⟨hF, hz⟩
    unfold GC_X5_leastThroughTwo_7
    rw [lt_ok]
    refine lp_go (fun t y => y.1 = ((f + 1 + t : Nat) : Int) ∧ Fr [25, 26] [] g y.2 ∧ ∀ l, l < mS x B (f + t) → HP (mS x B) (owS x B) (stB x B) (fun j l => true && (decide (j ≠ f) || decide (l = i))) (f + t) l (y.2 25 l)) (fun y => Fr [25, 26] [] g y ∧ ∀ l, l < mS x B e → HP (mS x B) (owS x B) (stB x B) (fun j l => true && (decide (j ≠ f) || decide (l = i))) e l (y 25 l)) (e - f) (by omega) ⟨by dsimp only; omega, hF, hz⟩ ?_ ?_ ?_
    · rintro t ⟨w, y⟩ ht ⟨e1, hG, hy⟩
      simp only at e1 hG hy
      subst e1
      dsimp only
      have hCy := hCT.cg (hG 11 6 (by decide) (by decide)) (hG.f 12 (by decide) (by decide)) (hG.f 13 (by decide) (by decide)) (hG.f 15 (by decide) (by decide))
      have y17 : y 17 = g 17 := hG.f 17 (by decide) (by decide)
      obtain ⟨u, q1, q2⟩ := p5_advance17 (e := f + t) (A := fun j l => true && (decide (j ≠ f) || decide (l = i))) hCy (by rw [y17]; exact p0) (by rw [y17]; exact p1) (by rw [y17]; exact p2) b10.2.2 b11.2.2 b12.2.2 (by omega) (fun l => by simp [show f + t + 1 ≠ f by omega]) hy
      unfold GB_X5_leastThroughTwo_5
      rw [ck_ok (by omega), ck_ok (by omega), if_neg (by omega), show f + 1 + t = f + t + 1 by omega, q1, cp_ok, lt_ok]
      exact ⟨_, rfl, by dsimp only; omega, hG.tr (fF_X5_advance_17 Fr.rf q1) (by decide) (by decide), q2⟩
    · rintro ⟨w, y⟩ ⟨e1, hG, hy⟩
      simp only at e1 hG hy
      subst e1
      dsimp only
      rw [show f + (e - f) = e by omega] at hy
      refine ⟨y, ?_, hG, hy⟩
      unfold GB_X5_leastThroughTwo_5
      rw [ck_ok (by omega), ck_ok (by omega), if_pos (by omega)]
    · rintro y ⟨hG, hy⟩
      have hCy := hCT.cg (hG 11 6 (by decide) (by decide)) (hG.f 12 (by decide) (by decide)) (hG.f 13 (by decide) (by decide)) (hG.f 15 (by decide) (by decide))
      unfold GC_X5_leastThroughTwo_6 GF_X11_cell
      rw [rdZ_at k rfl (by omega), cp_ok, rdZ_at (6 * e + k) (by omega) (by omega), hCy.own he hk, cp_ok, hG.f 22 (by decide) (by decide)]
      refine ⟨_, rfl, ?_⟩
      dsimp only
      rcases hy k hk with ⟨-, -, h3⟩ | ⟨-, -, h3, h4⟩
      · exfalso
        refine h3 (fun j => if j = f then i else if j = e then k else 0) (fun j _ hj => ?_) (by rw [if_neg (by omega), if_pos rfl])
        dsimp only
        by_cases jf : j = f
        · rw [if_pos jf, jf]
          exact ⟨hi, by simp⟩
        · rw [if_neg jf]
          by_cases je : j = e
          · rw [if_pos je, je]
            exact ⟨hk, by simp [show e ≠ f by omega]⟩
          · rw [if_neg je]
            exact ⟨by have := (mS_6 (x := x) hB j).1; omega, by simp [jf]⟩
      · exact glue (E := nfS B n - 1) (by omega) ⟨h3, h4⟩ ht (fun j l hj => by simp [show j ≠ f by omega])
/-! the reference: paths that may be -/
theorem m_leavesOnly {N : Nat} {m : Nat → Nat} {lag : Nat → Nat → Nat} {own : Nat → Nat → Int} {A : Nat → Nat → Bool} {g : uZ} (hT : MT N m lag own g) {f i : Nat} (hf : f < N) (hi : i < m f) (hA : ∀ e k, e < N → k < m e → g 70 (6 * e + k) = if A e k = true then 0 else 1) : ∃ g', GF_X12_leavesOnly (f : Int) (i : Int) g = some g' ∧ ∀ e k, e < N → k < m e → g' 70 (6 * e + k) = if (A e k && (decide (e ≠ f) || decide (k = i))) = true then 0 else 1 := by
  have hN := hT.1
  have hm := hT.2 f hf
  unfold GF_X12_leavesOnly
  refine lp_go (fun t z => z.1 = (t : Int) ∧ Fr [70] [] g z.2 ∧ ∀ e k, e < N → k < m e → z.2 70 (6 * e + k) = if (A e k && (decide (e ≠ f) || decide (k = i) || decide (t ≤ k))) = true then 0 else 1) (fun z => ∀ e k, e < N → k < m e → z 70 (6 * e + k) = if (A e k && (decide (e ≠ f) || decide (k = i))) = true then 0 else 1) (m f) (by omega) ⟨rfl, Fr.rf, fun e k he hk => by dsimp only; rw [hA e k he hk]; simp⟩ ?_ ?_ (fun q hq => ⟨q, rfl, hq⟩)
  · rintro t ⟨w, z⟩ ht ⟨e1, hF, hz⟩
    simp only at e1 hF hz
    subst e1
    dsimp only
    unfold GB_X12_leavesOnly_3 GJ_X12_leavesOnly_2
    rw [rdZ_at f rfl (by omega), hF.f 66 (by decide) (by decide), hm.2.2.1, ck_ok (by omega), ck_ok (by omega), if_neg (by omega), ck_ok (by omega)]
    by_cases c : t = i
    · rw [if_pos (by omega), lt_ok]
      refine ⟨_, rfl, by dsimp only; omega, hF, fun e k he hk => ?_⟩
      dsimp only
      rw [hz e k he hk]
      by_cases ki : k = i
      · simp [ki]
      · have : (t ≤ k) ↔ (t + 1 ≤ k) := by omega
        simp [this]
    · rw [if_neg (by omega), nar1, wrZ_at (6 * f + t) (by omega) (by omega), lt_ok]
      refine ⟨_, rfl, by dsimp only; omega, hF.wr (by decide), fun e k he hk => ?_⟩
      have m6 := (hT.2 e he).2.1
      dsimp only
      by_cases q : e = f ∧ k = t
      · obtain ⟨rfl, rfl⟩ := q
        rw [upZ_ss]
        simp [c]
      · rw [upZ_sn (by omega), hz e k he hk]
        by_cases ef : e = f
        · have kt : k ≠ t := fun h => q ⟨ef, h⟩
          have : (t ≤ k) ↔ (t + 1 ≤ k) := by omega
          simp [this]
        · simp [ef]
  · rintro ⟨w, z⟩ ⟨e1, hF, hz⟩
    simp only at e1 hF hz
    subst e1
    dsimp only
    refine ⟨z, ?_, fun e k he hk => ?_⟩
    · unfold GB_X12_leavesOnly_3
      rw [rdZ_at f rfl (by omega), hF.f 66 (by decide) (by decide), hm.2.2.1, ck_ok (by omega), ck_ok (by omega), if_pos (by omega)]
    · rw [hz e k he hk]
      by_cases ef : e = f
      · subst ef
        have : ¬ m e ≤ k := by omega
        simp [this]
      · simp [ef]
theorem m_least {N : Nat} {m : Nat → Nat} {lag : Nat → Nat → Nat} {own : Nat → Nat → Int} {A : Nat → Nat → Bool} {g : uZ} {j o v : Nat} (hT : MT N m lag own g) (hP : MP j o v g) (hN1 : 1 ≤ N) (hA : ∀ e k, e < N → k < m e → g 70 (6 * e + k) = if A e k = true then 0 else 1) (hex : ∃ q, aP m A q 0 (N - 1)) : ∃ g' r, GF_X12_laysCosts ((N : Int) - 1) g = some g' ∧ GF_X12_leastOfAll g' = some r ∧ PM m own (fun e a b => spS j o v (lag e a) (lag (e + 1) b)) A (N - 1) r ∧ g' 55 9 = g 55 9 := by
  have hN := hT.1
  have eN : (N : Int) - 1 = ((N - 1 : Nat) : Int) := by omega
  obtain ⟨g3, e3, h23, hrow⟩ := m_laysCosts (A := A) (e := N - 1) hT hP (by omega) (fun f i hf hi => hA f i (by omega) hi)
  have hF3 : Fr [68] [(55, 23)] g g3 := fF_X12_laysCosts Fr.rf e3
  obtain ⟨r, h1, h2, h3⟩ := m_leastOfAll (m := m) (e := N - 1) h23 (by omega) (by rw [hF3.f 66 (by decide) (by decide)]; exact (hT.2 0 (by omega)).2.2.1) (hT.2 0 (by omega)).2.1 (hrow 0 (by omega))
  have hpm := TP.first (T := fun k => g3 68 k) (r := r) (fun k hk => by have := (hrow 0 (by omega) k hk).1; rw [Nat.mul_zero, Nat.zero_add] at this; exact this) h3 hex
  exact ⟨g3, r, by rw [eN]; exact e3, h1, hpm, hF3 55 9 (by decide) (by decide)⟩
theorem m_least0 (g : uZ) : GF_X12_laysCosts (((0 : Nat) : Int) - 1) g = some (upZ g 55 23 (-1)) ∧ GF_X12_leastOfAll (upZ g 55 23 (-1)) = some 0 := by
  refine ⟨?_, ?_⟩
  · unfold GF_X12_laysCosts
    rw [pfZ_ok]
    rw [lp_for (fun _ => ((-1 : Int), upZ g 55 23 (-1))) 0 (upZ g 55 23 (-1)) (by rfl) (by omega) (fun i hi => by omega) (by dsimp only; unfold GB_X12_laysCosts_8; rw [ck_ok (by omega), if_pos (by omega)])]
    rfl
  · unfold GF_X12_leastOfAll
    rw [upZ_ss, ck_ok (by omega), if_neg (by omega)]
theorem m_opened {x B : Nat → Int} {n : Nat} {z : uZ} (hM : MB x B n z) (hn : n ≤ 800) (hB : BOk B) (hx : XOk x) : ∃ g2 g3, GF_X12_laysAll z = some g2 ∧ GF_X12_opens g2 = some g3 ∧ g3 55 17 = (nfS B n : Int) ∧ MT (nfS B n) (mS x B) (lgS x B) (owS x B) g3 ∧ MP (bN B 10) (bN B 11) (bN B 12) g3 ∧ (∀ e k, e < nfS B n → k < mS x B e → g3 70 (6 * e + k) = if (fun _ _ => true : Nat → Nat → Bool) e k = true then 0 else 1) ∧ g3 55 9 = z 55 9 := by
  have h100 := nfS_100 hB hn
  obtain ⟨g1, e1, h17, hmr⟩ := m_laysAll hM hn hB hx
  have hF1 : Fr [62, 63, 64, 65, 66, 67] [(55, 17)] z g1 := fF_X12_laysAll Fr.rf e1
  have hM1 := hM.cg hF1 (by decide) (by decide) (by decide)
  have hT1 := MR.mt hB hx h100 hmr
  obtain ⟨g2, e2, h70, hP2⟩ := m_opens hM1 hB
  have hF2 : Fr [70] [(55, 21), (55, 22)] g1 g2 := fF_X12_opens Fr.rf e2
  have hT2 := hT1.cg (hF2.f 64 (by decide) (by decide)) (hF2.f 65 (by decide) (by decide)) (hF2.f 66 (by decide) (by decide))
  refine ⟨g1, g2, e1, e2, (hF2 55 17 (by decide) (by decide)).trans h17, hT2, hP2, fun e k he hk => ?_, (hF2 55 9 (by decide) (by decide)).trans (hF1 55 9 (by decide) (by decide))⟩
  have := (hT2.2 e he).2.1
  rw [if_pos rfl]
  exact h70 _ (by omega)
