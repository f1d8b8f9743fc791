/-! the reference lays THE PATH -/
def MO (N : Nat) (m : Nat → Nat) (lag : Nat → Nat → Nat) (own : Nat → Nat → Int) (j o v : Nat) (g : uZ) : Prop := g 55 17 = N ∧ MT N m lag own g ∧ MP j o v g ∧ g 55 23 = (N : Int) - 1 ∧ (1 ≤ N → bestP m own (fun e a b => spS j o v (lag e a) (lag (e + 1) b)) (N - 1) (fun f => (g 69 f).toNat)) ∧ (∀ f, f < N → 0 ≤ g 69 f) ∧ ∀ f, f < N → RowC m own (fun e a b => spS j o v (lag e a) (lag (e + 1) b)) (fun _ _ => true) (N - 1) g f
theorem MR.mt {x B : Nat → Int} {g : uZ} {N : Nat} (hB : BOk B) (hx : XOk x) (hN : N ≤ 100) (h : ∀ f, f < N → MR x B g f) : MT N (mS x B) (lgS x B) (owS x B) g := by
  refine ⟨hN, fun f hf => ?_⟩
  obtain ⟨h1, h2⟩ := h f hf
  have h6 := mS_6 hB (x := x) f
  refine ⟨h6.1, h6.2, h1, fun i hi => ?_⟩
  obtain ⟨h3, h4⟩ := h2 i hi
  have h5 := lgS_r hB (x := x) f i
  have b5 := hB.b5
  have h7 := owS_r hB hx f i
  exact ⟨h3, by omega, h4, h7.1, by omega⟩
theorem CR.ct {x B : Nat → Int} {g : uZ} {N : Nat} (hB : BOk B) (hx : XOk x) (hN : N ≤ 100) (h11 : g 11 6 = N) (h : ∀ f, f < N → CR x B g f) : CT N (mS x B) (lgS x B) (owS x B) g := by
  refine ⟨h11, hN, fun f hf => ?_⟩
  obtain ⟨h1, h2⟩ := h f hf
  have h6 := mS_6 hB (x := x) f
  refine ⟨h6.1, h6.2, h1, fun i hi => ?_⟩
  obtain ⟨h3, h4, -⟩ := h2 i hi
  have h5 := lgS_r hB (x := x) f i
  have b5 := hB.b5
  have h7 := owS_r hB hx f i
  exact ⟨h3, by omega, h4, h7.1, by omega⟩
theorem m_laysPath {x B : Nat → Int} {n : Nat} {g : uZ} (hM : MB x B n g) (hn : n ≤ 800) (hB : BOk B) (hx : XOk x) : ∃ g', GF_X12_laysPath g = some g' ∧ MO (nfS B n) (mS x B) (lgS x B) (owS x B) (bN B 10) (bN B 11) (bN B 12) g' := by
  have h100 := nfS_100 hB hn
  unfold GF_X12_laysPath
  obtain ⟨g1, e1, h17, hmr⟩ := m_laysAll hM hn hB hx
  have hF1 : Fr [62, 63, 64, 65, 66, 67] [(55, 17)] g g1 := fF_X12_laysAll Fr.rf e1
  have hM1 := hM.cg hF1 (by decide) (by decide) (by decide)
  have hT1 := MR.mt hB hx h100 hmr
  obtain ⟨g2, e2, h70, hP2⟩ := m_opens hM1 hB
  have hF2 : Fr [70] [(55, 21), (55, 22)] g1 g2 := fF_X12_opens Fr.rf e2
  have hT2 := hT1.cg (hF2.f 64 (by decide) (by decide)) (hF2.f 65 (by decide) (by decide)) (hF2.f 66 (by decide) (by decide))
  have h172 : g2 55 17 = (nfS B n : Int) := (hF2 55 17 (by decide) (by decide)).trans h17
  rw [e1, cp_ok, e2, cp_ok, h172]
  generalize hN : nfS B n = N at *
  by_cases hN0 : N = 0
  · subst hN0
    have ec : GF_X12_laysCosts (((0 : Nat) : Int) - 1) g2 = some (upZ g2 55 23 (-1)) := by
      unfold GF_X12_laysCosts
      rw [pfZ_ok]
      rw [lp_for (fun _ => ((-1 : Int), upZ g2 55 23 (-1))) 0 (upZ g2 55 23 (-1)) (by rfl) (by omega) (fun i hi => by omega) (by dsimp only; unfold GB_X12_laysCosts_8; rw [ck_ok (by omega), if_pos (by omega)])]
      rfl
    have eg : GF_X12_goesAlong (upZ g2 55 23 (-1)) = some (upZ g2 55 23 (-1)) := by
      unfold GF_X12_goesAlong GF_X12_leastOfAll
      rw [upZ_ss, ck_ok (by omega), if_neg (by omega), cp_ok]
      rw [lp_for (fun _ => ((0 : Int), ((0 : Int), upZ g2 55 23 (-1)))) 0 (upZ g2 55 23 (-1)) (by rfl) (by omega) (fun i hi => by omega) (by dsimp only; unfold GB_X12_goesAlong_5; rw [upZ_ss, ck_ok (by omega), ck_ok (by omega), if_pos (by omega)])]
      rfl
    rw [ec, cp_ok, eg, cp_ok]
    refine ⟨_, rfl, by rw [upZ_sn (by decide)]; exact h172, ?_, ?_, by rw [upZ_ss]; omega, fun h => by omega, fun f hf => by omega, fun f hf => by omega⟩
    · exact ⟨by omega, fun f hf => by omega⟩
    · obtain ⟨p1, p2, p3, p4⟩ := hP2
      exact ⟨by rw [upZ_n (by decide)]; exact p1, by rw [upZ_sn (by decide)]; exact p2, by rw [upZ_sn (by decide)]; exact p3, p4⟩
  · have eN : (N : Int) - 1 = ((N - 1 : Nat) : Int) := by omega
    obtain ⟨g3, e3, h23, hrow⟩ := m_laysCosts (A := fun _ _ => true) (e := N - 1) hT2 hP2 (by omega) (fun f i hf hi => by
      have := (hT2.2 f (by omega)).2.1
      rw [if_pos rfl]
      exact h70 _ (by omega))
    have hF3 : Fr [68] [(55, 23)] g2 g3 := fF_X12_laysCosts Fr.rf e3
    have hT3 := hT2.cg (hF3.f 64 (by decide) (by decide)) (hF3.f 65 (by decide) (by decide)) (hF3.f 66 (by decide) (by decide))
    have hP3 : MP (bN B 10) (bN B 11) (bN B 12) g3 := by
      obtain ⟨p1, p2, p3, p4⟩ := hP2
      exact ⟨by rw [hF3.f 56 (by decide) (by decide)]; exact p1, by rw [hF3 55 21 (by decide) (by decide)]; exact p2, by rw [hF3 55 22 (by decide) (by decide)]; exact p3, p4⟩
    obtain ⟨g4, e4, hnn, hbest⟩ := m_goesAlong hT3 hP3 (e := N - 1) (by omega) h23 hrow
    have hF4 : Fr [69] [] g3 g4 := fF_X12_goesAlong Fr.rf e4
    rw [eN, e3, cp_ok, e4, cp_ok]
    refine ⟨g4, rfl, ?_, ?_, ?_, ?_, fun _ => hbest, fun f hf => hnn f (by omega), fun f hf => ?_⟩
    · rw [hF4 55 17 (by decide) (by decide), hF3 55 17 (by decide) (by decide)]
      exact h172
    · exact hT3.cg (hF4.f 64 (by decide) (by decide)) (hF4.f 65 (by decide) (by decide)) (hF4.f 66 (by decide) (by decide))
    · obtain ⟨p1, p2, p3, p4⟩ := hP3
      exact ⟨by rw [hF4.f 56 (by decide) (by decide)]; exact p1, by rw [hF4 55 21 (by decide) (by decide)]; exact p2, by rw [hF4 55 22 (by decide) (by decide)]; exact p3, p4⟩
    · rw [hF4 55 23 (by decide) (by decide), h23, eN]
    · intro i hi
      rw [hF4.f 68 (by decide) (by decide)]
      exact hrow f (by omega) i hi
