/-! NOTES, as the reference lays them -/
theorem m_goesOnNote {g : uZ} {N j : Nat} {L : Nat → Int} (hP : LGP N L g) (hj : 0 < j) (hjN : j < N) : GF_X12_goesOnNote (j : Int) g = some (if ctN L j then 1 else 0) := by
  have hN := hP.le
  have b1 := hP.bd hjN
  have b2 := hP.bd (f := j - 1) (by omega)
  have et : ((j : Int) - 1) = ((j - 1 : Nat) : Int) := by omega
  unfold GF_X12_goesOnNote GJ_X12_goesOnNote_1 GJ_X12_goesOnNote_2
  rw [et, hP.at (by omega), cp_ok, hP.at hjN, cp_ok, ck_ok (by omega)]
  by_cases h1 : L (j - 1) = 0
  · have hc : ctN L j = false := by unfold ctN; simp [h1]
    rw [if_pos (by omega), bzZ_0, hc]
    rfl
  · rw [if_neg (by omega), ck_ok (by omega)]
    by_cases h2 : L j = 0
    · have hc : ctN L j = false := by unfold ctN; simp [h2]
      rw [if_pos (by omega), bzZ_0, hc]
      rfl
    · rw [if_neg (by omega), m_apart g (by unfold inR; omega) (by unfold inR; omega), cp_ok]
      by_cases hd : L j - L (j - 1) ≤ 1 ∧ L (j - 1) - L j ≤ 1
      · have hc : ctN L j = true := by unfold ctN; rw [decide_eq_true_eq]; exact ⟨by omega, h2, h1, hd.1, hd.2⟩
        rw [ck_ok (by unfold ab; split <;> omega), if_neg (by unfold ab; split <;> omega), bzZ_1, hc]
        rfl
      · have hc : ctN L j = false := by unfold ctN; rw [decide_eq_false_iff_not]; exact fun q => hd ⟨q.2.2.2.1, q.2.2.2.2⟩
        rw [ck_ok (by unfold ab; split <;> omega), if_pos (by unfold ab; split <;> omega), bzZ_0, hc]
        rfl
theorem nN_skip {L : Nat → Int} {w u : Nat} (hwu : w < u) (h : ∀ j, w < j → j < u → ctN L j = true) : nN L u = nN L (w + 1) := by
  induction u with
  | zero => omega
  | succ u ih =>
    by_cases q : u = w
    · subst q; rfl
    · have h1 := ih (by omega) (fun j h1 h2 => h j h1 (by omega))
      have h2 := h u (by omega) (by omega)
      have e : nN L (u + 1) = nN L u + if bnN L u then 1 else 0 := rfl
      have hb : bnN L u = false := by unfold bnN; rw [h2]; simp
      rw [e, hb, h1]
      rfl
def MN (L : Nat → Int) (N w : Nat) (g : uZ) : Prop := g 55 38 = (nN L w : Int) ∧ ∀ i, i < nN L w → ∃ a l v : Nat, g 79 i = (a : Int) ∧ g 80 i = (l : Int) ∧ g 81 i = (v : Int) ∧ ntS L N i a l ∧ mdV L a l v
theorem m_notes {g : uZ} {N : Nat} {L : Nat → Int} (hP : LGP N L g) : ∃ g', (pfZ g 55 38 0 fun g2 => lp (fun z => GB_X12_laysNotes_6 z.1 z.2) (0, g2) (fun z => GC_X12_laysNotes_7 z)) = some g' ∧ MN L N N g' := by
  have hN := hP.le
  rw [pfZ_ok]
  refine lp_wh (fun q => ∃ w : Nat, q.1 = (w : Int) ∧ w ≤ N ∧ (w < N → ctN L w = false) ∧ Fr [79, 80, 81, 82] [(55, 38)] g q.2 ∧ MN L N w q.2) (fun q => MN L N N q) (fun q => ((N : Int) - q.1).toNat) ⟨0, rfl, by omega, fun _ => by unfold ctN; simp, Fr.rf.pf (by decide), by dsimp only; rw [upZ_ss]; rfl, fun i hi => absurd hi (Nat.not_lt_zero _)⟩ (by dsimp only; omega) ?_ (fun q hq => ⟨q, rfl, hq⟩)
  rintro ⟨wi, z⟩ ⟨w, e1, hw, hcw, hF, s1, s2⟩
  simp only at e1 hF s1 s2
  subst e1
  dsimp only
  have z17 : z 55 17 = (N : Int) := (hF 55 17 (by decide) (by decide)).trans hP.1
  have hPz : LGP N L z := hP.fr (hF 55 17 (by decide) (by decide)) (hF.f 64 (by decide) (by decide)) (hF.f 65 (by decide) (by decide)) (hF.f 66 (by decide) (by decide)) (hF.f 69 (by decide) (by decide))
  unfold GB_X12_laysNotes_6
  rw [z17, ck_ok (by omega), ck_ok (by omega)]
  by_cases hwN : w = N
  · right
    rw [if_pos (by omega)]
    subst hwN
    exact ⟨z, rfl, s1, s2⟩
  · left
    have hwl : w < N := by omega
    rw [if_neg (by omega), lt_ok]
    obtain ⟨b, ⟨u, e, h1, h2, h3, h4⟩, hl⟩ := lp_while (f := fun q => GB_X12_laysNotes_3 z q) (a := (w : Int) + 1) (k := fun q => GC_X12_laysNotes_5 (w : Int) z q) (fun q => ∃ u : Nat, q = (u : Int) ∧ w < u ∧ u ≤ N ∧ ∀ j, w < j → j < u → ctN L j = true) (fun q => ∃ u : Nat, q = (u : Int) ∧ w < u ∧ u ≤ N ∧ (∀ j, w < j → j < u → ctN L j = true) ∧ (u < N → ctN L u = false)) (fun q => ((N : Int) - q).toNat) ⟨w + 1, by omega, by omega, by omega, fun j h1 h2 => by omega⟩ (by omega) (by
      rintro q ⟨u, rfl, h1, h2, h3⟩
      unfold GB_X12_laysNotes_3
      rw [z17, ck_ok (by omega), ck_ok (by omega)]
      by_cases hu : u = N
      · right
        rw [if_pos (by omega)]
        exact ⟨_, rfl, u, rfl, h1, h2, h3, fun h => by omega⟩
      · rw [if_neg (by omega), m_goesOnNote hPz (by omega) (by omega), cp_ok]
        cases hc : ctN L u with
        | true =>
          left
          rw [if_pos rfl, ck_ok (by omega), if_neg (by omega), lt_ok]
          refine ⟨_, rfl, ⟨u + 1, by omega, by omega, by omega, fun j q1 q2 => ?_⟩, by omega⟩
          by_cases hj : j = u
          · subst hj; exact hc
          · exact h3 j q1 (by omega)
        | false =>
          right
          rw [if_neg (by decide), ck_ok (by omega), if_pos rfl]
          exact ⟨_, rfl, u, rfl, h1, h2, h3, fun _ => hc⟩)
    rw [hl]
    subst e
    have hsk := nN_skip h1 h3
    have e5 : nN L (w + 1) = nN L w + if bnN L w then 1 else 0 := rfl
    have hle := nN_le L w
    have bw := hPz.bd hwl
    unfold GC_X12_laysNotes_5 GJ_X12_laysNotes_4
    rw [hPz.at hwl, cp_ok, ck_ok (by omega)]
    by_cases h0 : L w = 0
    · have hb : bnN L w = false := by unfold bnN; simp [h0]
      rw [hb, if_neg (by decide)] at e5
      rw [if_pos (by omega)]
      refine ⟨_, rfl, ⟨u, rfl, h2, h4, hF, ?_⟩, by dsimp only; omega⟩
      dsimp only
      unfold MN
      rw [hsk, e5]
      exact ⟨s1, s2⟩
    · have hb : bnN L w = true := by unfold bnN; rw [hcw hwl]; simp [h0]
      rw [hb, if_pos rfl] at e5
      have hnt : ntS L N (nN L w) w (u - w) := ⟨hb, rfl, by omega, by omega, fun j q1 q2 => h3 j q1 (by omega), fun q1 => by rw [show w + (u - w) = u by omega, h4 (by omega)]; decide⟩
      have eu : (u : Int) - (w : Int) = ((u - w : Nat) : Int) := by omega
      rw [if_neg (by omega), wrZ_at (nN L w) s1 (by omega)]
      generalize hz1 : upZ z 79 (nN L w) (w : Int) = z1
      have f1 : Fr [79, 80, 81, 82] [(55, 38)] g z1 := by rw [← hz1]; exact hF.wr (by decide)
      have a1 : z1 55 38 = (nN L w : Int) := by rw [← hz1, upZ_n (by decide)]; exact s1
      rw [a1, wrZ_at (nN L w) rfl (by omega)]
      generalize hz2 : upZ z1 80 (nN L w) ((u : Int) - (w : Int)) = z2
      have f2 : Fr [79, 80, 81, 82] [(55, 38)] g z2 := by rw [← hz2]; exact f1.wr (by decide)
      have a2 : z2 55 38 = (nN L w : Int) := by rw [← hz2, upZ_n (by decide)]; exact a1
      have hP2 : LGP N L z2 := hP.fr (f2 55 17 (by decide) (by decide)) (f2.f 64 (by decide) (by decide)) (f2.f 65 (by decide) (by decide)) (f2.f 66 (by decide) (by decide)) (f2.f 69 (by decide) (by decide))
      obtain ⟨⟨c, z3⟩, hm, v, ev, hmd⟩ := m_middleOf (a := w) (l := u - w) hP2 (by omega) (by omega)
      simp only at ev
      subst ev
      have f3 := fF_X12_middleOf Fr.rf hm
      unfold fp_0 at f3
      simp only at f3
      have f4 : Fr [79, 80, 81, 82] [(55, 38)] g z3 := f2.tr f3 (by decide) (by decide)
      rw [eu, hm, clZ_ok, a2, wrZ_at (nN L w) rfl (by omega), pfZ_ok]
      have a3 : z3 55 38 = (nN L w : Int) := (f3 55 38 (by decide) (by decide)).trans a2
      have c79 : z3 79 = upZ z 79 (nN L w) (w : Int) 79 := by rw [f3.f 79 (by decide) (by decide), ← hz2, upZ_n (by decide), ← hz1]
      have c80 : z3 80 = upZ z1 80 (nN L w) ((u : Int) - (w : Int)) 80 := by rw [f3.f 80 (by decide) (by decide), ← hz2]
      have c81 : z3 81 = z 81 := by rw [f3.f 81 (by decide) (by decide), ← hz2, upZ_n (by decide), ← hz1, upZ_n (by decide)]
      refine ⟨_, rfl, ⟨u, rfl, h2, h4, (f4.wr (by decide)).pf (by decide), ?_⟩, by dsimp only; omega⟩
      dsimp only
      refine ⟨?_, fun i hi => ?_⟩
      · rw [upZ_ss, upZ_n (by decide), a3, hsk, e5]
        omega
      · rw [hsk, e5] at hi
        rw [upZ_n (by decide), upZ_n (by decide), upZ_n (by decide), upZ_n (by decide), upZ_n (by decide), c79, c80]
        by_cases q : i = nN L w
        · subst q
          exact ⟨w, u - w, v, upZ_ss _ _ _ _, by rw [upZ_ss]; exact eu, upZ_ss _ _ _ _, hnt, hmd⟩
        · rw [upZ_sn q, upZ_sn q, upZ_sn q, c81, ← hz1, upZ_n (by decide)]
          exact s2 i (by omega)
