/-! THE PATH, as the class finds it -/
def PO (N : Nat) (m : Nat → Nat) (lag : Nat → Nat → Nat) (own : Nat → Nat → Int) (st : Nat → Nat → Nat → Int) (g : uZ) : Prop := g 16 12 = N ∧ (∀ e, e < N → RowF m own st g e) ∧ (∀ e, e < N → RowT N m own st g e) ∧ (1 ≤ N → bestP m own st (N - 1) (fun f => (g 23 f).toNat)) ∧ ∀ f, f < N → 0 ≤ g 23 f ∧ g 24 f = (lag f (g 23 f).toNat : Int)
theorem p5_find {g : uZ} {N : Nat} {m : Nat → Nat} {lag : Nat → Nat → Nat} {own : Nat → Nat → Int} (hC : CT N m lag own g) (hB : BOk (g 5)) : ∃ g', GF_X5_find g = some g' ∧ PO N m lag own (fun e a b => spS (bN (g 5) 10) (bN (g 5) 11) (bN (g 5) 12) (lag e a) (lag (e + 1) b)) g' ∧ g' 17 0 = (bN (g 5) 10 : Int) ∧ g' 17 1 = (bN (g 5) 11 : Int) ∧ g' 17 2 = (bN (g 5) 12 : Int) := by
  obtain ⟨c11, c100, hCf⟩ := id hC
  have b10 := hB.b10
  have b11 := hB.b11
  have b12 := hB.b12
  unfold GF_X5_find GF_X1_frameCount GF_X9_setBy_17_4 GF_X9_set_17
  rw [c11, cp_ok, pfZ_ok, p0_10, cp_ok, p0_11, cp_ok, p0_12, cp_ok]
  rw [pfZ_ok, pfZ_ok, pfZ_ok, cp_ok, cp_ok]
  have u5 : upZ g 16 12 (N : Int) 5 = g 5 := upZ_n (by decide)
  rw [u5, b10.1, b11.1, b12.1]
  generalize hg1 : upZ (upZ (upZ (upZ g 16 12 (N : Int)) 17 0 (bN (g 5) 10 : Int)) 17 1 (bN (g 5) 11 : Int)) 17 2 (bN (g 5) 12 : Int) = g1
  have hF1 : Fr [] [(16, 12), (17, 0), (17, 1), (17, 2)] g g1 := by rw [← hg1]; exact (((Fr.rf.pf (by decide)).pf (by decide)).pf (by decide)).pf (by decide)
  have g16 : g1 16 12 = N := by rw [← hg1, upZ_n (by decide), upZ_n (by decide), upZ_n (by decide), upZ_ss]
  have g170 : g1 17 0 = (bN (g 5) 10 : Int) := by rw [← hg1, upZ_sn (by decide), upZ_sn (by decide), upZ_ss]
  have g171 : g1 17 1 = (bN (g 5) 11 : Int) := by rw [← hg1, upZ_sn (by decide), upZ_ss]
  have g172 : g1 17 2 = (bN (g 5) 12 : Int) := by rw [← hg1, upZ_ss]
  have hC1 : CT N m lag own g1 := hC.cg (hF1 11 6 (by decide) (by decide)) (hF1.f 12 (by decide) (by decide)) (hF1.f 13 (by decide) (by decide)) (hF1.f 15 (by decide) (by decide))
  generalize hst : (fun e a b => spS (bN (g 5) 10) (bN (g 5) 11) (bN (g 5) 12) (lag e a) (lag (e + 1) b)) = st at *
  refine p5_fwd hC1 g170 g171 g172 (by omega) (by omega) (by omega) g16 (fun q hF hrow => ?_)
  rw [hst] at hrow
  have q16 : q 16 12 = N := (hF 16 12 (by decide) (by decide)).trans g16
  have q17 : q 17 = g1 17 := hF.f 17 (by decide) (by decide)
  have hCq : CT N m lag own q := hC1.cg (hF 11 6 (by decide) (by decide)) (hF.f 12 (by decide) (by decide)) (hF.f 13 (by decide) (by decide)) (hF.f 15 (by decide) (by decide))
  have hm6 : ∀ f, f < N → m f ≤ 6 := fun f hf => (hCf f hf).2.1
  unfold GC_X5_find_10
  rw [lt_ok, q16]
  refine lp_go (fun t z => z.1 = (N : Int) - 1 - t ∧ Fr [22] [] q z.2 ∧ ∀ e, N - t ≤ e → e < N → RowT N m own st z.2 e) (fun z => Fr [22] [] q z ∧ ∀ e, e < N → RowT N m own st z e) N (by omega) ⟨by simp, Fr.rf, fun e he1 he2 => by omega⟩ ?_ ?_ ?_
  · rintro t ⟨w, z⟩ ht ⟨e1, hFz, hz⟩
    simp only at e1 hFz hz
    have hCz : CT N m lag own z := hCq.cg (hFz 11 6 (by decide) (by decide)) (hFz.f 12 (by decide) (by decide)) (hFz.f 13 (by decide) (by decide)) (hFz.f 15 (by decide) (by decide))
    have z17 : z 17 = g1 17 := (hFz.f 17 (by decide) (by decide)).trans q17
    have ew : w = ((N - 1 - t : Nat) : Int) := by omega
    subst ew
    obtain ⟨z2, e2, hr2, ho2⟩ := p5_findTails (f := N - 1 - t) hCz (by rw [z17]; exact g170) (by rw [z17]; exact g171) (by rw [z17]; exact g172) (by omega) (by omega) (by omega) ((hFz 16 12 (by decide) (by decide)).trans q16) (by omega) (fun hlt => by rw [hst]; exact hz _ (by omega) hlt)
    rw [hst] at hr2
    have hF2 : Fr [22] [] z z2 := fF_X5_findTails Fr.rf e2
    dsimp only
    unfold GB_X5_find_4
    rw [ck_ok (by omega), if_neg (by omega), e2, cp_ok, lt_ok]
    refine ⟨_, rfl, ?_⟩
    dsimp only
    refine ⟨by omega, hFz.tr hF2 (by decide) (by decide), fun e he1 he2 => ?_⟩
    by_cases het : e = N - 1 - t
    · subst het
      exact hr2
    · intro i hi
      have h6 := hm6 e he2
      rw [ho2 _ (by omega)]
      exact hz e (by omega) he2 i hi
  · rintro ⟨w, z⟩ ⟨e1, hFz, hz⟩
    simp only at e1 hFz hz
    dsimp only
    unfold GB_X5_find_4
    rw [ck_ok (by omega), if_pos (by omega)]
    exact ⟨_, rfl, hFz, fun e he => hz e (by omega) he⟩
  · rintro z ⟨hFz, hz⟩
    have z16 : z 16 12 = N := (hFz 16 12 (by decide) (by decide)).trans q16
    have z17 : z 17 = g1 17 := (hFz.f 17 (by decide) (by decide)).trans q17
    have hCz : CT N m lag own z := hCq.cg (hFz 11 6 (by decide) (by decide)) (hFz.f 12 (by decide) (by decide)) (hFz.f 13 (by decide) (by decide)) (hFz.f 15 (by decide) (by decide))
    have hrz : ∀ e, e < N → RowF m own st z e := fun e he => (hrow e he).cg (t := N) he hm6 (fun y _ => ⟨by rw [hFz.f 19 (by decide) (by decide)], by rw [hFz.f 20 (by decide) (by decide)], by rw [hFz.f 21 (by decide) (by decide)]⟩)
    unfold GC_X5_find_9
    rw [z16, ck_ok (by omega)]
    by_cases hN0 : N = 0
    · subst hN0
      rw [if_pos (by rfl)]
      unfold GJ_X5_find_8
      rw [z16, lt_ok]
      rw [lp_for (fun _ => ((0 : Int), ((-1 : Int), z))) 0 z (by simp) (by omega) (fun i hi => by omega) (by dsimp only; unfold GB_X5_find_6; rw [ck_ok (by omega), if_pos (by omega)])]
      exact ⟨z, rfl, ⟨z16, fun e he => by omega, fun e he => by omega, fun h => by omega, fun f hf => by omega⟩, by rw [z17]; exact g170, by rw [z17]; exact g171, by rw [z17]; exact g172⟩
    · obtain ⟨i0, ef, hi0, hmin⟩ := p5_firstAtEnd (e := N - 1) hCz (by omega) (fun d hd => hrz d (by omega))
      have eN : (N : Int) - 1 = ((N - 1 : Nat) : Int) := by omega
      rw [if_neg (by omega), eN, ef, cp_ok]
      unfold GJ_X5_find_8
      rw [z16, lt_ok, eN]
      have hfw := RowF.fw (E := N - 1) (fun e he => hrz e (by omega))
      have hbest := hfw.best (e := N - 1) (i := i0) (Nat.le_refl _) hi0 hmin
      have hisP := hbest.1.1
      generalize hp : Pf (cN z) (N - 1) i0 = p at *
      refine lp_go (fun t q => q.2.1 = (N : Int) - 1 - t ∧ (t < N → q.1 = (p (N - 1 - t) : Int)) ∧ Fr [23, 24] [] z q.2.2 ∧ ∀ y, N - t ≤ y → y < N → q.2.2 23 y = (p y : Int) ∧ q.2.2 24 y = (lag y (p y) : Int)) (fun q => Fr [23, 24] [] z q ∧ ∀ y, y < N → q 23 y = (p y : Int) ∧ q 24 y = (lag y (p y) : Int)) N (by omega) ⟨by dsimp only; omega, fun _ => by dsimp only; rw [← hp, Nat.sub_zero, Pf_e], Fr.rf, fun y h1 h2 => by omega⟩ ?_ ?_ ?_
      · rintro t ⟨i, w, q⟩ ht ⟨e1, e2, hFq, hq⟩
        simp only at e1 e2 hFq hq
        have e2 := e2 ht
        have ew : w = ((N - 1 - t : Nat) : Int) := by omega
        subst ew e2
        have hpl := hisP (N - 1 - t) (by omega)
        have h6 := hm6 (N - 1 - t) (by omega)
        have hCq2 : CT N m lag own (upZ q 23 (N - 1 - t) (p (N - 1 - t) : Int)) := hCz.cg (by rw [upZ_n (by decide)]; exact hFq 11 6 (by decide) (by decide)) (by rw [upZ_n (by decide)]; exact hFq.f 12 (by decide) (by decide)) (by rw [upZ_n (by decide)]; exact hFq.f 13 (by decide) (by decide)) (by rw [upZ_n (by decide)]; exact hFq.f 15 (by decide) (by decide))
        have hCq3 : CT N m lag own (upZ (upZ q 23 (N - 1 - t) (p (N - 1 - t) : Int)) 24 (N - 1 - t) (lag (N - 1 - t) (p (N - 1 - t)) : Int)) := hCq2.cg (by rw [upZ_n (by decide)]) (by rw [upZ_n (by decide)]) (by rw [upZ_n (by decide)]) (by rw [upZ_n (by decide)])
        obtain ⟨c, k1, -, -, k4, -⟩ := hrz (N - 1 - t) (by omega) (p (N - 1 - t)) hpl
        have hc21 : upZ (upZ q 23 (N - 1 - t) (p (N - 1 - t) : Int)) 24 (N - 1 - t) (lag (N - 1 - t) (p (N - 1 - t)) : Int) 21 (6 * (N - 1 - t) + p (N - 1 - t)) = (c : Int) := by
          rw [upZ_n (by decide), upZ_n (by decide), hFq.f 21 (by decide) (by decide)]
          exact k1
        have hpc : ∀ e, N - 1 - t = e + 1 → c < m e := fun e he => by
          rw [he] at k4
          exact k4.1
        dsimp only
        unfold GB_X5_find_6
        rw [ck_ok (by omega), if_neg (by omega), wrZ_at (N - 1 - t) rfl (by omega), hCq2.lag (by omega) hpl, cp_ok, wrZ_at (N - 1 - t) rfl (by omega), p5_aheadOf hCq3 (by omega) hpl hc21 hpc, cp_ok, lt_ok]
        refine ⟨_, rfl, ?_⟩
        dsimp only
        refine ⟨by omega, fun ht2 => ?_, (hFq.wr (by decide)).wr (by decide), fun y h1 h2 => ?_⟩
        · rw [if_neg (by omega)]
          have hpv := Pf_prev (cN z) (N - 1) i0 (N - 1 - (t + 1)) (by omega)
          rw [hp] at hpv
          have e3 : N - 1 - (t + 1) + 1 = N - 1 - t := by omega
          rw [e3] at hpv
          rw [← hpv]
          unfold cN
          rw [k1]
          simp
        · rw [upZ_n (by decide : (23 : Nat) ≠ 24), upZ_s, upZ_s, upZ_n (by decide : (24 : Nat) ≠ 23)]
          by_cases hy : y = N - 1 - t
          · subst hy
            rw [if_pos rfl, if_pos rfl]
            exact ⟨rfl, rfl⟩
          · rw [if_neg hy, if_neg hy]
            exact hq y (by omega) h2
      · rintro ⟨i, w, q⟩ ⟨e1, e2, hFq, hq⟩
        simp only at e1 e2 hFq hq
        dsimp only
        unfold GB_X5_find_6
        rw [ck_ok (by omega), if_pos (by omega)]
        exact ⟨_, rfl, hFq, fun y hy => hq y (by omega) hy⟩
      · rintro q ⟨hFq, hq⟩
        have hq17 : q 17 = g1 17 := (hFq.f 17 (by decide) (by decide)).trans z17
        refine ⟨q, rfl, ⟨(hFq 16 12 (by decide) (by decide)).trans z16, fun e he => ?_, fun e he => ?_, fun _ => ?_, fun f hf => ?_⟩, by rw [hq17]; exact g170, by rw [hq17]; exact g171, by rw [hq17]; exact g172⟩
        · exact (hrz e he).cg (t := N) he hm6 (fun y _ => ⟨by rw [hFq.f 19 (by decide) (by decide)], by rw [hFq.f 20 (by decide) (by decide)], by rw [hFq.f 21 (by decide) (by decide)]⟩)
        · intro i hi
          rw [hFq.f 22 (by decide) (by decide)]
          exact hz e he i hi
        · obtain ⟨b1, b2⟩ := hbest.1
          have ep : ∀ f, f ≤ N - 1 → (q 23 f).toNat = p f := fun f hf => by rw [(hq f (by omega)).1]; simp
          refine ⟨fun f hf => by dsimp only; rw [ep f hf]; exact b1 f hf, fun r hr => ?_⟩
          rw [cst_cg ep, lxl.cg (fun _ _ => rfl) ep]
          exact b2 r hr
        · have := hq f hf
          rw [this.1]
          refine ⟨by omega, ?_⟩
          rw [this.2]
          simp
