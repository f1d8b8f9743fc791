/-! heads and ranks of all frames -/
def RowF (m : Nat → Nat) (own : Nat → Nat → Int) (st : Nat → Nat → Nat → Int) (q : uZ) (e : Nat) : Prop := ∀ i, i < m e → ∃ c : Nat, q 21 (6 * e + i) = c ∧ 0 ≤ q 19 (6 * e + i) ∧ q 19 (6 * e + i) ≤ 60000 * (e + 1 : Nat) ∧ HR m own st (q 19) (q 20) e i (q 19 (6 * e + i)) c ∧ q 20 (6 * e + i) = (((List.range (m e)).countP (fun k => ahC (cN q) (kN q) e k i) : Nat) : Int)
theorem RowF.cg {m : Nat → Nat} {own : Nat → Nat → Int} {st : Nat → Nat → Nat → Int} {q q' : uZ} {e t : Nat} (h : RowF m own st q e) (he : e < t) (hm : ∀ f, f < t → m f ≤ 6) (hz : ∀ z, z < 6 * t → q' 19 z = q 19 z ∧ q' 20 z = q 20 z ∧ q' 21 z = q 21 z) : RowF m own st q' e := by
  intro i hi
  have hme := hm e he
  obtain ⟨c, h1, h2, h3, h4, h5⟩ := h i hi
  obtain ⟨z1, z2, z3⟩ := hz (6 * e + i) (by omega)
  have hcN : ∀ k, k < m e → cN q' e k = cN q e k := fun k hk => by unfold cN; rw [(hz (6 * e + k) (by omega)).2.2]
  have hcount : (List.range (m e)).countP (fun k => ahC (cN q') (kN q') e k i) = (List.range (m e)).countP (fun k => ahC (cN q) (kN q) e k i) := by
    apply List.countP_congr
    intro k hk
    have hk := List.mem_range.mp hk
    have : ahC (cN q') (kN q') e k i = ahC (cN q) (kN q) e k i := by
      unfold ahC
      rw [hcN k hk, hcN i hi]
      by_cases hc : e = 0 ∨ cN q e k = cN q e i
      · rw [if_pos hc, if_pos hc]
      · rw [if_neg hc, if_neg hc]
        obtain ⟨e, rfl⟩ : ∃ d, e = d + 1 := ⟨e - 1, by omega⟩
        have hb : ∀ k, k < m (e + 1) → cN q (e + 1) k < m e := fun k hk => by
          obtain ⟨c, g1, -, -, g4, -⟩ := h k hk
          have : cN q (e + 1) k = c := by unfold cN; rw [g1]; simp
          rw [this]
          exact g4.1
        have hkN : ∀ l, l < m e → kN q' e l = kN q e l := fun l hl => by
          have := hm e (by omega)
          unfold kN
          rw [(hz (6 * e + l) (by omega)).2.1]
        rw [Nat.add_sub_cancel, hkN _ (hb k hk), hkN _ (hb i hi)]
    rw [this]
  refine ⟨c, by rw [z3]; exact h1, by rw [z1]; exact h2, by rw [z1]; exact h3, ?_, by rw [z2, hcount]; exact h5⟩
  rw [z1]
  cases e with
  | zero => exact h4
  | succ e =>
    obtain ⟨g1, g2, g3⟩ := h4
    have hme2 := hm e (by omega)
    refine ⟨g1, by rw [(hz (6 * e + c) (by omega)).1]; exact g2, fun k hk hkc => ?_⟩
    rw [(hz (6 * e + c) (by omega)).1, (hz (6 * e + k) (by omega)).1, (hz (6 * e + c) (by omega)).2.1, (hz (6 * e + k) (by omega)).2.1]
    exact g3 k hk hkc
theorem RowF.fw {m : Nat → Nat} {own : Nat → Nat → Int} {st : Nat → Nat → Nat → Int} {q : uZ} {E : Nat} (h : ∀ e, e ≤ E → RowF m own st q e) : FW m own st (fun e i => q 19 (6 * e + i)) (cN q) (kN q) E := by
  have hk : ∀ e, e ≤ E → ∀ i, i < m e → q 20 (6 * e + i) = (kN q e i : Int) := fun e he i hi => by
    obtain ⟨c, -, -, -, -, h5⟩ := h e he i hi
    unfold kN
    rw [h5]
    simp
  refine ⟨fun i hi => ?_, fun e he i hi => ?_, fun e he i hi => ?_⟩
  · obtain ⟨c, -, -, -, h4, -⟩ := h 0 (by omega) i hi
    exact h4.1
  · obtain ⟨c, h1, -, -, h4, -⟩ := h (e + 1) (by omega) i hi
    have hc : cN q (e + 1) i = c := by unfold cN; rw [h1]; simp
    rw [hc]
    refine ⟨h4.1, h4.2.1, fun k hkm hkc => ?_⟩
    have := h4.2.2 k hkm hkc
    rw [hk e (by omega) c h4.1, hk e (by omega) k hkm] at this
    simp only
    omega
  · obtain ⟨c, -, -, -, -, h5⟩ := h e he i hi
    have := hk e he i hi
    omega
theorem RowF.prev {m : Nat → Nat} {own : Nat → Nat → Int} {st : Nat → Nat → Nat → Int} {q : uZ} {e : Nat} (h : ∀ d, d ≤ e → RowF m own st q d) : ∀ k, k < m e → 0 ≤ q 19 (6 * e + k) ∧ q 19 (6 * e + k) ≤ 60000 * (e + 1 : Nat) ∧ 0 ≤ q 20 (6 * e + k) ∧ q 20 (6 * e + k) < m e ∧ ∀ l, l < m e → l ≠ k → q 20 (6 * e + l) ≠ q 20 (6 * e + k) := by
  intro k hk
  have hfw := (RowF.fw h).all e (Nat.le_refl _)
  have hkn : ∀ i, i < m e → q 20 (6 * e + i) = (kN q e i : Int) := fun i hi => by
    obtain ⟨c, -, -, -, -, h5⟩ := h e (Nat.le_refl _) i hi
    unfold kN
    rw [h5]
    simp
  obtain ⟨c, -, h2, h3, -, h5⟩ := h e (Nat.le_refl _) k hk
  refine ⟨h2, h3, by omega, ?_, fun l hl hlk => ?_⟩
  · have := cnt_lt (p := fun j => ahC (cN q) (kN q) e j k) (q := fun _ => true) (o := k) (List.range (m e)) (fun _ _ _ => rfl) (List.mem_range.mpr hk) rfl (by
      unfold ahC
      rw [if_pos (Or.inr rfl)]
      simp)
    rw [h5]
    simp only [List.countP_true, List.length_range] at this
    omega
  · rw [hkn l hl, hkn k hk]
    have h6 := hfw.2 l k hl hk
    have h7 := hfw.2 k l hk hl
    rcases lxl.tot (p := Pf (cN q) e l) (q := Pf (cN q) e k) (e := e) ⟨e, Nat.le_refl _, by rw [Pf_e, Pf_e]; exact hlk⟩ with h8 | h8
    · have := h6.mpr h8
      omega
    · have := h7.mpr h8
      omega
theorem p5_fwd {g : uZ} {N : Nat} {m : Nat → Nat} {lag : Nat → Nat → Nat} {own : Nat → Nat → Int} {j o v : Nat} (hC : CT N m lag own g) (h0 : g 17 0 = j) (h1 : g 17 1 = o) (h2 : g 17 2 = v) (hj : j ≤ 50) (ho : o ≤ 2000) (hv : v ≤ 2000) (hN : g 16 12 = N) {R : uZ → Prop} {K : uZ → Option uZ} (hK : ∀ q, Fr [19, 20, 21] [] g q → (∀ e, e < N → RowF m own (fun e a b => spS j o v (lag e a) (lag (e + 1) b)) q e) → ∃ z, K q = some z ∧ R z) : ∃ z, lp (fun z => GB_X5_find_2 z.1 z.2) (0, g) K = some z ∧ R z := by
  obtain ⟨c11, c100, hCf⟩ := id hC
  generalize hst : (fun e a b => spS j o v (lag e a) (lag (e + 1) b)) = st at *
  refine lp_go (fun t q => q.1 = t ∧ Fr [19, 20, 21] [] g q.2 ∧ ∀ e, e < t → RowF m own st q.2 e) (fun q => Fr [19, 20, 21] [] g q ∧ ∀ e, e < N → RowF m own st q e) N (by omega) ⟨rfl, Fr.rf, fun e he => by omega⟩ ?_ ?_ (fun q hq => hK q hq.1 hq.2)
  · rintro t ⟨w, q⟩ ht ⟨e1, hF, hq⟩
    simp only at e1 hF hq
    subst e1
    have hCq : CT N m lag own q := hC.cg (hF 11 6 (by decide) (by decide)) (hF.f 12 (by decide) (by decide)) (hF.f 13 (by decide) (by decide)) (hF.f 15 (by decide) (by decide))
    have q17 : q 17 = g 17 := hF.f 17 (by decide) (by decide)
    have q16 : q 16 12 = N := (hF 16 12 (by decide) (by decide)).trans hN
    have hm6 : ∀ f, f < N → m f ≤ 6 := fun f hf => (hCf f hf).2.1
    have hmt := hm6 t ht
    obtain ⟨q1, e1, r1, o1⟩ := p5_findHeads hCq (by rw [q17]; exact h0) (by rw [q17]; exact h1) (by rw [q17]; exact h2) hj ho hv ht (fun e he k hk => by
      subst he
      exact RowF.prev (fun d hd => hq d (by omega)) k hk)
    rw [hst] at r1
    have hF1 : Fr [19, 21] [] q q1 := fF_X5_findHeads Fr.rf e1
    have q120 : q1 20 = q 20 := hF1.f 20 (by decide) (by decide)
    have hC1 : CT N m lag own q1 := hCq.cg (hF1 11 6 (by decide) (by decide)) (hF1.f 12 (by decide) (by decide)) (hF1.f 13 (by decide) (by decide)) (hF1.f 15 (by decide) (by decide))
    have hc1 : ∀ i, i < m t → 0 ≤ q1 21 (6 * t + i) ∧ q1 21 (6 * t + i) < 6 ∧ ∀ e, t = e + 1 → q1 21 (6 * t + i) < m e := by
      intro i hi
      obtain ⟨c, g1, -, -, g4⟩ := r1 i hi
      rw [g1]
      cases t with
      | zero =>
        have := g4.2
        refine ⟨by omega, by omega, fun e he => by omega⟩
      | succ e =>
        have := g4.1
        have h6 := hm6 e (by omega)
        refine ⟨by omega, by omega, fun e2 he2 => ?_⟩
        obtain rfl : e = e2 := by omega
        omega
    obtain ⟨q2, e2, r2, o2⟩ := p5_findRanks hC1 ht hc1 (fun e he k hk => by
      subst he
      have := RowF.prev (fun d hd => hq d (by omega)) k hk
      have h6 := hm6 e (by omega)
      rw [q120]
      omega)
    have hF2 : Fr [20] [] q1 q2 := fF_X5_findRanks Fr.rf e2
    have q219 : q2 19 = q1 19 := hF2.f 19 (by decide) (by decide)
    have q221 : q2 21 = q1 21 := hF2.f 21 (by decide) (by decide)
    have hold : ∀ z, z < 6 * t → q2 19 z = q 19 z ∧ q2 20 z = q 20 z ∧ q2 21 z = q 21 z := fun z hz => ⟨by rw [q219]; exact (o1 z (by omega)).1, by rw [o2 z (by omega), q120], by rw [q221]; exact (o1 z (by omega)).2⟩
    dsimp only
    unfold GB_X5_find_2
    rw [ck_ok (by omega), ck_ok (by omega), if_neg (by omega), e1, cp_ok, e2, cp_ok, lt_ok]
    refine ⟨_, rfl, ?_⟩
    dsimp only
    refine ⟨by omega, (hF.tr hF1 (by decide) (by decide)).tr hF2 (by decide) (by decide), fun e he => ?_⟩
    by_cases het : e = t
    · subst het
      intro i hi
      obtain ⟨c, g1, g2, g3, g4⟩ := r1 i hi
      refine ⟨c, by rw [q221]; exact g1, by rw [q219]; exact g2, by rw [q219]; exact g3, ?_, ?_⟩
      · rw [q219]
        cases e with
        | zero => exact g4
        | succ e =>
          have h6 := hm6 e (by omega)
          obtain ⟨k1, k2, k3⟩ := g4
          refine ⟨k1, by rw [(o1 (6 * e + c) (by omega)).1]; exact k2, fun k hk hkc => ?_⟩
          rw [(o1 (6 * e + c) (by omega)).1, (o1 (6 * e + k) (by omega)).1, o2 (6 * e + c) (by omega), o2 (6 * e + k) (by omega), q120]
          exact k3 k hk hkc
      · rw [r2 i hi]
        refine congrArg (fun z : Nat => (z : Int)) ?_
        apply List.countP_congr
        intro k hk
        have hk := List.mem_range.mp hk
        have hcn : cN q2 = cN q1 := by unfold cN; rw [q221]
        have : ahC (cN q1) (kN q1) e k i = ahC (cN q2) (kN q2) e k i := by
          unfold ahC
          rw [hcn]
          by_cases hc : e = 0 ∨ cN q1 e k = cN q1 e i
          · rw [if_pos hc, if_pos hc]
          · rw [if_neg hc, if_neg hc]
            obtain ⟨d, rfl⟩ : ∃ d, e = d + 1 := ⟨e - 1, by omega⟩
            have h6 := hm6 d (by omega)
            have b1 := (hc1 k hk).2.2 d rfl
            have b2 := (hc1 i hi).2.2 d rfl
            have hkN : ∀ l, l < m d → kN q2 d l = kN q1 d l := fun l hl => by
              unfold kN
              rw [o2 _ (by omega)]
            have b3 := (hc1 k hk).1
            have b4 := (hc1 i hi).1
            rw [Nat.add_sub_cancel, hkN _ (by unfold cN; omega), hkN _ (by unfold cN; omega)]
        rw [this]
    · exact (hq e (by omega)).cg (t := t) (by omega) (fun f hf => hm6 f (by omega)) hold
  · rintro ⟨w, q⟩ ⟨e1, hF, hq⟩
    simp only at e1 hF hq
    subst e1
    have q16 : q 16 12 = N := (hF 16 12 (by decide) (by decide)).trans hN
    dsimp only
    unfold GB_X5_find_2
    rw [ck_ok (by omega), ck_ok (by omega), if_pos (by omega)]
    exact ⟨_, rfl, hF, hq⟩
