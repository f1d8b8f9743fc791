/-! the reference: a SPAN's marks -/
theorem m_marksOf {x B L : Nat → Int} {n N i a b fr to c0 : Nat} {p : Nat → Nat} {g : uZ} (h : SpM x B L n N i a b fr to p g) (hft : fr < to) (hc0 : 2 * c0 ≤ fr) (h49 : g 55 49 = (c0 : Int)) : ∃ g' k, GF_X12_marksOf (i : Int) g = some g' ∧ isK (fun s => (WF x p (bN B 13 : Int) to (to - fr) s).2) (mk0 (fun s => (WF x p (bN B 13 : Int) to (to - fr) s).1) p fr to) k ∧ g' 55 49 = ((c0 + k : Nat) : Int) ∧ 2 * (c0 + k) ≤ to + 1 ∧ (∀ j, j < k → g' 88 (c0 + j) = ch (fun s => (WF x p (bN B 13 : Int) to (to - fr) s).2) (mk0 (fun s => (WF x p (bN B 13 : Int) to (to - fr) s).1) p fr to) j ∧ g' 89 (c0 + j) = (i : Int)) ∧ (∀ c, c < c0 → g' 88 c = g 88 c ∧ g' 89 c = g 89 c) ∧ g' 91 i = (WF x p (bN B 13 : Int) to (to - fr) (mk0 (fun s => (WF x p (bN B 13 : Int) to (to - fr) s).1) p fr to)).1 ∧ ∀ j, j ≠ i → g' 91 j = g 91 j := by
  obtain ⟨⟨a1, a2, a3, a4, a5⟩, ⟨b1, b2, b3, b4, b5⟩, ⟨c1, c2⟩, d1, d2, d3, d4, d5⟩ := id h
  have hton : to ≤ n := by rw [c2]; split <;> omega
  have b13 := d2.b13
  have hbb := WF_b (c := (bN B 13 : Int)) (to := to) d1 d4 d5 ⟨by omega, by omega⟩ (to - fr) (by omega)
  have hWb : ∀ s, fr ≤ s → s < to → (-400000 ≤ (WF x p (bN B 13 : Int) to (to - fr) s).1 ∧ (WF x p (bN B 13 : Int) to (to - fr) s).1 ≤ 400000) ∧ ((WF x p (bN B 13 : Int) to (to - fr) s).2 = -1 ∨ ∃ w : Nat, (WF x p (bN B 13 : Int) to (to - fr) s).2 = (w : Int) ∧ s + 2 ≤ w ∧ w < to) := fun s h1 h2 => by
    have q := hbb s (by omega) h2
    exact ⟨by omega, q.2⟩
  have p1 := d4 fr
  have p2 := d5 fr hft
  generalize hWW : WF x p (bN B 13 : Int) to (to - fr) = W at *
  have hcm : fr + ctM p fr to ≤ to ∧ fr + ctM p fr to ≤ fr + p fr ∧ (fr + ctM p fr to = to ∨ fr + ctM p fr to = fr + p fr) := by unfold ctM; split <;> omega
  have hm0 := mk0_b (wo := fun s => (W s).1) (p := p) hft
  unfold GF_X12_marksOf
  rw [h.first, cp_ok, h.behind, cp_ok, lt_ok]
  have key := m_worths (Kk := fun z => GC_X12_marksOf_9 (i : Int) (fr : Int) (to : Int) z) (Rr := fun g' => ∃ k, isK (fun s => (W s).2) (mk0 (fun s => (W s).1) p fr to) k ∧ g' 55 49 = ((c0 + k : Nat) : Int) ∧ 2 * (c0 + k) ≤ to + 1 ∧ (∀ j, j < k → g' 88 (c0 + j) = ch (fun s => (W s).2) (mk0 (fun s => (W s).1) p fr to) j ∧ g' 89 (c0 + j) = (i : Int)) ∧ (∀ c, c < c0 → g' 88 c = g 88 c ∧ g' 89 c = g 89 c) ∧ g' 91 i = (W (mk0 (fun s => (W s).1) p fr to)).1 ∧ ∀ j, j ≠ i → g' 91 j = g 91 j) h (Nat.le_of_lt hft) (fun z hF hz => by
    rw [hWW] at hz
    have hsz := h.fr hF (by decide) (by decide) (by decide)
    have hlag := hsz.per (Nat.le_refl fr) hft
    have elim : mn ((fr : Int) + (p fr : Int)) (to : Int) = ((fr + ctM p fr to : Nat) : Int) := by
      unfold mn ctM
      split <;> split <;> omega
    unfold GC_X12_marksOf_9
    rw [lp_for (fun t => ((amx (fun s => (W s).1) fr t : Int), ((fr + t : Nat) : Int))) (ctM p fr to) (mk0 (fun s => (W s).1) p fr to : Int) (by rfl) (by omega)]
    · generalize hm : mk0 (fun s => (W s).1) p fr to = m0 at *
      have cb := ch_b (nx := fun s => (W s).2) hm0 (fun s h1 h2 => (hWb s h1 h2).2)
      have z49 : z 55 49 = (c0 : Int) := (hF 55 49 (by decide) (by decide)).trans h49
      have z88 : z 88 = g 88 := hF.f 88 (by decide) (by decide)
      have z89 : z 89 = g 89 := hF.f 89 (by decide) (by decide)
      have z91 : z 91 = g 91 := hF.f 91 (by decide) (by decide)
      unfold GC_X12_marksOf_8
      rw [rdZ_at m0 rfl (by omega), (hz m0 hm0.1 hm0.2).1, wrZ_at i rfl (by omega)]
      have main : ∃ g', lp (fun z => GB_X12_marksOf_6 (i : Int) z.1 z.2) ((m0 : Int), upZ z 91 i (W m0).1) (fun z => GC_X12_marksOf_7 z) = some g' ∧ ∃ k, isK (fun s => (W s).2) m0 k ∧ g' 55 49 = ((c0 + k : Nat) : Int) ∧ 2 * (c0 + k) ≤ to + 1 ∧ (∀ j, j < k → g' 88 (c0 + j) = ch (fun s => (W s).2) m0 j ∧ g' 89 (c0 + j) = (i : Int)) ∧ (∀ c, c < c0 → g' 88 c = g 88 c ∧ g' 89 c = g 89 c) ∧ Fr [88, 89] [(55, 49)] (upZ z 91 i (W m0).1) g' := by
        refine lp_wh (fun q => ∃ j, q.1 = ch (fun s => (W s).2) m0 j ∧ (∀ j', j' < j → ch (fun s => (W s).2) m0 j' ≠ -1) ∧ Fr [88, 89] [(55, 49)] (upZ z 91 i (W m0).1) q.2 ∧ q.2 55 49 = ((c0 + j : Nat) : Int) ∧ 2 * (c0 + j) ≤ to + 1 ∧ (∀ j', j' < j → q.2 88 (c0 + j') = ch (fun s => (W s).2) m0 j' ∧ q.2 89 (c0 + j') = (i : Int)) ∧ ∀ c, c < c0 → q.2 88 c = g 88 c ∧ q.2 89 c = g 89 c) (fun q => ∃ k, isK (fun s => (W s).2) m0 k ∧ q 55 49 = ((c0 + k : Nat) : Int) ∧ 2 * (c0 + k) ≤ to + 1 ∧ (∀ j, j < k → q 88 (c0 + j) = ch (fun s => (W s).2) m0 j ∧ q 89 (c0 + j) = (i : Int)) ∧ (∀ c, c < c0 → q 88 c = g 88 c ∧ q 89 c = g 89 c) ∧ Fr [88, 89] [(55, 49)] (upZ z 91 i (W m0).1) q) (fun q => (900 - q.2 55 49).toNat) ⟨0, rfl, fun j' hj => absurd hj (Nat.not_lt_zero _), Fr.rf, by dsimp only; rw [upZ_n (by decide)]; exact z49, by omega, fun j' hj => absurd hj (Nat.not_lt_zero _), fun c _ => by dsimp only; rw [upZ_n (by decide), upZ_n (by decide), z88, z89]; exact ⟨rfl, rfl⟩⟩ (by dsimp only; rw [upZ_n (by decide), z49]; omega) ?_ (fun q hq => ⟨q, rfl, hq⟩)
        rintro ⟨w, y⟩ ⟨j, e1, hne, hG, y49, h2, hcel, hold⟩
        simp only at e1 hG y49 hcel hold
        subst e1
        dsimp only
        unfold GB_X12_marksOf_6
        rcases cb j with q | ⟨m, q, q1, q2⟩
        · right
          rw [q, ck_ok (by decide), if_pos rfl]
          exact ⟨y, rfl, j, ⟨hne, q⟩, y49, h2, hcel, hold, hG⟩
        · left
          have y87 : y 87 = z 87 := by rw [hG.f 87 (by decide) (by decide), upZ_n (by decide)]
          rw [q, ck_ok (by omega), if_neg (by omega), y49, wrZ_at (c0 + j) rfl (by omega)]
          generalize hz1 : upZ y 88 (c0 + j) (m : Int) = z1
          have a44 : z1 55 49 = ((c0 + j : Nat) : Int) := by rw [← hz1, upZ_n (by decide)]; exact y49
          rw [a44, wrZ_at (c0 + j) rfl (by omega)]
          generalize hz2 : upZ z1 89 (c0 + j) (i : Int) = z2
          have b44 : z2 55 49 = ((c0 + j : Nat) : Int) := by rw [← hz2, upZ_n (by decide)]; exact a44
          rw [pfZ_ok, b44]
          generalize hz3 : upZ z2 55 49 (((c0 + j : Nat) : Int) + 1) = z3
          have c44 : z3 55 49 = ((c0 + (j + 1) : Nat) : Int) := by rw [← hz3, upZ_ss]; omega
          have c46 : z3 87 m = (W m).2 := by rw [← hz3, upZ_n (by decide), ← hz2, upZ_n (by decide), ← hz1, upZ_n (by decide), y87]; exact (hz m (by omega) q2).2
          have c47 : z3 88 = upZ y 88 (c0 + j) (m : Int) 88 := by rw [← hz3, upZ_n (by decide), ← hz2, upZ_n (by decide), ← hz1]
          have c48 : z3 89 = upZ z1 89 (c0 + j) (i : Int) 89 := by rw [← hz3, upZ_n (by decide), ← hz2]
          have d47 : ∀ c, c ≠ c0 + j → z3 88 c = y 88 c ∧ z3 89 c = y 89 c := fun c hc => ⟨by rw [c47, upZ_sn hc], by rw [c48, upZ_sn hc, ← hz1, upZ_n (by decide)]⟩
          rw [rdZ_at m rfl (by omega), c46]
          refine ⟨_, rfl, ⟨j + 1, (ch_s q).symm, fun j' hj => ?_, ?_, c44, by omega, fun j' hj => ?_, fun c hc => ?_⟩, by dsimp only; rw [c44]; omega⟩
          · by_cases e : j' = j
            · subst e
              rw [q]
              omega
            · exact hne j' (by omega)
          · dsimp only
            rw [← hz3, ← hz2, ← hz1]
            exact ((hG.wr (by decide)).wr (by decide)).pf (by decide)
          · dsimp only
            by_cases e : j' = j
            · subst e
              rw [c47, upZ_ss, c48, upZ_ss, q]
              exact ⟨rfl, rfl⟩
            · have := d47 (c0 + j') (by omega)
              rw [this.1, this.2]
              exact hcel j' (by omega)
          · dsimp only
            have := d47 c (by omega)
            rw [this.1, this.2]
            exact hold c hc
      obtain ⟨g', e, k, k1, k2, k3, k4, k5, k6⟩ := main
      refine ⟨g', e, k, k1, k2, k3, k4, k5, ?_, fun j hj => ?_⟩
      · rw [k6.f 91 (by decide) (by decide), upZ_ss]
      · rw [k6.f 91 (by decide) (by decide), upZ_sn hj, z91]
    · intro t ht
      have ab := amx_b (fun s => (W s).1) fr t
      dsimp only
      unfold GB_X12_marksOf_4
      have w1 := hWb (fr + t) (by omega) (by omega)
      have w2 := hWb (amx (fun s => (W s).1) fr t) (by omega) (by omega)
      rw [hlag, cp_ok, m_lesser z (by omega) (by omega), cp_ok, elim, ck_ok (by omega), ck_ok (by omega), if_neg (by omega), rdZ_at (fr + t) rfl (by omega), (hz (fr + t) (by omega) (by omega)).1, rdZ_at (amx (fun s => (W s).1) fr t) rfl (by omega), (hz _ ab.1 (by omega)).1, ck_ok (by omega), ck_ok (by omega), lt_ok, lt_ok]
      have e : amx (fun s => (W s).1) fr (t + 1) = if (W (fr + t)).1 ≤ (W (amx (fun s => (W s).1) fr t)).1 then amx (fun s => (W s).1) fr t else fr + t := rfl
      rw [e]
      by_cases c : (W (fr + t)).1 ≤ (W (amx (fun s => (W s).1) fr t)).1
      · rw [if_pos c, if_pos c]; rfl
      · rw [if_neg c, if_neg c]; rfl
    · dsimp only
      unfold GB_X12_marksOf_4
      rw [hlag, cp_ok, m_lesser z (by omega) (by omega), cp_ok, elim, ck_ok (by omega), ck_ok (by omega), if_pos (by omega)]
      rfl)
  obtain ⟨g', e, k, kk⟩ := key
  exact ⟨g', k, e, kk⟩
/-! SPANS, and where they begin -/
def SB (L : Nat → Int) (N S : Nat) (sb : Nat → Nat) : Prop := S = nS L N ∧ sb S = N ∧ ∀ i, i < S → sb i < N ∧ brS L (sb i) = true ∧ nS L (sb i) = i
theorem SB.nx {L : Nat → Int} {N S : Nat} {sb : Nat → Nat} (h : SB L N S sb) {i : Nat} (hi : i < S) : nS L (sb (i + 1)) = i + 1 ∧ sb i < sb (i + 1) ∧ sb (i + 1) ≤ N := by
  obtain ⟨h1, h2, h3⟩ := h
  have a := h3 i hi
  have e : nS L (sb (i + 1)) = i + 1 ∧ sb (i + 1) ≤ N := by
    by_cases q : i + 1 = S
    · rw [q, h2]
      exact ⟨h1.symm, Nat.le_refl _⟩
    · have b := h3 (i + 1) (by omega)
      exact ⟨b.2.2, by omega⟩
  refine ⟨e.1, ?_, e.2⟩
  rcases Nat.lt_or_ge (sb i) (sb (i + 1)) with q | q
  · exact q
  · have := nS_mono L q
    omega
theorem nS_const {L : Nat → Int} {a b f : Nat} (h1 : a ≤ f) (h2 : f < b) (h : nS L a = nS L b) : brS L f = false := by
  have m1 := nS_mono L h1
  have m2 := nS_mono L (a := f + 1) (b := b) h2
  have e : nS L (f + 1) = nS L f + if brS L f then 1 else 0 := rfl
  cases q : brS L f with
  | false => rfl
  | true =>
    rw [q, if_pos rfl] at e
    omega
theorem SB.flat {L : Nat → Int} {N S : Nat} {sb : Nat → Nat} (h : SB L N S sb) {i : Nat} (hi : i < S) : ∀ d, sb i + d < sb (i + 1) → (L (sb i + d) = 0 ↔ L (sb i) = 0) := by
  have n1 := h.nx hi
  have a := h.2.2 i hi
  have e0 : nS L (sb i + 1) = i + 1 := by
    have e : nS L (sb i + 1) = nS L (sb i) + if brS L (sb i) then 1 else 0 := rfl
    rw [e, a.2.1, if_pos rfl, a.2.2]
  intro d
  induction d with
  | zero => intro _; exact Iff.rfl
  | succ d ih =>
    intro hd
    have hb := nS_const (L := L) (a := sb i + 1) (b := sb (i + 1)) (f := sb i + (d + 1)) (by omega) hd (by rw [e0, n1.1])
    unfold brS at hb
    have z : (sb i + (d + 1) == 0) = false := by simp
    rw [z, Bool.false_or, show sb i + (d + 1) - 1 = sb i + d by omega] at hb
    have i1 := ih (by omega)
    rw [← i1]
    by_cases q1 : L (sb i + (d + 1)) = 0 <;> by_cases q2 : L (sb i + d) = 0
    · exact ⟨fun _ => q2, fun _ => q1⟩
    · simp [q1, q2] at hb
    · simp [q1, q2] at hb
    · exact ⟨fun z => absurd z q1, fun z => absurd z q2⟩
theorem SB.alt {L : Nat → Int} {N S : Nat} {sb : Nat → Nat} (h : SB L N S sb) {i : Nat} (hi : i + 1 < S) : (L (sb (i + 1)) = 0 ↔ ¬ L (sb i) = 0) := by
  have n1 := h.nx (show i < S by omega)
  have a := (h.2.2 (i + 1) hi).2.1
  have f := h.flat (show i < S by omega) (sb (i + 1) - 1 - sb i) (by omega)
  rw [show sb i + (sb (i + 1) - 1 - sb i) = sb (i + 1) - 1 by omega] at f
  unfold brS at a
  have z : (sb (i + 1) == 0) = false := by simp; omega
  rw [z, Bool.false_or] at a
  rw [← f]
  by_cases q1 : L (sb (i + 1)) = 0 <;> by_cases q2 : L (sb (i + 1) - 1) = 0
  · simp [q1, q2] at a
  · exact ⟨fun _ => q2, fun _ => q1⟩
  · exact ⟨fun z => absurd z q1, fun z => absurd q2 z⟩
  · simp [q1, q2] at a
theorem SB.frame {L : Nat → Int} {N S : Nat} {sb : Nat → Nat} (h : SB L N S sb) {i f : Nat} (hi : i < S) (h1 : sb i ≤ f) (h2 : f < sb (i + 1)) : nS L (f + 1) = i + 1 := by
  have n1 := h.nx hi
  have a := h.2.2 i hi
  have e0 : nS L (sb i + 1) = i + 1 := by
    have e : nS L (sb i + 1) = nS L (sb i) + if brS L (sb i) then 1 else 0 := rfl
    rw [e, a.2.1, if_pos rfl, a.2.2]
  have m1 := nS_mono L (a := sb i + 1) (b := f + 1) (by omega)
  have m2 := nS_mono L (a := f + 1) (b := sb (i + 1)) h2
  omega
theorem nS_uniq {L : Nat → Int} {a b : Nat} (ha : brS L a = true) (hb : brS L b = true) (h : nS L a = nS L b) : a = b := by
  have key : ∀ c d, brS L c = true → c < d → nS L c < nS L d := fun c d hc hcd => by
    have h1 := nS_mono L (a := c + 1) (b := d) (by omega)
    have e : nS L (c + 1) = nS L c + if brS L c then 1 else 0 := rfl
    rw [hc, if_pos rfl] at e
    omega
  rcases Nat.lt_trichotomy a b with q | q | q
  · have := key a b ha q
    omega
  · exact q
  · have := key b a hb q
    omega
def sbC (N S : Nat) (g : uZ) (i : Nat) : Nat := if i < S then (g 35 i).toNat else N
theorem SP.sb {L : Nat → Int} {N : Nat} {g : uZ} (h : SP L N g) : SB L N (nS L N) (sbC N (nS L N) g) ∧ ∀ i, i < nS L N → g 35 i = (sbC N (nS L N) g i : Int) ∧ g 35 i + g 36 i = (sbC N (nS L N) g (i + 1) : Int) := by
  obtain ⟨h1, h2, h3, h4, h5⟩ := h
  have e : ∀ i, i < nS L N → g 35 i = (sbC N (nS L N) g i : Int) := fun i hi => by
    obtain ⟨j, q1, q2, -⟩ := h2 i hi
    unfold sbC
    rw [if_pos hi, q2, Int.toNat_natCast]
  refine ⟨⟨rfl, by unfold sbC; rw [if_neg (by omega)], fun i hi => ?_⟩, fun i hi => ⟨e i hi, ?_⟩⟩
  · obtain ⟨j, q1, q2, q3, q4⟩ := h2 i hi
    have : sbC N (nS L N) g i = j := by unfold sbC; rw [if_pos hi, q2, Int.toNat_natCast]
    rw [this]
    exact ⟨q1, q3, q4⟩
  · by_cases q : i + 1 = nS L N
    · rw [h4 i q]
      unfold sbC
      rw [if_neg (by omega)]
    · rw [h3 i (by omega), e (i + 1) (by omega)]
theorem MSp.sb {L : Nat → Int} {N : Nat} {g : uZ} {sb : Nat → Nat} (h : MSp L N g) (hN : g 78 (nS L N) = (N : Int)) (hs : SB L N (nS L N) sb) : ∀ i, i ≤ nS L N → g 78 i = (sb i : Int) := by
  intro i hi
  by_cases q : i = nS L N
  · rw [q, hN, hs.2.1]
  · obtain ⟨j, q1, q2, q3, q4⟩ := h.2 i (by omega)
    have a := hs.2.2 i (by omega)
    rw [q2, nS_uniq a.2.1 q3 (by omega)]
