/-! marks along a SPAN -/
def amx (f : Nat → Int) (lo : Nat) : Nat → Nat
  | 0 => lo
  | k + 1 => if f (lo + k) ≤ f (amx f lo k) then amx f lo k else lo + k
theorem amx_b (f : Nat → Int) (lo : Nat) : ∀ k, lo ≤ amx f lo k ∧ (amx f lo k = lo ∨ amx f lo k < lo + k) := by
  intro k
  induction k with
  | zero => exact ⟨Nat.le_refl _, Or.inl rfl⟩
  | succ k ih =>
    unfold amx
    split
    · omega
    · omega
def ch (nx : Nat → Int) (m0 : Nat) : Nat → Int
  | 0 => (m0 : Int)
  | j + 1 => if ch nx m0 j = -1 then -1 else nx (ch nx m0 j).toNat
def isK (nx : Nat → Int) (m0 k : Nat) : Prop := (∀ j, j < k → ch nx m0 j ≠ -1) ∧ ch nx m0 k = -1
theorem isK.uniq {nx : Nat → Int} {m0 k l : Nat} (h1 : isK nx m0 k) (h2 : isK nx m0 l) : k = l := by
  rcases Nat.lt_trichotomy k l with q | q | q
  · exact absurd h1.2 (h2.1 k q)
  · exact q
  · exact absurd h2.2 (h1.1 l q)
theorem ch_b {nx : Nat → Int} {m0 fr to : Nat} (h0 : fr ≤ m0 ∧ m0 < to) (hn : ∀ s, fr ≤ s → s < to → nx s = -1 ∨ ∃ w : Nat, nx s = (w : Int) ∧ s + 2 ≤ w ∧ w < to) : ∀ j, ch nx m0 j = -1 ∨ ∃ m : Nat, ch nx m0 j = (m : Int) ∧ fr + 2 * j ≤ m ∧ m < to := by
  intro j
  induction j with
  | zero => exact Or.inr ⟨m0, rfl, by omega, h0.2⟩
  | succ j ih =>
    have e : ch nx m0 (j + 1) = if ch nx m0 j = -1 then -1 else nx (ch nx m0 j).toNat := rfl
    rw [e]
    rcases ih with q | ⟨m, q, q1, q2⟩
    · rw [if_pos q]
      exact Or.inl rfl
    · rw [if_neg (by omega), q, Int.toNat_natCast]
      rcases hn m (by omega) q2 with z | ⟨w, z, z1, z2⟩
      · exact Or.inl z
      · exact Or.inr ⟨w, z, by omega, z2⟩
theorem ch_s {nx : Nat → Int} {m0 j m : Nat} (h : ch nx m0 j = (m : Int)) : ch nx m0 (j + 1) = nx m := by
  have e : ch nx m0 (j + 1) = if ch nx m0 j = -1 then -1 else nx (ch nx m0 j).toNat := rfl
  rw [e, h, if_neg (by omega), Int.toNat_natCast]
def ctM (p : Nat → Nat) (fr to : Nat) : Nat := (if fr + p fr ≤ to then fr + p fr else to) - fr
/-- what a SPAN's marks are -/
def mk0 (wo : Nat → Int) (p : Nat → Nat) (fr to : Nat) : Nat := amx wo fr (ctM p fr to)
theorem mk0_b {wo : Nat → Int} {p : Nat → Nat} {fr to : Nat} (h : fr < to) : fr ≤ mk0 wo p fr to ∧ mk0 wo p fr to < to := by
  have := amx_b wo fr (ctM p fr to)
  have : ctM p fr to ≤ to - fr := by unfold ctM; split <;> omega
  unfold mk0
  omega
theorem amx_cg {f f' : Nat → Int} {lo : Nat} : ∀ {k : Nat}, (∀ j, j ≤ k → f (lo + j) = f' (lo + j)) → amx f lo k = amx f' lo k
  | 0, _ => rfl
  | k + 1, h => by
    have i := amx_cg (f := f) (f' := f') (lo := lo) (k := k) (fun j hj => h j (by omega))
    have b := amx_b f' lo k
    have e : f (amx f' lo k) = f' (amx f' lo k) := by
      have := h (amx f' lo k - lo) (by omega)
      rw [show lo + (amx f' lo k - lo) = amx f' lo k by omega] at this
      exact this
    unfold amx
    rw [i, h k (by omega), e]
theorem p3_markSpan {x B L : Nat → Int} {n N fr to i c0 : Nat} {p : Nat → Nat} {g : uZ} {W : Nat → Int × Int} (h : SpC x B L n N fr to p g) (hft : fr < to) (hi : i < 100) (hc0 : 2 * c0 ≤ fr) (h44 : g 44 9 = (c0 : Int)) (hW : ∀ s, fr ≤ s → s < to → g 45 s = (W s).1 ∧ g 46 s = (W s).2) (hWb : ∀ s, fr ≤ s → s < to → (-400000 ≤ (W s).1 ∧ (W s).1 ≤ 400000) ∧ ((W s).2 = -1 ∨ ∃ w : Nat, (W s).2 = (w : Int) ∧ s + 2 ≤ w ∧ w < to)) : ∃ g' k, GF_X3_markSpan (i : Int) (fr : Int) (to : Int) g = some g' ∧ isK (fun s => (W s).2) (mk0 (fun s => (W s).1) p fr to) k ∧ g' 44 9 = ((c0 + k : Nat) : Int) ∧ 2 * (c0 + k) ≤ to + 1 ∧ (∀ j, j < k → g' 47 (c0 + j) = ch (fun s => (W s).2) (mk0 (fun s => (W s).1) p fr to) j ∧ g' 48 (c0 + j) = (i : Int)) ∧ (∀ c, c < c0 → g' 47 c = g 47 c ∧ g' 48 c = g 48 c) ∧ g' 50 i = (W (mk0 (fun s => (W s).1) p fr to)).1 ∧ ∀ j, j ≠ i → g' 50 j = g 50 j := by
  have hto := h.to
  have hn8 := h.n8
  have p1 := h.p1 fr
  have p2 := h.p2 fr (by omega)
  have hlag := h.at (Nat.le_refl fr) hft
  have hcm : fr + ctM p fr to ≤ to ∧ fr + ctM p fr to ≤ fr + p fr ∧ (fr + ctM p fr to = to ∨ fr + ctM p fr to = fr + p fr) := by unfold ctM; split <;> omega
  have hm0 := mk0_b (wo := fun s => (W s).1) (p := p) hft
  unfold GF_X3_markSpan
  rw [lp_for (fun t => ((amx (fun s => (W s).1) fr t : Int), ((fr + t : Nat) : Int))) (ctM p fr to) (mk0 (fun s => (W s).1) p fr to : Int) (by rfl) (by omega)]
  · generalize hm : mk0 (fun s => (W s).1) p fr to = m0 at *
    have cb := ch_b (nx := fun s => (W s).2) hm0 (fun s h1 h2 => (hWb s h1 h2).2)
    unfold GC_X3_markSpan_6
    rw [rdZ_at m0 rfl (by omega), (hW m0 hm0.1 hm0.2).1, wrZ_at i rfl (by omega)]
    have main : ∃ g', lp (fun z => GB_X3_markSpan_4 (i : Int) (fr : Int) (to : Int) z.1 z.2) ((m0 : Int), upZ g 50 i (W m0).1) (fun z => GC_X3_markSpan_5 z) = some g' ∧ ∃ k, isK (fun s => (W s).2) m0 k ∧ g' 44 9 = ((c0 + k : Nat) : Int) ∧ 2 * (c0 + k) ≤ to + 1 ∧ (∀ j, j < k → g' 47 (c0 + j) = ch (fun s => (W s).2) m0 j ∧ g' 48 (c0 + j) = (i : Int)) ∧ (∀ c, c < c0 → g' 47 c = g 47 c ∧ g' 48 c = g 48 c) ∧ Fr [47, 48] [(44, 9)] (upZ g 50 i (W m0).1) g' := by
      refine lp_wh (fun q => ∃ j, q.1 = ch (fun s => (W s).2) m0 j ∧ (∀ j', j' < j → ch (fun s => (W s).2) m0 j' ≠ -1) ∧ Fr [47, 48] [(44, 9)] (upZ g 50 i (W m0).1) q.2 ∧ q.2 44 9 = ((c0 + j : Nat) : Int) ∧ 2 * (c0 + j) ≤ to + 1 ∧ (∀ j', j' < j → q.2 47 (c0 + j') = ch (fun s => (W s).2) m0 j' ∧ q.2 48 (c0 + j') = (i : Int)) ∧ ∀ c, c < c0 → q.2 47 c = g 47 c ∧ q.2 48 c = g 48 c) (fun q => ∃ k, isK (fun s => (W s).2) m0 k ∧ q 44 9 = ((c0 + k : Nat) : Int) ∧ 2 * (c0 + k) ≤ to + 1 ∧ (∀ j, j < k → q 47 (c0 + j) = ch (fun s => (W s).2) m0 j ∧ q 48 (c0 + j) = (i : Int)) ∧ (∀ c, c < c0 → q 47 c = g 47 c ∧ q 48 c = g 48 c) ∧ Fr [47, 48] [(44, 9)] (upZ g 50 i (W m0).1) q) (fun q => (900 - q.2 44 9).toNat) ⟨0, rfl, fun j' hj => absurd hj (Nat.not_lt_zero _), Fr.rf, by dsimp only; rw [upZ_n (by decide)]; exact h44, by omega, fun j' hj => absurd hj (Nat.not_lt_zero _), fun c _ => by dsimp only; rw [upZ_n (by decide), upZ_n (by decide)]; exact ⟨rfl, rfl⟩⟩ (by dsimp only; rw [upZ_n (by decide), h44]; omega) ?_ (fun q hq => ⟨q, rfl, hq⟩)
      rintro ⟨w, z⟩ ⟨j, e1, hne, hF, z44, h2, hcel, hold⟩
      simp only at e1 hF z44 hcel hold
      subst e1
      dsimp only
      unfold GB_X3_markSpan_4
      rcases cb j with q | ⟨m, q, q1, q2⟩
      · right
        rw [q, ck_ok (by decide), ck_ok (by omega), if_pos (by omega)]
        exact ⟨z, rfl, j, ⟨hne, q⟩, z44, h2, hcel, hold, hF⟩
      · left
        have z46 : z 46 = g 46 := by rw [hF.f 46 (by decide) (by decide), upZ_n (by decide)]
        rw [q, ck_ok (by omega), ck_ok (by omega), if_neg (by omega), ck_ok (by omega), if_neg (by omega), z44, ck_ok (by omega), if_neg (by omega), wrZ_at (c0 + j) rfl (by omega)]
        generalize hz1 : upZ z 47 (c0 + j) (m : Int) = z1
        have a44 : z1 44 9 = ((c0 + j : Nat) : Int) := by rw [← hz1, upZ_n (by decide)]; exact z44
        rw [a44, wrZ_at (c0 + j) rfl (by omega)]
        generalize hz2 : upZ z1 48 (c0 + j) (i : Int) = z2
        have b44 : z2 44 9 = ((c0 + j : Nat) : Int) := by rw [← hz2, upZ_n (by decide)]; exact a44
        rw [pfZ_ok, b44]
        generalize hz3 : upZ z2 44 9 (((c0 + j : Nat) : Int) + 1) = z3
        have c44 : z3 44 9 = ((c0 + (j + 1) : Nat) : Int) := by rw [← hz3, upZ_ss]; omega
        have c46 : z3 46 m = (W m).2 := by rw [← hz3, upZ_n (by decide), ← hz2, upZ_n (by decide), ← hz1, upZ_n (by decide), z46]; exact (hW m (by omega) q2).2
        have c47 : z3 47 = upZ z 47 (c0 + j) (m : Int) 47 := by rw [← hz3, upZ_n (by decide), ← hz2, upZ_n (by decide), ← hz1]
        have c48 : z3 48 = upZ z1 48 (c0 + j) (i : Int) 48 := by rw [← hz3, upZ_n (by decide), ← hz2]
        have d47 : ∀ c, c ≠ c0 + j → z3 47 c = z 47 c ∧ z3 48 c = z 48 c := fun c hc => ⟨by rw [c47, upZ_sn hc], by rw [c48, upZ_sn hc, ← hz1, upZ_n (by decide)]⟩
        rw [rdZ_at m rfl (by omega), c46]
        refine ⟨_, rfl, ⟨j + 1, (ch_s q).symm, fun j' hj => ?_, ?_, c44, by omega, fun j' hj => ?_, fun c hc => ?_⟩, by dsimp only; rw [c44]; omega⟩
        · by_cases e : j' = j
          · subst e
            rw [q]
            omega
          · exact hne j' (by omega)
        · dsimp only
          rw [← hz3, ← hz2, ← hz1]
          exact ((hF.wr (by decide)).wr (by decide)).pf (by decide)
        · dsimp only
          by_cases e : j' = j
          · subst e
            rw [c47, upZ_ss, c48, upZ_ss, q]
            exact ⟨rfl, rfl⟩
          · have := d47 (c0 + j') (by omega)
            rw [this.1, this.2]
            exact hcel j' (by omega)
        · dsimp only
          have := d47 c (by omega)
          rw [this.1, this.2]
          exact hold c hc
    obtain ⟨g', e, k, k1, k2, k3, k4, k5, k6⟩ := main
    refine ⟨g', k, e, k1, k2, k3, k4, k5, ?_, fun j hj => ?_⟩
    · rw [k6.f 50 (by decide) (by decide), upZ_ss]
    · rw [k6.f 50 (by decide) (by decide), upZ_sn hj]
  · intro t ht
    have ab := amx_b (fun s => (W s).1) fr t
    dsimp only
    unfold GB_X3_markSpan_2
    have w1 := hWb (fr + t) (by omega) (by omega)
    have w2 := hWb (amx (fun s => (W s).1) fr t) (by omega) (by omega)
    rw [ck_ok (by omega), ck_ok (by omega), if_neg (by omega), hlag, cp_ok, ck_ok (by omega), if_neg (by omega), rdZ_at (fr + t) rfl (by omega), (hW (fr + t) (by omega) (by omega)).1, rdZ_at (amx (fun s => (W s).1) fr t) rfl (by omega), (hW _ ab.1 (by omega)).1, ck_ok (by omega), ck_ok (by omega), lt_ok, lt_ok]
    have e : amx (fun s => (W s).1) fr (t + 1) = if (W (fr + t)).1 ≤ (W (amx (fun s => (W s).1) fr t)).1 then amx (fun s => (W s).1) fr t else fr + t := rfl
    rw [e]
    by_cases c : (W (fr + t)).1 ≤ (W (amx (fun s => (W s).1) fr t)).1
    · rw [if_pos c, if_pos c]; rfl
    · rw [if_neg c, if_neg c]; rfl
  · dsimp only
    unfold GB_X3_markSpan_2
    rw [ck_ok (by omega), ck_ok (by omega)]
    by_cases c : (to : Int) ≤ ((fr + ctM p fr to : Nat) : Int)
    · rw [if_pos c]
      rfl
    · rw [if_neg c, hlag, cp_ok, ck_ok (by omega), if_pos (by omega)]
      rfl
