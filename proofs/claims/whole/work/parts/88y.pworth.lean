/-! worths of places, and where they go on -/
def bst (f : Nat → Int) (lo : Nat) : Nat → Int × Int
  | 0 => (-1, 0)
  | k + 1 => if (bst f lo k).1 = -1 ∨ (bst f lo k).2 < f (lo + k) then (((lo + k : Nat) : Int), f (lo + k)) else bst f lo k
theorem bst_in (f : Nat → Int) (lo : Nat) : ∀ k, (k = 0 ∧ bst f lo k = (-1, 0)) ∨ ∃ j, j < k ∧ bst f lo k = (((lo + j : Nat) : Int), f (lo + j)) := by
  intro k
  induction k with
  | zero => exact Or.inl ⟨rfl, rfl⟩
  | succ k ih =>
    right
    have e : bst f lo (k + 1) = if (bst f lo k).1 = -1 ∨ (bst f lo k).2 < f (lo + k) then (((lo + k : Nat) : Int), f (lo + k)) else bst f lo k := rfl
    rw [e]
    by_cases c : (bst f lo k).1 = -1 ∨ (bst f lo k).2 < f (lo + k)
    · rw [if_pos c]
      exact ⟨k, by omega, rfl⟩
    · rw [if_neg c]
      rcases ih with ⟨-, q⟩ | ⟨j, hj, q⟩
      · exact absurd (Or.inl (by rw [q])) c
      · exact ⟨j, by omega, q⟩
theorem bst_cg {f f' : Nat → Int} {lo : Nat} : ∀ {k : Nat}, (∀ j, j < k → f (lo + j) = f' (lo + j)) → bst f lo k = bst f' lo k
  | 0, _ => rfl
  | k + 1, h => by
    unfold bst
    rw [bst_cg (k := k) (fun j hj => h j (by omega)), h k (by omega)]
def hiS (p : Nat → Nat) (to s : Nat) : Nat := if s + p s + p s / 4 ≤ to - 1 then s + p s + p s / 4 else to - 1
def ctS (p : Nat → Nat) (to s : Nat) : Nat := hiS p to s + 1 - (s + p s - p s / 4)
def fwS (p : Nat → Nat) (c : Int) (W : Nat → Int × Int) (s w : Nat) : Int := (W w).1 - c * ab ((w : Int) - ((s + p s : Nat) : Int))
def wN (x : Nat → Int) (p : Nat → Nat) (c : Int) (to : Nat) (W : Nat → Int × Int) (s : Nat) : Int × Int := ((bst (fwS p c W s) (s + p s - p s / 4) (ctS p to s)).2 + x s, (bst (fwS p c W s) (s + p s - p s / 4) (ctS p to s)).1)
def WF (x : Nat → Int) (p : Nat → Nat) (c : Int) (to : Nat) : Nat → Nat → Int × Int
  | 0 => fun _ => (0, -1)
  | k + 1 => fun s => if s + (k + 1) = to then wN x p c to (WF x p c to k) s else WF x p c to k s
theorem WF_b {x : Nat → Int} {p : Nat → Nat} {c : Int} {to : Nat} (hx : XOk x) (hp : ∀ s, p s ≤ 48) (hp2 : ∀ s, s < to → 2 ≤ p s) (hc : 0 ≤ c ∧ c ≤ 20) : ∀ k, k ≤ to → ∀ s, to ≤ s + k → s < to → (-(400 * ((to - s : Nat) : Int)) ≤ (WF x p c to k s).1 ∧ (WF x p c to k s).1 ≤ 400 * ((to - s : Nat) : Int)) ∧ ((WF x p c to k s).2 = -1 ∨ ∃ w : Nat, (WF x p c to k s).2 = (w : Int) ∧ s + 2 ≤ w ∧ w < to) := by
  intro k
  induction k with
  | zero => intro _ s h1 h2; omega
  | succ k ih =>
    intro hk s h1 h2
    have e : WF x p c to (k + 1) s = if s + (k + 1) = to then wN x p c to (WF x p c to k) s else WF x p c to k s := rfl
    rw [e]
    by_cases q : s + (k + 1) = to
    · rw [if_pos q]
      have p1 := hp s
      have p2 := hp2 s h2
      have x1 := hx s
      have h4 : p s / 4 ≤ 12 ∧ 2 ≤ p s - p s / 4 := by omega
      unfold wN
      dsimp only
      rcases bst_in (fwS p c (WF x p c to k) s) (s + p s - p s / 4) (ctS p to s) with ⟨-, z⟩ | ⟨j, hj, z⟩
      · rw [z]
        dsimp only
        have : (1 : Int) ≤ ((to - s : Nat) : Int) := by omega
        exact ⟨by omega, Or.inl rfl⟩
      · rw [z]
        dsimp only
        have hh : s + p s - p s / 4 + j ≤ hiS p to s := by unfold ctS at hj; omega
        have h5 : hiS p to s ≤ to - 1 ∧ hiS p to s ≤ s + p s + p s / 4 := by unfold hiS; split <;> omega
        have i1 := (ih (by omega) (s + p s - p s / 4 + j) (by omega) (by omega)).1
        generalize hw : s + p s - p s / 4 + j = w at *
        have ab1 : 0 ≤ ab ((w : Int) - ((s + p s : Nat) : Int)) ∧ ab ((w : Int) - ((s + p s : Nat) : Int)) ≤ 12 := by unfold ab; split <;> omega
        have m1 : 0 ≤ c * ab ((w : Int) - ((s + p s : Nat) : Int)) := Int.mul_nonneg hc.1 ab1.1
        have m2 : c * ab ((w : Int) - ((s + p s : Nat) : Int)) ≤ 20 * 12 := Int.mul_le_mul hc.2 ab1.2 ab1.1 (by omega)
        refine ⟨?_, Or.inr ⟨w, rfl, by omega, by omega⟩⟩
        unfold fwS
        have : ((to - s : Nat) : Int) = ((to - w : Nat) : Int) + ((w - s : Nat) : Int) := by omega
        have : (1 : Int) ≤ ((w - s : Nat) : Int) := by omega
        omega
    · rw [if_neg q]
      exact ih (by omega) s (by omega) h2
theorem p8_lagAt {z : uZ} {N s : Nat} (hB : BOk (z 5)) (h16 : z 16 12 = (N : Int)) (hN : N ≤ 100) (hs : s < 800) (hf : s / bN (z 5) 2 < N) : GF_X8_lagAtSample (s : Int) z = some (z 24 (s / bN (z 5) 2)) := by
  have b2 := hB.b2
  have e : ((s : Int)) / ((bN (z 5) 2 : Nat) : Int) = ((s / bN (z 5) 2 : Nat) : Int) := rfl
  unfold GF_X8_lagAtSample
  rw [p0_2, cp_ok, b2.1, p_quot z (by omega) (by omega) (by omega), cp_ok, e, p5_lagIn h16 hN hf, cp_ok]
/-- what the class needs of a SPAN -/
def SpC (x B L : Nat → Int) (n N fr to : Nat) (p : Nat → Nat) (g : uZ) : Prop := (g 1 2 = (n : Int)) ∧ (n ≤ 800) ∧ (g 2 = x) ∧ (g 5 = B) ∧ (g 24 = L) ∧ (g 16 12 = (N : Int)) ∧ (N ≤ 100) ∧ (XOk x) ∧ (BOk B) ∧ (to ≤ n) ∧ (∀ s, fr ≤ s → s < to → s / bN B 2 < N ∧ L (s / bN B 2) = (p s : Int)) ∧ (∀ s, p s ≤ 48) ∧ (∀ s, s < to → 2 ≤ p s)
theorem SpC.s {x B L : Nat → Int} {n N fr to : Nat} {p : Nat → Nat} {g : uZ} (h : SpC x B L n N fr to p g) : g 1 2 = (n : Int) := h.1
theorem SpC.n8 {x B L : Nat → Int} {n N fr to : Nat} {p : Nat → Nat} {g : uZ} (h : SpC x B L n N fr to p g) : n ≤ 800 := h.2.1
theorem SpC.x {x B L : Nat → Int} {n N fr to : Nat} {p : Nat → Nat} {g : uZ} (h : SpC x B L n N fr to p g) : g 2 = x := h.2.2.1
theorem SpC.b {x B L : Nat → Int} {n N fr to : Nat} {p : Nat → Nat} {g : uZ} (h : SpC x B L n N fr to p g) : g 5 = B := h.2.2.2.1
theorem SpC.l {x B L : Nat → Int} {n N fr to : Nat} {p : Nat → Nat} {g : uZ} (h : SpC x B L n N fr to p g) : g 24 = L := h.2.2.2.2.1
theorem SpC.f {x B L : Nat → Int} {n N fr to : Nat} {p : Nat → Nat} {g : uZ} (h : SpC x B L n N fr to p g) : g 16 12 = (N : Int) := h.2.2.2.2.2.1
theorem SpC.f1 {x B L : Nat → Int} {n N fr to : Nat} {p : Nat → Nat} {g : uZ} (h : SpC x B L n N fr to p g) : N ≤ 100 := h.2.2.2.2.2.2.1
theorem SpC.xo {x B L : Nat → Int} {n N fr to : Nat} {p : Nat → Nat} {g : uZ} (h : SpC x B L n N fr to p g) : XOk x := h.2.2.2.2.2.2.2.1
theorem SpC.bo {x B L : Nat → Int} {n N fr to : Nat} {p : Nat → Nat} {g : uZ} (h : SpC x B L n N fr to p g) : BOk B := h.2.2.2.2.2.2.2.2.1
theorem SpC.to {x B L : Nat → Int} {n N fr to : Nat} {p : Nat → Nat} {g : uZ} (h : SpC x B L n N fr to p g) : to ≤ n := h.2.2.2.2.2.2.2.2.2.1
theorem SpC.pf {x B L : Nat → Int} {n N fr to : Nat} {p : Nat → Nat} {g : uZ} (h : SpC x B L n N fr to p g) : ∀ s, fr ≤ s → s < to → s / bN B 2 < N ∧ L (s / bN B 2) = (p s : Int) := h.2.2.2.2.2.2.2.2.2.2.1
theorem SpC.p1 {x B L : Nat → Int} {n N fr to : Nat} {p : Nat → Nat} {g : uZ} (h : SpC x B L n N fr to p g) : ∀ s, p s ≤ 48 := h.2.2.2.2.2.2.2.2.2.2.2.1
theorem SpC.p2 {x B L : Nat → Int} {n N fr to : Nat} {p : Nat → Nat} {g : uZ} (h : SpC x B L n N fr to p g) : ∀ s, s < to → 2 ≤ p s := h.2.2.2.2.2.2.2.2.2.2.2.2
theorem SpC.fr {x B L : Nat → Int} {n N fr to : Nat} {p : Nat → Nat} {g g' : uZ} (h : SpC x B L n N fr to p g) (h1 : g' 1 2 = g 1 2) (h2 : g' 2 = g 2) (h5 : g' 5 = g 5) (h24 : g' 24 = g 24) (h16 : g' 16 12 = g 16 12) : SpC x B L n N fr to p g' := ⟨h1.trans h.s, h.n8, h2.trans h.x, h5.trans h.b, h24.trans h.l, h16.trans h.f, h.f1, h.xo, h.bo, h.to, h.pf, h.p1, h.p2⟩
theorem SpC.at {x B L : Nat → Int} {n N fr to : Nat} {p : Nat → Nat} {g : uZ} (h : SpC x B L n N fr to p g) {s : Nat} (h1 : fr ≤ s) (h2 : s < to) : GF_X8_lagAtSample (s : Int) g = some (p s : Int) := by
  have q := h.pf s h1 h2
  have := h.to
  have := h.n8
  rw [p8_lagAt (N := N) (by rw [h.b]; exact h.bo) h.f h.f1 (by omega) (by rw [h.b]; exact q.1), h.l, h.b, q.2]
theorem p3_findWorths {x B L : Nat → Int} {n N fr to : Nat} {p : Nat → Nat} {g : uZ} (h : SpC x B L n N fr to p g) (hft : fr ≤ to) : ∃ g', GF_X3_findWorths (fr : Int) (to : Int) g = some g' ∧ ∀ s, fr ≤ s → s < to → g' 45 s = (WF x p (bN B 13 : Int) to (to - fr) s).1 ∧ g' 46 s = (WF x p (bN B 13 : Int) to (to - fr) s).2 := by
  have hto := h.to
  have hn8 := h.n8
  have b13 := h.bo.b13
  have hb := WF_b (c := (bN B 13 : Int)) (to := to) h.xo h.p1 h.p2 ⟨by omega, by omega⟩
  unfold GF_X3_findWorths
  rw [p0_13, cp_ok, p_min g (by omega) (by decide), cp_ok, lt_ok, h.b, b13.1]
  have e2 : (if (800 : Int) < (to : Int) then (800 : Int) else (to : Int)) = (to : Int) := by rw [if_neg (by omega)]
  rw [e2]
  refine lp_go (fun t z => z.1 = (to : Int) - 1 - (t : Int) ∧ Fr [45, 46] [] g z.2 ∧ ∀ s, to ≤ s + t → s < to → z.2 45 s = (WF x p (bN B 13 : Int) to t s).1 ∧ z.2 46 s = (WF x p (bN B 13 : Int) to t s).2) (fun z => ∀ s, fr ≤ s → s < to → z 45 s = (WF x p (bN B 13 : Int) to (to - fr) s).1 ∧ z 46 s = (WF x p (bN B 13 : Int) to (to - fr) s).2) (to - fr) (by omega) ⟨by dsimp only; omega, Fr.rf, fun s h1 h2 => by omega⟩ ?_ ?_ (fun z hz => ⟨z, rfl, hz⟩)
  · rintro t ⟨w, z⟩ ht ⟨e1, hF, hz⟩
    simp only at e1 hF hz
    subst e1
    dsimp only
    obtain ⟨s, hs⟩ : ∃ s, to = s + (t + 1) := ⟨to - (t + 1), by omega⟩
    have es : (to : Int) - 1 - (t : Int) = (s : Int) := by omega
    have hsz := h.fr (hF 1 2 (by decide) (by decide)) (hF.f 2 (by decide) (by decide)) (hF.f 5 (by decide) (by decide)) (hF.f 24 (by decide) (by decide)) (hF 16 12 (by decide) (by decide))
    have p1 := h.p1 s
    have p2 := h.p2 s (by omega)
    have e4 : Int.tdiv (((s : Int) + (p s : Int)) - (s : Int)) 4 = ((p s / 4 : Nat) : Int) := by
      rw [show ((s : Int) + (p s : Int)) - (s : Int) = ((p s : Nat) : Int) by omega]
      rfl
    have h4 : p s / 4 ≤ 12 ∧ 2 ≤ p s - p s / 4 := by omega
    unfold GB_X3_findWorths_7
    rw [es, ck_ok (by omega), ck_ok (by omega), if_neg (by omega), hsz.at (by omega) (by omega), cp_ok, lt_ok, dvZ_ok (by omega) (by decide) (by decide), e4, wrZ_at s rfl (by omega), lt_ok, show ((s : Int) + (p s : Int)) - ((p s / 4 : Nat) : Int) = ((s + p s - p s / 4 : Nat) : Int) by omega]
    have hhi : hiS p to s ≤ to - 1 ∧ hiS p to s ≤ s + p s + p s / 4 ∧ (hiS p to s = to - 1 ∨ hiS p to s = s + p s + p s / 4) := by unfold hiS; split <;> omega
    have hct : ctS p to s = hiS p to s + 1 - (s + p s - p s / 4) := rfl
    refine lp_gi (fun k y => y.1 = (bst (fwS p (bN B 13 : Int) (WF x p (bN B 13 : Int) to t) s) (s + p s - p s / 4) k).2 ∧ y.2.1 = ((s + p s - p s / 4 + k : Nat) : Int) ∧ Fr [45, 46] [] g y.2.2 ∧ y.2.2 46 s = (bst (fwS p (bN B 13 : Int) (WF x p (bN B 13 : Int) to t) s) (s + p s - p s / 4) k).1 ∧ ∀ s', to ≤ s' + t → s' < to → y.2.2 45 s' = (WF x p (bN B 13 : Int) to t s').1 ∧ y.2.2 46 s' = (WF x p (bN B 13 : Int) to t s').2) (fun y => y.1 = (bst (fwS p (bN B 13 : Int) (WF x p (bN B 13 : Int) to t) s) (s + p s - p s / 4) (ctS p to s)).2 ∧ Fr [45, 46] [] g y.2 ∧ y.2 46 s = (bst (fwS p (bN B 13 : Int) (WF x p (bN B 13 : Int) to t) s) (s + p s - p s / 4) (ctS p to s)).1 ∧ ∀ s', to ≤ s' + t → s' < to → y.2 45 s' = (WF x p (bN B 13 : Int) to t s').1 ∧ y.2 46 s' = (WF x p (bN B 13 : Int) to t s').2) (ctS p to s) (by omega) ⟨rfl, rfl, hF.wr (by decide), by dsimp only; rw [upZ_ss]; rfl, fun s' h1 h2 => by dsimp only; rw [upZ_n (by decide), upZ_sn (by omega)]; exact hz s' h1 h2⟩ ?_ ?_ ?_
    · rintro k ⟨v, w, y⟩ hk ⟨e1, e2, hG, h46, hy⟩
      simp only at e1 e2 hG h46 hy
      subst e1 e2
      dsimp only
      have i1 := (hb t (by omega) (s + p s - p s / 4 + k) (by omega) (by omega)).1
      have c45 := (hy (s + p s - p s / 4 + k) (by omega) (by omega)).1
      have eb : bst (fwS p (bN B 13 : Int) (WF x p (bN B 13 : Int) to t) s) (s + p s - p s / 4) (k + 1) = if (bst (fwS p (bN B 13 : Int) (WF x p (bN B 13 : Int) to t) s) (s + p s - p s / 4) k).1 = -1 ∨ (bst (fwS p (bN B 13 : Int) (WF x p (bN B 13 : Int) to t) s) (s + p s - p s / 4) k).2 < fwS p (bN B 13 : Int) (WF x p (bN B 13 : Int) to t) s (s + p s - p s / 4 + k) then (((s + p s - p s / 4 + k : Nat) : Int), fwS p (bN B 13 : Int) (WF x p (bN B 13 : Int) to t) s (s + p s - p s / 4 + k)) else bst (fwS p (bN B 13 : Int) (WF x p (bN B 13 : Int) to t) s) (s + p s - p s / 4) k := rfl
      have fb : ∀ j, j ≤ k → -400000 ≤ fwS p (bN B 13 : Int) (WF x p (bN B 13 : Int) to t) s (s + p s - p s / 4 + j) ∧ fwS p (bN B 13 : Int) (WF x p (bN B 13 : Int) to t) s (s + p s - p s / 4 + j) ≤ 400000 := fun j hj => by
        have i2 := (hb t (by omega) (s + p s - p s / 4 + j) (by omega) (by omega)).1
        unfold fwS
        have ab1 : 0 ≤ ab (((s + p s - p s / 4 + j : Nat) : Int) - ((s + p s : Nat) : Int)) ∧ ab (((s + p s - p s / 4 + j : Nat) : Int) - ((s + p s : Nat) : Int)) ≤ 12 := by unfold ab; split <;> omega
        have m1 : 0 ≤ (bN B 13 : Int) * ab (((s + p s - p s / 4 + j : Nat) : Int) - ((s + p s : Nat) : Int)) := Int.mul_nonneg (by omega) ab1.1
        have m2 : (bN B 13 : Int) * ab (((s + p s - p s / 4 + j : Nat) : Int) - ((s + p s : Nat) : Int)) ≤ 20 * 12 := Int.mul_le_mul (by omega) ab1.2 ab1.1 (by omega)
        omega
      have fk := fb k (Nat.le_refl _)
      have e23 : (WF x p (bN B 13 : Int) to t (s + p s - p s / 4 + k)).1 - (bN B 13 : Int) * ab (((s + p s - p s / 4 + k : Nat) : Int) - ((s : Int) + (p s : Int))) = fwS p (bN B 13 : Int) (WF x p (bN B 13 : Int) to t) s (s + p s - p s / 4 + k) := by
        unfold fwS
        rw [show ((s : Int) + (p s : Int)) = ((s + p s : Nat) : Int) by omega]
      unfold GB_X3_findWorths_5 GJ_X3_findWorths_3 GJ_X3_findWorths_4
      rw [ck_ok (by omega), ck_ok (by omega), if_neg (by omega), ck_ok (by omega), if_neg (by omega), ck_ok (by omega), if_neg (by omega), rdZ_at (s + p s - p s / 4 + k) rfl (by omega), c45, p_abs y (by omega), cp_ok, lt_ok, e23, rdZ_at s rfl (by omega), h46]
      have upd : ∃ a' : Int × (Int × uZ), (wrZ y 46 800 (s : Int) ((s + p s - p s / 4 + k : Nat) : Int) fun g27 => lt (((s + p s - p s / 4 + k : Nat) : Int) + 1) fun v30 => (some (Sum.inl (fwS p (bN B 13 : Int) (WF x p (bN B 13 : Int) to t) s (s + p s - p s / 4 + k), (v30, g27))) : Option ((Int × (Int × uZ)) ⊕ (Int × uZ)))) = some (Sum.inl a') ∧ a'.1 = fwS p (bN B 13 : Int) (WF x p (bN B 13 : Int) to t) s (s + p s - p s / 4 + k) ∧ a'.2.1 = ((s + p s - p s / 4 + (k + 1) : Nat) : Int) ∧ Fr [45, 46] [] g a'.2.2 ∧ a'.2.2 46 s = ((s + p s - p s / 4 + k : Nat) : Int) ∧ ∀ s', to ≤ s' + t → s' < to → a'.2.2 45 s' = (WF x p (bN B 13 : Int) to t s').1 ∧ a'.2.2 46 s' = (WF x p (bN B 13 : Int) to t s').2 := by
        rw [wrZ_at s rfl (by omega), lt_ok]
        refine ⟨_, rfl, rfl, by dsimp only; omega, hG.wr (by decide), by dsimp only; rw [upZ_ss], fun s' h1 h2 => ?_⟩
        dsimp only
        rw [upZ_n (by decide), upZ_sn (by omega)]
        exact hy s' h1 h2
      rcases bst_in (fwS p (bN B 13 : Int) (WF x p (bN B 13 : Int) to t) s) (s + p s - p s / 4) k with ⟨k0, z0⟩ | ⟨j, hj, zj⟩
      · rw [eb, z0]
        dsimp only
        rw [ck_ok (by decide), if_pos rfl, if_pos (Or.inl rfl)]
        exact upd
      · have fj := fb j (by omega)
        rw [eb, zj]
        dsimp only
        rw [ck_ok (by omega), if_neg (by omega), ck_ok (by omega), ck_ok (by omega)]
        by_cases c : fwS p (bN B 13 : Int) (WF x p (bN B 13 : Int) to t) s (s + p s - p s / 4 + k) ≤ fwS p (bN B 13 : Int) (WF x p (bN B 13 : Int) to t) s (s + p s - p s / 4 + j)
        · rw [if_pos c, lt_ok, if_neg (by omega)]
          exact ⟨_, rfl, rfl, by dsimp only; omega, hG, by dsimp only; rw [h46, zj], hy⟩
        · rw [if_neg c, if_pos (Or.inr (by omega))]
          exact upd
    · rintro ⟨v, w, y⟩ ⟨e1, e2, hG, h46, hy⟩
      simp only at e1 e2 hG h46 hy
      subst e1 e2
      dsimp only
      refine ⟨((bst (fwS p (bN B 13 : Int) (WF x p (bN B 13 : Int) to t) s) (s + p s - p s / 4) (ctS p to s)).2, y), ?_, rfl, hG, h46, hy⟩
      unfold GB_X3_findWorths_5
      rw [ck_ok (by omega), ck_ok (by omega), if_neg (by omega), ck_ok (by omega)]
      by_cases c : (s : Int) + (p s : Int) + ((p s / 4 : Nat) : Int) < ((s + p s - p s / 4 + ctS p to s : Nat) : Int)
      · rw [if_pos c]
      · rw [if_neg c, ck_ok (by omega), if_pos (by omega)]
    · rintro ⟨v, y⟩ ⟨e1, hG, h46, hy⟩
      simp only at e1 hG h46 hy
      subst e1
      dsimp only
      have hsy := h.fr (hG 1 2 (by decide) (by decide)) (hG.f 2 (by decide) (by decide)) (hG.f 5 (by decide) (by decide)) (hG.f 24 (by decide) (by decide)) (hG 16 12 (by decide) (by decide))
      have eat : GF_X7_at (s : Int) y = some (x s) := by
        rw [p7_at hsy.s hn8 (by omega), hsy.x]
        unfold atS
        rw [if_pos (by omega), Int.toNat_natCast]
      unfold GC_X3_findWorths_6
      rw [eat, cp_ok, wrZ_at s rfl (by omega), lt_ok]
      refine ⟨_, rfl, by dsimp only; omega, hG.wr (by decide), fun s' h1 h2 => ?_⟩
      have ew : WF x p (bN B 13 : Int) to (t + 1) s' = if s' + (t + 1) = to then wN x p (bN B 13 : Int) to (WF x p (bN B 13 : Int) to t) s' else WF x p (bN B 13 : Int) to t s' := rfl
      dsimp only
      rw [ew, upZ_n (show (46 : Nat) ≠ 45 by decide)]
      by_cases c : s' = s
      · subst c
        rw [if_pos (by omega), upZ_ss, h46]
        exact ⟨rfl, rfl⟩
      · rw [if_neg (by omega), upZ_sn c]
        exact hy s' (by omega) h2
  · rintro ⟨w, z⟩ ⟨e1, hF, hz⟩
    simp only at e1 hF hz
    subst e1
    dsimp only
    refine ⟨z, ?_, fun s h1 h2 => hz s (by omega) h2⟩
    unfold GB_X3_findWorths_7
    rw [ck_ok (by omega), ck_ok (by omega), if_pos (by omega)]
