/-! NOTES: what they are -/
def ctN (L : Nat → Int) (j : Nat) : Bool := decide (0 < j ∧ L j ≠ 0 ∧ L (j - 1) ≠ 0 ∧ L j - L (j - 1) ≤ 1 ∧ L (j - 1) - L j ≤ 1)
def bnN (L : Nat → Int) (j : Nat) : Bool := decide (L j ≠ 0) && !ctN L j
def nN (L : Nat → Int) : Nat → Nat
  | 0 => 0
  | f + 1 => nN L f + if bnN L f then 1 else 0
theorem nN_le (L : Nat → Int) (f : Nat) : nN L f ≤ f := by
  induction f with
  | zero => exact Nat.le_refl _
  | succ f ih => unfold nN; split <;> omega
theorem nN_mono (L : Nat → Int) {a b : Nat} (h : a ≤ b) : nN L a ≤ nN L b := by
  induction b with
  | zero => have : a = 0 := by omega
            subst this; exact Nat.le_refl _
  | succ b ih =>
    by_cases hb : a = b + 1
    · subst hb; exact Nat.le_refl _
    · have := ih (by omega)
      have e : nN L (b + 1) = nN L b + if bnN L b then 1 else 0 := rfl
      rw [e]; split <;> omega
theorem nN_uniq {L : Nat → Int} {a b : Nat} (ha : bnN L a) (hb : bnN L b) (h : nN L a = nN L b) : a = b := by
  have key : ∀ c d, bnN L c → c < d → nN L c < nN L d := fun c d hc hcd => by
    have h1 := nN_mono L (a := c + 1) (b := d) (by omega)
    have e : nN L (c + 1) = nN L c + if bnN L c then 1 else 0 := rfl
    rw [if_pos hc] at e
    omega
  rcases Nat.lt_trichotomy a b with q | q | q
  · have := key a b ha q
    omega
  · exact q
  · have := key b a hb q
    omega
/-- the note that is number i of the first f frames begins at a and has l frames -/
def ntS (L : Nat → Int) (f i a l : Nat) : Prop := bnN L a ∧ nN L a = i ∧ 1 ≤ l ∧ a + l ≤ f ∧ (∀ j, a < j → j < a + l → ctN L j) ∧ (a + l < f → ¬ ctN L (a + l))
theorem ntS.uniq {L : Nat → Int} {f i a l b k : Nat} (h1 : ntS L f i a l) (h2 : ntS L f i b k) : a = b ∧ l = k := by
  obtain ⟨p1, p2, p3, p4, p5, p6⟩ := h1
  obtain ⟨q1, q2, q3, q4, q5, q6⟩ := h2
  have e := nN_uniq p1 q1 (p2.trans q2.symm)
  subst e
  refine ⟨rfl, ?_⟩
  rcases Nat.lt_trichotomy l k with q | q | q
  · exact absurd (q5 (a + l) (by omega) (by omega)) (p6 (by omega))
  · exact q
  · exact absurd (p5 (a + k) (by omega) (by omega)) (q6 (by omega))
