/-! NOTES, as the class finds them -/
def NP (L : Nat → Int) (f : Nat) (g : uZ) : Prop := g 38 6 = (nN L f : Int) ∧ ∀ i, i < nN L f → ∃ a l : Nat, g 39 i = (a : Int) ∧ g 40 i = (l : Int) ∧ ntS L f i a l
theorem ntS.stay {L : Nat → Int} {t i a l : Nat} (h : ntS L t i a l) (hc : ctN L t = false) : ntS L (t + 1) i a l := by
  obtain ⟨p1, p2, p3, p4, p5, p6⟩ := h
  refine ⟨p1, p2, p3, by omega, p5, fun hlt => ?_⟩
  by_cases q : a + l = t
  · rw [q, hc]
    decide
  · exact p6 (by omega)
theorem ntS.fresh {L : Nat → Int} {t : Nat} (h : bnN L t = true) : ntS L (t + 1) (nN L t) t 1 := ⟨h, rfl, by omega, by omega, fun j h1 h2 => by omega, fun h => by omega⟩
theorem bnN.ct {L : Nat → Int} {t : Nat} (h : bnN L t = true) : ctN L t = false ∧ L t ≠ 0 := by
  unfold bnN at h
  simp only [Bool.and_eq_true, decide_eq_true_eq, Bool.not_eq_true'] at h
  exact ⟨h.2, h.1⟩
theorem ntS.go {L : Nat → Int} {t i a l : Nat} (h : ntS L t i a l) (he : a + l = t) (hc : ctN L t = true) : ntS L (t + 1) i a (l + 1) := by
  obtain ⟨p1, p2, p3, p4, p5, p6⟩ := h
  refine ⟨p1, p2, by omega, by omega, fun j h1 h2 => ?_, fun hlt => by omega⟩
  by_cases q : j = t
  · subst q
    exact hc
  · exact p5 j h1 (by omega)
theorem ntS.old {L : Nat → Int} {t i k a l b m : Nat} (h : ntS L t i a l) (h2 : ntS L t k b m) (hik : i < k) : ntS L (t + 1) i a l := by
  obtain ⟨p1, p2, p3, p4, p5, p6⟩ := h
  obtain ⟨q1, q2, q3, q4, -, -⟩ := h2
  have hab : a < b := by
    rcases Nat.lt_or_ge a b with q | q
    · exact q
    · have := nN_mono L q
      omega
  have hlt : a + l ≤ b := by
    rcases Nat.lt_or_ge b (a + l) with q | q
    · have h1 := p5 b hab q
      have h2 := (bnN.ct q1).1
      rw [h2] at h1
      exact absurd h1 (by decide)
    · exact q
  exact ⟨p1, p2, p3, by omega, p5, fun _ => p6 (by omega)⟩
