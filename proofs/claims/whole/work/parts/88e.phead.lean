/-! least costs up to a candidate, of paths that may be -/
abbrev FARc : Int := 536870912
def HP (m : Nat → Nat) (own : Nat → Nat → Int) (st : Nat → Nat → Nat → Int) (A : Nat → Nat → Bool) (e i : Nat) (v : Int) : Prop := (FARc ≤ v ∧ v ≤ FARc + 60000 ∧ ∀ q, aP m A q 0 e → q e ≠ i) ∨ (0 ≤ v ∧ v ≤ 60000 * (e + 1 : Nat) ∧ (∃ q, aP m A q 0 e ∧ q e = i ∧ cst own st q e = v) ∧ ∀ q, aP m A q 0 e → q e = i → v ≤ cst own st q e)
theorem cst_s (own : Nat → Nat → Int) (st : Nat → Nat → Nat → Int) (p : Nat → Nat) (e : Nat) : cst own st p (e + 1) = cst own st p e + st e (p e) (p (e + 1)) + own (e + 1) (p (e + 1)) := rfl
theorem HP.step {m : Nat → Nat} {own : Nat → Nat → Int} {st : Nat → Nat → Nat → Int} {A : Nat → Nat → Bool} {e i : Nat} {T : Nat → Int} {r : Int} (he : e < 100) (hA : ∀ k, A (e + 1) k = true) (hi : i < m (e + 1)) (ho : 0 ≤ own (e + 1) i ∧ own (e + 1) i ≤ 50000) (hs : ∀ k, k < m e → 0 ≤ st e k i ∧ st e k i ≤ 4400) (hT : ∀ k, k < m e → HP m own st A e k (T k)) (hr : (r = FARc ∧ ∀ k, k < m e → FARc ≤ T k + st e k i) ∨ (r < FARc ∧ (∃ k, k < m e ∧ r = T k + st e k i) ∧ ∀ k, k < m e → r ≤ T k + st e k i)) : HP m own st A (e + 1) i (r + own (e + 1) i) := by
  have cut : ∀ q, aP m A q 0 (e + 1) → aP m A q 0 e ∧ q e < m e := fun q hq => ⟨fun j h1 h2 => hq j h1 (by omega), (hq e (by omega) (by omega)).1⟩
  rcases hr with ⟨hr, hall⟩ | ⟨hr, ⟨k, hk, hre⟩, hmin⟩
  · left
    refine ⟨by unfold FARc at *; omega, by unfold FARc at *; omega, fun q hq hqi => ?_⟩
    obtain ⟨h1, h2⟩ := cut q hq
    have s1 := hs _ h2
    have a1 := hall _ h2
    rcases hT _ h2 with ⟨-, -, h3⟩ | ⟨-, h4, -⟩
    · exact h3 q h1 rfl
    · unfold FARc at *
      omega
  · right
    have s1 := hs k hk
    rcases hT k hk with ⟨h1, -⟩ | ⟨h1, h2, ⟨q, hq, hqk, hqc⟩, h4⟩
    · exfalso
      omega
    · refine ⟨by omega, by omega, ⟨fun j => if j ≤ e then q j else i, fun j _ hj => ?_, ?_, ?_⟩, fun p hp hpi => ?_⟩
      · dsimp only
        by_cases c : j ≤ e
        · rw [if_pos c]
          exact hq j (by omega) c
        · have : j = e + 1 := by omega
          subst this
          rw [if_neg c]
          exact ⟨hi, hA i⟩
      · dsimp only
        rw [if_neg (by omega)]
      · have e1 : cst own st (fun j => if j ≤ e then q j else i) e = cst own st q e := cst_cg (fun f hf => if_pos hf)
        rw [cst_s, e1]
        rw [if_pos (Nat.le_refl e), if_neg (by omega), hqk, hqc, hre]
      · obtain ⟨h5, h6⟩ := cut p hp
        have a1 := hmin _ h6
        have s2 := hs _ h6
        rcases hT _ h6 with ⟨-, -, h7⟩ | ⟨-, -, -, h8⟩
        · exact absurd rfl (h7 p h5)
        · have := h8 p h5 rfl
          rw [cst_s, hpi]
          omega
theorem HP.cg {m : Nat → Nat} {own : Nat → Nat → Int} {st : Nat → Nat → Nat → Int} {A A' : Nat → Nat → Bool} {e i : Nat} {v : Int} (h : HP m own st A e i v) (hA : ∀ f k, f ≤ e → A f k = A' f k) : HP m own st A' e i v := by
  have iff : ∀ q, aP m A' q 0 e → aP m A q 0 e := fun q hq j h1 h2 => ⟨(hq j h1 h2).1, by rw [hA j _ h2]; exact (hq j h1 h2).2⟩
  have iff2 : ∀ q, aP m A q 0 e → aP m A' q 0 e := fun q hq j h1 h2 => ⟨(hq j h1 h2).1, by rw [← hA j _ h2]; exact (hq j h1 h2).2⟩
  rcases h with ⟨h1, h2, h3⟩ | ⟨h1, h2, ⟨q, hq, hq2⟩, h4⟩
  · exact Or.inl ⟨h1, h2, fun q hq => h3 q (iff q hq)⟩
  · exact Or.inr ⟨h1, h2, ⟨q, iff2 q hq, hq2⟩, fun p hp => h4 p (iff p hp)⟩
/-- a candidate is shut -/
theorem HP.shut {m : Nat → Nat} {own : Nat → Nat → Int} {st : Nat → Nat → Nat → Int} {A A' : Nat → Nat → Bool} {e i : Nat} {v : Int} (h : HP m own st A e i v) (hA : ∀ f k, f < e → A f k = A' f k) (ho : A e i = true) : HP m own st A' e i (if A' e i = true then v else FARc) := by
  by_cases c : A' e i = true
  · rw [if_pos c]
    have iff : ∀ q, q e = i → aP m A' q 0 e → aP m A q 0 e := fun q hqi hq j h1 h2 => by
      refine ⟨(hq j h1 h2).1, ?_⟩
      by_cases je : j = e
      · subst je; rw [hqi]; exact ho
      · rw [hA j _ (by omega)]; exact (hq j h1 h2).2
    have iff2 : ∀ q, q e = i → aP m A q 0 e → aP m A' q 0 e := fun q hqi hq j h1 h2 => by
      refine ⟨(hq j h1 h2).1, ?_⟩
      by_cases je : j = e
      · subst je; rw [hqi]; exact c
      · rw [← hA j _ (by omega)]; exact (hq j h1 h2).2
    rcases h with ⟨h1, h2, h3⟩ | ⟨h1, h2, ⟨q, hq, hqi, hqc⟩, h4⟩
    · exact Or.inl ⟨h1, h2, fun q hq hqi => h3 q (iff q hqi hq) hqi⟩
    · exact Or.inr ⟨h1, h2, ⟨q, iff2 q hqi hq, hqi, hqc⟩, fun p hp hpi => h4 p (iff p hpi hp) hpi⟩
  · rw [if_neg c]
    refine Or.inl ⟨by unfold FARc; omega, by unfold FARc; omega, fun q hq hqi => ?_⟩
    have := (hq e (by omega) (Nat.le_refl _)).2
    rw [hqi] at this
    exact c this
theorem HP.last {m : Nat → Nat} {own : Nat → Nat → Int} {st : Nat → Nat → Nat → Int} {A : Nat → Nat → Bool} {e : Nat} {T : Nat → Int} {r : Int} (he : e < 100) (hT : ∀ k, k < m e → HP m own st A e k (T k)) (hr : (r = FARc ∧ ∀ k, k < m e → FARc ≤ T k) ∨ (r < FARc ∧ (∃ k, k < m e ∧ r = T k) ∧ ∀ k, k < m e → r ≤ T k)) (hex : ∃ q, aP m A q 0 e) : PM m own st A e r := by
  obtain ⟨q0, hq0⟩ := hex
  have h00 := (hq0 e (by omega) (by omega)).1
  rcases hr with ⟨hr, hall⟩ | ⟨hr, ⟨k, hk, hre⟩, hmin⟩
  · exfalso
    rcases hT _ h00 with h1 | h1
    · exact h1.2.2 q0 hq0 rfl
    · have := hall _ h00
      have := h1.2.1
      unfold FARc at *
      omega
  · refine ⟨?_, fun q hq => ?_⟩
    · rcases hT k hk with h1 | h1
      · have := h1.1
        omega
      · obtain ⟨q, hq, -, hqc⟩ := h1.2.2.1
        exact ⟨q, hq, by rw [hre]; exact hqc⟩
    · have hk2 := (hq e (by omega) (by omega)).1
      have h5 := hmin _ hk2
      rcases hT _ hk2 with h1 | h1
      · exact absurd rfl (h1.2.2 q hq)
      · have h4 := h1.2.2.2 q hq rfl
        omega
/-- heads and tails at one candidate -/
theorem glue {m : Nat → Nat} {own : Nat → Nat → Int} {st : Nat → Nat → Nat → Int} {A : Nat → Nat → Bool} {E f i : Nat} {h t : Int} (hf : f ≤ E) (hh : (∃ q, aP m A q 0 f ∧ q f = i ∧ cst own st q f = h) ∧ ∀ q, aP m A q 0 f → q f = i → h ≤ cst own st q f) (ht : TM m own st (fun _ _ => true) E f i t) (hA : ∀ j k, f < j → A j k = true) : PM m own st (fun j k => A j k && (decide (j ≠ f) || decide (k = i))) E (h + t - own f i) := by
  obtain ⟨⟨q, hq, hqi, hqc⟩, hmin⟩ := hh
  obtain ⟨⟨p, hpi, hp, hpc⟩, hmt⟩ := ht
  have ef : f + (E - f) = E := by omega
  refine ⟨⟨fun j => if j ≤ f then q j else p j, fun j _ hj => ?_, ?_⟩, fun r hr => ?_⟩
  · dsimp only
    by_cases c : j ≤ f
    · rw [if_pos c]
      refine ⟨(hq j (by omega) c).1, ?_⟩
      rw [(hq j (by omega) c).2]
      by_cases d : j = f
      · subst d; simp [hqi]
      · simp [d]
    · rw [if_neg c]
      refine ⟨(hp j (by omega) hj).1, ?_⟩
      rw [hA j _ (by omega)]
      have : j ≠ f := by omega
      simp [this]
  · have e1 : cst own st (fun j => if j ≤ f then q j else p j) f = cst own st q f := cst_cg (fun j hj => if_pos hj)
    have e2 : rmc own st (fun j => if j ≤ f then q j else p j) f (E - f) = rmc own st p f (E - f) := rmc_cg (fun j h1 h2 => by
      by_cases c : j ≤ f
      · rw [if_pos c]
        have : j = f := by omega
        subst this
        rw [hqi, hpi]
      · rw [if_neg c])
    have e3 := cst_rmc own st (fun j => if j ≤ f then q j else p j) (E - f) f
    rw [ef, e1, e2] at e3
    rw [if_pos (Nat.le_refl f), hqi] at e3
    omega
  · have hrf := hr f (by omega) hf
    have hri : r f = i := by
      have := hrf.2
      simp only [Bool.and_eq_true, Bool.or_eq_true, decide_eq_true_eq, ne_eq, not_true_eq_false, false_or] at this
      exact this.2
    have h1 := hmin r (fun j h1 h2 => ⟨(hr j h1 (by omega)).1, by
      have := (hr j h1 (by omega)).2
      simp only [Bool.and_eq_true] at this
      exact this.1⟩) hri
    have h2 := hmt r hri (fun j h1 h2 => ⟨(hr j (by omega) h2).1, rfl⟩)
    have e3 := cst_rmc own st r (E - f) f
    rw [ef, hri] at e3
    omega
