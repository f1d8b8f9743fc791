/-! paths from a frame to the last one; least costs of those that may be -/
def rmc (own : Nat → Nat → Int) (st : Nat → Nat → Nat → Int) (p : Nat → Nat) : Nat → Nat → Int
  | f, 0 => own f (p f)
  | f, n + 1 => own f (p f) + (st f (p f) (p (f + 1)) + rmc own st p (f + 1) n)
theorem cst_rmc (own : Nat → Nat → Int) (st : Nat → Nat → Nat → Int) (p : Nat → Nat) : ∀ (n f : Nat), cst own st p (f + n) + own f (p f) = cst own st p f + rmc own st p f n
  | 0, f => rfl
  | n + 1, f => by
    have ih := cst_rmc own st p n (f + 1)
    have e : f + (n + 1) = f + 1 + n := by omega
    rw [e]
    have h1 : cst own st p (f + 1) = cst own st p f + st f (p f) (p (f + 1)) + own (f + 1) (p (f + 1)) := rfl
    have h2 : rmc own st p f (n + 1) = own f (p f) + (st f (p f) (p (f + 1)) + rmc own st p (f + 1) n) := rfl
    omega
theorem rmc_cg {own : Nat → Nat → Int} {st : Nat → Nat → Nat → Int} {p q : Nat → Nat} : ∀ {n f : Nat}, (∀ j, f ≤ j → j ≤ f + n → p j = q j) → rmc own st p f n = rmc own st q f n
  | 0, f, h => by unfold rmc; rw [h f (by omega) (by omega)]
  | n + 1, f, h => by
    unfold rmc
    rw [h f (by omega) (by omega), h (f + 1) (by omega) (by omega), rmc_cg (fun j h1 h2 => h j (by omega) (by omega))]
theorem cst_0 (own : Nat → Nat → Int) (st : Nat → Nat → Nat → Int) (p : Nat → Nat) (e : Nat) : cst own st p e = rmc own st p 0 e := by
  have := cst_rmc own st p e 0
  rw [Nat.zero_add] at this
  have h : cst own st p 0 = own 0 (p 0) := rfl
  omega
def aP (m : Nat → Nat) (A : Nat → Nat → Bool) (p : Nat → Nat) (f e : Nat) : Prop := ∀ j, f ≤ j → j ≤ e → p j < m j ∧ A j (p j) = true
/-- the least cost from a candidate on -/
def TM (m : Nat → Nat) (own : Nat → Nat → Int) (st : Nat → Nat → Nat → Int) (A : Nat → Nat → Bool) (e f i : Nat) (v : Int) : Prop := (∃ q, q f = i ∧ aP m A q f e ∧ rmc own st q f (e - f) = v) ∧ ∀ q, q f = i → aP m A q f e → v ≤ rmc own st q f (e - f)
def TP (m : Nat → Nat) (own : Nat → Nat → Int) (st : Nat → Nat → Nat → Int) (A : Nat → Nat → Bool) (F : Int) (e f i : Nat) (v : Int) : Prop := (v = F ∧ ∀ q, q f = i → ¬ aP m A q f e) ∨ (v < F ∧ TM m own st A e f i v)
def ov (q : Nat → Nat) (f i : Nat) : Nat → Nat := fun j => if j = f then i else q j
theorem ov_s (q : Nat → Nat) (f i : Nat) : ov q f i f = i := by unfold ov; rw [if_pos rfl]
theorem ov_n {q : Nat → Nat} {f i j : Nat} (h : j ≠ f) : ov q f i j = q j := by unfold ov; rw [if_neg h]
theorem TP.last {m : Nat → Nat} {own : Nat → Nat → Int} {st : Nat → Nat → Nat → Int} {A : Nat → Nat → Bool} {F : Int} {e i : Nat} (hi : i < m e) (hF : own e i < F) : TP m own st A F e e i (if A e i = true then own e i else F) := by
  have h0 : e - e = 0 := by omega
  by_cases ha : A e i = true
  · rw [if_pos ha]
    right
    refine ⟨hF, ⟨fun _ => i, rfl, fun j h1 h2 => ?_, ?_⟩, fun q hq _ => ?_⟩
    · obtain rfl : j = e := by omega
      exact ⟨hi, ha⟩
    · rw [h0]; rfl
    · rw [h0]
      unfold rmc
      rw [hq]
      omega
  · rw [if_neg ha]
    left
    refine ⟨rfl, fun q hq h => ha ?_⟩
    have := (h e (by omega) (by omega)).2
    rw [hq] at this
    exact this
theorem TP.step {m : Nat → Nat} {own : Nat → Nat → Int} {st : Nat → Nat → Nat → Int} {A : Nat → Nat → Bool} {F : Int} {e f i : Nat} {T : Nat → Int} {r v : Int} (hf : f < e) (hi : i < m f) (hT : ∀ k, k < m (f + 1) → TP m own st A F e (f + 1) k (T k)) (hr : (r = F ∧ ∀ k, k < m (f + 1) → T k = F) ∨ (r < F ∧ (∃ k, k < m (f + 1) ∧ T k < F ∧ r = st f i k + T k) ∧ ∀ k, k < m (f + 1) → T k < F → r ≤ st f i k + T k)) (hF : r < F → own f i + r < F) (hv : v = if A f i = true then (if r = F then F else own f i + r) else F) : TP m own st A F e f i v := by
  have hn : e - f = (e - (f + 1)) + 1 := by omega
  have hrm : ∀ q : Nat → Nat, q f = i → rmc own st q f (e - f) = own f i + (st f i (q (f + 1)) + rmc own st q (f + 1) (e - (f + 1))) := fun q hq => by
    rw [hn]
    show own f (q f) + (st f (q f) (q (f + 1)) + rmc own st q (f + 1) (e - (f + 1))) = _
    rw [hq]
  by_cases ha : A f i = true
  · rw [if_pos ha] at hv
    rcases hr with ⟨hr, hall⟩ | ⟨hr, ⟨k, hk, hTk, hre⟩, hmin⟩
    · rw [if_pos hr] at hv
      left
      refine ⟨hv, fun q hq h => ?_⟩
      have hk := (h (f + 1) (by omega) (by omega)).1
      rcases hT _ hk with h1 | h1
      · exact h1.2 q rfl (fun j h2 h3 => h j (by omega) h3)
      · have := hall _ hk
        omega
    · rw [if_neg (by omega)] at hv
      right
      have hTM : TM m own st A e (f + 1) k (T k) := by
        rcases hT k hk with h1 | h1
        · omega
        · exact h1.2
      refine ⟨by have := hF hr; omega, ?_, fun q hq h => ?_⟩
      · obtain ⟨q, hq, hqa, hqc⟩ := hTM.1
        refine ⟨ov q f i, ov_s _ _ _, fun j h1 h2 => ?_, ?_⟩
        · by_cases hjf : j = f
          · subst hjf
            rw [ov_s]
            exact ⟨hi, ha⟩
          · rw [ov_n hjf]
            exact hqa j (by omega) h2
        · rw [hrm _ (ov_s _ _ _), ov_n (by omega), hq, rmc_cg (q := q) (fun j h1 _ => ov_n (by omega)), hqc, hv, hre]
      · have hk2 := (h (f + 1) (by omega) (by omega)).1
        have ha2 : aP m A q (f + 1) e := fun j h2 h3 => h j (by omega) h3
        rcases hT _ hk2 with h1 | h1
        · exact absurd ha2 (h1.2 q rfl)
        · have h4 := h1.2.2 q rfl ha2
          have h5 := hmin _ hk2 h1.1
          rw [hrm q hq, hv]
          omega
  · rw [if_neg ha] at hv
    left
    refine ⟨hv, fun q hq h => ha ?_⟩
    have := (h f (by omega) (by omega)).2
    rw [hq] at this
    exact this
/-- the least cost of all paths that may be -/
def PM (m : Nat → Nat) (own : Nat → Nat → Int) (st : Nat → Nat → Nat → Int) (A : Nat → Nat → Bool) (e : Nat) (v : Int) : Prop := (∃ q, aP m A q 0 e ∧ cst own st q e = v) ∧ ∀ q, aP m A q 0 e → v ≤ cst own st q e
theorem PM.uniq {m : Nat → Nat} {own : Nat → Nat → Int} {st : Nat → Nat → Nat → Int} {A : Nat → Nat → Bool} {e : Nat} {v w : Int} (h1 : PM m own st A e v) (h2 : PM m own st A e w) : v = w := by
  obtain ⟨⟨p, hp, ep⟩, m1⟩ := h1
  obtain ⟨⟨q, hq, eq⟩, m2⟩ := h2
  have := m1 q hq
  have := m2 p hp
  omega
/-- over the first frame: the least of all -/
theorem TP.first {m : Nat → Nat} {own : Nat → Nat → Int} {st : Nat → Nat → Nat → Int} {A : Nat → Nat → Bool} {F : Int} {e : Nat} {T : Nat → Int} {r : Int} (hT : ∀ k, k < m 0 → TP m own st A F e 0 k (T k)) (hr : (r = F ∧ ∀ k, k < m 0 → T k = F) ∨ (r < F ∧ (∃ k, k < m 0 ∧ r = T k) ∧ ∀ k, k < m 0 → r ≤ T k)) (hex : ∃ q, aP m A q 0 e) : PM m own st A e r := by
  obtain ⟨q0, hq0⟩ := hex
  have h00 := (hq0 0 (by omega) (by omega)).1
  rcases hr with ⟨hr, hall⟩ | ⟨hr, ⟨k, hk, hre⟩, hmin⟩
  · exfalso
    rcases hT _ h00 with h1 | h1
    · exact h1.2 q0 rfl hq0
    · have := hall _ h00
      omega
  · refine ⟨?_, fun q hq => ?_⟩
    · rcases hT k hk with h1 | h1
      · omega
      · obtain ⟨q, hq, hqa, hqc⟩ := h1.2.1
        exact ⟨q, hqa, by rw [cst_0, hre]; exact hqc⟩
    · have hk2 := (hq 0 (by omega) (by omega)).1
      rcases hT _ hk2 with h1 | h1
      · exact absurd hq (h1.2 q rfl)
      · have h4 := h1.2.2 q rfl hq
        have h5 := hmin _ hk2
        rw [cst_0]
        have : e - 0 = e := by omega
        rw [this] at h4
        omega
/-- the walk along: at each frame the least number by which it costs no more -/
theorem along {m : Nat → Nat} {own : Nat → Nat → Int} {st : Nat → Nat → Nat → Int} {e : Nat} {T : Nat → Nat → Int} {p : Nat → Nat} (hT : ∀ f, f ≤ e → ∀ i, i < m f → TM m own st (fun _ _ => true) e f i (T f i)) (h0 : p 0 < m 0 ∧ (∀ k, k < m 0 → T 0 (p 0) ≤ T 0 k) ∧ ∀ k, k < p 0 → T 0 k ≠ T 0 (p 0)) (hs : ∀ f, f < e → p (f + 1) < m (f + 1) ∧ st f (p f) (p (f + 1)) + T (f + 1) (p (f + 1)) = T f (p f) - own f (p f) ∧ ∀ k, k < p (f + 1) → st f (p f) k + T (f + 1) k ≠ T f (p f) - own f (p f)) : bestP m own st e p ∧ cst own st p e = T 0 (p 0) := by
  have hisP : isP m p e := fun f hf => by
    cases f with
    | zero => exact h0.1
    | succ f => exact (hs f (by omega)).1
  have hrem : ∀ d f, f + d = e → rmc own st p f d = T f (p f) := by
    intro d
    induction d with
    | zero =>
      intro f hfe
      obtain rfl : f = e := by omega
      obtain ⟨⟨q, hq, -, hqc⟩, -⟩ := hT f (by omega) (p f) (hisP f (by omega))
      have : f - f = 0 := by omega
      rw [this] at hqc
      rw [← hqc]
      show own f (p f) = own f (q f)
      rw [hq]
    | succ d ih =>
      intro f hfe
      show own f (p f) + (st f (p f) (p (f + 1)) + rmc own st p (f + 1) d) = _
      rw [ih (f + 1) (by omega)]
      have := (hs f (by omega)).2.1
      omega
  have hcp : cst own st p e = T 0 (p 0) := by rw [cst_0]; exact hrem e 0 (by omega)
  have hge : ∀ q, isP m q e → ∀ f, f ≤ e → T f (q f) ≤ rmc own st q f (e - f) := fun q hq f hf => (hT f hf (q f) (hq f hf)).2 q rfl (fun j _ h2 => ⟨hq j h2, rfl⟩)
  refine ⟨⟨hisP, fun q hq => ?_⟩, hcp⟩
  rw [hcp]
  have hq0 : T 0 (p 0) ≤ T 0 (q 0) := h0.2.1 _ (hq 0 (by omega))
  have hq1 := hge q hq 0 (by omega)
  rw [Nat.sub_zero, ← cst_0] at hq1
  by_cases hlt : T 0 (p 0) < cst own st q e
  · exact Or.inl hlt
  · right
    have heq : T 0 (p 0) = cst own st q e := by omega
    refine ⟨heq, ?_⟩
    rintro ⟨f, hf, h3, h4⟩
    -- up to f both are alike, and q is least from each frame on
    have hmin : ∀ j, j ≤ f → (∀ l, l < j → q l = p l) → rmc own st q j (e - j) = T j (q j) ∧ (j = 0 → T 0 (q 0) = T 0 (p 0)) := by
      intro j
      induction j with
      | zero =>
        intro _ _
        rw [Nat.sub_zero, ← cst_0]
        exact ⟨by omega, fun _ => by omega⟩
      | succ j ih =>
        intro hj hl
        obtain ⟨i1, -⟩ := ih (by omega) (fun l hl2 => hl l (by omega))
        have hqj : q j = p j := hl j (by omega)
        have hn : e - j = (e - (j + 1)) + 1 := by omega
        rw [hn] at i1
        have i2 : own j (q j) + (st j (q j) (q (j + 1)) + rmc own st q (j + 1) (e - (j + 1))) = T j (q j) := i1
        refine ⟨?_, fun h => by omega⟩
        have g1 := hge q hq (j + 1) (by omega)
        -- T j (q j) is least: going on by T (j+1) (q (j+1)) costs no less
        obtain ⟨⟨r, hr, hra, hrc⟩, -⟩ := hT (j + 1) (by omega) (q (j + 1)) (hq _ (by omega))
        have g2 := (hT j (by omega) (q j) (hq j (by omega))).2 (ov r j (q j)) (ov_s _ _ _) (fun l l1 l2 => by
          by_cases hlj : l = j
          · rw [hlj, ov_s]
            exact ⟨hq j (by omega), rfl⟩
          · rw [ov_n hlj]
            exact hra l (by omega) l2)
        rw [hn] at g2
        have g3 : rmc own st (ov r j (q j)) j (e - (j + 1) + 1) = own j (q j) + (st j (q j) (q (j + 1)) + T (j + 1) (q (j + 1))) := by
          show own j (ov r j (q j) j) + (st j (ov r j (q j) j) (ov r j (q j) (j + 1)) + rmc own st (ov r j (q j)) (j + 1) (e - (j + 1))) = _
          rw [ov_s, ov_n (by omega), hr, rmc_cg (q := r) (fun l l1 _ => ov_n (by omega)), hrc]
        omega
    cases f with
    | zero =>
      have := (hmin 0 (by omega) (fun l hl => by omega)).2 rfl
      exact h0.2.2 _ h4 this
    | succ f =>
      obtain ⟨i1, -⟩ := hmin f (by omega) (fun l hl => h3 l (by omega))
      obtain ⟨i2, -⟩ := hmin (f + 1) (by omega) (fun l hl => h3 l hl)
      have hqf : q f = p f := h3 f (by omega)
      have hn : e - f = (e - (f + 1)) + 1 := by omega
      rw [hn] at i1
      have i3 : own f (q f) + (st f (q f) (q (f + 1)) + rmc own st q (f + 1) (e - (f + 1))) = T f (q f) := i1
      rw [hqf, i2] at i3
      exact (hs f (by omega)).2.2 _ h4 (by omega)
