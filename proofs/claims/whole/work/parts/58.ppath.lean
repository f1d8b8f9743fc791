/-! paths over tables: m candidates a frame, own costs, steps -/
def cst (own : Nat → Nat → Int) (st : Nat → Nat → Nat → Int) (p : Nat → Nat) : Nat → Int
  | 0 => own 0 (p 0)
  | e + 1 => cst own st p e + st e (p e) (p (e + 1)) + own (e + 1) (p (e + 1))
def lxl (p q : Nat → Nat) (e : Nat) : Prop := ∃ f, f ≤ e ∧ (∀ j, j < f → p j = q j) ∧ p f < q f
def isP (m p : Nat → Nat) (e : Nat) : Prop := ∀ f, f ≤ e → p f < m f
theorem lxl.irr {p : Nat → Nat} {e : Nat} : ¬ lxl p p e := fun ⟨_, _, _, h⟩ => Nat.lt_irrefl _ h
theorem lxl.tr {p q r : Nat → Nat} {e : Nat} (h1 : lxl p q e) (h2 : lxl q r e) : lxl p r e := by
  obtain ⟨f, hf, e1, l1⟩ := h1
  obtain ⟨f2, hf2, e2, l2⟩ := h2
  rcases Nat.lt_trichotomy f f2 with h | h | h
  · exact ⟨f, hf, fun j hj => (e1 j hj).trans (e2 j (by omega)), by rw [← e2 f h]; exact l1⟩
  · subst h
    exact ⟨f, hf, fun j hj => (e1 j hj).trans (e2 j hj), Nat.lt_trans l1 l2⟩
  · exact ⟨f2, hf2, fun j hj => (e1 j (by omega)).trans (e2 j hj), by rw [e1 f2 h]; exact l2⟩
theorem lxl.as {p q : Nat → Nat} {e : Nat} (h1 : lxl p q e) : ¬ lxl q p e := fun h2 => lxl.irr (h1.tr h2)
theorem first_ne {p q : Nat → Nat} : ∀ (e : Nat), (∀ f, f ≤ e → p f = q f) ∨ ∃ f, f ≤ e ∧ (∀ j, j < f → p j = q j) ∧ p f ≠ q f
  | 0 => by
    by_cases h : p 0 = q 0
    · left
      intro f hf
      obtain rfl : f = 0 := by omega
      exact h
    · exact Or.inr ⟨0, by omega, fun j hj => by omega, h⟩
  | e + 1 => by
    rcases first_ne e with h | ⟨f, hf, h1, h2⟩
    · by_cases he : p (e + 1) = q (e + 1)
      · left
        intro f hf
        by_cases hfe : f = e + 1
        · rw [hfe]; exact he
        · exact h f (by omega)
      · exact Or.inr ⟨e + 1, by omega, fun j hj => h j (by omega), he⟩
    · exact Or.inr ⟨f, by omega, h1, h2⟩
theorem lxl.tot {p q : Nat → Nat} {e : Nat} (h : ∃ f, f ≤ e ∧ p f ≠ q f) : lxl p q e ∨ lxl q p e := by
  rcases first_ne (p := p) (q := q) e with h1 | ⟨f, hf, h1, h2⟩
  · obtain ⟨f, hf, hne⟩ := h
    exact absurd (h1 f hf) hne
  · rcases Nat.lt_or_gt_of_ne h2 with h3 | h3
    · exact Or.inl ⟨f, hf, h1, h3⟩
    · exact Or.inr ⟨f, hf, fun j hj => (h1 j hj).symm, h3⟩
theorem lxl.up {p q : Nat → Nat} {e : Nat} (h : p (e + 1) = q (e + 1)) : lxl p q (e + 1) ↔ lxl p q e := by
  constructor
  · rintro ⟨f, hf, h1, h2⟩
    have : f ≠ e + 1 := fun q => by rw [q, h] at h2; omega
    exact ⟨f, by omega, h1, h2⟩
  · rintro ⟨f, hf, h1, h2⟩
    exact ⟨f, by omega, h1, h2⟩
theorem lxl.cg {p q p' q' : Nat → Nat} {e : Nat} (h1 : ∀ f, f ≤ e → p f = p' f) (h2 : ∀ f, f ≤ e → q f = q' f) : lxl p q e ↔ lxl p' q' e := by
  constructor
  · rintro ⟨f, hf, h3, h4⟩
    exact ⟨f, hf, fun j hj => by rw [← h1 j (by omega), ← h2 j (by omega)]; exact h3 j hj, by rw [← h1 f hf, ← h2 f hf]; exact h4⟩
  · rintro ⟨f, hf, h3, h4⟩
    exact ⟨f, hf, fun j hj => by rw [h1 j (by omega), h2 j (by omega)]; exact h3 j hj, by rw [h1 f hf, h2 f hf]; exact h4⟩
theorem cst_cg {own : Nat → Nat → Int} {st : Nat → Nat → Nat → Int} {p q : Nat → Nat} : ∀ {e : Nat}, (∀ f, f ≤ e → p f = q f) → cst own st p e = cst own st q e
  | 0, h => by unfold cst; rw [h 0 (by omega)]
  | e + 1, h => by
    unfold cst
    rw [cst_cg (fun f hf => h f (by omega)), h e (by omega), h (e + 1) (by omega)]
/-- the first of all paths up to a frame -/
def bestP (m : Nat → Nat) (own : Nat → Nat → Int) (st : Nat → Nat → Nat → Int) (e : Nat) (p : Nat → Nat) : Prop := isP m p e ∧ ∀ q, isP m q e → cst own st p e < cst own st q e ∨ (cst own st p e = cst own st q e ∧ ¬ lxl q p e)
theorem bestP.uniq {m : Nat → Nat} {own : Nat → Nat → Int} {st : Nat → Nat → Nat → Int} {e : Nat} {p q : Nat → Nat} (hp : bestP m own st e p) (hq : bestP m own st e q) : ∀ f, f ≤ e → p f = q f := by
  rcases first_ne (p := p) (q := q) e with h | ⟨f, hf, -, hne⟩
  · exact h
  · exfalso
    have h1 := hp.2 q hq.1
    have h2 := hq.2 p hp.1
    rcases lxl.tot ⟨f, hf, hne⟩ with h | h
    · rcases h2 with h2 | h2
      · rcases h1 with h1 | h1 <;> omega
      · exact h2.2 h
    · rcases h1 with h1 | h1
      · rcases h2 with h2 | h2 <;> omega
      · exact h1.2 h
/-! from the first frame on: what the class reckons -/
def Pf (C : Nat → Nat → Nat) : Nat → Nat → Nat → Nat
  | 0, i => fun _ => i
  | e + 1, i => fun f => if f ≤ e then Pf C e (C (e + 1) i) f else i
theorem Pf_e (C : Nat → Nat → Nat) : ∀ (e i : Nat), Pf C e i e = i
  | 0, _ => rfl
  | e + 1, i => by unfold Pf; rw [if_neg (by omega)]
theorem Pf_s (C : Nat → Nat → Nat) (e i f : Nat) (h : f ≤ e) : Pf C (e + 1) i f = Pf C e (C (e + 1) i) f := by
  show (if f ≤ e then Pf C e (C (e + 1) i) f else i) = _
  rw [if_pos h]
theorem Pf_prev (C : Nat → Nat → Nat) : ∀ (e i f : Nat), f + 1 ≤ e → C (f + 1) (Pf C e i (f + 1)) = Pf C e i f
  | 0, _, _, h => by omega
  | e + 1, i, f, h => by
    by_cases hf : f = e
    · subst hf
      rw [Pf_e, Pf_s C f i f (by omega), Pf_e]
    · rw [Pf_s C e i (f + 1) (by omega), Pf_s C e i f (by omega)]
      exact Pf_prev C e _ f (by omega)
def ahC (C K : Nat → Nat → Nat) (e k i : Nat) : Bool := if e = 0 ∨ C e k = C e i then decide (k < i) else decide (K (e - 1) (C e k) < K (e - 1) (C e i))
def FW (m : Nat → Nat) (own : Nat → Nat → Int) (st : Nat → Nat → Nat → Int) (H : Nat → Nat → Int) (C K : Nat → Nat → Nat) (E : Nat) : Prop :=
  (∀ i, i < m 0 → H 0 i = own 0 i) ∧ (∀ e, e < E → ∀ i, i < m (e + 1) → C (e + 1) i < m e ∧ H (e + 1) i = H e (C (e + 1) i) + st e (C (e + 1) i) i + own (e + 1) i ∧ ∀ k, k < m e → k ≠ C (e + 1) i → H e (C (e + 1) i) + st e (C (e + 1) i) i < H e k + st e k i ∨ (H e (C (e + 1) i) + st e (C (e + 1) i) i = H e k + st e k i ∧ K e (C (e + 1) i) < K e k)) ∧ ∀ e, e ≤ E → ∀ i, i < m e → K e i = (List.range (m e)).countP (fun k => ahC C K e k i)
theorem rank_iff {m : Nat} {K : Nat → Nat} {A : Nat → Nat → Bool} {lt : Nat → Nat → Prop} (hK : ∀ i, i < m → K i = (List.range m).countP (fun k => A k i)) (hA : ∀ k i, k < m → i < m → (A k i = true ↔ lt k i)) (htr : ∀ a b c, lt a b → lt b c → lt a c) (hirr : ∀ a, ¬ lt a a) (htot : ∀ a b, a < m → b < m → a ≠ b → lt a b ∨ lt b a) : ∀ k i, k < m → i < m → (K k < K i ↔ lt k i) := by
  have up : ∀ k i, k < m → i < m → lt k i → K k < K i := by
    intro k i hk hi h
    rw [hK k hk, hK i hi]
    refine cnt_lt (o := k) _ (fun z hz hzk => ?_) (List.mem_range.mpr hk) ((hA k i hk hi).mpr h) ?_
    · have hzm := List.mem_range.mp hz
      exact (hA z i hzm hi).mpr (htr z k i ((hA z k hzm hk).mp hzk) h)
    · cases hh : A k k
      · rfl
      · exact absurd ((hA k k hk hk).mp hh) (hirr k)
  intro k i hk hi
  refine ⟨fun h => ?_, up k i hk hi⟩
  by_cases hki : k = i
  · subst hki
    omega
  · rcases htot k i hk hi hki with h1 | h1
    · exact h1
    · have := up i k hi hk h1
      omega
theorem FW.all {m : Nat → Nat} {own : Nat → Nat → Int} {st : Nat → Nat → Nat → Int} {H : Nat → Nat → Int} {C K : Nat → Nat → Nat} {E : Nat} (h : FW m own st H C K E) : ∀ e, e ≤ E → (∀ i, i < m e → isP m (Pf C e i) e ∧ cst own st (Pf C e i) e = H e i ∧ ∀ q, isP m q e → q e = i → H e i < cst own st q e ∨ (H e i = cst own st q e ∧ ¬ lxl q (Pf C e i) e)) ∧ (∀ k i, k < m e → i < m e → (K e k < K e i ↔ lxl (Pf C e k) (Pf C e i) e)) := by
  obtain ⟨h0, h1, h2⟩ := h
  have tot : ∀ e a b, a ≠ b → lxl (Pf C e a) (Pf C e b) e ∨ lxl (Pf C e b) (Pf C e a) e := fun e a b hab => lxl.tot ⟨e, Nat.le_refl _, by rw [Pf_e, Pf_e]; exact hab⟩
  intro e
  induction e with
  | zero =>
    intro he
    refine ⟨fun i hi => ⟨fun f hf => ?_, ?_, fun q hq hqi => ?_⟩, ?_⟩
    · obtain rfl : f = 0 := by omega
      exact hi
    · unfold cst Pf
      exact (h0 i hi).symm
    · right
      refine ⟨by unfold cst; rw [hqi]; exact h0 i hi, ?_⟩
      rintro ⟨f, hf, -, h3⟩
      obtain rfl : f = 0 := by omega
      rw [Pf_e, hqi] at h3
      omega
    · refine rank_iff (h2 0 he) (fun k i _ _ => ?_) (fun a b c hab hbc => hab.tr hbc) (fun a => lxl.irr) (fun a b _ _ hab => tot 0 a b hab)
      unfold ahC
      rw [if_pos (Or.inl rfl), decide_eq_true_iff]
      constructor
      · intro hki
        exact ⟨0, by omega, fun j hj => by omega, by rw [Pf_e, Pf_e]; exact hki⟩
      · rintro ⟨f, hf, -, h3⟩
        obtain rfl : f = 0 := by omega
        rw [Pf_e, Pf_e] at h3
        exact h3
  | succ e ih =>
    intro he
    obtain ⟨ih1, ih2⟩ := ih (by omega)
    have sm1 : ∀ i f, f ≤ e → Pf C (e + 1) i f = Pf C e (C (e + 1) i) f := fun i f hf => Pf_s C e i f hf
    refine ⟨fun i hi => ?_, ?_⟩
    · obtain ⟨c1, c2, c3⟩ := h1 e (by omega) i hi
      obtain ⟨p1, p2, p3⟩ := ih1 _ c1
      refine ⟨fun f hf => ?_, ?_, fun q hq hqi => ?_⟩
      · by_cases hfe : f = e + 1
        · subst hfe
          rw [Pf_e]
          exact hi
        · rw [sm1 i f (by omega)]
          exact p1 f (by omega)
      · unfold cst
        rw [cst_cg (q := Pf C e (C (e + 1) i)) (sm1 i), p2, sm1 i e (by omega), Pf_e, Pf_e, c2]
      · have hqe : q e < m e := hq e (by omega)
        obtain ⟨-, -, q3⟩ := ih1 _ hqe
        have hq4 := q3 q (fun f hf => hq f (by omega)) rfl
        have hcq : cst own st q (e + 1) = cst own st q e + st e (q e) i + own (e + 1) i := by
          show cst own st q e + st e (q e) (q (e + 1)) + own (e + 1) (q (e + 1)) = _
          rw [hqi]
        have hlx : lxl q (Pf C (e + 1) i) (e + 1) ↔ lxl q (Pf C e (C (e + 1) i)) e := by
          rw [lxl.up (by rw [hqi, Pf_e])]
          exact lxl.cg (fun _ _ => rfl) (sm1 i)
        rw [hlx, hcq, c2]
        by_cases hk : q e = C (e + 1) i
        · rw [hk] at hq4 ⊢
          rcases hq4 with h4 | ⟨h4, h5⟩
          · left
            omega
          · right
            exact ⟨by omega, h5⟩
        · rcases c3 (q e) hqe hk with h6 | ⟨h6, h7⟩
          · left
            rcases hq4 with h4 | ⟨h4, -⟩ <;> omega
          · rcases hq4 with h4 | ⟨h4, h5⟩
            · left
              omega
            · right
              refine ⟨by omega, fun h8 => h5 (h8.tr ((ih2 _ _ c1 hqe).mp h7))⟩
    · refine rank_iff (h2 (e + 1) he) (fun k i hk hi => ?_) (fun a b c hab hbc => hab.tr hbc) (fun a => lxl.irr) (fun a b _ _ hab => tot (e + 1) a b hab)
      have ck1 := (h1 e (by omega) k hk).1
      have ci1 := (h1 e (by omega) i hi).1
      unfold ahC
      by_cases hc : C (e + 1) k = C (e + 1) i
      · rw [if_pos (Or.inr hc), decide_eq_true_iff]
        constructor
        · intro hki
          exact ⟨e + 1, by omega, fun j hj => by rw [sm1 k j (by omega), sm1 i j (by omega), hc], by rw [Pf_e, Pf_e]; exact hki⟩
        · rintro ⟨f, hf, h3, h4⟩
          by_cases hfe : f = e + 1
          · subst hfe
            rw [Pf_e, Pf_e] at h4
            exact h4
          · rw [sm1 k f (by omega), sm1 i f (by omega), hc] at h4
            omega
      · rw [if_neg (by omega), decide_eq_true_iff, Nat.add_sub_cancel, ih2 _ _ ck1 ci1]
        constructor
        · rintro ⟨f, hf, h3, h4⟩
          exact ⟨f, by omega, fun j hj => by rw [sm1 k j (by omega), sm1 i j (by omega)]; exact h3 j hj, by rw [sm1 k f hf, sm1 i f hf]; exact h4⟩
        · rintro ⟨f, hf, h3, h4⟩
          by_cases hfe : f = e + 1
          · subst hfe
            have := h3 e (by omega)
            rw [sm1 k e (by omega), sm1 i e (by omega), Pf_e, Pf_e] at this
            exact absurd this hc
          · exact ⟨f, by omega, fun j hj => by rw [← sm1 k j (by omega), ← sm1 i j (by omega)]; exact h3 j hj, by rw [← sm1 k f (by omega), ← sm1 i f (by omega)]; exact h4⟩
/-- the first of all, by costs and ranks at the end -/
theorem FW.best {m : Nat → Nat} {own : Nat → Nat → Int} {st : Nat → Nat → Nat → Int} {H : Nat → Nat → Int} {C K : Nat → Nat → Nat} {E e i : Nat} (h : FW m own st H C K E) (he : e ≤ E) (hi : i < m e) (hm : ∀ k, k < m e → k ≠ i → H e i < H e k ∨ (H e i = H e k ∧ K e i < K e k)) : bestP m own st e (Pf C e i) ∧ cst own st (Pf C e i) e = H e i := by
  obtain ⟨h1, h2⟩ := h.all e he
  obtain ⟨p1, p2, p3⟩ := h1 i hi
  refine ⟨⟨p1, fun q hq => ?_⟩, p2⟩
  rw [p2]
  have hqe : q e < m e := hq e (by omega)
  obtain ⟨-, -, q3⟩ := h1 _ hqe
  have hq4 := q3 q hq rfl
  by_cases hk : q e = i
  · rw [hk] at hq4
    exact hq4
  · rcases hm (q e) hqe hk with h6 | ⟨h6, h7⟩
    · left
      rcases hq4 with h4 | ⟨h4, -⟩ <;> omega
    · rcases hq4 with h4 | ⟨h4, h5⟩
      · left
        omega
      · right
        exact ⟨by omega, fun h8 => h5 (h8.tr ((h2 _ _ hi hqe).mp h7))⟩
