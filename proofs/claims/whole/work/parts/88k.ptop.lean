/-! the first eight in an order -/
def pl (C : Nat → Nat → Int) (a b : Nat × Nat) : Prop := C a.1 a.2 < C b.1 b.2 ∨ (C a.1 a.2 = C b.1 b.2 ∧ (a.1 < b.1 ∨ (a.1 = b.1 ∧ a.2 < b.2)))
theorem pl.irr {C : Nat → Nat → Int} {a : Nat × Nat} (h : pl C a a) : False := by
  unfold pl at h
  omega
theorem pl.tr {C : Nat → Nat → Int} {a b c : Nat × Nat} (h1 : pl C a b) (h2 : pl C b c) : pl C a c := by
  unfold pl at *
  omega
theorem pl.tot (C : Nat → Nat → Int) {a b : Nat × Nat} (h : a ≠ b) : pl C a b ∨ pl C b a := by
  unfold pl
  by_cases h1 : a.1 = b.1
  · have h2 : a.2 ≠ b.2 := fun h2 => h (Prod.ext h1 h2)
    rw [h1]
    omega
  · omega
def TopL (S : Nat → Nat → Prop) (C : Nat → Nat → Int) (L : Nat) (P : Nat → Nat × Nat) : Prop := L ≤ 8 ∧ (∀ t, t < L → S (P t).1 (P t).2) ∧ (∀ t, t + 1 < L → pl C (P t) (P (t + 1))) ∧ ∀ n k, S n k → (∃ t, t < L ∧ P t = (n, k)) ∨ (L = 8 ∧ pl C (P 7) (n, k))
theorem TopL.inc {S : Nat → Nat → Prop} {C : Nat → Nat → Int} {L : Nat} {P : Nat → Nat × Nat} (h : TopL S C L P) : ∀ d t, t + d + 1 < L → pl C (P t) (P (t + d + 1)) := by
  intro d
  induction d with
  | zero => intro t ht; exact h.2.2.1 t ht
  | succ d ih => intro t ht; exact (ih t (by omega)).tr (h.2.2.1 (t + d + 1) ht)
theorem TopL.lt {S : Nat → Nat → Prop} {C : Nat → Nat → Int} {L : Nat} {P : Nat → Nat × Nat} (h : TopL S C L P) {t u : Nat} (htu : t < u) (hu : u < L) : pl C (P t) (P u) := by
  have := h.inc (u - t - 1) t (by omega)
  rw [show t + (u - t - 1) + 1 = u by omega] at this
  exact this
theorem TopL.one {S : Nat → Nat → Prop} {C : Nat → Nat → Int} {L L' : Nat} {P P' : Nat → Nat × Nat} (h : TopL S C L P) (h' : TopL S C L' P') : ∀ t, t < L → t < L' ∧ P t = P' t := by
  intro t
  induction t using Nat.strongRecOn with
  | ind t ih =>
    intro ht
    -- an element of the other list that is below P t, at t or later
    have no : ∀ u, t ≤ u → u < L' → ¬ pl C (P' u) (P t) := by
      intro u htu hu hlt
      have hv := h.2.2.2 _ _ (h'.2.1 u hu)
      rcases hv with ⟨v, hv, e⟩ | ⟨h8, hlt8⟩
      · have e' : P v = P' u := e
        rcases Nat.lt_trichotomy v t with q | q | q
        · have := (ih v q hv).2
          rw [e'] at this
          have h3 := h'.lt (t := v) (u := u) (by omega) hu
          rw [← this] at h3
          exact h3.irr
        · rw [q] at e'
          rw [← e'] at hlt
          exact hlt.irr
        · have h3 := h.lt q hv
          rw [e'] at h3
          exact (h3.tr hlt).irr
      · have hlt8' : pl C (P 7) (P' u) := hlt8
        by_cases q : t = 7
        · subst q
          exact (hlt8'.tr hlt).irr
        · exact ((h.lt (t := t) (u := 7) (by omega) (by omega)).tr (hlt8'.tr hlt)).irr
    rcases h'.2.2.2 _ _ (h.2.1 t ht) with ⟨u, hu, e⟩ | ⟨h8, hlt8⟩
    · have e' : P' u = P t := e
      rcases Nat.lt_trichotomy u t with q | q | q
      · exfalso
        have := (ih u q (by omega)).2
        have h3 := h.lt q ht
        rw [this, e'] at h3
        exact h3.irr
      · subst q
        exact ⟨hu, e'.symm⟩
      · exfalso
        have h3 := h'.lt q hu
        rw [e'] at h3
        exact no t (Nat.le_refl _) (by omega) h3
    · exfalso
      have hl := h.1
      exact no 7 (by omega) (by omega) hlt8
theorem TopL.uniq {S : Nat → Nat → Prop} {C : Nat → Nat → Int} {L L' : Nat} {P P' : Nat → Nat × Nat} (h : TopL S C L P) (h' : TopL S C L' P') : L = L' ∧ ∀ t, t < L → P t = P' t := by
  refine ⟨?_, fun t ht => (h.one h' t ht).2⟩
  rcases Nat.lt_trichotomy L L' with q | q | q
  · have := (h'.one h L q).1
    omega
  · exact q
  · have := (h.one h' L' q).1
    omega
/-- only what it says of the pairs counts -/
theorem TopL.cg {S S' : Nat → Nat → Prop} {C C' : Nat → Nat → Int} {L : Nat} {P : Nat → Nat × Nat} (h : TopL S C L P) (hS : ∀ n k, S n k ↔ S' n k) (hC : ∀ n k, S n k → C n k = C' n k) : TopL S' C' L P := by
  have key : ∀ a b : Nat × Nat, S a.1 a.2 → S b.1 b.2 → pl C a b → pl C' a b := fun a b ha hb hp => by
    unfold pl at *
    rw [← hC _ _ ha, ← hC _ _ hb]
    exact hp
  refine ⟨h.1, fun t ht => (hS _ _).mp (h.2.1 t ht), fun t ht => key _ _ (h.2.1 t (by omega)) (h.2.1 (t + 1) ht) (h.2.2.1 t ht), fun n k hs => ?_⟩
  have hs' := (hS n k).mpr hs
  rcases h.2.2.2 n k hs' with q | ⟨q1, q2⟩
  · exact Or.inl q
  · exact Or.inr ⟨q1, key _ _ (h.2.1 7 (by omega)) hs' q2⟩
theorem TopL.nil (C : Nat → Nat → Int) (P : Nat → Nat × Nat) : TopL (fun _ _ => False) C 0 P := ⟨by omega, fun t ht => absurd ht (Nat.not_lt_zero _), fun t ht => absurd ht (Nat.not_lt_zero _), fun n k h => h.elim⟩
/-- one more comes in, behind its equals -/
theorem TopL.ins {S : Nat → Nat → Prop} {C : Nat → Nat → Int} {L a b w : Nat} {P P' : Nat → Nat × Nat} (h : TopL S C L P) (hlex : ∀ n k, S n k → n < a ∨ (n = a ∧ k < b)) (hw : w ≤ L) (hlo : ∀ t, t < w → C (P t).1 (P t).2 ≤ C a b) (hhi : ∀ t, w ≤ t → t < L → C a b < C (P t).1 (P t).2) (hw8 : w < 8) (p1 : ∀ t, t < w → P' t = P t) (p2 : P' w = (a, b)) (p3 : ∀ t, w ≤ t → t + 1 < (if L = 8 then 8 else L + 1) → P' (t + 1) = P t) : TopL (fun n k => S n k ∨ (n = a ∧ k = b)) C (if L = 8 then 8 else L + 1) P' := by
  have h8 := h.1
  have lo : ∀ t, t < w → pl C (P t) (a, b) := fun t ht => by
    have h1 := hlo t ht
    have h2 := hlex _ _ (h.2.1 t (by omega))
    unfold pl
    dsimp only
    omega
  have hi : ∀ t, w ≤ t → t < L → pl C (a, b) (P t) := fun t ht ht2 => by
    have h1 := hhi t ht ht2
    unfold pl
    dsimp only
    omega
  have hL' : w < (if L = 8 then 8 else L + 1) ∧ (if L = 8 then 8 else L + 1) ≤ 8 ∧ (if L = 8 then 8 else L + 1) ≤ L + 1 ∧ (L < 8 → (if L = 8 then 8 else L + 1) = L + 1) ∧ (L = 8 → (if L = 8 then 8 else L + 1) = 8) := by
    by_cases q : L = 8
    · rw [if_pos q]; omega
    · rw [if_neg q]; omega
  generalize (if L = 8 then 8 else L + 1) = L2 at *
  refine ⟨by omega, fun t ht => ?_, fun t ht => ?_, fun n k hs => ?_⟩
  · rcases Nat.lt_trichotomy t w with q | q | q
    · rw [p1 t q]
      exact Or.inl (h.2.1 t (by omega))
    · subst q
      rw [p2]
      exact Or.inr ⟨rfl, rfl⟩
    · obtain ⟨u, rfl⟩ : ∃ u, t = u + 1 := ⟨t - 1, by omega⟩
      rw [p3 u (by omega) ht]
      exact Or.inl (h.2.1 u (by omega))
  · rcases Nat.lt_trichotomy t w with q | q | q
    · rw [p1 t q]
      by_cases q2 : t + 1 = w
      · rw [q2, p2]
        exact lo t q
      · rw [p1 (t + 1) (by omega)]
        exact h.2.2.1 t (by omega)
    · subst q
      rw [p2, p3 t (Nat.le_refl _) ht]
      exact hi t (Nat.le_refl _) (by omega)
    · obtain ⟨u, rfl⟩ : ∃ u, t = u + 1 := ⟨t - 1, by omega⟩
      rw [p3 u (by omega) (by omega), p3 (u + 1) (by omega) ht]
      exact h.2.2.1 u (by omega)
  · have drop : L2 = 8 → L = 8 → pl C (P' 7) (P 7) := fun _ q => by
      by_cases q7 : w = 7
      · rw [q7] at p2
        rw [p2]
        exact hi 7 (by omega) (by omega)
      · have e := p3 6 (by omega) (by omega)
        rw [e]
        exact h.2.2.1 6 (by omega)
    rcases hs with hs | ⟨rfl, rfl⟩
    · rcases h.2.2.2 n k hs with ⟨t, ht, e⟩ | ⟨q1, q2⟩
      · by_cases c : t < w
        · exact Or.inl ⟨t, by omega, by rw [p1 t c]; exact e⟩
        · by_cases c2 : t + 1 < L2
          · exact Or.inl ⟨t + 1, c2, by rw [p3 t (by omega) c2]; exact e⟩
          · right
            have hL8 : L = 8 := by omega
            have ht7 : t = 7 := by omega
            refine ⟨by omega, ?_⟩
            have := drop (by omega) hL8
            rw [ht7] at e
            rw [e] at this
            exact this
      · exact Or.inr ⟨by omega, (drop (by omega) q1).tr q2⟩
    · exact Or.inl ⟨w, by omega, p2⟩
/-- one more that is too far behind -/
theorem TopL.skip {S : Nat → Nat → Prop} {C : Nat → Nat → Int} {L a b : Nat} {P : Nat → Nat × Nat} (h : TopL S C L P) (hL : L = 8) (hlex : ∀ n k, S n k → n < a ∨ (n = a ∧ k < b)) (hlo : C (P 7).1 (P 7).2 ≤ C a b) : TopL (fun n k => S n k ∨ (n = a ∧ k = b)) C L P := by
  refine ⟨h.1, fun t ht => Or.inl (h.2.1 t ht), h.2.2.1, fun n k hs => ?_⟩
  rcases hs with hs | ⟨rfl, rfl⟩
  · exact h.2.2.2 n k hs
  · right
    refine ⟨hL, ?_⟩
    have h2 := hlex _ _ (h.2.1 7 (by omega))
    unfold pl
    dsimp only
    omega
/-- taking the least that is left, list by list -/
def MG (m : Nat) (l : Nat → Nat) (C : Nat → Nat → Int) (s : Nat) (tk : Nat → Nat) (P : Nat → Nat × Nat) : Prop := (∀ t, t < s → (P t).1 < m ∧ (P t).2 < tk (P t).1) ∧ (∀ t, t + 1 < s → pl C (P t) (P (t + 1))) ∧ (∀ n, n < m → tk n ≤ l n) ∧ (∀ n k, n < m → k < tk n → ∃ t, t < s ∧ P t = (n, k)) ∧ ∀ n k, n < m → tk n ≤ k → k < l n → ∀ t, t < s → pl C (P t) (n, k)
theorem MG.zero (m : Nat) (l : Nat → Nat) (C : Nat → Nat → Int) (P : Nat → Nat × Nat) : MG m l C 0 (fun _ => 0) P := ⟨fun t ht => absurd ht (Nat.not_lt_zero _), fun t ht => absurd ht (Nat.not_lt_zero _), fun _ _ => Nat.zero_le _, fun n k _ hk => absurd hk (Nat.not_lt_zero _), fun _ _ _ _ _ t ht => absurd ht (Nat.not_lt_zero _)⟩
theorem MG.step {m : Nat} {l : Nat → Nat} {C : Nat → Nat → Int} {s a : Nat} {tk : Nat → Nat} {P : Nat → Nat × Nat} (h : MG m l C s tk P) (hs : ∀ n, n < m → ∀ k, k + 1 < l n → C n k ≤ C n (k + 1)) (ha : a < m) (hta : tk a < l a) (hmin : ∀ n, n < m → tk n < l n → n ≠ a → pl C (a, tk a) (n, tk n)) {P' : Nat → Nat × Nat} {tk2 : Nat → Nat} (ka : tk2 a = tk a + 1) (kn : ∀ n, n ≠ a → tk2 n = tk n) (hP : ∀ t, t < s → P' t = P t) (hPs : P' s = (a, tk a)) : MG m l C (s + 1) tk2 P' := by
  obtain ⟨h1, h2, h3, h4, h5⟩ := h
  have mono : ∀ n, n < m → ∀ d k, k + d < l n → C n k ≤ C n (k + d) := by
    intro n hn d
    induction d with
    | zero => intro k _; exact Int.le_refl _
    | succ d ih => intro k hk; exact Int.le_trans (ih k (by omega)) (hs n hn (k + d) hk)
  have least : ∀ n k, n < m → tk n ≤ k → k < l n → (n, k) ≠ (a, tk a) → pl C (a, tk a) (n, k) := by
    intro n k hn hk hkl hne
    have m1 := mono n hn (k - tk n) (tk n) (by omega)
    rw [show tk n + (k - tk n) = k by omega] at m1
    by_cases q : n = a
    · subst q
      have : k ≠ tk n := fun e => hne (by rw [e])
      unfold pl
      dsimp only
      omega
    · have := hmin n hn (by omega) q
      unfold pl at *
      dsimp only at *
      omega
  refine ⟨fun t ht => ?_, fun t ht => ?_, fun n hn => ?_, fun n k hn hk => ?_, fun n k hn hk hkl t ht => ?_⟩
  · by_cases q : t = s
    · subst q
      rw [hPs]
      exact ⟨ha, by dsimp only; rw [ka]; omega⟩
    · have := h1 t (by omega)
      rw [hP t (by omega)]
      refine ⟨this.1, ?_⟩
      by_cases q2 : (P t).1 = a
      · have h6 := this.2
        rw [q2] at h6
        rw [q2, ka]
        omega
      · rw [kn _ q2]
        exact this.2
  · by_cases q : t + 1 = s
    · rw [q, hPs, hP t (by omega)]
      exact h5 a (tk a) ha (Nat.le_refl _) hta t (by omega)
    · rw [hP t (by omega), hP (t + 1) (by omega)]
      exact h2 t (by omega)
  · by_cases q : n = a
    · rw [q, ka]
      omega
    · rw [kn n q]
      exact h3 n hn
  · by_cases q : n = a
    · subst q
      rw [ka] at hk
      by_cases q2 : k = tk n
      · subst q2
        exact ⟨s, by omega, hPs⟩
      · obtain ⟨t, ht, e⟩ := h4 n k hn (by omega)
        exact ⟨t, by omega, by rw [hP t ht]; exact e⟩
    · rw [kn n q] at hk
      obtain ⟨t, ht, e⟩ := h4 n k hn hk
      exact ⟨t, by omega, by rw [hP t ht]; exact e⟩
  · have hk' : tk n ≤ k := by
      by_cases q : n = a
      · rw [q, ka] at hk
        rw [q]
        omega
      · rw [kn n q] at hk
        exact hk
    have hne : (n, k) ≠ (a, tk a) := fun e => by
      have e1 : n = a := congrArg Prod.fst e
      have e2 : k = tk a := congrArg Prod.snd e
      rw [e1, ka] at hk
      omega
    by_cases q : t = s
    · subst q
      rw [hPs]
      exact least n k hn hk' hkl hne
    · rw [hP t (by omega)]
      exact h5 n k hn hk' hkl t (by omega)
theorem MG.top {m : Nat} {l : Nat → Nat} {C : Nat → Nat → Int} {s : Nat} {tk : Nat → Nat} {P : Nat → Nat × Nat} (h : MG m l C s tk P) (hs : s ≤ 8) (he : s = 8 ∨ ∀ n, n < m → tk n = l n) : TopL (fun n k => n < m ∧ k < l n) C s P := by
  obtain ⟨h1, h2, h3, h4, h5⟩ := h
  refine ⟨hs, fun t ht => ?_, h2, fun n k hnk => ?_⟩
  · have a := h1 t ht
    have b := h3 _ a.1
    exact ⟨a.1, by omega⟩
  · by_cases q : k < tk n
    · exact Or.inl (h4 n k hnk.1 q)
    · rcases he with he | he
      · exact Or.inr ⟨he, h5 n k hnk.1 (by omega) hnk.2 7 (by omega)⟩
      · have := he n hnk.1
        omega
