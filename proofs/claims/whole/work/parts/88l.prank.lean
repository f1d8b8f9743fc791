/-! the ranking, over tables -/
def RKn (N : Nat) (m : Nat → Nat) (own : Nat → Nat → Int) (st : Nat → Nat → Nat → Int) (len : Nat → Nat → Nat) (pr : Nat → Nat → Nat → Int) (nx : Nat → Nat → Nat → Nat × Nat) (f i : Nat) : Prop := (f + 1 = N → len f i = 1 ∧ pr f i 0 = own f i) ∧ (f + 1 < N → TopL (fun n k => n < m (f + 1) ∧ k < len (f + 1) n) (fun n k => own f i + st f i n + pr (f + 1) n k) (len f i) (nx f i) ∧ ∀ t, t < len f i → pr f i t = own f i + st f i (nx f i t).1 + pr (f + 1) (nx f i t).1 (nx f i t).2) ∧ ∀ t, t < len f i → 0 ≤ pr f i t ∧ pr f i t ≤ 60000 * ((N - f : Nat) : Int)
theorem TopL.pc {S : Nat → Nat → Prop} {C : Nat → Nat → Int} {L : Nat} {P P' : Nat → Nat × Nat} (h : TopL S C L P) (e : ∀ t, t < L → P' t = P t) : TopL S C L P' := by
  refine ⟨h.1, fun t ht => by rw [e t ht]; exact h.2.1 t ht, fun t ht => by rw [e t (by omega), e (t + 1) ht]; exact h.2.2.1 t ht, fun n k hs => ?_⟩
  rcases h.2.2.2 n k hs with ⟨t, ht, q⟩ | ⟨q1, q2⟩
  · exact Or.inl ⟨t, ht, by rw [e t ht]; exact q⟩
  · exact Or.inr ⟨q1, by rw [e 7 (by omega)]; exact q2⟩
theorem RKn.cg {N : Nat} {m : Nat → Nat} {own : Nat → Nat → Int} {st : Nat → Nat → Nat → Int} {len len' : Nat → Nat → Nat} {pr pr' : Nat → Nat → Nat → Int} {nx nx' : Nat → Nat → Nat → Nat × Nat} {f i : Nat} (h : RKn N m own st len pr nx f i) (e1 : len' f i = len f i) (e2 : ∀ t, t < len f i → pr' f i t = pr f i t ∧ (f + 1 < N → nx' f i t = nx f i t)) (e3 : f + 1 < N → ∀ n, n < m (f + 1) → len' (f + 1) n = len (f + 1) n ∧ ∀ k, k < len (f + 1) n → pr' (f + 1) n k = pr (f + 1) n k) : RKn N m own st len' pr' nx' f i := by
  obtain ⟨h1, h2, h3⟩ := h
  refine ⟨fun q => ?_, fun q => ?_, fun t ht => ?_⟩
  · obtain ⟨a, b⟩ := h1 q
    exact ⟨by rw [e1]; exact a, by rw [(e2 0 (by omega)).1]; exact b⟩
  · obtain ⟨a, b⟩ := h2 q
    have e3' := e3 q
    refine ⟨?_, fun t ht => ?_⟩
    · rw [e1]
      refine (a.cg (fun n k => ⟨fun hs => ⟨hs.1, by rw [(e3' n hs.1).1]; exact hs.2⟩, fun hs => ⟨hs.1, by have := hs.2; rw [(e3' n hs.1).1] at this; exact this⟩⟩) (fun n k hs => ?_)).pc (fun t ht => (e2 t ht).2 q)
      rw [(e3' n hs.1).2 k hs.2]
    · rw [e1] at ht
      have s := a.2.1 t ht
      rw [(e2 t ht).1, (e2 t ht).2 q, (e3' _ s.1).2 _ s.2]
      exact b t ht
  · rw [e1] at ht
    rw [(e2 t ht).1]
    exact h3 t ht
theorem RKn.uniq {N : Nat} {m : Nat → Nat} {own : Nat → Nat → Int} {st : Nat → Nat → Nat → Int} {len len' : Nat → Nat → Nat} {pr pr' : Nat → Nat → Nat → Int} {nx nx' : Nat → Nat → Nat → Nat × Nat} (h : ∀ f i, f < N → i < m f → RKn N m own st len pr nx f i) (h' : ∀ f i, f < N → i < m f → RKn N m own st len' pr' nx' f i) : ∀ d f, f + d + 1 = N → ∀ i, i < m f → len f i = len' f i ∧ ∀ t, t < len f i → pr f i t = pr' f i t ∧ (f + 1 < N → nx f i t = nx' f i t) := by
  intro d
  induction d with
  | zero =>
    intro f hf i hi
    have a := (h f i (by omega) hi).1 (by omega)
    have b := (h' f i (by omega) hi).1 (by omega)
    refine ⟨by omega, fun t ht => ⟨?_, fun q => by omega⟩⟩
    obtain rfl : t = 0 := by omega
    rw [a.2, b.2]
  | succ d ih =>
    intro f hf i hi
    have i1 := ih (f + 1) (by omega)
    obtain ⟨a1, a2⟩ := (h f i (by omega) hi).2.1 (by omega)
    obtain ⟨b1, b2⟩ := (h' f i (by omega) hi).2.1 (by omega)
    have c1 := a1.cg (S' := fun n k => n < m (f + 1) ∧ k < len' (f + 1) n) (C' := fun n k => own f i + st f i n + pr' (f + 1) n k) (fun n k => ⟨fun hs => ⟨hs.1, by rw [← (i1 n hs.1).1]; exact hs.2⟩, fun hs => ⟨hs.1, by rw [(i1 n hs.1).1]; exact hs.2⟩⟩) (fun n k hs => by rw [((i1 n hs.1).2 k hs.2).1])
    obtain ⟨u1, u2⟩ := c1.uniq b1
    refine ⟨u1, fun t ht => ⟨?_, fun _ => u2 t ht⟩⟩
    have s := a1.2.1 t ht
    rw [a2 t ht, b2 t (by omega), ← u2 t ht, ((i1 _ s.1).2 _ s.2).1]
def RKr (m0 : Nat) (len0 : Nat → Nat) (pr0 : Nat → Nat → Int) (L : Nat) (q : Nat → Int) (P : Nat → Nat × Nat) : Prop := TopL (fun n k => n < m0 ∧ k < len0 n) pr0 L P ∧ ∀ t, t < L → q t = pr0 (P t).1 (P t).2
theorem RKr.uniq {m0 : Nat} {len0 len0' : Nat → Nat} {pr0 pr0' : Nat → Nat → Int} {L L' : Nat} {q q' : Nat → Int} {P P' : Nat → Nat × Nat} (h : RKr m0 len0 pr0 L q P) (h' : RKr m0 len0' pr0' L' q' P') (e : ∀ n, n < m0 → len0 n = len0' n ∧ ∀ k, k < len0 n → pr0 n k = pr0' n k) : L = L' ∧ ∀ t, t < L → q t = q' t ∧ P t = P' t := by
  have c1 := h.1.cg (S' := fun n k => n < m0 ∧ k < len0' n) (C' := pr0') (fun n k => ⟨fun hs => ⟨hs.1, by rw [← (e n hs.1).1]; exact hs.2⟩, fun hs => ⟨hs.1, by rw [(e n hs.1).1]; exact hs.2⟩⟩) (fun n k hs => (e n hs.1).2 k hs.2)
  obtain ⟨u1, u2⟩ := c1.uniq h'.1
  refine ⟨u1, fun t ht => ⟨?_, u2 t ht⟩⟩
  have s := h.1.2.1 t ht
  rw [h.2 t ht, h'.2 t (by omega), ← u2 t ht, (e _ s.1).2 _ s.2]
/-! the class: ways from a candidate on -/
theorem p6_cheap {z : uZ} {N F m : Nat} {l tk : Nat → Nat} {sp : Nat → Int} {pr : Nat → Nat → Int} (hsz : GF_X1_sizeOf (F : Int) z = some (m : Int)) (hF : F < 100) (hm : m ≤ 6) (h31 : ∀ n, n < m → z 31 (6 * (F + 1) + n) = (l n : Int) ∧ l n ≤ 8) (h32 : ∀ n, n < m → z 32 n = (tk n : Int) ∧ tk n ≤ 8) (h33 : ∀ n, n < m → z 33 n = sp n ∧ 0 ≤ sp n ∧ sp n ≤ 4400) (h29 : ∀ n k, n < m → k < l n → z 29 (8 * (6 * (F + 1) + n) + k) = pr n k ∧ 0 ≤ pr n k ∧ pr n k ≤ 60000 * 100) (ow : Int) : ∃ r, GF_X6_cheapestNext (F : Int) z = some r ∧ ((r = -1 ∧ ∀ n, n < m → l n ≤ tk n) ∨ ∃ a : Nat, r = (a : Int) ∧ a < m ∧ tk a < l a ∧ ∀ n, n < m → tk n < l n → n ≠ a → pl (fun n k => ow + sp n + pr n k) (a, tk a) (n, tk n)) := by
  unfold GF_X6_cheapestNext
  refine lp_go (fun t q => q.2.2 = (t : Int) ∧ ((q.1 = -1 ∧ ∀ n, n < t → l n ≤ tk n) ∨ ∃ a : Nat, q.1 = (a : Int) ∧ q.2.1 = sp a + pr a (tk a) ∧ a < t ∧ tk a < l a ∧ ∀ n, n < t → tk n < l n → n ≠ a → sp a + pr a (tk a) < sp n + pr n (tk n) ∨ (sp a + pr a (tk a) = sp n + pr n (tk n) ∧ a < n))) (fun r => (r = -1 ∧ ∀ n, n < m → l n ≤ tk n) ∨ ∃ a : Nat, r = (a : Int) ∧ a < m ∧ tk a < l a ∧ ∀ n, n < m → tk n < l n → n ≠ a → sp a + pr a (tk a) < sp n + pr n (tk n) ∨ (sp a + pr a (tk a) = sp n + pr n (tk n) ∧ a < n)) m (by omega) ⟨rfl, Or.inl ⟨rfl, fun n hn => absurd hn (Nat.not_lt_zero _)⟩⟩ ?_ ?_ ?_
  · rintro t ⟨r, w, ti⟩ ht ⟨e1, hst⟩
    simp only at e1 hst
    subst e1
    dsimp only
    have a1 := h31 t ht
    have a2 := h32 t ht
    have a3 := h33 t ht
    unfold GB_X6_cheapestNext_4 GJ_X6_cheapestNext_2 GJ_X6_cheapestNext_3 GF_X6_place GF_X11_cell
    rw [hsz, cp_ok, ck_ok (by omega), ck_ok (by omega), if_neg (by omega), rdZ_at t rfl (by omega), a2.1, cp_ok, rdZ_at (6 * (F + 1) + t) (by omega) (by omega), a1.1, ck_ok (by omega), ck_ok (by omega)]
    have stay : ∀ _ : Unit, (tk t < l t → ∃ a : Nat, r = (a : Int) ∧ a < t ∧ (sp a + pr a (tk a) < sp t + pr t (tk t) ∨ (sp a + pr a (tk a) = sp t + pr t (tk t)))) → ∃ a' : Int × (Int × Int), (lt ((t : Int) + 1) fun v22 => (some (Sum.inl (r, (w, v22))) : Option ((Int × (Int × Int)) ⊕ Int))) = some (Sum.inl a') ∧ a'.2.2 = ((t + 1 : Nat) : Int) ∧ ((a'.1 = -1 ∧ ∀ n, n < t + 1 → l n ≤ tk n) ∨ ∃ a : Nat, a'.1 = (a : Int) ∧ a'.2.1 = sp a + pr a (tk a) ∧ a < t + 1 ∧ tk a < l a ∧ ∀ n, n < t + 1 → tk n < l n → n ≠ a → sp a + pr a (tk a) < sp n + pr n (tk n) ∨ (sp a + pr a (tk a) = sp n + pr n (tk n) ∧ a < n)) := by
      intro _ hno
      rw [lt_ok]
      refine ⟨_, rfl, by dsimp only; omega, ?_⟩
      dsimp only
      rcases hst with ⟨q1, q2⟩ | ⟨a, q1, q2, q3, q4, q5⟩
      · refine Or.inl ⟨q1, fun n hn => ?_⟩
        by_cases c : n = t
        · subst c
          rcases Nat.lt_or_ge (tk n) (l n) with c2 | c2
          · obtain ⟨a, b1, b2, -⟩ := hno c2
            omega
          · exact c2
        · exact q2 n (by omega)
      · refine Or.inr ⟨a, q1, q2, by omega, q4, fun n hn hl hne => ?_⟩
        by_cases c : n = t
        · subst c
          obtain ⟨a', b1, b2, b3⟩ := hno hl
          obtain rfl : a' = a := by omega
          omega
        · exact q5 n (by omega) hl hne
    by_cases c1 : (l t : Int) ≤ (tk t : Int)
    · rw [if_pos c1]
      exact stay () (fun h => by omega)
    · have a4 := h29 t (tk t) ht (by omega)
      rw [if_neg c1, rdZ_at t rfl (by omega), a2.1, ck_ok (by omega), if_neg (by omega), rdZ_at t rfl (by omega), a3.1, cp_ok, cp_ok, rdZ_at t rfl (by omega), a2.1, rdZ_at (8 * (6 * (F + 1) + t) + tk t) (by omega) (by omega), a4.1, lt_ok]
      have take : ∀ _ : Unit, (∀ n, n < t → tk n < l n → sp t + pr t (tk t) < sp n + pr n (tk n)) → ∃ a' : Int × (Int × Int), (lt ((t : Int) + 1) fun v22 => (some (Sum.inl ((t : Int), (sp t + pr t (tk t), v22))) : Option ((Int × (Int × Int)) ⊕ Int))) = some (Sum.inl a') ∧ a'.2.2 = ((t + 1 : Nat) : Int) ∧ ((a'.1 = -1 ∧ ∀ n, n < t + 1 → l n ≤ tk n) ∨ ∃ a : Nat, a'.1 = (a : Int) ∧ a'.2.1 = sp a + pr a (tk a) ∧ a < t + 1 ∧ tk a < l a ∧ ∀ n, n < t + 1 → tk n < l n → n ≠ a → sp a + pr a (tk a) < sp n + pr n (tk n) ∨ (sp a + pr a (tk a) = sp n + pr n (tk n) ∧ a < n)) := by
        intro _ hall
        rw [lt_ok]
        refine ⟨_, rfl, by dsimp only; omega, Or.inr ⟨t, rfl, rfl, by omega, by omega, fun n hn hl hne => Or.inl (hall n (by omega) hl)⟩⟩
      rcases hst with ⟨q1, q2⟩ | ⟨a, q1, q2, q3, q4, q5⟩
      · rw [ck_ok (by omega), if_pos q1]
        exact take () (fun n hn hl => by have := q2 n hn; omega)
      · have b3 := h33 a (by omega)
        have b4 := h29 a (tk a) (by omega) q4
        rw [ck_ok (by omega), if_neg (by omega), ck_ok (by omega), ck_ok (by omega)]
        by_cases c2 : w ≤ sp t + pr t (tk t)
        · rw [if_pos c2]
          exact stay () (fun _ => ⟨a, q1, q3, by omega⟩)
        · rw [if_neg c2]
          refine take () (fun n hn hl => ?_)
          by_cases c3 : n = a
          · subst c3
            omega
          · have := q5 n hn hl c3
            omega
  · rintro ⟨r, w, ti⟩ ⟨e1, hst⟩
    simp only at e1 hst
    subst e1
    dsimp only
    refine ⟨r, ?_, ?_⟩
    · unfold GB_X6_cheapestNext_4
      rw [hsz, cp_ok, ck_ok (by omega), ck_ok (by omega), if_pos (by omega)]
    · rcases hst with q | ⟨a, q1, q2, q3, q4, q5⟩
      · exact Or.inl q
      · exact Or.inr ⟨a, q1, q3, q4, q5⟩
  · intro r hr
    refine ⟨r, rfl, ?_⟩
    rcases hr with q | ⟨a, q1, q3, q4, q5⟩
    · exact Or.inl q
    · refine Or.inr ⟨a, q1, q3, q4, fun n hn hl hne => ?_⟩
      have := q5 n hn hl hne
      unfold pl
      dsimp only
      omega
