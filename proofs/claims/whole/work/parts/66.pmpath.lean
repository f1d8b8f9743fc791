/-! the reference's costs of all frames; its walk along -/
theorem lp_gi {α β γ δ : Type} {f : α → Option (α ⊕ β)} {a : α} {k : β → Option (γ ⊕ δ)} {R : γ → Prop} (P : Nat → α → Prop) (Q : β → Prop) (n : Nat) (hn : n < 1000000000) (h0 : P 0 a) (hs : ∀ i a, i < n → P i a → ∃ a', f a = some (.inl a') ∧ P (i + 1) a') (he : ∀ a, P n a → ∃ b, f a = some (.inr b) ∧ Q b) (hk : ∀ b, Q b → ∃ z, k b = some (.inl z) ∧ R z) : ∃ z, lp f a k = some (.inl z) ∧ R z := by
  obtain ⟨b, hQ, h⟩ := lp_run (k := k) P Q n hn h0 hs he
  rw [h]
  exact hk b hQ
theorem m_laysCosts {N : Nat} {m : Nat → Nat} {lag : Nat → Nat → Nat} {own : Nat → Nat → Int} {A : Nat → Nat → Bool} {g : uZ} {j o v e : Nat} (hT : MT N m lag own g) (hP : MP j o v g) (he : e < N) (hA : ∀ f i, f ≤ e → i < m f → g 70 (6 * f + i) = if A f i = true then 0 else 1) : ∃ g', GF_X12_laysCosts e g = some g' ∧ g' 55 23 = (e : Int) ∧ ∀ f, f ≤ e → RowC m own (fun e a b => spS j o v (lag e a) (lag (e + 1) b)) A e g' f := by
  have h100 := hT.1
  generalize hst : (fun e a b => spS j o v (lag e a) (lag (e + 1) b)) = st at *
  have hste : ∀ a b c, st a b c = spS j o v (lag a b) (lag (a + 1) c) := fun a b c => by rw [← hst]
  unfold GF_X12_laysCosts
  rw [pfZ_ok]
  generalize hg1 : upZ g 55 23 (e : Int) = g1
  have hF1 : Fr [] [(55, 23)] g g1 := by rw [← hg1]; exact Fr.rf.pf (by decide)
  have g23 : g1 55 23 = (e : Int) := by rw [← hg1, upZ_ss]
  refine lp_go (fun t q => q.1 = (e : Int) - t ∧ Fr [68] [] g1 q.2 ∧ ∀ f, e + 1 - t ≤ f → f ≤ e → RowC m own st A e q.2 f) (fun q => Fr [68] [] g1 q ∧ ∀ f, f ≤ e → RowC m own st A e q f) (e + 1) (by omega) ⟨by simp, Fr.rf, fun f h1 h2 => by omega⟩ ?_ ?_ ?_
  · rintro t ⟨w, q⟩ ht ⟨e1, hF, hq⟩
    simp only at e1 hF hq
    have ew : w = ((e - t : Nat) : Int) := by omega
    subst ew
    obtain ⟨m1, m6, mz, hcand⟩ := hT.2 (e - t) (by omega)
    generalize hf : e - t = f at *
    dsimp only
    unfold GB_X12_laysCosts_8
    rw [ck_ok (by omega), if_neg (by omega)]
    refine lp_gi (fun s z => z.1 = s ∧ Fr [68] [] g1 z.2 ∧ (∀ i, i < s → TP m own st A 2000000000 e f i (z.2 68 (6 * f + i)) ∧ 0 ≤ z.2 68 (6 * f + i) ∧ (z.2 68 (6 * f + i) = 2000000000 ∨ z.2 68 (6 * f + i) ≤ 60000 * ((e + 1 - f : Nat) : Int))) ∧ ∀ y, y < 6 * f ∨ 6 * f + 6 ≤ y → z.2 68 y = q 68 y) (fun z => Fr [68] [] g1 z ∧ RowC m own st A e z f ∧ ∀ y, y < 6 * f ∨ 6 * f + 6 ≤ y → z 68 y = q 68 y) (m f) (by omega) ⟨rfl, hF, fun i hi => by omega, fun y _ => rfl⟩ ?_ ?_ ?_
    · rintro s ⟨w, z⟩ hs ⟨e1, hFz, hz, hout⟩
      simp only at e1 hFz hz hout
      subst e1
      have hTz : MT N m lag own z := (hT.cg (hF1.f 64 (by decide) (by decide)) (hF1.f 65 (by decide) (by decide)) (hF1.f 66 (by decide) (by decide))).cg (hFz.f 64 (by decide) (by decide)) (hFz.f 65 (by decide) (by decide)) (hFz.f 66 (by decide) (by decide))
      have hPz : MP j o v z := by
        obtain ⟨p1, p2, p3, p4⟩ := hP
        refine ⟨?_, ?_, ?_, p4⟩
        · rw [hFz.f 56 (by decide) (by decide), hF1.f 56 (by decide) (by decide)]; exact p1
        · rw [hFz 55 21 (by decide) (by decide), hF1 55 21 (by decide) (by decide)]; exact p2
        · rw [hFz 55 22 (by decide) (by decide), hF1 55 22 (by decide) (by decide)]; exact p3
      have z70 : z 70 = g 70 := (hFz.f 70 (by decide) (by decide)).trans (hF1.f 70 (by decide) (by decide))
      have z66 : z 66 f = m f := by rw [hFz.f 66 (by decide) (by decide), hF1.f 66 (by decide) (by decide)]; exact mz
      obtain ⟨-, -, -, ho0, ho5⟩ := hcand s hs
      have hAs := hA f s (by omega) hs
      have put : ∀ x : Int, TP m own st A 2000000000 e f s x → 0 ≤ x → (x = 2000000000 ∨ x ≤ 60000 * ((e + 1 - f : Nat) : Int)) → ∃ a', GJ_X12_laysCosts_4 f s z x = some (Sum.inl a') ∧ a'.1 = ((s + 1 : Nat) : Int) ∧ Fr [68] [] g1 a'.2 ∧ (∀ i, i < s + 1 → TP m own st A 2000000000 e f i (a'.2 68 (6 * f + i)) ∧ 0 ≤ a'.2 68 (6 * f + i) ∧ (a'.2 68 (6 * f + i) = 2000000000 ∨ a'.2 68 (6 * f + i) ≤ 60000 * ((e + 1 - f : Nat) : Int))) ∧ ∀ y, y < 6 * f ∨ 6 * f + 6 ≤ y → a'.2 68 y = q 68 y := by
        intro x hx0 hx1 hx2
        unfold GJ_X12_laysCosts_4
        rw [wrZ_at (6 * f + s) (by omega) (by omega), lt_ok]
        refine ⟨_, rfl, ?_⟩
        dsimp only
        refine ⟨by omega, hFz.wr (by decide), fun i hi => ?_, fun y hy => ?_⟩
        · rw [upZ_s]
          by_cases his : i = s
          · subst his
            rw [if_pos rfl]
            exact ⟨hx0, hx1, hx2⟩
          · rw [if_neg (by omega)]
            exact hz i (by omega)
        · rw [upZ_sn (by omega)]
          exact hout y hy
      have fin : ∀ r : Int, 0 ≤ r → (r = 2000000000 ∨ r ≤ 60000 * ((e + 1 - f : Nat) : Int) - 55000) → TP m own st A 2000000000 e f s (if A f s = true then (if r = 2000000000 then 2000000000 else own f s + r) else 2000000000) → ∃ a', GJ_X12_laysCosts_5 f s z r = some (Sum.inl a') ∧ a'.1 = ((s + 1 : Nat) : Int) ∧ Fr [68] [] g1 a'.2 ∧ (∀ i, i < s + 1 → TP m own st A 2000000000 e f i (a'.2 68 (6 * f + i)) ∧ 0 ≤ a'.2 68 (6 * f + i) ∧ (a'.2 68 (6 * f + i) = 2000000000 ∨ a'.2 68 (6 * f + i) ≤ 60000 * ((e + 1 - f : Nat) : Int))) ∧ ∀ y, y < 6 * f ∨ 6 * f + 6 ≤ y → a'.2 68 y = q 68 y := by
        intro r hr0 hr1 hTP
        unfold GJ_X12_laysCosts_5 GJ_X12_laysCosts_3
        rw [rdZ_at (6 * f + s) (by omega) (by omega), z70, hAs]
        cases hAA : A f s
        · rw [hAA, if_neg (by simp)] at hTP
          rw [if_neg (by simp), ck_ok (by omega), if_neg (by omega)]
          exact put _ hTP (by omega) (Or.inl rfl)
        · rw [hAA, if_pos rfl] at hTP
          rw [if_pos rfl, ck_ok (by omega), if_pos rfl, ck_ok (by omega)]
          by_cases hrf : r = 2000000000
          · rw [if_pos hrf] at hTP
            rw [if_pos hrf]
            exact put _ hTP (by omega) (Or.inl rfl)
          · rw [if_neg hrf] at hTP
            rw [if_neg hrf, hTz.own (by omega) hs, cp_ok]
            exact put _ hTP (by omega) (Or.inr (by omega))
      dsimp only
      unfold GB_X12_laysCosts_6
      rw [rdZ_at f rfl (by omega), z66, ck_ok (by omega), ck_ok (by omega), if_neg (by omega), ck_ok (by omega), ck_ok (by omega)]
      by_cases hfe : f = e
      · rw [if_pos (by omega)]
        refine fin 0 (by omega) (Or.inr (by omega)) ?_
        subst hfe
        have := TP.last (m := m) (own := own) (st := st) (A := A) (F := (2000000000 : Int)) (e := f) (i := s) hs (by omega)
        rw [if_neg (show ¬ (0 : Int) = 2000000000 by omega), Int.add_zero]
        exact this
      · rw [if_neg (by omega)]
        have hrn : RowC m own st A e z (f + 1) := by
          intro k hk
          have h6 := (hT.2 (f + 1) (by omega)).2.1
          rw [hout _ (by omega)]
          exact hq (f + 1) (by omega) (by omega) k hk
        obtain ⟨r, er, hr0, hr⟩ := m_leastBehind (e := e) (f := f) (i := s) hTz hPz he (by omega) hs (by rw [hst]; exact hrn)
        rw [er, cp_ok]
        refine fin r hr0 (by rcases hr with ⟨h, -⟩ | ⟨h, -⟩ <;> omega) ?_
        refine TP.step (T := fun k => z 68 (6 * (f + 1) + k)) (r := r) (by omega) hs (fun k hk => (hrn k hk).1) ?_ (fun hlt => ?_) rfl
        · rcases hr with ⟨h1, h2⟩ | ⟨h1, ⟨k, hk, h2, h3⟩, h4⟩
          · exact Or.inl ⟨h1, h2⟩
          · refine Or.inr ⟨by omega, ⟨k, hk, h2, by rw [hste]; exact h3⟩, fun l hl hlt => by rw [hste]; exact h4 l hl hlt⟩
        · rcases hr with ⟨h1, -⟩ | ⟨h1, -⟩ <;> omega
    · rintro ⟨w, z⟩ ⟨e1, hFz, hz, hout⟩
      simp only at e1 hFz hz hout
      subst e1
      have z66 : z 66 f = m f := by rw [hFz.f 66 (by decide) (by decide), hF1.f 66 (by decide) (by decide)]; exact mz
      dsimp only
      unfold GB_X12_laysCosts_6
      rw [rdZ_at f rfl (by omega), z66, ck_ok (by omega), ck_ok (by omega), if_pos (by omega)]
      exact ⟨_, rfl, hFz, hz, hout⟩
    · rintro z ⟨hFz, hz, hout⟩
      unfold GC_X12_laysCosts_7
      rw [lt_ok]
      refine ⟨_, rfl, ?_⟩
      dsimp only
      refine ⟨by omega, hFz, fun d h1 h2 => ?_⟩
      by_cases hd : d = f
      · subst hd
        exact hz
      · intro i hi
        have h6 := (hT.2 d (by omega)).2.1
        rw [hout _ (by omega)]
        exact hq d (by omega) h2 i hi
  · rintro ⟨w, q⟩ ⟨e1, hF, hq⟩
    simp only at e1 hF hq
    dsimp only
    unfold GB_X12_laysCosts_8
    rw [ck_ok (by omega), if_pos (by omega)]
    exact ⟨_, rfl, hF, fun f hf => hq f (by omega) hf⟩
  · rintro q ⟨hF, hq⟩
    exact ⟨q, rfl, (hF 55 23 (by decide) (by decide)).trans g23, hq⟩
