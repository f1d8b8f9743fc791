/-! the first at an end; tails -/
theorem p5_firstAtEnd {g : uZ} {N : Nat} {m : Nat → Nat} {lag : Nat → Nat → Nat} {own : Nat → Nat → Int} {st : Nat → Nat → Nat → Int} {e : Nat} (hC : CT N m lag own g) (he : e < N) (hr : ∀ d, d ≤ e → RowF m own st g d) : ∃ i : Nat, GF_X5_firstAtEnd e g = some (i : Int) ∧ i < m e ∧ ∀ k, k < m e → k ≠ i → g 19 (6 * e + i) < g 19 (6 * e + k) ∨ (g 19 (6 * e + i) = g 19 (6 * e + k) ∧ kN g e i < kN g e k) := by
  obtain ⟨c11, c100, hCf⟩ := id hC
  obtain ⟨m1, m6, mz, hcand⟩ := hCf e he
  have hp := RowF.prev hr
  have hk20 : ∀ k, k < m e → g 20 (6 * e + k) = (kN g e k : Int) := fun k hk => by
    have := hp k hk
    unfold kN
    omega
  unfold GF_X5_firstAtEnd
  suffices hh : ∃ z, lp (fun z => GB_X5_firstAtEnd_4 e g z.1 z.2) (0, 1) (fun z => GC_X5_firstAtEnd_5 z) = some z ∧ ∃ i : Nat, z = (i : Int) ∧ i < m e ∧ ∀ k, k < m e → k ≠ i → g 19 (6 * e + i) < g 19 (6 * e + k) ∨ (g 19 (6 * e + i) = g 19 (6 * e + k) ∧ g 20 (6 * e + i) < g 20 (6 * e + k)) by
    obtain ⟨z, e1, i, rfl, hi, hm⟩ := hh
    refine ⟨i, e1, hi, fun k hk hki => ?_⟩
    have := hm k hk hki
    rw [hk20 i hi, hk20 k hk] at this
    omega
  refine lp_go (fun t q => q.2 = ((t + 1 : Nat) : Int) ∧ ∃ i : Nat, q.1 = (i : Int) ∧ i ≤ t ∧ ∀ k, k ≤ t → k ≠ i → g 19 (6 * e + i) < g 19 (6 * e + k) ∨ (g 19 (6 * e + i) = g 19 (6 * e + k) ∧ g 20 (6 * e + i) < g 20 (6 * e + k))) (fun q => ∃ i : Nat, q = (i : Int) ∧ i < m e ∧ ∀ k, k < m e → k ≠ i → g 19 (6 * e + i) < g 19 (6 * e + k) ∨ (g 19 (6 * e + i) = g 19 (6 * e + k) ∧ g 20 (6 * e + i) < g 20 (6 * e + k))) (m e - 1) (by omega) ⟨rfl, 0, rfl, by omega, fun k hk h0 => by omega⟩ ?_ ?_ (fun q hq => ⟨q, rfl, hq⟩)
  · rintro t ⟨v, w⟩ ht ⟨e2, i, e1, hi, hm⟩
    simp only at e1 e2
    subst e1 e2
    have r1 := hp (t + 1) (by omega)
    have r2 := hp i (by omega)
    have r3 := r1.2.2.2.2 i (by omega) (by omega)
    dsimp only
    unfold GB_X5_firstAtEnd_4 GJ_X5_firstAtEnd_2 GJ_X5_firstAtEnd_3 GF_X11_cell
    rw [hC.size he, cp_ok, ck_ok (by omega), ck_ok (by omega), if_neg (by omega), cp_ok, rdZ_at (6 * e + (t + 1)) (by omega) (by omega), cp_ok, rdZ_at (6 * e + i) (by omega) (by omega), lt_ok, ck_ok (by omega)]
    have take : ∀ _ : Unit, (g 19 (6 * e + (t + 1)) < g 19 (6 * e + i) ∨ (g 19 (6 * e + (t + 1)) = g 19 (6 * e + i) ∧ g 20 (6 * e + (t + 1)) < g 20 (6 * e + i))) → ∃ a', (lt (((t + 1 : Nat) : Int) + 1) fun v19 => some (Sum.inl (β := Int) (((t + 1 : Nat) : Int), v19))) = some (Sum.inl a') ∧ a'.2 = ((t + 1 + 1 : Nat) : Int) ∧ ∃ i : Nat, a'.1 = (i : Int) ∧ i ≤ t + 1 ∧ ∀ k, k ≤ t + 1 → k ≠ i → g 19 (6 * e + i) < g 19 (6 * e + k) ∨ (g 19 (6 * e + i) = g 19 (6 * e + k) ∧ g 20 (6 * e + i) < g 20 (6 * e + k)) := by
      intro _ hc
      rw [lt_ok]
      refine ⟨_, rfl, by simp, t + 1, rfl, by omega, fun k hk hkt => ?_⟩
      by_cases hki : k = i
      · subst hki
        exact hc
      · rcases hm k (by omega) hki with h | h <;> omega
    have keep : ∀ _ : Unit, (g 19 (6 * e + i) < g 19 (6 * e + (t + 1)) ∨ (g 19 (6 * e + i) = g 19 (6 * e + (t + 1)) ∧ g 20 (6 * e + i) < g 20 (6 * e + (t + 1)))) → ∃ a', (lt (((t + 1 : Nat) : Int) + 1) fun v19 => some (Sum.inl (β := Int) ((i : Int), v19))) = some (Sum.inl a') ∧ a'.2 = ((t + 1 + 1 : Nat) : Int) ∧ ∃ i : Nat, a'.1 = (i : Int) ∧ i ≤ t + 1 ∧ ∀ k, k ≤ t + 1 → k ≠ i → g 19 (6 * e + i) < g 19 (6 * e + k) ∨ (g 19 (6 * e + i) = g 19 (6 * e + k) ∧ g 20 (6 * e + i) < g 20 (6 * e + k)) := by
      intro _ hc
      rw [lt_ok]
      refine ⟨_, rfl, by simp, i, rfl, by omega, fun k hk hki => ?_⟩
      by_cases hkt : k = t + 1
      · subst hkt
        exact hc
      · exact hm k (by omega) hki
    by_cases h1 : g 19 (6 * e + (t + 1)) - g 19 (6 * e + i) < 0
    · rw [if_pos h1]
      exact take () (Or.inl (by omega))
    · rw [if_neg h1]
      by_cases h2 : g 19 (6 * e + (t + 1)) - g 19 (6 * e + i) = 0
      · rw [if_pos h2, cp_ok, rdZ_at (6 * e + (t + 1)) (by omega) (by omega), cp_ok, rdZ_at (6 * e + i) (by omega) (by omega), ck_ok (by omega), ck_ok (by omega)]
        by_cases h3 : g 20 (6 * e + i) ≤ g 20 (6 * e + (t + 1))
        · rw [if_pos h3]
          exact keep () (Or.inr ⟨by omega, by omega⟩)
        · rw [if_neg h3]
          exact take () (Or.inr ⟨by omega, by omega⟩)
      · rw [if_neg h2]
        exact keep () (Or.inl (by omega))
  · rintro ⟨v, w⟩ ⟨e2, i, e1, hi, hm⟩
    simp only at e1 e2
    subst e1 e2
    dsimp only
    unfold GB_X5_firstAtEnd_4
    rw [hC.size he, cp_ok, ck_ok (by omega), ck_ok (by omega), if_pos (by omega)]
    exact ⟨_, rfl, i, rfl, by omega, fun k hk => hm k (by omega)⟩
def RowT (N : Nat) (m : Nat → Nat) (own : Nat → Nat → Int) (st : Nat → Nat → Nat → Int) (q : uZ) (f : Nat) : Prop := ∀ i, i < m f → TM m own st (fun _ _ => true) (N - 1) f i (q 22 (6 * f + i)) ∧ 0 ≤ q 22 (6 * f + i) ∧ q 22 (6 * f + i) ≤ 60000 * ((N - f : Nat) : Int)
theorem p5_findTails {g : uZ} {N : Nat} {m : Nat → Nat} {lag : Nat → Nat → Nat} {own : Nat → Nat → Int} {j o v f : Nat} (hC : CT N m lag own g) (h0 : g 17 0 = j) (h1 : g 17 1 = o) (h2 : g 17 2 = v) (hj : j ≤ 50) (ho : o ≤ 2000) (hv : v ≤ 2000) (hN : g 16 12 = N) (hf : f < N) (hnext : f + 1 < N → RowT N m own (fun e a b => spS j o v (lag e a) (lag (e + 1) b)) g (f + 1)) : ∃ g', GF_X5_findTails f g = some g' ∧ RowT N m own (fun e a b => spS j o v (lag e a) (lag (e + 1) b)) g' f ∧ ∀ z, z < 6 * f ∨ 6 * f + 6 ≤ z → g' 22 z = g 22 z := by
  obtain ⟨c11, c100, hCf⟩ := id hC
  obtain ⟨m1, m6, mz, hcand⟩ := hCf f hf
  generalize hst : (fun e a b => spS j o v (lag e a) (lag (e + 1) b)) = st at *
  have hste : ∀ a b c, st a b c = spS j o v (lag a b) (lag (a + 1) c) := fun a b c => by rw [← hst]
  unfold GF_X5_findTails
  refine lp_go (fun t q => q.1 = t ∧ Fr [22] [] g q.2 ∧ (∀ i, i < t → TM m own st (fun _ _ => true) (N - 1) f i (q.2 22 (6 * f + i)) ∧ 0 ≤ q.2 22 (6 * f + i) ∧ q.2 22 (6 * f + i) ≤ 60000 * ((N - f : Nat) : Int)) ∧ ∀ z, z < 6 * f ∨ 6 * f + 6 ≤ z → q.2 22 z = g 22 z) (fun q => RowT N m own st q f ∧ ∀ z, z < 6 * f ∨ 6 * f + 6 ≤ z → q 22 z = g 22 z) (m f) (by omega) ⟨rfl, Fr.rf, fun i hi => by omega, fun z _ => rfl⟩ ?_ ?_ (fun q hq => ⟨q, rfl, hq⟩)
  · rintro t ⟨w, q⟩ ht ⟨e1, hF, hq, hout⟩
    simp only at e1 hF hq hout
    subst e1
    have hCq : CT N m lag own q := hC.cg (hF 11 6 (by decide) (by decide)) (hF.f 12 (by decide) (by decide)) (hF.f 13 (by decide) (by decide)) (hF.f 15 (by decide) (by decide))
    have q17 : q 17 = g 17 := hF.f 17 (by decide) (by decide)
    have q16 : q 16 12 = N := (hF 16 12 (by decide) (by decide)).trans hN
    obtain ⟨-, hl48, -, ho0, ho5⟩ := hcand t ht
    dsimp only
    unfold GB_X5_findTails_5
    rw [hCq.size hf, cp_ok, ck_ok (by omega), ck_ok (by omega), if_neg (by omega), hCq.lag hf ht, cp_ok, ck_ok (by omega), ck_ok (by omega), lt_ok]
    have fin : ∀ r : Int, 0 ≤ r → r ≤ 60000 * ((N - f : Nat) : Int) - 50000 → TM m own st (fun _ _ => true) (N - 1) f t (r + own f t) → ∃ a', GC_X5_findTails_4 f t q r = some (Sum.inl a') ∧ a'.1 = ((t + 1 : Nat) : Int) ∧ Fr [22] [] g a'.2 ∧ (∀ i, i < t + 1 → TM m own st (fun _ _ => true) (N - 1) f i (a'.2 22 (6 * f + i)) ∧ 0 ≤ a'.2 22 (6 * f + i) ∧ a'.2 22 (6 * f + i) ≤ 60000 * ((N - f : Nat) : Int)) ∧ ∀ z, z < 6 * f ∨ 6 * f + 6 ≤ z → a'.2 22 z = g 22 z := by
      intro r hr0 hr1 hTM
      unfold GC_X5_findTails_4 GF_X11_cell
      rw [cp_ok, hCq.own hf ht, cp_ok, wrZ_at (6 * f + t) (by omega) (by omega), lt_ok]
      refine ⟨_, rfl, ?_⟩
      dsimp only
      refine ⟨by omega, hF.wr (by decide), fun i hi => ?_, fun z hz => ?_⟩
      · rw [upZ_s]
        by_cases hit : i = t
        · subst hit
          rw [if_pos rfl]
          exact ⟨hTM, by omega, by omega⟩
        · rw [if_neg (by omega)]
          exact hq i (by omega)
      · rw [upZ_sn (by omega)]
        exact hout z hz
    by_cases hlast : f + 1 < N
    · have hnx := hnext hlast
      obtain ⟨n1, n6, nz, hcandn⟩ := hCf (f + 1) hlast
      rw [if_neg (by omega)]
      have q22 : ∀ k, k < m (f + 1) → q 22 (6 * (f + 1) + k) = g 22 (6 * (f + 1) + k) := fun k hk => hout _ (by omega)
      generalize hV : (fun k => g 22 (6 * (f + 1) + k) + spS j o v (lag f t) (lag (f + 1) k)) = V
      have hVk : ∀ k, g 22 (6 * (f + 1) + k) + spS j o v (lag f t) (lag (f + 1) k) = V k := fun k => by rw [← hV]
      have hVr : ∀ k, k < m (f + 1) → 0 ≤ V k ∧ V k ≤ 60000 * ((N - (f + 1) : Nat) : Int) + 5000 := fun k hk => by
        have h3 := hnx k hk
        have h4 := spS_r hj ho hv hl48 (hcandn k hk).2.1
        rw [← hVk]
        omega
      suffices hh : ∃ b : Int, (∃ k, k < m (f + 1) ∧ b = V k ∧ ∀ l, l < m (f + 1) → b ≤ V l) ∧ lp (fun z => GB_X5_findTails_3 f (lag f t) q z.1 z.2) ((536870912 : Int), (0 : Int)) (fun z => GC_X5_findTails_4 f t q z) = GC_X5_findTails_4 f t q b by
        obtain ⟨b, ⟨k, hk, rfl, hmin⟩, hb⟩ := hh
        rw [hb]
        have hvk := hVr k hk
        refine fin (V k) hvk.1 (by omega) ?_
        have hTP : TP m own st (fun _ _ => true) (536870912 : Int) (N - 1) f t (V k + own f t) := by
          refine TP.step (T := fun k => g 22 (6 * (f + 1) + k)) (r := V k) (by omega) ht (fun l hl => Or.inr ⟨?_, (hnx l hl).1⟩) (Or.inr ⟨by omega, ⟨k, hk, ?_, ?_⟩, fun l hl _ => ?_⟩) (fun _ => by omega) ?_
          · have := (hnx l hl).2
            omega
          · have := (hnx k hk).2
            omega
          · rw [hste, ← hVk]
            omega
          · have := hmin l hl
            rw [hste]
            have := hVk l
            omega
          · rw [if_pos rfl, if_neg (by omega)]
            omega
        rcases hTP with ⟨h9, -⟩ | h9
        · omega
        · exact h9.2
      refine lp_run (fun (s : Nat) (z : Int × Int) => z.2 = (s : Int) ∧ (s = 0 ∧ z.1 = 536870912 ∨ ∃ k, k < s ∧ z.1 = V k ∧ ∀ l, l < s → z.1 ≤ V l)) (fun b : Int => ∃ k, k < m (f + 1) ∧ b = V k ∧ ∀ l, l < m (f + 1) → b ≤ V l) (m (f + 1)) (by omega) ⟨rfl, Or.inl ⟨rfl, rfl⟩⟩ ?_ ?_
      · rintro s ⟨z1, z2⟩ hs ⟨e2, hz⟩
        simp only at e2 hz
        subst e2
        have hvs := hVr s hs
        have ee : (f : Int) + 1 = ((f + 1 : Nat) : Int) := by omega
        have hz1 : inR z1 := by
          rcases hz with ⟨-, h⟩ | ⟨k, hk, h, -⟩
          · omega
          · have := hVr k (by omega)
            omega
        dsimp only
        unfold GB_X5_findTails_3 GF_X11_cell
        rw [ck_ok (by omega), ck_ok (by omega), if_neg (by omega), ee, hCq.size hlast, cp_ok, ck_ok (by omega), ck_ok (by omega), if_neg (by omega), cp_ok, rdZ_at (6 * (f + 1) + s) (by omega) (by omega), hCq.lag hlast hs, cp_ok, p9_price17 (by rw [q17]; exact h0) (by rw [q17]; exact h1) (by rw [q17]; exact h2) hl48 (hcandn s hs).2.1, cp_ok, lt_ok, q22 s hs, hVk s, p_min q hz1 (by omega), cp_ok, lt_ok]
        refine ⟨_, rfl, ?_⟩
        dsimp only
        refine ⟨by omega, Or.inr ?_⟩
        by_cases hlt : V s < z1
        · rw [if_pos hlt]
          refine ⟨s, by omega, rfl, fun l hl => ?_⟩
          by_cases hls : l = s
          · rw [hls]; omega
          · rcases hz with ⟨h, -⟩ | ⟨k, hk, h, hm⟩
            · omega
            · have := hm l (by omega)
              omega
        · rw [if_neg hlt]
          rcases hz with ⟨h, h3⟩ | ⟨k, hk, h, hm⟩
          · omega
          · refine ⟨k, by omega, h, fun l hl => ?_⟩
            by_cases hls : l = s
            · rw [hls]; omega
            · exact hm l (by omega)
      · rintro ⟨z1, z2⟩ ⟨e2, hz⟩
        simp only at e2 hz
        subst e2
        have ee : (f : Int) + 1 = ((f + 1 : Nat) : Int) := by omega
        dsimp only
        unfold GB_X5_findTails_3
        rw [ck_ok (by omega), ck_ok (by omega), if_neg (by omega), ee, hCq.size hlast, cp_ok, ck_ok (by omega), ck_ok (by omega), if_pos (by omega)]
        rcases hz with ⟨h, -⟩ | ⟨k, hk, h, hm⟩
        · omega
        · exact ⟨_, rfl, k, hk, h, hm⟩
    · obtain rfl : f = N - 1 := by omega
      rw [if_pos (by omega)]
      rw [lp_for (fun _ => ((0 : Int), (0 : Int))) 0 (0 : Int) rfl (by omega) (fun i hi => by omega) (by dsimp only; unfold GB_X5_findTails_3; rw [ck_ok (by omega), ck_ok (by omega), if_pos (by omega)])]
      refine fin 0 (by omega) (by omega) ?_
      have := TP.last (m := m) (own := own) (st := st) (A := fun _ _ => true) (F := (536870912 : Int)) (e := N - 1) (i := t) ht (by omega)
      rw [if_pos rfl] at this
      rcases this with ⟨h9, -⟩ | h9
      · omega
      · rw [Int.zero_add]
        exact h9.2
  · rintro ⟨w, q⟩ ⟨e1, hF, hq, hout⟩
    simp only at e1 hF hq hout
    subst e1
    have hCq : CT N m lag own q := hC.cg (hF 11 6 (by decide) (by decide)) (hF.f 12 (by decide) (by decide)) (hF.f 13 (by decide) (by decide)) (hF.f 15 (by decide) (by decide))
    dsimp only
    unfold GB_X5_findTails_5
    rw [hCq.size hf, cp_ok, ck_ok (by omega), ck_ok (by omega), if_pos (by omega)]
    exact ⟨_, rfl, hq, hout⟩
