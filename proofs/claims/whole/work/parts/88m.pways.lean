/-! the class: ways from a candidate on, merged -/
def Wy (m : Nat) (l : Nat → Nat) (ow : Int) (sp : Nat → Int) (pr : Nat → Nat → Int) (c : Nat) (z g' : uZ) : Prop := ∃ (s : Nat) (P : Nat → Nat × Nat), g' 31 c = (s : Int) ∧ TopL (fun n k => n < m ∧ k < l n) (fun n k => ow + sp n + pr n k) s P ∧ (∀ t, t < s → g' 29 (8 * c + t) = ow + sp (P t).1 + pr (P t).1 (P t).2 ∧ g' 30 (8 * c + t) = 8 * ((P t).1 : Int) + ((P t).2 : Int)) ∧ (∀ y, y < 8 * c ∨ 8 * c + 8 ≤ y → g' 29 y = z 29 y ∧ g' 30 y = z 30 y) ∧ ∀ y, y ≠ c → g' 31 y = z 31 y
theorem p6_merge {z : uZ} {N F c i : Nat} {mm : Nat → Nat} {lag : Nat → Nat → Nat} {own : Nat → Nat → Int} {l : Nat → Nat} {sp : Nat → Int} {pr : Nat → Nat → Int} {ow a : Int} (hC : CT N mm lag own z) (hF : F < N) (ha : a + 1 = (F : Int)) (hi : i < 6) (hc : c = 6 * F + i) (h31 : ∀ n, n < mm F → z 31 (6 * (F + 1) + n) = (l n : Int) ∧ l n ≤ 8) (h32 : ∀ n, n < mm F → z 32 n = 0) (h33 : ∀ n, n < mm F → z 33 n = sp n ∧ 0 ≤ sp n ∧ sp n ≤ 4400) (h29 : ∀ n k, n < mm F → k < l n → z 29 (8 * (6 * (F + 1) + n) + k) = pr n k ∧ 0 ≤ pr n k ∧ pr n k ≤ 60000 * 100) (hs : ∀ n, n < mm F → ∀ k, k + 1 < l n → pr n k ≤ pr n (k + 1)) : ∃ g', GC_X6_findWays_7 a (i : Int) ow (8 * (c : Int)) z = some g' ∧ Wy (mm F) l ow sp pr c z g' := by
  have hN := hC.2.1
  have hm6 := (hC.2.2 F hF).2.1
  have hs' : ∀ n, n < mm F → ∀ k, k + 1 < l n → ow + sp n + pr n k ≤ ow + sp n + pr n (k + 1) := fun n hn k hk => by have := hs n hn k hk; omega
  unfold GC_X6_findWays_7
  obtain ⟨r0, hr0, hr0'⟩ := p6_cheap (z := z) (N := N) (tk := fun _ => 0) (hC.size hF) (by omega) hm6 h31 (fun n hn => ⟨h32 n hn, by omega⟩) h33 h29 ow
  rw [ha, hr0, cp_ok]
  refine lp_wh (fun q => ∃ (s : Nat) (tk : Nat → Nat) (P : Nat → Nat × Nat), q.1 = (s : Int) ∧ s ≤ 8 ∧ Fr [29, 30, 32] [] z q.2.2 ∧ (∀ n, n < mm F → q.2.2 32 n = (tk n : Int)) ∧ MG (mm F) l (fun n k => ow + sp n + pr n k) s tk P ∧ (∀ t, t < s → q.2.2 29 (8 * c + t) = ow + sp (P t).1 + pr (P t).1 (P t).2 ∧ q.2.2 30 (8 * c + t) = 8 * ((P t).1 : Int) + ((P t).2 : Int)) ∧ (∀ y, y < 8 * c ∨ 8 * c + 8 ≤ y → q.2.2 29 y = z 29 y ∧ q.2.2 30 y = z 30 y) ∧ ((q.2.1 = -1 ∧ ∀ n, n < mm F → l n ≤ tk n) ∨ ∃ a : Nat, q.2.1 = (a : Int) ∧ a < mm F ∧ tk a < l a ∧ ∀ n, n < mm F → tk n < l n → n ≠ a → pl (fun n k => ow + sp n + pr n k) (a, tk a) (n, tk n))) (fun q => ∃ (s : Nat) (P : Nat → Nat × Nat), q.1 = (s : Int) ∧ s ≤ 8 ∧ Fr [29, 30, 32] [] z q.2 ∧ TopL (fun n k => n < mm F ∧ k < l n) (fun n k => ow + sp n + pr n k) s P ∧ (∀ t, t < s → q.2 29 (8 * c + t) = ow + sp (P t).1 + pr (P t).1 (P t).2 ∧ q.2 30 (8 * c + t) = 8 * ((P t).1 : Int) + ((P t).2 : Int)) ∧ ∀ y, y < 8 * c ∨ 8 * c + 8 ≤ y → q.2 29 y = z 29 y ∧ q.2 30 y = z 30 y) (fun q => (8 - q.1).toNat) ⟨0, fun _ => 0, fun _ => (0, 0), rfl, by omega, Fr.rf, fun n hn => h32 n hn, MG.zero _ _ _ _, fun t ht => absurd ht (Nat.not_lt_zero _), fun y _ => ⟨rfl, rfl⟩, hr0'⟩ (by dsimp only; omega) ?_ ?_
  · rintro ⟨si, r, y⟩ ⟨s, tk, P, e1, hs8, hFr, y32, hMG, hP, hout, hr⟩
    simp only at e1 hFr y32 hP hout hr
    subst e1
    dsimp only
    have htk := hMG.2.2.1
    unfold GB_X6_findWays_5
    rw [ck_ok (by omega)]
    by_cases c8 : s = 8
    · right
      rw [if_pos (by omega)]
      exact ⟨_, rfl, s, P, rfl, hs8, hFr, hMG.top hs8 (Or.inl c8), hP, hout⟩
    · rw [if_neg (by omega)]
      rcases hr with ⟨r1, r2⟩ | ⟨b, r1, r2, r3, r4⟩
      · right
        rw [ck_ok (by omega), if_pos r1]
        exact ⟨_, rfl, s, P, rfl, hs8, hFr, hMG.top hs8 (Or.inr (fun n hn => by have := htk n hn; have := r2 n hn; omega)), hP, hout⟩
      · left
        subst r1
        have l8 := (h31 b r2).2
        have q3 := h33 b r2
        have q9 := h29 b (tk b) r2 r3
        have o9 := (hout (8 * (6 * (F + 1) + b) + tk b) (by omega)).1
        unfold GF_X6_place GF_X11_cell
        rw [ck_ok (by omega), if_neg (by omega), rdZ_at b rfl (by omega), hFr.f 33 (by decide) (by decide), q3.1, cp_ok, cp_ok, rdZ_at b rfl (by omega), y32 b r2, rdZ_at (8 * (6 * (F + 1) + b) + tk b) (by omega) (by omega), o9, q9.1, wrZ_at (8 * c + s) (by omega) (by omega)]
        generalize hy1 : upZ y 29 (8 * c + s) (ow + sp b + pr b (tk b)) = y1
        have a32 : y1 32 b = (tk b : Int) := by rw [← hy1, upZ_n (by decide)]; exact y32 b r2
        rw [rdZ_at b rfl (by omega), a32, wrZ_at (8 * c + s) (by omega) (by omega)]
        generalize hy2 : upZ y1 30 (8 * c + s) ((b : Int) * 8 + (tk b : Int)) = y2
        have b32 : y2 32 b = (tk b : Int) := by rw [← hy2, upZ_n (by decide)]; exact a32
        rw [rdZ_at b rfl (by omega), b32, wrZ_at b rfl (by omega), lt_ok]
        generalize hy3 : upZ y2 32 b ((tk b : Int) + 1) = y3
        have f3 : Fr [29, 30, 32] [] z y3 := by rw [← hy3, ← hy2, ← hy1]; exact ((hFr.wr (by decide)).wr (by decide)).wr (by decide)
        have c29 : y3 29 = upZ y 29 (8 * c + s) (ow + sp b + pr b (tk b)) 29 := by rw [← hy3, upZ_n (by decide), ← hy2, upZ_n (by decide), ← hy1]
        have c30 : y3 30 = upZ y1 30 (8 * c + s) ((b : Int) * 8 + (tk b : Int)) 30 := by rw [← hy3, upZ_n (by decide), ← hy2]
        have d30 : ∀ u, u ≠ 8 * c + s → y3 30 u = y 30 u := fun u hu => by rw [c30, upZ_sn hu, ← hy1, upZ_n (by decide)]
        have d29 : ∀ u, u ≠ 8 * c + s → y3 29 u = y 29 u := fun u hu => by rw [c29, upZ_sn hu]
        have c32 : ∀ n, n < mm F → y3 32 n = ((if n = b then tk b + 1 else tk n : Nat) : Int) := fun n hn => by
          by_cases q : n = b
          · rw [if_pos q, q, ← hy3, upZ_ss]
            omega
          · rw [if_neg q, ← hy3, upZ_sn q, ← hy2, upZ_n (by decide), ← hy1, upZ_n (by decide)]
            exact y32 n hn
        have hMG2 := hMG.step (P' := fun t => if t = s then (b, tk b) else P t) (tk2 := fun n => if n = b then tk b + 1 else tk n) hs' r2 r3 r4 (if_pos rfl) (fun n hn => if_neg hn) (fun t ht => if_neg (by omega)) (if_pos rfl)
        have hCy := hC.cg (f3 11 6 (by decide) (by decide)) (f3.f 12 (by decide) (by decide)) (f3.f 13 (by decide) (by decide)) (f3.f 15 (by decide) (by decide))
        obtain ⟨r', hr1, hr2⟩ := p6_cheap (z := y3) (N := N) (l := l) (sp := sp) (pr := pr) (tk := fun n => if n = b then tk b + 1 else tk n) (hCy.size hF) (by omega) hm6 (by rw [f3.f 31 (by decide) (by decide)]; exact h31) (fun n hn => ⟨c32 n hn, by have q5 := hMG2.2.2.1 n hn; dsimp only at q5; have := (h31 n hn).2; omega⟩) (by rw [f3.f 33 (by decide) (by decide)]; exact h33) (fun n k hn hk => by
          have := (h31 n hn).2
          rw [d29 _ (by omega), (hout _ (by omega)).1]
          exact h29 n k hn hk) ow
        rw [ha, hr1, cp_ok]
        refine ⟨_, rfl, ⟨s + 1, (fun n => if n = b then tk b + 1 else tk n), (fun t => if t = s then (b, tk b) else P t), by dsimp only; omega, by omega, f3, c32, hMG2, fun t ht => ?_, fun u hu => ?_, hr2⟩, by dsimp only; omega⟩
        · dsimp only
          by_cases q : t = s
          · subst q
            rw [if_pos rfl, c29, upZ_ss, c30, upZ_ss]
            exact ⟨rfl, by dsimp only; omega⟩
          · rw [if_neg q, d29 _ (by omega), d30 _ (by omega)]
            exact hP t (by omega)
        · dsimp only
          rw [d29 _ (by omega), d30 _ (by omega)]
          exact hout u hu
  · rintro ⟨si, y⟩ ⟨s, P, e1, hs8, hFr, hT, hP, hout⟩
    simp only at e1 hFr hP hout
    subst e1
    dsimp only
    unfold GC_X6_findWays_6 GF_X11_cell
    rw [cp_ok, wrZ_at c (by omega) (by omega)]
    refine ⟨_, rfl, s, P, upZ_ss _ _ _ _, hT, fun t ht => ?_, fun u hu => ?_, fun u hu => ?_⟩
    · rw [upZ_n (by decide), upZ_n (by decide)]
      exact hP t ht
    · rw [upZ_n (by decide), upZ_n (by decide)]
      exact hout u hu
    · rw [upZ_sn hu, hFr.f 31 (by decide) (by decide)]
theorem p6_prep {γ : Type} {g : uZ} {N F : Nat} {mm : Nat → Nat} {lag : Nat → Nat → Nat} {own : Nat → Nat → Int} {sp : Nat → Int} {a b : Int} {j o v : Nat} {K : uZ → Option γ} (hC : CT N mm lag own g) (h0 : g 28 0 = j) (h1 : g 28 1 = o) (h2 : g 28 2 = v) (hF : F < N) (ha : a + 1 = (F : Int)) (hcase : (a = -1 ∧ ∀ n, sp n = 0) ∨ ∃ f i : Nat, a = (f : Int) ∧ b = (i : Int) ∧ i < mm f ∧ ∀ n, sp n = spS j o v (lag f i) (lag F n)) : ∃ z, Fr [32, 33] [] g z ∧ (∀ n, n < mm F → z 32 n = 0 ∧ z 33 n = sp n) ∧ lp (fun z => GB_X6_findWays_3 a b z.1 z.2) (0, g) K = K z := by
  have hN := hC.2.1
  have hm := hC.2.2 F hF
  obtain ⟨z, hz, e⟩ := lp_run (f := fun z => GB_X6_findWays_3 a b z.1 z.2) (a := ((0 : Int), g)) (k := K) (fun t q => q.1 = (t : Int) ∧ Fr [32, 33] [] g q.2 ∧ ∀ n, n < t → q.2 32 n = 0 ∧ q.2 33 n = sp n) (fun q => Fr [32, 33] [] g q ∧ ∀ n, n < mm F → q 32 n = 0 ∧ q 33 n = sp n) (mm F) (by omega) ⟨rfl, Fr.rf, fun n hn => absurd hn (Nat.not_lt_zero _)⟩ (by
    rintro t ⟨w, z⟩ ht ⟨e1, hFr, hz⟩
    simp only at e1 hFr hz
    subst e1
    dsimp only
    have hCz := hC.cg (hFr 11 6 (by decide) (by decide)) (hFr.f 12 (by decide) (by decide)) (hFr.f 13 (by decide) (by decide)) (hFr.f 15 (by decide) (by decide))
    unfold GB_X6_findWays_3 GJ_X6_findWays_2
    rw [ha, hCz.size hF, cp_ok, ck_ok (by omega), ck_ok (by omega), if_neg (by omega), wrZ_at t rfl (by omega), ck_ok (by omega)]
    generalize hz1 : upZ z 32 t 0 = z1
    have f1 : Fr [32, 33] [] g z1 := by rw [← hz1]; exact hFr.wr (by decide)
    have fin : ∃ a' : Int × uZ, (wrZ z1 33 6 (t : Int) (sp t) fun g16 => lt ((t : Int) + 1) fun v17 => (some (Sum.inl (v17, g16)) : Option ((Int × uZ) ⊕ uZ))) = some (Sum.inl a') ∧ a'.1 = ((t + 1 : Nat) : Int) ∧ Fr [32, 33] [] g a'.2 ∧ ∀ n, n < t + 1 → a'.2 32 n = 0 ∧ a'.2 33 n = sp n := by
      rw [wrZ_at t rfl (by omega), lt_ok]
      refine ⟨_, rfl, by dsimp only; omega, f1.wr (by decide), fun n hn => ?_⟩
      dsimp only
      rw [upZ_n (by decide)]
      by_cases q : n = t
      · subst q
        rw [upZ_ss, ← hz1, upZ_ss]
        exact ⟨rfl, rfl⟩
      · rw [upZ_sn q, ← hz1, upZ_sn q, upZ_n (by decide)]
        exact hz n (by omega)
    rcases hcase with ⟨a0, hsp⟩ | ⟨f, i, a0, b0, hi, hsp⟩
    · rw [if_neg (by omega)]
      rw [hsp t] at fin
      exact fin
    · subst a0 b0
      have hfN : f < N := by omega
      have hC1 := hC.cg (f1 11 6 (by decide) (by decide)) (f1.f 12 (by decide) (by decide)) (f1.f 13 (by decide) (by decide)) (f1.f 15 (by decide) (by decide))
      have l1 := ((hC.2.2 f hfN).2.2.2 i hi).2.1
      have l2 := (hm.2.2.2 t ht).2.1
      have z28 : z1 28 = g 28 := f1.f 28 (by decide) (by decide)
      rw [if_pos (by omega), hC1.lag hfN hi, cp_ok, hC1.lag hF ht, cp_ok, p9_price28 (by rw [z28]; exact h0) (by rw [z28]; exact h1) (by rw [z28]; exact h2) l1 l2, cp_ok, ← hsp t]
      exact fin) (by
    rintro ⟨w, z⟩ ⟨e1, hFr, hz⟩
    simp only at e1 hFr hz
    subst e1
    dsimp only
    have hCz := hC.cg (hFr 11 6 (by decide) (by decide)) (hFr.f 12 (by decide) (by decide)) (hFr.f 13 (by decide) (by decide)) (hFr.f 15 (by decide) (by decide))
    refine ⟨z, ?_, hFr, hz⟩
    unfold GB_X6_findWays_3
    rw [ha, hCz.size hF, cp_ok, ck_ok (by omega), ck_ok (by omega), if_pos (by omega)])
  exact ⟨z, hz.1, hz.2, e⟩
