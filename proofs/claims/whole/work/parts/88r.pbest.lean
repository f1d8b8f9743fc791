/-! best, bestAt -/
def KpL (ex : List Nat) (R : uZ → Prop) : Prop := ∀ g g' : uZ, (∀ c, c < 53 → inN ex c = false → c ≠ 1 → g' c = g c) → g' 1 2 = g 1 2 → R g → R g'
theorem ex2_l {α β γ : Type} (k : α → γ) (g : β → γ) (a : α) : ex2 k g (Sum.inl a) = k a := rfl
theorem inN_mono {l l' : List Nat} (h : ∀ c ∈ l, c ∈ l') {c : Nat} (hc : inN l' c = false) : inN l c = false := by
  have h1 := inN_no hc
  cases h2 : inN l c with
  | false => rfl
  | true =>
    exfalso
    apply h1
    apply h
    clear h1 hc h
    induction l with
    | nil => exact absurd h2 Bool.false_ne_true
    | cons a l ih =>
      unfold inN at h2
      rw [Bool.or_eq_true] at h2
      rcases h2 with q | q
      · rw [Nat.eq_of_beq_eq_true q]
        exact List.mem_cons_self
      · exact List.mem_cons_of_mem _ (ih q)
theorem KpL.kp {ex : List Nat} {R : uZ → Prop} (h : KpL ex R) (hs : ∀ c ∈ [7, 8, 9, 10, 18, 25, 26], c ∈ ex) : Kp R := fun g g' hc hr => h g g' (fun c h1 h2 _ => hc c h1 (inN_mono hs h2)) (by rw [hc 1 (by decide) (by decide)]) hr
def mix3 (ex : List Nat) (g g' : uZ) : uZ := fun c => match Nat.beq c 1 with
  | true => fun j => match Nat.beq j 2 with
    | true => g 1 2
    | false => g' 1 j
  | false => match Nat.blt c 53 with
    | true => match inN ex c with
      | true => g' c
      | false => g c
    | false => g' c
theorem KpL.mk {ex : List Nat} {R : uZ → Prop} (h : ∀ g g', R g → R (mix3 ex g g')) : KpL ex R := by
  intro g g' hc h12 hr
  have e : g' = mix3 ex g g' := by
    funext c
    unfold mix3
    cases h0 : Nat.beq c 1 with
    | true =>
      have e1 : c = 1 := Nat.eq_of_beq_eq_true h0
      subst e1
      dsimp only
      funext j
      cases h3 : Nat.beq j 2 with
      | true =>
        have e2 : j = 2 := Nat.eq_of_beq_eq_true h3
        subst e2
        exact h12
      | false => rfl
    | false =>
      dsimp only
      cases h1 : Nat.blt c 53 with
      | false => rfl
      | true =>
        dsimp only
        cases h2 : inN ex c with
        | true => rfl
        | false => exact hc c (Nat.le_of_ble_eq_true h1) h2 (fun e => by subst e; exact absurd h0 (by decide))
  rw [e]
  exact h g g' hr
def exR : List Nat := [0, 3, 7, 8, 9, 10, 18, 25, 26, 44, 45, 46, 47, 48, 49, 50, 51, 52]
def exM : List Nat := [0, 3, 7, 8, 9, 10, 18, 25, 26, 28, 29, 30, 31, 32, 33, 51, 52]
def RKg (g : uZ) : Prop := ∃ n : Nat, g 1 2 = (n : Int) ∧ RW (nfS (g 5) n) (mS (g 2) (g 5)) (owS (g 2) (g 5)) (stB (g 2) (g 5)) g
theorem kR : KpL exR RKg := KpL.mk (fun g g' h => h)
theorem rank_eq {N : Nat} {m : Nat → Nat} {own : Nat → Nat → Int} {st : Nat → Nat → Nat → Int} {g g' : uZ} (hN : N ≤ 100) (h : RW N m own st g) (h' : MRW N m own st g') : ∃ (L : Nat) (P : Nat → Nat × Nat), g 31 0 = (L : Int) ∧ g' 55 31 = (L : Int) ∧ L ≤ 8 ∧ (∀ t, t < L → g 29 t = g' 75 t) ∧ (0 < N → (∀ t, t < L → g 30 t = 8 * ((P t).1 : Int) + ((P t).2 : Int) ∧ g' 76 t = ((P t).1 : Int) ∧ g' 77 t = ((P t).2 : Int) ∧ (P t).1 < m 0 ∧ (P t).2 < lenC g 0 (P t).1) ∧ (∀ f i, f < N → i < m f → NC N m own st g f i ∧ NM N m own st g' f i) ∧ ∀ f i, f < N → i < m f → lenC g f i = lenM g' f i ∧ ∀ t, t < lenC g f i → prC g f i t = prM g' f i t ∧ (f + 1 < N → nxC g f i t = nxM g' f i t)) := by
  by_cases h0 : N = 0
  · have a := h.1 h0
    have b := h'.1 h0
    refine ⟨1, fun _ => (0, 0), a.1, b.1, by omega, fun t ht => ?_, fun q => by omega⟩
    obtain rfl : t = 0 := by omega
    rw [a.2, b.2]
  · obtain ⟨a1, s, P, a2, a3, a4⟩ := h.2 (by omega)
    obtain ⟨b1, s', P', b2, b3, b4⟩ := h'.2 (by omega)
    have u := RKn.uniq (fun f i hf hi => (a1 f i hf hi).2.2) (fun f i hf hi => (b1 f i hf hi).2.2)
    have nod : ∀ f i, f < N → i < m f → lenC g f i = lenM g' f i ∧ ∀ t, t < lenC g f i → prC g f i t = prM g' f i t ∧ (f + 1 < N → nxC g f i t = nxM g' f i t) := fun f i hf hi => u (N - 1 - f) f (by omega) i hi
    have c1 := a3.cg (S' := fun n k => n < m 0 ∧ k < lenM g' 0 n) (C' := prM g' 0) (fun n k => ⟨fun hs => ⟨hs.1, by rw [← (nod 0 n (by omega) hs.1).1]; exact hs.2⟩, fun hs => ⟨hs.1, by rw [(nod 0 n (by omega) hs.1).1]; exact hs.2⟩⟩) (fun n k hs => ((nod 0 n (by omega) hs.1).2 k hs.2).1)
    obtain ⟨u1, u2⟩ := c1.uniq b3
    refine ⟨s, P, a2, by rw [b2, u1], a3.1, fun t ht => ?_, fun _ => ⟨fun t ht => ?_, fun f i hf hi => ⟨a1 f i hf hi, b1 f i hf hi⟩, nod⟩⟩
    · have q := a3.2.1 t ht
      rw [(a4 t ht).1, (b4 t (by omega)).1, ← u2 t ht]
      exact ((nod 0 _ (by omega) q.1).2 _ q.2).1
    · have q := a3.2.1 t ht
      refine ⟨(a4 t ht).2, ?_, ?_, q.1, q.2⟩
      · rw [(b4 t (by omega)).2.1, u2 t ht]
      · rw [(b4 t (by omega)).2.2, u2 t ht]
theorem iv_findRanking {M : uZ → Prop} (hM : KpL exM M) {n : Nat} {g : uZ} (h : IVn RKg M n g) : ∃ g', GF_X11_findRanking g = some g' ∧ IVn RKg M n g' ∧ RW (nfS (g' 5) n) (mS (g' 2) (g' 5)) (owS (g' 2) (g' 5)) (stB (g' 2) (g' 5)) g' ∧ g' 5 = g 5 := by
  obtain ⟨g1, h1, hI1, hfl, hP⟩ := iv_findPath h
  have e15 := findPath_5 h1
  unfold GF_X11_findRanking GJ_X11_findRanking_1
  rw [h1, cp_ok]
  obtain ⟨i1, i2, i3, i4, i5, i6, i7, i8⟩ := id hI1
  rcases i6 with q | ⟨k1, k2, k3, k4⟩
  · exact absurd (hfl.symm.trans q.1) (by decide)
  · rcases k3 with k3 | ⟨k3, k5⟩
    · rw [k3, ck_ok (by decide), if_pos rfl]
      have hCT := hP.ct hI1.b hI1.x hI1.n
      obtain ⟨g3, h3, hW⟩ := p6_find hCT hI1.b
      have f3 : Fr [29, 30, 31, 32, 33] [(28, 0), (28, 1), (28, 2)] g1 g3 := fF_X6_find Fr.rf h3
      rw [h3, cp_ok, pfZ_ok]
      have f4 : Fr [29, 30, 31, 32, 33] [(0, 11), (28, 0), (28, 1), (28, 2)] g1 (upZ g3 0 11 1) := ((Fr.rf (L := [29, 30, 31, 32, 33]) (M := [(0, 11), (28, 0), (28, 1), (28, 2)])).tr f3 (by decide) (by decide)).pf (by decide)
      generalize hg4 : upZ g3 0 11 1 = g4 at f4
      have e2 : g4 2 = g1 2 := f4.f 2 (by decide) (by decide)
      have e5 : g4 5 = g1 5 := f4.f 5 (by decide) (by decide)
      have e1 : g4 1 2 = (n : Int) := (f4 1 2 (by decide) (by decide)).trans i1
      have hW4 : RW (nfS (g1 5) n) (mS (g1 2) (g1 5)) (owS (g1 2) (g1 5)) (stB (g1 2) (g1 5)) g4 := by
        rw [← hg4]
        exact hW
      have mM : M g1 → M g4 := hM g1 g4 (fun c _ hc _ => funext fun j => f4 c j (fun hm => (inN_no hc) (by
        have : ∀ c ∈ [29, 30, 31, 32, 33], c ∈ exM := by decide
        exact this c hm)) (fun hm => (inN_no hc) (by
        have : ∀ q ∈ [(0, 11), (28, 0), (28, 1), (28, 2)], q.1 ∈ exM := by decide
        exact this _ hm))) (f4 1 2 (by decide) (by decide))
      refine ⟨g4, rfl, ⟨e1, i2, by rw [e2]; exact i3, by rw [e5]; exact i4, ?_, Or.inr ⟨(f4 0 10 (by decide) (by decide)).trans k1, ?_, Or.inr ⟨by rw [← hg4, upZ_ss], n, e1, by rw [e2, e5]; exact hW4⟩, ?_⟩, ?_, ?_⟩, by rw [e2, e5]; exact hW4, by rw [e5, e15]⟩
      · rw [e2, e5]
        exact f4.tra (fun q => Cache (g1 2) (g1 5) n q) i5
      · rw [e2, e5]
        exact f4.tra (fun q => PW (g1 2) (g1 5) n q) k2
      · rcases k4 with k4 | ⟨k4, k6⟩
        · exact Or.inl ((f4 0 12 (by decide) (by decide)).trans k4)
        · exact Or.inr ⟨(f4 0 12 (by decide) (by decide)).trans k4, mM k6⟩
      · rw [e2, e5]
        exact i7.cg f4 (by decide) (by decide) (by decide)
      · exact f4.tra TT i8
    · rw [k3, ck_ok (by decide), if_neg (by decide)]
      obtain ⟨n', q1, q2⟩ := k5
      have : n' = n := by omega
      subst this
      exact ⟨g1, rfl, hI1, q2, e15⟩
theorem iv_tops {R M : uZ → Prop} {n : Nat} {g z : uZ} (h : IVn R M n g) (hz : Fr [] [(55, 9)] g z) : ∃ g2, GF_X12_laysTops z = some g2 ∧ MRW (nfS (g 5) n) (mS (g 2) (g 5)) (owS (g 2) (g 5)) (stB (g 2) (g 5)) g2 ∧ g2 55 9 = z 55 9 := by
  obtain ⟨g2, h1, h2⟩ := m_laysTops (h.mb hz) h.n h.b h.x
  exact ⟨g2, h1, h2, fF_X12_laysTops Fr.rf h1 55 9 (by decide) (by decide)⟩
theorem o_best {M : uZ → Prop} (hM : KpL exM M) {a : Int} (ha : inR a) : opT (IV RKg M) [(2, 1)] (GF_X11_best a) (GF_X12_best a) := by
  have hR' : Kp RKg := kR.kp (by decide)
  have hM' : Kp M := hM.kp (by decide)
  rintro g ⟨n, hI⟩
  have h9 : ∀ q : uZ, upZ q 55 9 0 55 9 = 0 := fun q => upZ_ss _ _ _ _
  by_cases hA : 0 ≤ a ∧ a ≤ 7
  · left
    obtain ⟨g1, h1, hI1, hW, -⟩ := iv_findRanking hM hI
    obtain ⟨g2, h2, hMW, k9⟩ := iv_tops hI1 (fr9 g1 0)
    obtain ⟨L, P, r1, r2, r3, r4, -⟩ := rank_eq hI1.f hW hMW
    obtain ⟨t, rfl⟩ : ∃ t : Nat, a = (t : Int) := ⟨a.toNat, by omega⟩
    have hB : GF_X12_best (t : Int) g1 = some (if t < L then g1 29 t else -1, g2) := by
      unfold GF_X12_best GJ_X12_best_1
      rw [pfZ_ok, m_isIn _ ha (by decide) (by decide), cp_ok, if_pos hA, m_right1 (h9 g1), clZ_ok, ck_ok (by decide), if_neg (by decide), h2, cp_ok, r2, ck_ok (by omega), ck_ok (by omega)]
      by_cases c : t < L
      · rw [if_neg (by omega), rdZ_at t rfl (by omega), if_pos c, r4 t c]
      · rw [if_pos (by omega), if_neg c]
    refine ⟨_, g1, g2, ?_, hB, k9.trans (h9 g1), n, hI1.fr hR' hM' (show Fr _ _ g1 g2 from fF_X12_best Fr.rf hB) (by decide) (by decide)⟩
    unfold GF_X11_best GJ_X11_best_2 GF_X6_priceOf GJ_X6_priceOf_1 GJ_X6_priceOf_2
    rw [ck_ok ha, if_neg (by omega), if_neg (by omega), ck_ok (by decide), if_neg (by decide), h1, cp_ok, ck_ok ha, if_neg (by omega), rdZ_at 0 (by rfl) (by omega), r1, ck_ok (by omega)]
    by_cases c : t < L
    · rw [if_neg (by omega), if_pos (by omega), rdZ_at t rfl (by omega), if_pos c, cp_ok]
    · rw [if_pos (by omega), if_neg c, cp_ok]
  · right
    have hB : GF_X12_best a g = some (0, upZ (upZ g 55 9 0) 55 9 1) := by
      unfold GF_X12_best
      rw [pfZ_ok, m_isIn _ ha (by decide) (by decide), cp_ok, if_neg hA, m_right0 (h9 g) (Or.inl rfl), clZ_ok, ck_ok (by decide), if_pos rfl]
    refine ⟨(2, 1), List.mem_singleton.mpr rfl, _, g, _, ?_, hB, upZ_ss _ _ _ _, n, (hI.flag hR' hM' 0).flag hR' hM' 1⟩
    unfold GF_X11_best GJ_X11_best_1 GJ_X11_best_2
    rw [ck_ok ha]
    by_cases a0 : a < 0
    · rw [if_pos a0, ck_ok (by decide), if_pos rfl]
    · rw [if_neg a0, if_pos (by omega), ck_ok (by decide), if_pos rfl]
def ptW (nx : Nat → Nat → Nat → Nat × Nat) (p0 : Nat × Nat) : Nat → Nat × Nat
  | 0 => p0
  | t + 1 => nx t (ptW nx p0 t).1 (ptW nx p0 t).2
theorem o_bestAt {M : uZ → Prop} (hM : KpL exM M) {a b : Int} (ha : inR a) (hb : inR b) : opT (IV RKg M) [(2, 1), (1, 2)] (GF_X11_bestAt a b) (GF_X12_bestAt a b) := by
  have hR' : Kp RKg := kR.kp (by decide)
  have hM' : Kp M := hM.kp (by decide)
  rintro g ⟨n, hI⟩
  have h9 : ∀ q : uZ, upZ q 55 9 0 55 9 = 0 := fun q => upZ_ss _ _ _ _
  have hN := hI.f
  by_cases hA : 0 ≤ a ∧ a ≤ 7
  · have hfr : GF_X12_frames (upZ g 55 9 0) = some (nfS (g 5) n : Int) := m_frames (hI.mb (fr9 g 0)) hI.n hI.b
    by_cases hf : 0 ≤ b ∧ b < nfS (g 5) n
    · left
      obtain ⟨g1, h1, hI1, hW, e5⟩ := iv_findRanking hM hI
      have hN1 := hI1.f
      obtain ⟨g2, h2, hMW, k9⟩ := iv_tops hI1 (fr9 g1 0)
      obtain ⟨L, P, r1, r2, r3, -, r5⟩ := rank_eq hI1.f hW hMW
      obtain ⟨t, rfl⟩ : ∃ t : Nat, a = (t : Int) := ⟨a.toNat, by omega⟩
      obtain ⟨e, rfl⟩ : ∃ e : Nat, b = (e : Int) := ⟨b.toNat, by omega⟩
      have heN : e < nfS (g1 5) n := by rw [e5]; omega
      obtain ⟨q1, q2, q3⟩ := r5 (by omega)
      have hfr1 : GF_X12_frames (upZ g1 55 9 0) = some (nfS (g1 5) n : Int) := m_frames (hI1.mb (fr9 g1 0)) hI1.n hI1.b
      have hwalk : t < L → ∀ u, u ≤ e → (ptW (nxC g1) (P t) u).1 < mS (g1 2) (g1 5) u ∧ (ptW (nxC g1) (P t) u).2 < lenC g1 u (ptW (nxC g1) (P t) u).1 := by
        intro hL u
        induction u with
        | zero => intro _; exact ⟨(q1 t hL).2.2.2.1, (q1 t hL).2.2.2.2⟩
        | succ u ih =>
          intro hu
          have i1 := ih (by omega)
          have i2 := ((q2 u _ (by omega) i1.1).1.2.2.2.1 (by omega)).1.2.1 _ i1.2
          exact i2
      have hB : GF_X12_bestAt (t : Int) (e : Int) g1 = some (if t < L then ((ptW (nxC g1) (P t) e).1 : Int) else -1, g2) := by
        unfold GF_X12_bestAt
        rw [pfZ_ok, m_isIn _ ha (by decide) (by decide), cp_ok, if_pos hA, m_right1 (h9 g1), clZ_ok, ck_ok (by decide), if_neg (by decide), hfr1, cp_ok, m_isIn _ hb (by decide) (by omega), cp_ok, if_pos (by omega), m_right1 (h9 g1), clZ_ok, ck_ok (by decide), if_neg (by decide), h2, cp_ok, r2, ck_ok (by omega), ck_ok (by omega)]
        by_cases c : t < L
        · have q0 := q1 t c
          rw [if_pos (by omega), if_pos c, rdZ_at t rfl (by omega), q0.2.1, rdZ_at t rfl (by omega), q0.2.2.1]
          rw [lp_for (fun u => (((ptW (nxC g1) (P t) u).1 : Int), (((ptW (nxC g1) (P t) u).2 : Int), (u : Int)))) e ((ptW (nxC g1) (P t) e).1 : Int) (by rfl) (by omega)]
          · rfl
          · intro u hu
            have w := hwalk c u (by omega)
            have m6 := (mS_6 (x := g1 2) hI1.b u).2
            have n1 := q2 u _ (show u < nfS (g1 5) n by omega) w.1
            have n2 := q3 u _ (show u < nfS (g1 5) n by omega) w.1
            have n3 := (n2.2 _ w.2).2 (by omega)
            have l8 := n1.1.1.2
            have nn := n1.2.2.1 (by omega) (ptW (nxC g1) (P t) u).2 (by rw [← n2.1]; exact w.2)
            have es : ptW (nxC g1) (P t) (u + 1) = nxC g1 u (ptW (nxC g1) (P t) u).1 (ptW (nxC g1) (P t) u).2 := rfl
            dsimp only
            unfold GB_X12_bestAt_2 GF_X12_rankAt
            rw [ck_ok (by omega), ck_ok (by omega), if_neg (by omega), cp_ok, rdZ_at (8 * (6 * u + (ptW (nxC g1) (P t) u).1) + (ptW (nxC g1) (P t) u).2) (by omega) (by omega), rdZ_at (8 * (6 * u + (ptW (nxC g1) (P t) u).1) + (ptW (nxC g1) (P t) u).2) (by omega) (by omega), lt_ok, es, n3]
            unfold nxM
            dsimp only
            rw [Int.toNat_of_nonneg nn.1, Int.toNat_of_nonneg nn.2]
            rfl
          · dsimp only
            unfold GB_X12_bestAt_2
            rw [ck_ok (by omega), ck_ok (by omega), if_pos (by omega)]
        · rw [if_neg (by omega), if_neg c]
      refine ⟨_, g1, g2, ?_, hB, k9.trans (h9 g1), n, hI1.fr hR' hM' (show Fr _ _ g1 g2 from fF_X12_bestAt Fr.rf hB) (by decide) (by decide)⟩
      have hPW : PW (g1 2) (g1 5) n g1 := by
        rcases hI1.2.2.2.2.2.1 with q | q
        · exfalso
          have f1 := fF_X11_findRanking Fr.rf h1
          have : g1 0 10 = 1 := by
            unfold GF_X11_findRanking GJ_X11_findRanking_1 at h1
            obtain ⟨gp, hp1, hpI, hpf, -⟩ := iv_findPath hI
            rw [hp1, cp_ok] at h1
            by_cases z : gp 0 11 = 0
            · rw [z, ck_ok (by decide), if_pos rfl] at h1
              obtain ⟨g3, h3, -⟩ := p6_find ((hpI.pw hpf).ct hpI.b hpI.x hpI.n) hpI.b
              rw [h3, cp_ok, pfZ_ok] at h1
              cases h1
              rw [upZ_sn (by decide), (show Fr [29, 30, 31, 32, 33] [(28, 0), (28, 1), (28, 2)] gp g3 from fF_X6_find Fr.rf h3) 0 10 (by decide) (by decide)]
              exact hpf
            · rcases hpI.2.2.2.2.2.1 with q' | q'
              · exact absurd (hpf.symm.trans q'.1) (by decide)
              · rcases q'.2.2.1 with q'' | q''
                · exact absurd q'' z
                · rw [q''.1, ck_ok (by decide), if_neg (by decide)] at h1
                  cases h1
                  exact hpf
          exact absurd (this.symm.trans q.1) (by decide)
        · exact q.2.1
      have h11 : GF_X1_frameCount g1 = some (nfS (g1 5) n : Int) := by
        unfold GF_X1_frameCount
        rw [hPW.2.1]
      have hCT1 := hPW.ct hI1.b hI1.x hI1.n
      unfold GF_X11_bestAt GJ_X11_bestAt_2 GF_X6_chosenIn GJ_X6_chosenIn_5
      rw [ck_ok ha, if_neg (by omega), if_neg (by omega), ck_ok (by decide), if_neg (by decide), p2_has hI.s hI.n hI.b hb, cp_ok, if_pos hf, ck_ok (by decide), if_neg (by decide), h1, cp_ok, ck_ok ha, if_neg (by omega), rdZ_at 0 (by rfl) (by omega), r1, ck_ok (by omega)]
      by_cases c : t < L
      · have q0 := q1 t c
        rw [if_neg (by omega), if_neg (by omega), ck_ok hb, if_neg (by omega), h11, cp_ok, ck_ok (by omega), if_pos (by omega), rdZ_at t rfl (by omega), q0.1, if_pos c]
        have fin : lp (fun z => GB_X6_chosenIn_3 (e : Int) g1 z.1 z.2) (8 * ((P t).1 : Int) + ((P t).2 : Int), 0) (fun z => ex2 (fun x => GC_X6_chosenIn_4 x) (fun q => some q) z) = some ((ptW (nxC g1) (P t) e).1 : Int) := by
          have dm : ∀ u, u ≤ e → Int.tdiv (8 * ((ptW (nxC g1) (P t) u).1 : Int) + ((ptW (nxC g1) (P t) u).2 : Int)) 8 = ((ptW (nxC g1) (P t) u).1 : Int) ∧ Int.tmod (8 * ((ptW (nxC g1) (P t) u).1 : Int) + ((ptW (nxC g1) (P t) u).2 : Int)) 8 = ((ptW (nxC g1) (P t) u).2 : Int) ∧ inR (8 * ((ptW (nxC g1) (P t) u).1 : Int) + ((ptW (nxC g1) (P t) u).2 : Int)) := fun u hu => by
            have w := hwalk c u hu
            have m6 := (mS_6 (x := g1 2) hI1.b u).2
            have l8 := (q2 u _ (show u < nfS (g1 5) n by omega) w.1).1.1.2
            generalize (ptW (nxC g1) (P t) u).1 = A at *
            generalize (ptW (nxC g1) (P t) u).2 = D at *
            have e1 : 8 * (A : Int) + (D : Int) = ((8 * A + D : Nat) : Int) := by omega
            rw [e1]
            refine ⟨?_, ?_, by omega⟩
            · show ((((8 * A + D) / 8 : Nat)) : Int) = _
              omega
            · show ((((8 * A + D) % 8 : Nat)) : Int) = _
              omega
          rw [lp_for (fun u => (8 * ((ptW (nxC g1) (P t) u).1 : Int) + ((ptW (nxC g1) (P t) u).2 : Int), (u : Int))) e (Sum.inl (8 * ((ptW (nxC g1) (P t) e).1 : Int) + ((ptW (nxC g1) (P t) e).2 : Int))) (by rfl) (by omega)]
          · rw [ex2_l]
            unfold GC_X6_chosenIn_4
            have d := dm e (Nat.le_refl _)
            rw [dvZ_ok d.2.2 (by decide) (by decide), d.1]
          · intro u hu
            have w := hwalk c u (by omega)
            have d := dm u (by omega)
            have m6 := (mS_6 (x := g1 2) hI1.b u).2
            have n1 := (q2 u _ (show u < nfS (g1 5) n by omega) w.1).1
            have l8 := n1.1.2
            have nn := n1.2.1 (by omega) _ w.2
            have es : ptW (nxC g1) (P t) (u + 1) = nxC g1 u (ptW (nxC g1) (P t) u).1 (ptW (nxC g1) (P t) u).2 := rfl
            have cu := hCT1.2.2 u (by omega)
            have hhas : GF_X1_has (u : Int) ((ptW (nxC g1) (P t) u).1 : Int) g1 = some 1 := by rw [p1_has hCT1.1 hCT1.2.1 (by omega) cu.2.2.1 cu.2.1 (by omega), if_pos w.1]
            dsimp only
            unfold GB_X6_chosenIn_3 GF_X6_place GF_X11_cell
            rw [ck_ok (by omega), ck_ok (by omega), if_neg (by omega), ck_ok d.2.2, if_neg (by omega), dvZ_ok d.2.2 (by decide) (by decide), d.1, hhas, cp_ok, ck_ok (by decide), if_neg (by decide), dvZ_ok d.2.2 (by decide) (by decide), d.1, cp_ok, cp_ok, rmdZ_ok d.2.2 (by decide) (by decide), d.2.1, rdZ_at (8 * (6 * (u + 1) + (ptW (nxC g1) (P t) u).1) + (ptW (nxC g1) (P t) u).2) (by omega) (by omega), lt_ok, es]
            unfold nxC
            dsimp only
            have e1 : g1 30 (8 * (6 * (u + 1) + (ptW (nxC g1) (P t) u).1) + (ptW (nxC g1) (P t) u).2) = 8 * (((g1 30 (8 * (6 * (u + 1) + (ptW (nxC g1) (P t) u).1) + (ptW (nxC g1) (P t) u).2)).toNat / 8 : Nat) : Int) + (((g1 30 (8 * (6 * (u + 1) + (ptW (nxC g1) (P t) u).1) + (ptW (nxC g1) (P t) u).2)).toNat % 8 : Nat) : Int) := by omega
            unfold nxC at e1
            rw [← e1]
            rfl
          · dsimp only
            unfold GB_X6_chosenIn_3
            rw [ck_ok (by omega), ck_ok (by omega), if_pos (by omega)]
        rw [fin, cp_ok]
      · rw [if_pos (by omega), if_neg c, cp_ok]
    · right
      have hB : GF_X12_bestAt a b g = some (0, upZ (upZ g 55 9 0) 55 9 2) := by
        unfold GF_X12_bestAt GJ_X12_bestAt_4
        rw [pfZ_ok, m_isIn _ ha (by decide) (by decide), cp_ok, if_pos hA, m_right1 (h9 g), clZ_ok, ck_ok (by decide), if_neg (by decide), hfr, cp_ok, m_isIn _ hb (by decide) (by omega), cp_ok, if_neg (by omega), m_right0 (h9 g) (Or.inr rfl), clZ_ok, ck_ok (by decide), if_pos rfl]
      refine ⟨(1, 2), by simp, _, g, _, ?_, hB, upZ_ss _ _ _ _, n, (hI.flag hR' hM' 0).flag hR' hM' 2⟩
      unfold GF_X11_bestAt GJ_X11_bestAt_2
      rw [ck_ok ha, if_neg (by omega), if_neg (by omega), ck_ok (by decide), if_neg (by decide), p2_has hI.s hI.n hI.b hb, cp_ok, if_neg hf, ck_ok (by decide), if_pos rfl]
  · right
    have hB : GF_X12_bestAt a b g = some (0, upZ (upZ g 55 9 0) 55 9 1) := by
      unfold GF_X12_bestAt GJ_X12_bestAt_4
      rw [pfZ_ok, m_isIn _ ha (by decide) (by decide), cp_ok, if_neg hA, m_right0 (h9 g) (Or.inl rfl), clZ_ok, ck_ok (by decide), if_pos rfl]
    refine ⟨(2, 1), by simp, _, g, _, ?_, hB, upZ_ss _ _ _ _, n, (hI.flag hR' hM' 0).flag hR' hM' 1⟩
    unfold GF_X11_bestAt GJ_X11_bestAt_1 GJ_X11_bestAt_2
    rw [ck_ok ha]
    by_cases a0 : a < 0
    · rw [if_pos a0, ck_ok (by decide), if_pos rfl]
    · rw [if_neg a0, if_pos (by omega), ck_ok (by decide), if_pos rfl]
