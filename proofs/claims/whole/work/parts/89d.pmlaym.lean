/-! all marks, as the reference lays them -/
def RlS (x B L : Nat → Int) (n S : Nat) (sb : Nat → Nat) (g : uZ) : Prop := (g 55 6 = (n : Int) ∧ n ≤ 800 ∧ g 59 = x ∧ g 56 = B ∧ LGP (nfS B n) L g) ∧ (XOk x ∧ BOk B) ∧ (g 55 33 = (S : Int) ∧ SB L (nfS B n) S sb ∧ ∀ i, i ≤ S → g 78 i = (sb i : Int)) ∧ ∀ f, f < nfS B n → L f = 0 ∨ (2 ≤ L f ∧ L f ≤ 48)
theorem RlS.S {x B L : Nat → Int} {n S : Nat} {sb : Nat → Nat} {g : uZ} (h : RlS x B L n S sb g) : S ≤ 100 := by
  obtain ⟨⟨-, hn, -⟩, ⟨-, hB⟩, ⟨-, hSB, -⟩, -⟩ := h
  have := nfS_100 hB hn
  have := nS_le L (nfS B n)
  have := hSB.1
  omega
theorem RlS.fr {x B L : Nat → Int} {n S : Nat} {sb : Nat → Nat} {g g' : uZ} (h : RlS x B L n S sb g) {Ls : List Nat} {Ms : List (Nat × Nat)} (hF : Fr Ls Ms g g') (h1 : ∀ c ∈ [55, 59, 56, 64, 65, 66, 69, 78], c ∉ Ls) (h2 : ∀ c ∈ [59, 56, 64, 65, 66, 69, 78], c ∉ Ms.map Prod.fst) (h3 : (55, 6) ∉ Ms ∧ (55, 17) ∉ Ms ∧ (55, 33) ∉ Ms) : RlS x B L n S sb g' := by
  obtain ⟨⟨a1, a2, a3, a4, a5⟩, b, ⟨c1, c2, c3⟩, d⟩ := h
  have f := fun (c : Nat) (hc : c ∈ [59, 56, 64, 65, 66, 69, 78]) => hF.f c (h1 c (List.mem_cons_of_mem _ hc)) (h2 c hc)
  exact ⟨⟨(hF 55 6 (h1 55 (by decide)) h3.1).trans a1, a2, (f 59 (by decide)).trans a3, (f 56 (by decide)).trans a4, a5.fr (hF 55 17 (h1 55 (by decide)) h3.2.1) (f 64 (by decide)) (f 65 (by decide)) (f 66 (by decide)) (f 69 (by decide))⟩, b, ⟨(hF 55 33 (h1 55 (by decide)) h3.2.2).trans c1, c2, by rw [f 78 (by decide)]; exact c3⟩, d⟩
theorem RlS.voiced {x B L : Nat → Int} {n S i : Nat} {sb : Nat → Nat} {g : uZ} (h : RlS x B L n S sb g) (hi : i < S) : GF_X12_isVoiced (i : Int) g = some (if L (sb i) = 0 then 0 else 1) := by
  have hS := h.S
  obtain ⟨⟨a1, a2, a3, a4, a5⟩, ⟨d1, d2⟩, ⟨b1, b2, b3⟩, hL⟩ := h
  have q := b2.2.2 i hi
  have l := hL (sb i) q.1
  unfold GF_X12_isVoiced
  rw [rdZ_at i rfl (by omega), b3 i (by omega), a5.at q.1, cp_ok, ck_ok (by omega), lt_ok]
  by_cases z : L (sb i) = 0
  · rw [if_pos (by omega), if_pos z, bzZ_0]
  · rw [if_neg (by omega), if_neg z, bzZ_1]
theorem RlS.spm {x B L : Nat → Int} {n S i : Nat} {sb : Nat → Nat} {g : uZ} (h : RlS x B L n S sb g) (hi : i < S) (hv : L (sb i) ≠ 0) : SpM x B L n (nfS B n) i (sb i) (sb (i + 1)) (frS B sb i) (toS B n sb i) (prP B L n sb i) g := by
  have hS := h.S
  obtain ⟨⟨a1, a2, a3, a4, a5⟩, ⟨d1, d2⟩, ⟨b1, b2, b3⟩, hL⟩ := h
  have f := sp_facts d2 a2 b2 hi hL hv
  have nx := b2.nx hi
  exact ⟨⟨a1, a2, a3, a4, a5⟩, ⟨by omega, b3 i (by omega), b3 (i + 1) (by omega), nx.2.1, nx.2.2⟩, ⟨rfl, rfl⟩, d1, d2, fun s h1 h2 => ⟨((f.2.2.1 s h1 h2).1).2, (f.2.2.1 s h1 h2).2⟩, f.2.2.2.1, f.2.2.2.2⟩
theorem m_layMarks {x B L : Nat → Int} {n S : Nat} {sb : Nat → Nat} {g : uZ} (h : RlS x B L n S sb g) : ∃ g', (pfZ g 55 49 0 fun g2 => lp (fun z => GB_X12_laysMarks_3 z.1 z.2) (0, g2) (fun z => GC_X12_laysMarks_4 z)) = some g' ∧ Fr [86, 87, 88, 89, 90, 91] [(55, 49)] g g' ∧ ∃ cn, MKp x B L n sb S cn (g' 88) (g' 89) (g' 91) ∧ g' 55 49 = (cn S : Int) ∧ (∀ i, i ≤ S → g' 90 i = (cn i : Int)) ∧ few B L n S sb S (cn S) := by
  have hS := h.S
  obtain ⟨⟨a1, a2, a3, a4, a5⟩, ⟨d1, d2⟩, ⟨b1, b2, b3⟩, hL⟩ := id h
  rw [pfZ_ok]
  refine lp_go (fun t z => z.1 = (t : Int) ∧ Fr [86, 87, 88, 89, 90, 91] [(55, 49)] g z.2 ∧ ∃ cn : Nat → Nat, MKp x B L n sb t cn (z.2 88) (z.2 89) (z.2 91) ∧ z.2 55 49 = (cn t : Int) ∧ (∀ i, i < t → z.2 90 i = (cn i : Int)) ∧ few B L n S sb t (cn t)) (fun z => Fr [86, 87, 88, 89, 90, 91] [(55, 49)] g z ∧ ∃ cn : Nat → Nat, MKp x B L n sb S cn (z 88) (z 89) (z 91) ∧ z 55 49 = (cn S : Int) ∧ (∀ i, i < S → z 90 i = (cn i : Int)) ∧ few B L n S sb S (cn S)) S (by omega) ⟨rfl, Fr.rf.pf (by decide), fun _ => 0, ⟨rfl, fun i hi => absurd hi (Nat.not_lt_zero _)⟩, by dsimp only; rw [upZ_ss]; rfl, fun i hi => absurd hi (Nat.not_lt_zero _), Nat.zero_le _, Or.inl (Nat.zero_le _)⟩ ?_ ?_ ?_
  · rintro t ⟨w, z⟩ ht ⟨e1, hF, cn, hM, z44, z49, hfew⟩
    simp only at e1 hF hM z44 z49
    subst e1
    dsimp only
    have hc : ∀ y : uZ, Fr [86, 87, 88, 89, 90, 91] [(55, 49)] g y → RlS x B L n S sb y := fun y hy => h.fr hy (by decide) (by decide) (by decide)
    unfold GB_X12_laysMarks_3
    rw [(hc z hF).2.2.1.1, ck_ok (by omega), ck_ok (by omega), if_neg (by omega), z44, wrZ_at t rfl (by omega), wrZ_at t rfl (by omega)]
    generalize hz1 : upZ (upZ z 90 t (cn t : Int)) 91 t 0 = z1
    have f1 : Fr [86, 87, 88, 89, 90, 91] [(55, 49)] g z1 := by rw [← hz1]; exact (hF.wr (by decide)).wr (by decide)
    have m44 : z1 55 49 = (cn t : Int) := by rw [← hz1, upZ_n (by decide), upZ_n (by decide)]; exact z44
    have m47 : z1 88 = z 88 := by rw [← hz1, upZ_n (by decide), upZ_n (by decide)]
    have m48 : z1 89 = z 89 := by rw [← hz1, upZ_n (by decide), upZ_n (by decide)]
    have m49 : z1 90 = upZ z 90 t (cn t : Int) 90 := by rw [← hz1, upZ_n (by decide)]
    have m50t : z1 91 t = 0 := by rw [← hz1, upZ_ss]
    have m50 : ∀ j, j ≠ t → z1 91 j = z 91 j := fun j hj => by rw [← hz1, upZ_sn hj, upZ_n (by decide)]
    have c49 : ∀ (y : uZ) (k : Nat), y 90 = z1 90 → ∀ i, i < t + 1 → y 90 i = (((fun j => if j = t + 1 then cn t + k else cn j) i : Nat) : Int) := fun y k hy i hi => by
      dsimp only
      rw [if_neg (by omega), hy, m49]
      by_cases q : i = t
      · rw [q, upZ_ss]
      · rw [upZ_sn q]
        exact z49 i (by omega)
    rw [(hc z1 f1).voiced ht, cp_ok]
    unfold GJ_X12_laysMarks_2
    by_cases hv : L (sb t) = 0
    · rw [if_pos hv, ck_ok (by decide), if_pos rfl, lt_ok]
      refine ⟨_, rfl, by dsimp only; omega, f1, fun j => if j = t + 1 then cn t + 0 else cn j, ?_, by dsimp only; rw [if_pos rfl]; exact m44, c49 z1 0 rfl, by dsimp only; rw [if_pos rfl]; exact few.u d2 b2 hfew ht⟩
      exact hM.ext (fun c _ => by dsimp only; rw [m47, m48]; exact ⟨rfl, rfl⟩) (fun i hi => m50 i (by omega)) (fun q => absurd hv q) (fun _ => ⟨rfl, m50t⟩)
    · have hsp := sp_facts d2 a2 b2 ht hL hv
      rw [if_neg hv, ck_ok (by decide), if_neg (by decide)]
      obtain ⟨z3, k, s1, s2, s3, s4, s5, s6, s7, s8⟩ := m_marksOf (c0 := cn t) ((hc z1 f1).spm ht hv) hsp.1 (hfew.v ht hv) m44
      have g3 : Fr [86, 87, 88, 89, 91] [(55, 49)] z1 z3 := fF_X12_marksOf Fr.rf s1
      have f3 : Fr [86, 87, 88, 89, 90, 91] [(55, 49)] g z3 := f1.tr g3 (by decide) (by decide)
      rw [s1, cp_ok, lt_ok]
      refine ⟨_, rfl, by dsimp only; omega, f3, fun j => if j = t + 1 then cn t + k else cn j, ?_, by dsimp only; rw [if_pos rfl]; exact s3, c49 z3 k (g3.f 90 (by decide) (by decide)), by dsimp only; rw [if_pos rfl]; exact few.n b2 ht hv s4⟩
      refine hM.ext (fun c hcn => ?_) (fun i hi => ?_) (fun _ => ⟨s2, s5, s7⟩) (fun q => absurd q hv)
      · dsimp only
        rw [(s6 c hcn).1, (s6 c hcn).2, m47, m48]
        exact ⟨rfl, rfl⟩
      · dsimp only
        rw [s8 i (by omega), m50 i (by omega)]
  · rintro ⟨w, z⟩ ⟨e1, hF, hr⟩
    simp only at e1 hF hr
    subst e1
    dsimp only
    refine ⟨z, ?_, hF, hr⟩
    unfold GB_X12_laysMarks_3
    rw [hF 55 33 (by decide) (by decide), b1, ck_ok (by omega), ck_ok (by omega), if_pos (by omega)]
  · rintro z ⟨hF, cn, hM, z44, z49, hfew⟩
    unfold GC_X12_laysMarks_4
    rw [hF 55 33 (by decide) (by decide), b1, z44, wrZ_at S rfl (by omega)]
    refine ⟨_, rfl, hF.wr (by decide), cn, ?_, by rw [upZ_n (by decide)]; exact z44, fun i hi => ?_, hfew⟩
    · rw [upZ_n (by decide), upZ_n (by decide), upZ_n (by decide)]
      exact hM
    · by_cases q : i = S
      · rw [q, upZ_ss]
      · rw [upZ_sn q]
        exact z49 i (by omega)
/-! marks in the class's state -/
theorem PW.lag2 {x B : Nat → Int} {n : Nat} {g : uZ} (h : PW x B n g) (hB : BOk B) : ∀ f, f < nfS B n → g 24 f = 0 ∨ (2 ≤ g 24 f ∧ g 24 f ≤ 48) := by
  intro f hf
  have q := h.pth hf
  have r := lgS_r (x := x) hB f (g 23 f).toNat
  have b4 := hB.b4
  have b5 := hB.b5
  rw [q.2.2]
  rcases Nat.lt_or_ge ((g 23 f).toNat + 1) (mS x B f) with z | z
  · have := r.1 z
    right
    omega
  · left
    rw [r.2.2 z]
    rfl
theorem PW.cls {x B : Nat → Int} {n : Nat} {g : uZ} (h : PW (g 2) (g 5) n g) (h1 : g 1 2 = (n : Int)) (hn : n ≤ 800) (hx : XOk (g 2)) (hB : BOk (g 5)) : ClS (g 2) (g 5) (g 24) n (nS (g 24) (nfS (g 5) n)) (sbC (nfS (g 5) n) (nS (g 24) (nfS (g 5) n)) g) g := by
  have sp := h.2.2.2.2.2.1
  obtain ⟨s1, s2⟩ := sp.sb
  exact ⟨⟨h1, hn, rfl, rfl, rfl, h.2.2.2.1.1⟩, ⟨hx, hB⟩, ⟨sp.1, s1, s2⟩, h.lag2 hB⟩
def MKn (n : Nat) (g : uZ) (cn : Nat → Nat) : Prop := MKp (g 2) (g 5) (g 24) n (sbC (nfS (g 5) n) (nS (g 24) (nfS (g 5) n)) g) (nS (g 24) (nfS (g 5) n)) cn (g 47) (g 48) (g 50) ∧ g 44 9 = (cn (nS (g 24) (nfS (g 5) n)) : Int) ∧ (∀ i, i ≤ nS (g 24) (nfS (g 5) n) → g 49 i = (cn i : Int)) ∧ few (g 5) (g 24) n (nS (g 24) (nfS (g 5) n)) (sbC (nfS (g 5) n) (nS (g 24) (nfS (g 5) n)) g) (nS (g 24) (nfS (g 5) n)) (cn (nS (g 24) (nfS (g 5) n)))
def MKg (g : uZ) : Prop := ∃ n : Nat, g 1 2 = (n : Int) ∧ ∃ cn, MKn n g cn
theorem kM : KpL exM MKg := KpL.mk (fun g g' h => h)
theorem iv_findMarks {R : uZ → Prop} (hR : KpL exR R) {n : Nat} {g : uZ} (h : IVn R MKg n g) : ∃ g', GF_X11_findMarks g = some g' ∧ IVn R MKg n g' ∧ PW (g' 2) (g' 5) n g' ∧ (∃ cn, MKn n g' cn) ∧ g' 2 = g 2 ∧ g' 5 = g 5 := by
  obtain ⟨g1, h1, hI1, hfl, hP⟩ := iv_findPath h
  have fp := fF_X11_findPath Fr.rf h1
  have e15 := findPath_5 h1
  have e12 : g1 2 = g 2 := fp.f 2 (by decide) (by decide)
  unfold GF_X11_findMarks GJ_X11_findMarks_1
  rw [h1, cp_ok]
  obtain ⟨i1, i2, i3, i4, i5, i6, i7, i8⟩ := id hI1
  rcases i6 with q | ⟨k1, k2, k3, k4⟩
  · exact absurd (hfl.symm.trans q.1) (by decide)
  · rcases k4 with k4 | ⟨k4, k5⟩
    · rw [k4, ck_ok (by decide), if_pos rfl]
      have hcl := PW.cls (x := g1 2) (B := g1 5) hP i1 i2 i3 i4
      obtain ⟨g3, cn, h3, w1, w2, w3, w4⟩ := p3_find hcl
      have f3 : Fr [45, 46, 47, 48, 49, 50] [(44, 9)] g1 g3 := fF_X3_find Fr.rf h3
      rw [h3, cp_ok, pfZ_ok]
      have f4 : Fr [45, 46, 47, 48, 49, 50] [(0, 12), (44, 9)] g1 (upZ g3 0 12 1) := ((Fr.rf (L := [45, 46, 47, 48, 49, 50]) (M := [(0, 12), (44, 9)])).tr f3 (by decide) (by decide)).pf (by decide)
      have f34 : Fr [] [(0, 12)] g3 (upZ g3 0 12 1) := Fr.rf.pf (by decide)
      have k12 : upZ g3 0 12 1 0 12 = 1 := upZ_ss _ _ _ _
      generalize hg4 : upZ g3 0 12 1 = g4 at f4 f34 k12
      have e2 : g4 2 = g1 2 := f4.f 2 (by decide) (by decide)
      have e5 : g4 5 = g1 5 := f4.f 5 (by decide) (by decide)
      have e1 : g4 1 2 = (n : Int) := (f4 1 2 (by decide) (by decide)).trans i1
      have hmk : MKn n g4 cn := by
        unfold MKn
        have e24 : g4 24 = g1 24 := f4.f 24 (by decide) (by decide)
        have e35 : sbC (nfS (g1 5) n) (nS (g1 24) (nfS (g1 5) n)) g4 = sbC (nfS (g1 5) n) (nS (g1 24) (nfS (g1 5) n)) g1 := by
          unfold sbC
          rw [f4.f 35 (by decide) (by decide)]
        rw [e2, e5, e24, e35, f34.f 47 (by decide) (by decide), f34.f 48 (by decide) (by decide), f34.f 49 (by decide) (by decide), f34.f 50 (by decide) (by decide), f34 44 9 (by decide) (by decide)]
        exact ⟨w1, w2, w3, w4⟩
      have mR : R g1 → R g4 := hR g1 g4 (fun c _ hc _ => funext fun j => f4 c j (fun hm => (inN_no hc) (by
        have : ∀ c ∈ [45, 46, 47, 48, 49, 50], c ∈ exR := by decide
        exact this c hm)) (fun hm => (inN_no hc) (by
        have : ∀ q ∈ [(0, 12), (44, 9)], q.1 ∈ exR := by decide
        exact this _ hm))) (f4 1 2 (by decide) (by decide))
      have hP4 : PW (g4 2) (g4 5) n g4 := by
        rw [e2, e5]
        exact f4.tra (fun q => PW (g1 2) (g1 5) n q) k2
      refine ⟨g4, rfl, ⟨e1, i2, by rw [e2]; exact i3, by rw [e5]; exact i4, ?_, Or.inr ⟨(f4 0 10 (by decide) (by decide)).trans k1, hP4, ?_, Or.inr ⟨k12, n, e1, cn, hmk⟩⟩, ?_, ?_⟩, hP4, ⟨cn, hmk⟩, by rw [e2, e12], by rw [e5, e15]⟩
      · rw [e2, e5]
        exact f4.tra (fun q => Cache (g1 2) (g1 5) n q) i5
      · rcases k3 with k3 | ⟨k3, k6⟩
        · exact Or.inl ((f4 0 11 (by decide) (by decide)).trans k3)
        · exact Or.inr ⟨(f4 0 11 (by decide) (by decide)).trans k3, mR k6⟩
      · rw [e2, e5]
        exact i7.cg f4 (by decide) (by decide) (by decide)
      · exact f4.tra TT i8
    · rw [k4, ck_ok (by decide), if_neg (by decide)]
      obtain ⟨n', q1, q2⟩ := k5
      have : n' = n := by omega
      subst this
      exact ⟨g1, rfl, hI1, k2, q2, e12, e15⟩
