/-! set anew: grasp, nearest, down -/
theorem m_down (g : uZ) {a b : Int} (ha : inR a) (hb : inR b) (h0 : 0 < b) : GF_X12_down a b g = some (a / b) := by
  unfold GF_X12_down GJ_X12_down_1 GJ_X12_down_2
  rw [dvZ_ok ha hb (by omega), rmdZ_ok ha hb (by omega)]
  by_cases h : 0 ≤ a
  · have m1 := Int.tmod_nonneg b h
    have m2 := Int.tmod_lt_of_pos a h0
    rw [Int.tdiv_eq_ediv_of_nonneg h, ck_ok (by omega), ck_ok ha]
    by_cases c : a.tmod b = 0
    · rw [if_pos c]
    · rw [if_neg c, if_pos h]
  · have e : a.tdiv b = -((-a) / b) := by
      rw [← Int.tdiv_eq_ediv_of_nonneg (by omega : 0 ≤ -a), Int.neg_tdiv, Int.neg_neg]
    have e' : a.tmod b = -((-a) % b) := by
      rw [← Int.tmod_eq_emod_of_nonneg (by omega : 0 ≤ -a), Int.neg_tmod, Int.neg_neg]
    have m1 := Int.mul_ediv_add_emod (-a) b
    have m2 := Int.emod_nonneg (-a) (by omega : b ≠ 0)
    have m3 := Int.emod_lt_of_pos (-a) h0
    rw [e, e']
    generalize hqq : (-a) / b = q at *
    generalize hrr : (-a) % b = r at *
    have e2 : -q * b = -(b * q) := by rw [Int.neg_mul, Int.mul_comm]
    have e3 : (-q - 1) * b = -(b * q) - b := by rw [Int.sub_mul, e2, Int.one_mul]
    have e4 : (-q + 1) * b = -(b * q) + b := by rw [Int.add_mul, e2, Int.one_mul]
    rw [ck_ok (by omega), ck_ok ha]
    by_cases hr : r = 0
    · rw [if_pos (by omega), div_at (k := -q) h0 (by omega) (by omega)]
    · rw [if_neg (by omega), if_neg h, div_at (k := -q - 1) h0 (by omega) (by rw [Int.sub_add_cancel, e2]; omega)]
def SN (C lo hi fr to i : Nat) (pl so : Nat → Int) : Prop := (lo < hi ∧ hi ≤ C ∧ C ≤ 400 ∧ to ≤ 800 ∧ i < 100) ∧ (∀ c, lo ≤ c → c < hi → so c = (i : Int) ∧ ∃ m : Nat, pl c = (m : Int) ∧ fr ≤ m ∧ m < to) ∧ (∀ c, lo ≤ c → c + 1 < hi → pl c + 2 ≤ pl (c + 1)) ∧ (hi < C → so hi ≠ (i : Int)) ∧ ∀ c, c + 1 = lo → so c ≠ (i : Int)
def grS (lo hi : Nat) (pl : Nat → Int) (p : Nat → Nat) (c : Nat) : Int := if c + 1 < hi then pl (c + 1) - pl c else if lo < c then pl c - pl (c - 1) else (p (pl c).toNat : Int)
theorem SN.gp {C lo hi fr to i : Nat} {pl so : Nat → Int} (h : SN C lo hi fr to i pl so) {c : Nat} (h1 : lo ≤ c) (h2 : c < hi) : (c + 1 < C ∧ so c = so (c + 1)) ↔ c + 1 < hi := by
  obtain ⟨⟨a1, a2, a3, a4, a5⟩, b1, b2, b3, b4⟩ := h
  refine ⟨fun q => ?_, fun q => ⟨by omega, by rw [(b1 c h1 h2).1, (b1 (c + 1) (by omega) q).1]⟩⟩
  by_cases z : c + 1 < hi
  · exact z
  · have e : c + 1 = hi := by omega
    have w := b3 (by omega)
    rw [← e, ← q.2, (b1 c h1 h2).1] at w
    exact absurd rfl w
theorem SN.gr {C lo hi fr to i : Nat} {pl so : Nat → Int} {p : Nat → Nat} (h : SN C lo hi fr to i pl so) (hp : (∀ s, p s ≤ 48) ∧ ∀ s, s < to → 2 ≤ p s) {c : Nat} (h1 : lo ≤ c) (h2 : c < hi) : 2 ≤ grS lo hi pl p c ∧ grS lo hi pl p c < 800 := by
  obtain ⟨⟨a1, a2, a3, a4, a5⟩, b1, b2, b3, b4⟩ := h
  obtain ⟨-, m, e, f1, f2⟩ := b1 c h1 h2
  unfold grS
  by_cases q : c + 1 < hi
  · obtain ⟨-, m', e', f1', f2'⟩ := b1 (c + 1) (by omega) q
    have := b2 c h1 q
    rw [if_pos q]
    omega
  · rw [if_neg q]
    by_cases q' : lo < c
    · obtain ⟨-, m', e', f1', f2'⟩ := b1 (c - 1) (by omega) (by omega)
      have := b2 (c - 1) (by omega) (by omega)
      rw [show c - 1 + 1 = c by omega] at this
      rw [if_pos q']
      omega
    · have x1 := hp.1 m
      have x2 := hp.2 m f2
      rw [if_neg q', e, Int.toNat_natCast]
      omega
theorem p3_grasp {x B L : Nat → Int} {n N C lo hi fr to i : Nat} {p : Nat → Nat} {g : uZ} (h44 : g 44 9 = (C : Int)) (mq : MQd n C (g 47) (g 48)) (h : SN C lo hi fr to i (g 47) (g 48)) (hS : SpC x B L n N fr to p g) {c : Nat} (h1 : lo ≤ c) (h2 : c < hi) : GF_X3_grasp (c : Int) g = some (grS lo hi (g 47) p c) := by
  have gr := h.gr ⟨hS.p1, hS.p2⟩ h1 h2
  have gq := h.gp h1 h2
  obtain ⟨⟨a1, a2, a3, a4, a5⟩, b1, b2, b3, b4⟩ := id h
  unfold GF_X3_grasp GJ_X3_grasp_1
  rw [p3_gap h44 mq (by omega), cp_ok]
  unfold grS at gr ⊢
  by_cases q : c + 1 < hi
  · have e : gpS C (g 47) (g 48) c = g 47 (c + 1) - g 47 c := if_pos (gq.mpr q)
    rw [if_pos q] at gr
    rw [e, ck_ok (by omega), if_neg (by omega), cp_ok, if_pos q]
  · have e : gpS C (g 47) (g 48) c = -1 := if_neg (fun z => q (gq.mp z))
    rw [e, ck_ok (by decide), if_pos rfl, if_neg q]
    rw [if_neg q] at gr
    by_cases q' : lo < c
    · obtain ⟨d, rfl⟩ : ∃ d, c = d + 1 := ⟨c - 1, by omega⟩
      have e2 : gpS C (g 47) (g 48) d = g 47 (d + 1) - g 47 d := if_pos ((h.gp (by omega) (by omega)).mpr h2)
      rw [if_pos q', Nat.add_sub_cancel] at gr
      rw [show ((d + 1 : Nat) : Int) - 1 = (d : Int) by omega, p3_gap h44 mq (by omega), cp_ok, e2, ck_ok (by omega), if_neg (by omega), cp_ok, if_pos q', Nat.add_sub_cancel]
    · obtain ⟨-, m, em, f1, f2⟩ := b1 c h1 h2
      have e2 : GF_X3_gapBehind ((c : Int) - 1) g = some (-1) := by
        by_cases z : c = 0
        · unfold GF_X3_gapBehind GJ_X3_gapBehind_1 GJ_X3_gapBehind_2
          rw [p3_has h44 a3 (by omega), cp_ok, if_neg (by omega), ck_ok (by decide), if_pos rfl]
        · obtain ⟨d, rfl⟩ : ∃ d, c = d + 1 := ⟨c - 1, by omega⟩
          have w := b4 d (by omega)
          rw [show ((d + 1 : Nat) : Int) - 1 = (d : Int) by omega, p3_gap h44 mq (by omega)]
          unfold gpS
          rw [if_neg (fun z => w (z.2.trans (b1 (d + 1) h1 h2).1))]
      rw [e2, cp_ok, ck_ok (by decide), if_pos rfl, p3_at h44 a3 (by omega), cp_ok, em, hS.at f1 f2, cp_ok, if_neg q', Int.toNat_natCast]
theorem m_grasp {x B L : Nat → Int} {n N a b C lo hi fr to i : Nat} {p : Nat → Nat} {pl so : Nat → Int} {g : uZ} (hr : RM g C pl so) (mq : MQd n C pl so) (h : SN C lo hi fr to i pl so) (hS : SpM x B L n N i a b fr to p g) (h90 : g 90 i = (lo : Int)) {c : Nat} (h1 : lo ≤ c) (h2 : c < hi) : GF_X12_graspOf (c : Int) g = some (grS lo hi pl p c) := by
  have gq := h.gp h1 h2
  obtain ⟨⟨a1, a2, a3, a4, a5⟩, b1, b2, b3, b4⟩ := id h
  obtain ⟨es, m, em, f1, f2⟩ := b1 c h1 h2
  unfold GF_X12_graspOf GJ_X12_graspOf_1
  rw [m_hasGap hr mq (by omega), cp_ok]
  unfold grS
  by_cases q : c + 1 < hi
  · rw [if_pos (gq.mpr q), ck_ok (by decide), if_neg (by decide), m_gapOf hr a3 (by omega), cp_ok, if_pos q]
  · rw [if_neg (fun z => q (gq.mp z)), ck_ok (by decide), if_pos rfl, rdZ_at c rfl (by omega), (hr.2 c (by omega)).2, es, rdZ_at i rfl (by omega), h90, ck_ok (by omega), ck_ok (by omega), lt_ok, if_neg q]
    by_cases q' : lo < c
    · obtain ⟨d, rfl⟩ : ∃ d, c = d + 1 := ⟨c - 1, by omega⟩
      rw [if_neg (by omega), ck_ok (by decide), if_neg (by decide), show ((d + 1 : Nat) : Int) - 1 = (d : Int) by omega, m_gapOf hr a3 (by omega), cp_ok, if_pos q', Nat.add_sub_cancel]
    · rw [if_pos (by omega), ck_ok (by decide), if_pos rfl, rdZ_at c rfl (by omega), (hr.2 c (by omega)).2, es, rdZ_at c rfl (by omega), (hr.2 c (by omega)).1, em, hS.per f1 f2, cp_ok, if_neg q', Int.toNat_natCast]
def owN (lo hi : Nat) (pl : Nat → Int) (m : Int) : Nat := amx (nf pl m) lo (hi - lo)
theorem owN_b {lo hi : Nat} (h : lo < hi) (pl : Nat → Int) (m : Int) : lo ≤ owN lo hi pl m ∧ owN lo hi pl m < hi := by
  have := amx_b (nf pl m) lo (hi - lo)
  unfold owN
  omega
theorem p3_own {C lo hi fr to i : Nat} {g : uZ} (h44 : g 44 9 = (C : Int)) (h : SN C lo hi fr to i (g 47) (g 48)) (hb : ∀ c, c < C → 0 ≤ g 47 c ∧ g 47 c < 800) {m : Int} (hm : inR m) : GF_X3_nearest m (lo : Int) (hi : Int) g = some (owN lo hi (g 47) m : Int) := by
  obtain ⟨⟨a1, a2, a3, a4, a5⟩, -⟩ := h
  rw [p3_nearest h44 a3 hb (by omega) a2 hm]
  obtain ⟨k, hk⟩ : ∃ k, hi - lo = k + 1 := ⟨hi - lo - 1, by omega⟩
  unfold owN
  rw [hk, bst_amx]
theorem m_own {n C lo hi fr to i : Nat} {pl so : Nat → Int} {g : uZ} (hr : RM g C pl so) (h : SN C lo hi fr to i pl so) (h90 : g 90 i = (lo : Int)) (h91 : g 90 (i + 1) = (hi : Int)) (hb : ∀ c, c < C → 0 ≤ pl c ∧ pl c < 800) {m : Int} (hm : 0 ≤ m ∧ m < 5000) : GF_X12_markNear (i : Int) m g = some (owN lo hi pl m : Int) := by
  obtain ⟨⟨a1, a2, a3, a4, a5⟩, -⟩ := h
  have amb := amx_b (nf pl m) lo
  unfold GF_X12_markNear owN
  rw [rdZ_at i rfl (by omega), h90]
  rw [lp_for (fun k => ((amx (nf pl m) lo k : Int), ((lo + k : Nat) : Int))) (hi - lo) (amx (nf pl m) lo (hi - lo) : Int) (by rfl) (by omega)]
  · rfl
  · intro k hk
    have q := amb k
    have b1 := hb (lo + k) (by omega)
    have b2 := hb (amx (nf pl m) lo k) (by omega)
    have c1 := ab_b (x := pl (lo + k) - m) (k := 6000) (by omega)
    have c2 := ab_b (x := pl (amx (nf pl m) lo k) - m) (k := 6000) (by omega)
    have e : amx (nf pl m) lo (k + 1) = if nf pl m (lo + k) ≤ nf pl m (amx (nf pl m) lo k) then amx (nf pl m) lo k else lo + k := rfl
    dsimp only
    unfold GB_X12_markNear_2
    rw [rdZ_at (i + 1) (by omega) (by omega), h91, ck_ok (by omega), ck_ok (by omega), if_neg (by omega), rdZ_at (lo + k) rfl (by omega), (hr.2 _ (by omega)).1, m_apart g (by omega) (by omega), cp_ok, rdZ_at (amx (nf pl m) lo k) rfl (by omega), (hr.2 _ (by omega)).1, m_apart g (by omega) (by omega), cp_ok, ck_ok (by omega), ck_ok (by omega), lt_ok, lt_ok, e]
    have en : ∀ c, nf pl m c = -ab (pl c - m) := fun _ => rfl
    rw [en, en]
    by_cases c : ab (pl (amx (nf pl m) lo k) - m) ≤ ab (pl (lo + k) - m)
    · rw [if_pos c, if_pos (by omega)]; rfl
    · rw [if_neg c, if_neg (by omega)]; rfl
  · dsimp only
    unfold GB_X12_markNear_2
    rw [rdZ_at (i + 1) (by omega) (by omega), h91, ck_ok (by omega), ck_ok (by omega), if_pos (by omega)]
