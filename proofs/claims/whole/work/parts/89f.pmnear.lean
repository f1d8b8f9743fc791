/-! near -/
theorem zL_in {a : Int} (h : -9000000000000000000 < a ∧ a < 9000000000000000000) : (zL a).toInt = a := Int64.toInt_ofInt_of_le (by omega) (by omega)
theorem l64 {a : Int} (h : inR a) : Int32.toInt64 (zI a) = zL a := by
  apply Int64.toInt_inj.mp
  rw [Int32.toInt_toInt64, toInt_zI h, zL_in (by omega)]
theorem lgc {a b : Int} (ha : -9000000000000000000 < a ∧ a < 9000000000000000000) (hb : -9000000000000000000 < b ∧ b < 9000000000000000000) : (lg_cmp (zL a) (zL b)).toInt = if b < a then 1 else if a = b then 0 else -1 := by
  unfold lg_cmp
  by_cases c : b < a
  · rw [if_pos (by show zL b < zL a; rw [Int64.lt_iff_toInt_lt, zL_in ha, zL_in hb]; exact c), if_pos c]
    rfl
  · rw [if_neg (by show ¬ zL b < zL a; rw [Int64.lt_iff_toInt_lt, zL_in ha, zL_in hb]; exact c), if_neg c]
    by_cases d : a = b
    · rw [if_pos (by rw [d]), if_pos d]
      rfl
    · rw [if_neg (fun e => d (by rw [← zL_in ha, ← zL_in hb, e])), if_neg d]
      rfl
theorem zL0 : (0 : Int64) = zL 0 := by decide
theorem p_absL (g : uZ) {a : Int} (h : -9000000000000000000 < a ∧ a < 9000000000000000000) : GF_J9_abs_067f4 a g = some (ab a) := by
  have e : -(zL a) = zL (-a) := (Int64.ofInt_neg a).symm
  unfold GF_J9_abs_067f4
  rw [zL0, lgc h (by decide), ck_ok (by split <;> (try split) <;> decide), lt_ok, e, zL_in (show -9000000000000000000 < -a ∧ -a < 9000000000000000000 by omega)]
  unfold ab
  congr 1
  by_cases c : 0 < a
  · rw [if_pos c, if_pos (by decide), if_pos (by omega)]
  · rw [if_neg c]
    by_cases d : a = 0
    · rw [if_pos d, if_pos (by decide), if_pos (by omega)]
    · rw [if_neg d, if_neg (by decide), if_neg (by omega)]
theorem m_off (g : uZ) {a b : Int} (ha : inR a) (hb : inR b) : GF_X12_off (Int32.toInt64 (zI a)).toInt (Int32.toInt64 (zI b)).toInt g = some (ab (a - b)) := by
  rw [l64 ha, l64 hb, zL_in (by omega), zL_in (by omega)]
  have e1 : zL b - zL a = zL (b - a) := (Int64.ofInt_sub b a).symm
  have e2 : zL a - zL b = zL (a - b) := (Int64.ofInt_sub a b).symm
  unfold GF_X12_off
  rw [lgc (by omega) (by omega), ck_ok (by split <;> (try split) <;> decide), lt_ok, e1, e2, zL_in (show -9000000000000000000 < b - a ∧ b - a < 9000000000000000000 by omega), zL_in (show -9000000000000000000 < a - b ∧ a - b < 9000000000000000000 by omega)]
  unfold ab
  congr 1
  by_cases c : b < a
  · rw [if_pos c, if_neg (by decide), if_pos (by omega)]
  · rw [if_neg c]
    by_cases d : a = b
    · rw [if_pos d, if_pos (by decide), if_pos (by omega)]
      omega
    · rw [if_neg d, if_pos (by decide), if_neg (by omega)]
      omega
def nf (pl : Nat → Int) (a : Int) (c : Nat) : Int := -ab (pl c - a)
theorem ab_b {x k : Int} (h : -k ≤ x ∧ x ≤ k) : 0 ≤ ab x ∧ ab x ≤ k := by unfold ab; split <;> omega
theorem p3_nearest {g : uZ} {C lo hi : Nat} {a : Int} (h44 : g 44 9 = (C : Int)) (hC : C ≤ 400) (hb : ∀ c, c < C → 0 ≤ g 47 c ∧ g 47 c < 800) (hlh : lo ≤ hi) (hhC : hi ≤ C) (ha : inR a) : GF_X3_nearest a (lo : Int) (hi : Int) g = some (bst (nf (g 47) a) lo (hi - lo)).1 := by
  unfold GF_X3_nearest
  rw [lt_ok, zL0, zL_in (by decide)]
  rw [lp_for (fun k => ((bst (nf (g 47) a) lo k).1, (-(bst (nf (g 47) a) lo k).2, ((lo + k : Nat) : Int)))) (hi - lo) (bst (nf (g 47) a) lo (hi - lo)).1 (by rfl) (by omega)]
  · rfl
  · intro k hk
    have b := hb (lo + k) (by omega)
    have eb : bst (nf (g 47) a) lo (k + 1) = if (bst (nf (g 47) a) lo k).1 = -1 ∨ (bst (nf (g 47) a) lo k).2 < nf (g 47) a (lo + k) then (((lo + k : Nat) : Int), nf (g 47) a (lo + k)) else bst (nf (g 47) a) lo k := rfl
    have e1 : Int32.toInt64 (zI (g 47 (lo + k))) - Int32.toInt64 (zI a) = zL (g 47 (lo + k) - a) := by
      rw [l64 (by omega), l64 ha]
      exact (Int64.ofInt_sub _ _).symm
    have ei : ((lo + (k + 1) : Nat) : Int) = ((lo + k : Nat) : Int) + 1 := by omega
    have abk := ab_b (x := g 47 (lo + k) - a) (k := 4000000000) (by omega)
    dsimp only
    unfold GB_X3_nearest_4 GJ_X3_nearest_2 GJ_X3_nearest_3
    rw [ck_ok (by omega), ck_ok (by omega), if_neg (by omega), p3_at h44 hC (by omega), cp_ok, e1, zL_in (show -9000000000000000000 < g 47 (lo + k) - a ∧ g 47 (lo + k) - a < 9000000000000000000 by omega), p_absL g (by omega), cp_ok, eb, ei]
    rcases bst_in (nf (g 47) a) lo k with ⟨k0, z0⟩ | ⟨j, hj, zj⟩
    · rw [z0]
      dsimp only
      rw [ck_ok (by decide), if_pos rfl, lt_ok, if_pos (Or.inl rfl)]
      unfold nf
      rw [Int.neg_neg]
    · have abj := ab_b (x := g 47 (lo + j) - a) (k := 4000000000) (by have := hb (lo + j) (by omega); omega)
      rw [zj]
      dsimp only
      have en : -nf (g 47) a (lo + j) = ab (g 47 (lo + j) - a) := by unfold nf; rw [Int.neg_neg]
      rw [ck_ok (by omega), if_neg (by omega), en, lgc (by omega) (by omega), ck_ok (by split <;> (try split) <;> decide)]
      by_cases c : ab (g 47 (lo + k) - a) < ab (g 47 (lo + j) - a)
      · rw [if_neg (show ¬ ab (g 47 (lo + j) - a) < ab (g 47 (lo + k) - a) by omega), if_neg (show ¬ ab (g 47 (lo + k) - a) = ab (g 47 (lo + j) - a) by omega), if_neg (by decide), lt_ok, if_pos (Or.inr (by unfold nf; omega))]
        unfold nf
        rw [Int.neg_neg]
      · have h0 : 0 ≤ (if ab (g 47 (lo + j) - a) < ab (g 47 (lo + k) - a) then (1 : Int) else if ab (g 47 (lo + k) - a) = ab (g 47 (lo + j) - a) then 0 else -1) := by
          split
          · decide
          · split
            · decide
            · omega
        rw [if_pos h0, lt_ok, if_neg (show ¬ (((lo + j : Nat) : Int) = -1 ∨ nf (g 47) a (lo + j) < nf (g 47) a (lo + k)) by unfold nf; omega)]
        dsimp only
        rw [en]
  · dsimp only
    unfold GB_X3_nearest_4
    rw [ck_ok (by omega), ck_ok (by omega), if_pos (by omega)]
theorem bst_amx (f : Nat → Int) (lo : Nat) : ∀ k, bst f lo (k + 1) = ((amx f lo (k + 1) : Int), f (amx f lo (k + 1))) := by
  intro k
  induction k with
  | zero =>
    have e : amx f lo (0 + 1) = lo := by
      unfold amx amx
      rw [Nat.add_zero, if_pos (Int.le_refl _)]
    rw [e]
    unfold bst bst
    rw [if_pos (Or.inl rfl)]
    rfl
  | succ k ih =>
    have eb : bst f lo (k + 1 + 1) = if (bst f lo (k + 1)).1 = -1 ∨ (bst f lo (k + 1)).2 < f (lo + (k + 1)) then (((lo + (k + 1) : Nat) : Int), f (lo + (k + 1))) else bst f lo (k + 1) := rfl
    have ea : amx f lo (k + 1 + 1) = if f (lo + (k + 1)) ≤ f (amx f lo (k + 1)) then amx f lo (k + 1) else lo + (k + 1) := rfl
    rw [eb, ea, ih]
    dsimp only
    by_cases c : f (lo + (k + 1)) ≤ f (amx f lo (k + 1))
    · rw [if_pos c, if_neg (by omega)]
    · rw [if_neg c, if_pos (Or.inr (by omega))]
theorem o_near {R : uZ → Prop} (hR : KpL exR R) {a : Int} (ha : inR a) : opV (IV R MKg) (GF_X11_near a) (GF_X12_near a) := by
  have hR' : Kp R := hR.kp (by decide)
  have hM' : Kp MKg := kM.kp (by decide)
  rintro g ⟨n, hI⟩
  obtain ⟨g1, h1, hI1, hP, ⟨cn, hm⟩, -⟩ := iv_findMarks hR hI
  obtain ⟨g2, h2, k9, hRl, c49, c88, -⟩ := iv_marks hI1 hP hm (fr9 g1 0)
  have mq := hm.q hP hI1.s hI1.n hI1.x hI1.b
  have h44 := hm.2.1
  generalize cn (nS (g1 24) (nfS (g1 5) n)) = C at *
  obtain ⟨hn, hC, mb, -⟩ := mq
  have hb : ∀ c, c < C → 0 ≤ g1 47 c ∧ g1 47 c < 800 := fun c hc => by have := (mb c hc).1; omega
  have hnr := p3_nearest (lo := 0) (hi := C) h44 hC hb (Nat.zero_le _) (Nat.le_refl _) ha
  rw [Nat.sub_zero, show ((0 : Nat) : Int) = 0 from rfl] at hnr
  have hB : GF_X12_near a g1 = some (if (bst (nf (g1 47) a) 0 C).1 = -1 then (-1 : Int) else g1 47 (bst (nf (g1 47) a) 0 C).1.toNat, g2) := by
    unfold GF_X12_near
    rw [pfZ_ok, h2, cp_ok]
    rw [lp_for (fun k => ((bst (nf (g1 47) a) 0 k).1, (k : Int))) C (bst (nf (g1 47) a) 0 C).1 (by rfl) (by omega)]
    · unfold GC_X12_near_6 GJ_X12_near_5
      rcases bst_in (nf (g1 47) a) 0 C with ⟨k0, z0⟩ | ⟨j, hj, zj⟩
      · rw [z0]
        dsimp only
        rw [ck_ok (by decide), if_pos rfl, if_pos rfl]
      · rw [zj]
        dsimp only
        rw [Nat.zero_add, ck_ok (by omega), if_neg (by omega), if_neg (by omega), rdZ_at j rfl (by omega), (c88 j hj).1, Int.toNat_natCast]
    · intro k hk
      have b := hb k hk
      have eb : bst (nf (g1 47) a) 0 (k + 1) = if (bst (nf (g1 47) a) 0 k).1 = -1 ∨ (bst (nf (g1 47) a) 0 k).2 < nf (g1 47) a (0 + k) then (((0 + k : Nat) : Int), nf (g1 47) a (0 + k)) else bst (nf (g1 47) a) 0 k := rfl
      have ei : ((k + 1 : Nat) : Int) = (k : Int) + 1 := by omega
      have abk := ab_b (x := g1 47 k - a) (k := 4000000000) (by omega)
      rw [Nat.zero_add] at eb
      dsimp only
      unfold GB_X12_near_4 GJ_X12_near_2 GJ_X12_near_3
      rw [c49, ck_ok (by omega), ck_ok (by omega), if_neg (by omega), eb, ei]
      rcases bst_in (nf (g1 47) a) 0 k with ⟨k0, z0⟩ | ⟨j, hj, zj⟩
      · rw [z0]
        dsimp only
        rw [ck_ok (by decide), if_pos rfl, lt_ok, if_pos (Or.inl rfl)]
      · have bj := hb j (by omega)
        have abj := ab_b (x := g1 47 j - a) (k := 4000000000) (by omega)
        rw [zj, Nat.zero_add]
        dsimp only
        rw [ck_ok (by omega), if_neg (by omega), rdZ_at k rfl (by omega), (c88 k hk).1, m_off g2 (by omega) ha, cp_ok, rdZ_at j rfl (by omega), (c88 j (by omega)).1, m_off g2 (by omega) ha, cp_ok, lgc (by omega) (by omega), ck_ok (by split <;> (try split) <;> decide)]
        by_cases c : ab (g1 47 k - a) < ab (g1 47 j - a)
        · rw [if_neg (show ¬ ab (g1 47 j - a) < ab (g1 47 k - a) by omega), if_neg (show ¬ ab (g1 47 k - a) = ab (g1 47 j - a) by omega), if_neg (by decide), lt_ok, if_pos (Or.inr (by unfold nf; omega))]
        · have h0 : 0 ≤ (if ab (g1 47 j - a) < ab (g1 47 k - a) then (1 : Int) else if ab (g1 47 k - a) = ab (g1 47 j - a) then 0 else -1) := by
            split
            · decide
            · split
              · decide
              · omega
          rw [if_pos h0, lt_ok, if_neg (show ¬ ((j : Int) = -1 ∨ nf (g1 47) a j < nf (g1 47) a k) by unfold nf; omega)]
    · dsimp only
      unfold GB_X12_near_4
      rw [c49, ck_ok (by omega), ck_ok (by omega), if_pos (by omega)]
  refine ⟨_, g1, g2, ?_, hB, n, hI1.fr hR' hM' (show Fr _ _ g1 g2 from fF_X12_near Fr.rf hB) (by decide) (by decide)⟩
  unfold GF_X11_near GJ_X11_near_1 GF_X3_size
  rw [h1, cp_ok, cp_ok, h44, hnr, cp_ok]
  rcases bst_in (nf (g1 47) a) 0 C with ⟨k0, z0⟩ | ⟨j, hj, zj⟩
  · rw [z0]
    dsimp only
    rw [ck_ok (by decide), if_pos rfl, if_pos rfl]
  · rw [zj]
    dsimp only
    rw [Nat.zero_add, ck_ok (by omega), if_neg (by omega), if_neg (by omega), p3_at h44 hC hj, cp_ok, Int.toNat_natCast]
