/-! the meanings over Int: words, and how they stand for the machine's words -/
def zI (a : Int) : Int32 := Int32.ofInt a
def zL (a : Int) : Int64 := Int64.ofInt a
abbrev uZ : Type := Nat → Nat → Int
def zS (g : uZ) : uS := fun c j => zI (g c j)
abbrev inR (a : Int) : Prop := -2147483648 ≤ a ∧ a < 2147483648
theorem zI_toInt (x : Int32) : zI x.toInt = x := Int32.ofInt_toInt x
theorem zL_toInt (x : Int64) : zL x.toInt = x := Int64.ofInt_toInt x
theorem toInt_zI {a : Int} (h : inR a) : (zI a).toInt = a := Int32.toInt_ofInt_of_le (by omega) (by omega)
theorem zI_inj {a b : Int} (ha : inR a) (hb : inR b) (h : zI a = zI b) : a = b := by rw [← toInt_zI ha, ← toInt_zI hb, h]
theorem toInt_inR (x : Int32) : inR x.toInt := ⟨Int32.le_toInt x, Int32.toInt_lt x⟩
def ck {β : Type} (a : Int) (k : Option β) : Option β := if inR a then k else none
theorem ck_e {β : Type} {a : Int} {k : Option β} {z : β} (h : ck a k = some z) : inR a ∧ k = some z := by
  unfold ck at h
  split at h
  · rename_i c
    exact ⟨c, h⟩
  · cases h
def rdZ {β : Type} (f : Nat → Int) (n : Nat) (i : Int) (k : Int → Option β) : Option β := if 0 ≤ i ∧ i < n then k (f i.toNat) else none
def upZ (g : uZ) (c j : Nat) (x : Int) : uZ := fun c' => if c' = c then (fun j' => if j' = j then x else g c j') else g c'
def wrZ {β : Type} (g : uZ) (c n : Nat) (i x : Int) (k : uZ → Option β) : Option β := if 0 ≤ i ∧ i < n then k (upZ g c i.toNat x) else none
def pfZ {β : Type} (g : uZ) (c j : Nat) (x : Int) (k : uZ → Option β) : Option β := k (upZ g c j x)
def dvZ {β : Type} (x y : Int) (k : Int → Option β) : Option β := if inR x ∧ inR y ∧ ¬ y = 0 then k (x.tdiv y) else none
def rmdZ {β : Type} (x y : Int) (k : Int → Option β) : Option β := if inR x ∧ inR y ∧ ¬ y = 0 then k (x.tmod y) else none
def clZ {α β : Type} (f : Option (α × uZ)) (k : α → uZ → Option β) : Option β := match f with
  | some (v, g) => k v g
  | none => none
def bzZ {β : Type} (x : Int) (k : Option β) : Option β := if x = 0 ∨ x = 1 then k else none
def u_leastZ (j : Nat) : Int := ([0, 0, 8, 4, 2, 3, 0, 1, 0, 0, 0, 0, 0, 0, 0, 0] : List Int).getD j 0
def u_mostZ (j : Nat) : Int := ([0, 0, 40, 60, 47, 48, 2000, 5, 20, 2000, 50, 2000, 2000, 20, 2000, 500] : List Int).getD j 0
theorem u_least_k : ∀ j, u_least j = zI (u_leastZ j) := by
  intro j
  by_cases h : j < 16
  · exact (by decide +kernel : ∀ j : Fin 16, u_least j = zI (u_leastZ j)) ⟨j, h⟩
  · unfold u_least u_leastZ
    rw [List.getD_eq_getElem?_getD, List.getD_eq_getElem?_getD, List.getElem?_eq_none (by simpa using h), List.getElem?_eq_none (by simpa using h)]
    rfl
theorem u_most_k : ∀ j, u_most j = zI (u_mostZ j) := by
  intro j
  by_cases h : j < 16
  · exact (by decide +kernel : ∀ j : Fin 16, u_most j = zI (u_mostZ j)) ⟨j, h⟩
  · unfold u_most u_mostZ
    rw [List.getD_eq_getElem?_getD, List.getD_eq_getElem?_getD, List.getElem?_eq_none (by simpa using h), List.getElem?_eq_none (by simpa using h)]
    rfl
theorem e_add {x y : Int32} {a b : Int} (h1 : x = zI a) (h2 : y = zI b) : x + y = zI (a + b) := by subst h1 h2; exact (Int32.ofInt_add a b).symm
theorem e_sub {x y : Int32} {a b : Int} (h1 : x = zI a) (h2 : y = zI b) : x - y = zI (a - b) := by subst h1 h2; exact (Int32.ofInt_sub a b).symm
theorem e_mul {x y : Int32} {a b : Int} (h1 : x = zI a) (h2 : y = zI b) : x * y = zI (a * b) := by subst h1 h2; exact (Int32.ofInt_mul a b).symm
theorem e_neg {x : Int32} {a : Int} (h1 : x = zI a) : -x = zI (-a) := by subst h1; exact (Int32.ofInt_neg a).symm
theorem c_lt {x y : Int32} {a b : Int} (h1 : x = zI a) (h2 : y = zI b) (ra : inR a) (rb : inR b) : x < y ↔ a < b := by subst h1 h2; rw [Int32.lt_iff_toInt_lt, toInt_zI ra, toInt_zI rb]
theorem c_le {x y : Int32} {a b : Int} (h1 : x = zI a) (h2 : y = zI b) (ra : inR a) (rb : inR b) : x ≤ y ↔ a ≤ b := by subst h1 h2; rw [Int32.le_iff_toInt_le, toInt_zI ra, toInt_zI rb]
theorem c_eq {x y : Int32} {a b : Int} (h1 : x = zI a) (h2 : y = zI b) (ra : inR a) (rb : inR b) : x = y ↔ a = b := by subst h1 h2; exact ⟨zI_inj ra rb, fun h => h ▸ rfl⟩
theorem e_ite {c c' : Prop} [Decidable c] [Decidable c'] {x y : Int32} {a b : Int} (hc : c' ↔ c) (h1 : x = zI a) (h2 : y = zI b) : (if c' then x else y) = zI (if c then a else b) := by
  by_cases h : c
  · rw [if_pos h, if_pos (hc.mpr h), h1]
  · rw [if_neg h, if_neg (fun q => h (hc.mp q)), h2]
theorem e_iteL {c c' : Prop} [Decidable c] [Decidable c'] {x y : Int64} {a b : Int} (hc : c' ↔ c) (h1 : x = zL a) (h2 : y = zL b) : (if c' then x else y) = zL (if c then a else b) := by
  by_cases h : c
  · rw [if_pos h, if_pos (hc.mpr h), h1]
  · rw [if_neg h, if_neg (fun q => h (hc.mp q)), h2]
theorem e_pair {α β : Type} {x y : α} {z w : β} (h1 : x = y) (h2 : z = w) : (x, z) = (y, w) := by rw [h1, h2]
theorem lt_r {β β' : Type} {e : Int32} {a : Int} {kZ : Int → Option β} {k : Int32 → Option β'} {z : β} {w : β'} (he : e = zI a) (h : lt a kZ = some z) (hk : ∀ v, kZ v = some z → k (zI v) = some w) : lt e k = some w := by subst he; exact hk _ h
theorem lt_rL {β β' : Type} {e : Int64} {a : Int} {kZ : Int → Option β} {k : Int64 → Option β'} {z : β} {w : β'} (he : e = zL a) (h : lt a kZ = some z) (hk : ∀ v, kZ v = some z → k (zL v) = some w) : lt e k = some w := by subst he; exact hk _ h
theorem z_idx {i : Int} {n : Nat} (hn : n ≤ 6000) (h : 0 ≤ i ∧ i < n) : vin (zI i) n = true ∧ (zI i).toNatClampNeg = i.toNat := by
  have hr : inR i := by omega
  have h2 : (zI i).toNatClampNeg = i.toNat := Int32.toNatClampNeg_ofInt_of_le (by omega) (by omega)
  refine ⟨?_, h2⟩
  have h3 : ¬ (zI i < 0) := by
    rw [Int32.lt_iff_toInt_lt, toInt_zI hr]
    intro h9
    have : (0 : Int32).toInt = 0 := by decide
    omega
  unfold vin
  rw [h2]
  simp only [Bool.and_eq_true, Bool.not_eq_true', decide_eq_false_iff_not, decide_eq_true_eq]
  exact ⟨h3, by omega⟩
theorem rd_rK {β β' : Type} {f' : Nat → Int32} {f : Nat → Int} {n : Nat} {i : Int32} {a : Int} {kZ : Int → Option β} {k : Int32 → Option β'} {z : β} {w : β'} (hn : n ≤ 6000) (hf : ∀ j, f' j = zI (f j)) (hi : i = zI a) (h : rdZ f n a kZ = some z) (hk : ∀ v, kZ v = some z → k (zI v) = some w) : rd f' n i k = some w := by
  subst hi
  unfold rdZ at h
  split at h
  · rename_i c
    have h1 := z_idx hn c
    unfold rd
    rw [if_pos h1.1, h1.2, hf]
    exact hk _ h
  · cases h
theorem rd_r {β β' : Type} {g : uZ} {c n : Nat} {i : Int32} {a : Int} {kZ : Int → Option β} {k : Int32 → Option β'} {z : β} {w : β'} (hn : n ≤ 6000) (hi : i = zI a) (h : rdZ (g c) n a kZ = some z) (hk : ∀ v, kZ v = some z → k (zI v) = some w) : rd (zS g c) n i k = some w := rd_rK hn (fun _ => rfl) hi h hk
theorem zS_up (g : uZ) (c j : Nat) (x : Int) : up (zS g) c j (zI x) = zS (upZ g c j x) := by
  funext c' j'
  unfold up zS upZ
  by_cases h : c' = c
  · subst h
    simp only [if_true]
    unfold upd
    by_cases h2 : j' = j
    · simp [h2]
    · simp [h2]
  · simp only [if_neg h]
theorem wr_r {β β' : Type} {g : uZ} {c n : Nat} {i x : Int32} {a b : Int} {kZ : uZ → Option β} {k : uS → Option β'} {z : β} {w : β'} (hn : n ≤ 6000) (hi : i = zI a) (hx : x = zI b) (h : wrZ g c n a b kZ = some z) (hk : ∀ g2, kZ g2 = some z → k (zS g2) = some w) : wr (zS g) c n i x k = some w := by
  subst hi hx
  unfold wrZ at h
  split at h
  · rename_i q
    have h1 := z_idx hn q
    unfold wr
    rw [if_pos h1.1, h1.2, zS_up]
    exact hk _ h
  · cases h
theorem pf_r {β β' : Type} {g : uZ} {c j : Nat} {x : Int32} {b : Int} {kZ : uZ → Option β} {k : uS → Option β'} {z : β} {w : β'} (hx : x = zI b) (h : pfZ g c j b kZ = some z) (hk : ∀ g2, kZ g2 = some z → k (zS g2) = some w) : pf (zS g) c j x k = some w := by
  subst hx
  unfold pf
  rw [zS_up]
  exact hk _ h
theorem z_div {a b : Int} (ha : inR a) (hb : inR b) : zI a / zI b = zI (a.tdiv b) := (Int32.ofInt_tdiv (show (-2147483648 : Int) ≤ a by omega) (show a ≤ (2147483647 : Int) by omega) (show (-2147483648 : Int) ≤ b by omega) (show b ≤ (2147483647 : Int) by omega)).symm
theorem z_ne0 {b : Int} (hb : inR b) (h : ¬ b = 0) : ¬ zI b = 0 := fun q => h (zI_inj hb (by omega) (q.trans (by decide +kernel)))
theorem dv_r {β β' : Type} {x y : Int32} {a b : Int} {kZ : Int → Option β} {k : Int32 → Option β'} {z : β} {w : β'} (hx : x = zI a) (hy : y = zI b) (h : dvZ a b kZ = some z) (hk : ∀ v, kZ v = some z → k (zI v) = some w) : dv x y k = some w := by
  subst hx hy
  unfold dvZ at h
  split at h
  · rename_i c
    unfold dv
    rw [if_neg (z_ne0 c.2.1 c.2.2), z_div c.1 c.2.1]
    exact hk _ h
  · cases h
theorem rmd_r {β β' : Type} {x y : Int32} {a b : Int} {kZ : Int → Option β} {k : Int32 → Option β'} {z : β} {w : β'} (hx : x = zI a) (hy : y = zI b) (h : rmdZ a b kZ = some z) (hk : ∀ v, kZ v = some z → k (zI v) = some w) : rmd x y k = some w := by
  subst hx hy
  unfold rmdZ at h
  split at h
  · rename_i c
    unfold rmd
    rw [if_neg (z_ne0 c.2.1 c.2.2), z_div c.1 c.2.1, e_mul rfl rfl, e_sub rfl rfl]
    have e : a - a.tdiv b * b = a.tmod b := by
      have := Int.mul_tdiv_add_tmod a b
      rw [Int.mul_comm] at this
      omega
    rw [e]
    exact hk _ h
  · cases h
theorem cp_r {α α' β β' : Type} {e : α → α'} {G : Option α} {F : Option α'} {kZ : α → Option β} {k : α' → Option β'} {z : β} {w : β'} (hD : ∀ v, G = some v → F = some (e v)) (h : cp G kZ = some z) (hk : ∀ v, kZ v = some z → k (e v) = some w) : cp F k = some w := by
  obtain ⟨v, h1, h2⟩ := cp_e h
  rw [hD v h1]
  exact hk v h2
theorem cl_r {β β' : Type} {G : Option (Int × uZ)} {F : Option (Int32 × uS)} {kZ : Int → uZ → Option β} {k : Int32 → uS → Option β'} {z : β} {w : β'} (hD : ∀ v g, G = some (v, g) → F = some (zI v, zS g)) (h : clZ G kZ = some z) (hk : ∀ v g, kZ v g = some z → k (zI v) (zS g) = some w) : cl F k = some w := by
  unfold clZ at h
  split at h
  · rename_i v g
    rw [hD v g rfl]
    exact hk v g h
  · cases h
theorem bz_r {β β' : Type} {x : Int32} {a : Int} {kZ : Option β} {k : Option β'} {z : β} {w : β'} (hx : x = zI a) (h : bzZ a kZ = some z) (hk : kZ = some z → k = some w) : bz x k = some w := by
  subst hx
  unfold bzZ at h
  split at h
  · rename_i c
    unfold bz
    rw [if_pos (c.imp (fun q => by rw [q]; decide +kernel) (fun q => by rw [q]; decide +kernel))]
    exact hk h
  · cases h
theorem ite_r {c c' : Prop} [Decidable c] [Decidable c'] {β β' : Type} {X Y : Option β} {X' Y' : Option β'} {z : β} {w : β'} (hc : c' ↔ c) (h : (if c then X else Y) = some z) (h1 : X = some z → X' = some w) (h2 : Y = some z → Y' = some w) : (if c' then X' else Y') = some w := by
  by_cases q : c
  · rw [if_pos (hc.mpr q)]
    rw [if_pos q] at h
    exact h1 h
  · rw [if_neg (fun r => q (hc.mp r))]
    rw [if_neg q] at h
    exact h2 h
theorem iter_r2 {α α' β β' : Type} (e1 : α → α') (e2 : β → β') {fZ : α → Option (α ⊕ β)} {f : α' → Option (α' ⊕ β')} (hf : ∀ q r, fZ q = some r → f (e1 q) = some (Sum.map e1 e2 r)) : ∀ (n : Nat) (a : α) (b : β), iter n fZ a = some b → iter n f (e1 a) = some (e2 b)
  | 0, _, _, h => by unfold iter at h; cases h
  | n + 1, a, b, h => by
    unfold iter at h
    unfold iter
    split at h
    · rename_i a2 e
      rw [hf _ _ e]
      exact iter_r2 e1 e2 hf n a2 b h
    · rename_i b2 e
      rw [hf _ _ e]
      cases h
      rfl
    · cases h
theorem lp_r {α α' β β' γ γ' : Type} (e1 : α → α') (e2 : β → β') {fZ : α → Option (α ⊕ β)} {f : α' → Option (α' ⊕ β')} {aZ : α} {a : α'} {kZ : β → Option γ} {k : β' → Option γ'} {z : γ} {w : γ'} (ha : a = e1 aZ) (hf : ∀ q r, fZ q = some r → f (e1 q) = some (Sum.map e1 e2 r)) (h : lp fZ aZ kZ = some z) (hk : ∀ b, kZ b = some z → k (e2 b) = some w) : lp f a k = some w := by
  subst ha
  obtain ⟨b, h1, h2⟩ := lp_e h
  unfold lp
  rw [iter_r2 e1 e2 hf FU aZ b h1]
  exact hk b h2
