/-! the words that the methods' meanings are written in -/
def lt {α β : Type} (e : α) (k : α → β) : β := k e
theorem lt_e {α β : Type} {e : α} {k : α → Option β} {z : β} (h : lt e k = some z) : ∃ x, x = e ∧ k x = some z := ⟨e, rfl, h⟩
def vin (i : Int32) (n : Nat) : Bool := !(decide (i < 0)) && decide (i.toNatClampNeg < n)
theorem vin_in {i : Int32} {n : Nat} (h : vin i n = true) : vp_in i n := by
  simp only [vin, Bool.and_eq_true, Bool.not_eq_true', decide_eq_false_iff_not, decide_eq_true_eq] at h
  intro q
  rcases q with q | q
  · exact h.1 q
  · omega
def rd {β : Type} (f : Nat → Int32) (n : Nat) (i : Int32) (k : Int32 → Option β) : Option β := if vin i n = true then k (f i.toNatClampNeg) else none
theorem rd_e {β : Type} {f : Nat → Int32} {n : Nat} {i : Int32} {k : Int32 → Option β} {z : β} (h : rd f n i k = some z) : ∃ x, x = f i.toNatClampNeg ∧ vp_in i n ∧ k x = some z := by
  unfold rd at h
  split at h
  · rename_i c
    exact ⟨_, rfl, vin_in c, h⟩
  · cases h
def wr {β : Type} (σ : uS) (c n : Nat) (i x : Int32) (k : uS → Option β) : Option β := if vin i n = true then k (up σ c i.toNatClampNeg x) else none
theorem wr_e {β : Type} {σ : uS} {c n : Nat} {i x : Int32} {k : uS → Option β} {z : β} (h : wr σ c n i x k = some z) : ∃ σ2, σ2 = up σ c i.toNatClampNeg x ∧ vp_in i n ∧ k σ2 = some z := by
  unfold wr at h
  split at h
  · rename_i c
    exact ⟨_, rfl, vin_in c, h⟩
  · cases h
def pf {β : Type} (σ : uS) (c j : Nat) (x : Int32) (k : uS → Option β) : Option β := k (up σ c j x)
theorem pf_e {β : Type} {σ : uS} {c j : Nat} {x : Int32} {k : uS → Option β} {z : β} (h : pf σ c j x k = some z) : ∃ σ2, σ2 = up σ c j x ∧ k σ2 = some z := ⟨_, rfl, h⟩
def dv {β : Type} (x y : Int32) (k : Int32 → Option β) : Option β := if y = 0 then none else k (x / y)
theorem dv_e {β : Type} {x y : Int32} {k : Int32 → Option β} {z : β} (h : dv x y k = some z) : ∃ v, v = x / y ∧ ¬ y = 0 ∧ k v = some z := by
  unfold dv at h
  split at h
  · cases h
  · rename_i c
    exact ⟨_, rfl, c, h⟩
def rmd {β : Type} (x y : Int32) (k : Int32 → Option β) : Option β := if y = 0 then none else k (x - x / y * y)
theorem rmd_e {β : Type} {x y : Int32} {k : Int32 → Option β} {z : β} (h : rmd x y k = some z) : ∃ v, v = x - x / y * y ∧ ¬ y = 0 ∧ k v = some z := by
  unfold rmd at h
  split at h
  · cases h
  · rename_i c
    exact ⟨_, rfl, c, h⟩
def cp {α β : Type} (f : Option α) (k : α → Option β) : Option β := match f with
  | some v => k v
  | none => none
theorem cp_e {α β : Type} {f : Option α} {k : α → Option β} {z : β} (h : cp f k = some z) : ∃ v, f = some v ∧ k v = some z := by
  unfold cp at h
  split at h
  · rename_i v
    exact ⟨v, rfl, h⟩
  · cases h
def cl {α β : Type} (f : Option (α × uS)) (k : α → uS → Option β) : Option β := match f with
  | some (v, σ) => k v σ
  | none => none
theorem cl_e {α β : Type} {f : Option (α × uS)} {k : α → uS → Option β} {z : β} (h : cl f k = some z) : ∃ v σ, f = some (v, σ) ∧ k v σ = some z := by
  unfold cl at h
  split at h
  · rename_i v σ
    exact ⟨v, σ, rfl, h⟩
  · cases h
def bz {β : Type} (x : Int32) (k : Option β) : Option β := if x = 0 ∨ x = 1 then k else none
theorem bz_e {β : Type} {x : Int32} {k : Option β} {z : β} (h : bz x k = some z) : (x = 0 ∨ x = 1) ∧ k = some z := by
  unfold bz at h
  split at h
  · rename_i c
    exact ⟨c, h⟩
  · cases h
def jn {α β : Type} (k : α) (b : α → β) : β := b k
theorem jn_e {α β : Type} {k : α} {b : α → Option β} {z : β} (h : jn k b = some z) : ∃ j, j = k ∧ b j = some z := ⟨k, rfl, h⟩
theorem it_t {α : Type} {c : Prop} [Decidable c] {x y z : α} (hc : c) (h : ite c x y = z) : x = z := by rw [if_pos hc] at h; exact h
theorem it_f {α : Type} {c : Prop} [Decidable c] {x y z : α} (hc : ¬ c) (h : ite c x y = z) : y = z := by rw [if_neg hc] at h; exact h
theorem iv_t {α : Type} {c : Prop} [Decidable c] {x y z : α} (hc : c) (h : z = ite c x y) : z = x := by rw [if_pos hc] at h; exact h
theorem iv_f {α : Type} {c : Prop} [Decidable c] {x y z : α} (hc : ¬ c) (h : z = ite c x y) : z = y := by rw [if_neg hc] at h; exact h
def iter {α β : Type} : Nat → (α → Option (α ⊕ β)) → α → Option β
  | 0, _, _ => none
  | n + 1, f, a => match f a with
    | some (.inl a2) => iter n f a2
    | some (.inr b) => some b
    | none => none
def iter_k {α β : Type} (n : Nat) (f : α → Option (α ⊕ β)) (r : α ⊕ β) : Option β := match r with
  | .inl a => iter n f a
  | .inr b => some b
theorem iter_s {α β : Type} {n : Nat} {f : α → Option (α ⊕ β)} {a : α} {z : β} (h : iter (n + 1) f a = some z) : ∃ r, f a = some r ∧ iter_k n f r = some z := by
  unfold iter at h
  split at h
  · rename_i a2 e
    exact ⟨_, e, h⟩
  · rename_i b e
    exact ⟨_, e, h⟩
  · cases h
theorem iter_0 {α β : Type} {f : α → Option (α ⊕ β)} {a : α} {z : β} (h : iter 0 f a = some z) : False := by
  unfold iter at h
  cases h
theorem iter_l {α β : Type} {n : Nat} {f : α → Option (α ⊕ β)} {a : α} {r : α ⊕ β} {z : β} (h : some (Sum.inl a) = some r) (hi : iter_k n f r = some z) : iter n f a = some z := by
  cases h
  exact hi
theorem iter_r {α β : Type} {n : Nat} {f : α → Option (α ⊕ β)} {b : β} {r : α ⊕ β} {z : β} (h : some (Sum.inr b) = some r) (hi : iter_k n f r = some z) : z = b := by
  cases h
  exact (Option.some.inj hi).symm
def FU : Nat := 2 ^ 40
def lp {α β γ : Type} (f : α → Option (α ⊕ β)) (a : α) (k : β → Option γ) : Option γ := match iter FU f a with
  | some b => k b
  | none => none
theorem lp_e {α β γ : Type} {f : α → Option (α ⊕ β)} {a : α} {k : β → Option γ} {z : γ} (h : lp f a k = some z) : ∃ b, iter FU f a = some b ∧ k b = some z := by
  unfold lp at h
  split at h
  · rename_i b e
    exact ⟨b, e, h⟩
  · cases h
theorem g_top {l : Launch} {E : uE} {K : uK} {a b : Nat} {o : Int64} {σ : uS} {pc : Nat} {lv : List (Option Value)} {st : List Value} {x y : Int32} (h : x = y) (kk : Gd l E K a b o σ pc lv (.int x :: st)) : Gd l E K a b o σ pc lv (.int y :: st) := h ▸ kk
theorem g_topl {l : Launch} {E : uE} {K : uK} {a b : Nat} {o : Int64} {σ : uS} {pc : Nat} {lv : List (Option Value)} {st : List Value} {x y : Int64} (h : x = y) (kk : Gd l E K a b o σ pc lv (.long x :: st)) : Gd l E K a b o σ pc lv (.long y :: st) := h ▸ kk
theorem g_ret {l : Launch} {E : uE} {K : uK} {own : String} {cc : ByteArray} {fr lo a b : Nat} {o : Int64} {σ σ2 : uS} {pc : Nat} {lv : List (Option Value)} (hC : Cx E K own cc (some .int) fr lo) {v r : Int32} (h : some (v, σ) = some (r, σ2)) (hR : RetI E K a b o r σ2) (hd : decode cc pc = .ok (.ireturn, 1)) : Gd l E K a b o σ pc lv [.int v] := by
  cases h
  exact g_iret hC rfl hR hd
theorem g_retp {l : Launch} {E : uE} {K : uK} {own : String} {cc : ByteArray} {fr lo a b : Nat} {o : Int64} {σ : uS} {pc : Nat} {lv : List (Option Value)} (hC : Cx E K own cc (some .int) fr lo) {v r : Int32} (h : some v = some r) (hR : RetI E K a b o r σ) (hd : decode cc pc = .ok (.ireturn, 1)) : Gd l E K a b o σ pc lv [.int v] := by
  cases h
  exact g_iret hC rfl hR hd
theorem g_retz {l : Launch} {E : uE} {K : uK} {own : String} {cc : ByteArray} {fr lo a b : Nat} {o : Int64} {σ σ2 : uS} {pc : Nat} {lv : List (Option Value)} (hC : Cx E K own cc (some .boolean) fr lo) {v r : Int32} (h01 : v = 0 ∨ v = 1) (h : some (v, σ) = some (r, σ2)) (hR : RetI E K a b o r σ2) (hd : decode cc pc = .ok (.ireturn, 1)) : Gd l E K a b o σ pc lv [.int v] := by
  cases h
  exact g_zret hC rfl h01 hR hd
theorem g_retzp {l : Launch} {E : uE} {K : uK} {own : String} {cc : ByteArray} {fr lo a b : Nat} {o : Int64} {σ : uS} {pc : Nat} {lv : List (Option Value)} (hC : Cx E K own cc (some .boolean) fr lo) {v r : Int32} (h01 : v = 0 ∨ v = 1) (h : some v = some r) (hR : RetI E K a b o r σ) (hd : decode cc pc = .ok (.ireturn, 1)) : Gd l E K a b o σ pc lv [.int v] := by
  cases h
  exact g_zret hC rfl h01 hR hd
theorem g_retlp {l : Launch} {E : uE} {K : uK} {own : String} {cc : ByteArray} {fr lo a b : Nat} {o : Int64} {σ : uS} {pc : Nat} {lv : List (Option Value)} (hC : Cx E K own cc (some .long) fr lo) {v r : Int64} (h : some v = some r) (hR : RetL E K a b o r σ) (hd : decode cc pc = .ok (.lreturn, 1)) : Gd l E K a b o σ pc lv [.long v] := by
  cases h
  exact g_lret hC rfl hR hd
theorem g_retv {l : Launch} {E : uE} {K : uK} {own : String} {cc : ByteArray} {fr lo a b : Nat} {o : Int64} {σ σ2 : uS} {pc : Nat} {lv : List (Option Value)} (hC : Cx E K own cc none fr lo) (h : some σ = some σ2) (hR : RetV E K a b o σ2) (hd : decode cc pc = .ok (.return_, 1)) : Gd l E K a b o σ pc lv [] := by
  cases h
  exact g_vret hC rfl hR hd
theorem sw_ne {x k : Int32} {n : Int} (h : ¬ x = k) (e : k.toInt = n) : x.toInt ≠ n := fun h9 => h (Int32.toInt_inj.mp (h9.trans e.symm))
def ex2 {α β γ : Type} (k : α → γ) (g : β → γ) (z : α ⊕ β) : γ := match z with
  | .inl a => k a
  | .inr b => g b
def lo_set2 (lv : List (Option Value)) (i : Nat) (v : Value) : List (Option Value) := (lv.set i (some v)).set (i + 1) none
theorem lo_put2 {ls ls' : Array Slot} {nL i : Nat} {v : Value} {lv : List (Option Value)} (h : lo_has ls nL lv) (h2 : lv_has ls' nL ((i, v) :: (lo_as 0 lv).filter (fun q => !(q.1 == i) && (!(q.1 == i + 1) && !(q.1 + 1 == i && q.2.category == 2))))) (hp : i = 0 ∨ lo_n2 lv[i - 1]? = true) : lo_has ls' nL (lo_set2 lv i v) := by
  refine ⟨h2.1, h2.2.1, fun k w hk => ?_⟩
  unfold lo_set2 at hk
  by_cases h1 : k = i + 1
  · subst h1
    rw [List.getElem?_set_self'] at hk
    cases hq : (lv.set i (some v))[i + 1]? <;> simp_all
  · rw [List.getElem?_set_ne (fun q => h1 q.symm)] at hk
    by_cases hi : k = i
    · subst hi
      have hw : w = v := by
        rw [List.getElem?_set_self'] at hk
        cases hq : lv[k]? <;> simp_all
      subst hw
      exact h2.2.2 (k, w) List.mem_cons_self
    · rw [List.getElem?_set_ne (fun q => hi q.symm)] at hk
      refine h2.2.2 (k, w) (List.mem_cons_of_mem _ (List.mem_filter.mpr ⟨(lo_as_mem lv 0 (k, w)).mpr ⟨Nat.zero_le _, hk⟩, ?_⟩))
      have e1 : (k == i) = false := by simpa using hi
      have e3 : (k == i + 1) = false := by simpa using h1
      simp only [e1, e3, Bool.not_false, Bool.true_and]
      by_cases hk1 : k + 1 = i
      · subst hk1
        rcases hp with hp | hp
        · omega
        · rw [Nat.add_sub_cancel, hk] at hp
          simp only [lo_n2] at hp
          simp [hp]
      · have e2 : (k + 1 == i) = false := by simpa using hk1
        simp [e2]
theorem g_lstore {l : Launch} {E : uE} {K : uK} {own : String} {cc : ByteArray} {ret : Option FieldType} {fr lo a b : Nat} {o : Int64} {σ : uS} {pc : Nat} {lv : List (Option Value)} {st : List Value} (hC : Cx E K own cc ret fr lo) {k : Nat} {x : Int64} {lv2 : List (Option Value)} (hd : decode cc pc = .ok (.lstore k, 2)) (h2 : lo_set2 lv k (.long x) = lv2) (hp : k = 0 ∨ lo_n2 lv[k - 1]? = true) (hn : k + 1 < K.2.2.2.2.2) (kk : Gd l E K a b o σ (pc + 2) lv2 st) : Gd l E K a b o σ pc lv (.long x :: st) := by
  obtain ⟨⟨p, e, R, s, m, args⟩, ⟨below, meth, c, Q, nL⟩⟩ := K
  obtain ⟨hx, hb, hr, hml, hown, hts, hlk, hK, hj, hz, hfr, hlo⟩ := hC
  intro H locs ls hP hS hl
  exact lv_lstore hx hb hd hl.to hn rfl (fun ls2 h9 => kk H locs ls2 hP hS (h2 ▸ lo_put2 hl h9 hp))
