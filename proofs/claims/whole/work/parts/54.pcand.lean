/-! candidates as the document has them; the class's dips -/
def relF (x B : Nat → Int) (f : Nat) : Nat → Int := fun L => rlS x (bN B 2) (bN B 3) f L
def dipS (x B : Nat → Int) (f : Nat) : Nat → Bool := dipR (relF x B f) (bN B 6)
def louF (x B : Nat → Int) (f : Nat) : Bool := decide ((bN B 14 : Int) ≤ ldS x (bN B 2) (bN B 3) f)
def DS (x B : Nat → Int) (f : Nat) : Nat → Bool := fun L => louF x B f && dipS x B f L
def lgs (B : Nat → Int) : List Nat := List.range' (bN B 4) (bN B 5 + 1 - bN B 4)
def clD (D : Nat → Bool) (R : Nat → Int) (best : Nat) (l : List Nat) : List Nat := l.filter (fun L => D L && decide (ahd D R l L < best))
/-- the lags of a frame's candidates -/
def clS (x B : Nat → Int) (f : Nat) : List Nat := clD (DS x B f) (relF x B f) (bN B 7) (lgs B)
theorem er_nd : ∀ (l : List Nat) (w : Nat) (h : w < l.length), l.Nodup → l.erase l[w] = l.eraseIdx w
  | [], w, h, _ => by simp at h
  | a :: l, 0, _, _ => by simp
  | a :: l, w + 1, h, hn => by
    rw [List.nodup_cons] at hn
    have hw : w < l.length := by simpa using h
    have hne : ¬ a = l[w] := fun e => hn.1 (e ▸ List.getElem_mem hw)
    simp only [List.getElem_cons_succ, List.eraseIdx_cons_succ]
    rw [List.erase_cons_tail (by simpa using hne), er_nd l w hw hn.2]
theorem max_ex (R : Nat → Int) : ∀ (l : List Nat), l ≠ [] → ∃ w ∈ l, ∀ z ∈ l, z ≠ w → prc R z w
  | [], h => absurd rfl h
  | [a], _ => ⟨a, by simp, fun z hz hne => absurd (List.mem_singleton.mp hz) hne⟩
  | a :: b :: l, _ => by
    obtain ⟨w, hw, hm⟩ := max_ex R (b :: l) (by simp)
    by_cases h : prc R a w
    · refine ⟨w, List.mem_cons_of_mem _ hw, fun z hz hne => ?_⟩
      rcases List.mem_cons.mp hz with rfl | hz
      · exact h
      · exact hm z hz hne
    · by_cases haw : a = w
      · subst haw
        refine ⟨a, List.mem_cons_self, fun z hz hne => ?_⟩
        rcases List.mem_cons.mp hz with rfl | hz
        · exact absurd rfl hne
        · exact hm z hz hne
      · have hwa : prc R w a := by
          unfold prc at *
          omega
        refine ⟨a, List.mem_cons_self, fun z hz hne => ?_⟩
        rcases List.mem_cons.mp hz with rfl | hz
        · exact absurd rfl hne
        · by_cases hzw : z = w
          · subst hzw
            exact hwa
          · exact (hm z hz hzw).tr hwa
theorem top_ex (D : Nat → Bool) (R : Nat → Int) (best s : Nat) : ∀ n, ∃ k, topOk D R best (List.range' s n) k ∧ ∀ o, s + n ≤ o → k o = false
  | 0 => ⟨fun _ => false, topOk.nil _ _ _ _, fun _ _ => rfl⟩
  | n + 1 => by
    obtain ⟨k, h, h0⟩ := top_ex D R best s n
    have hne : ∀ o ∈ List.range' s n, o ≠ s + n := fun o ho => by have := List.mem_range'_1.mp ho; omega
    rw [List.range'_1_concat]
    cases hd : D (s + n)
    · exact ⟨k, (h.skip hd (h0 _ (by omega))).1, fun o ho => h0 o (by omega)⟩
    · by_cases hr : ((List.range' s n).filter k).length < best
      · exact ⟨_, (h.add hd hne hr).1, fun o ho => by rw [if_neg (by omega)]; exact h0 o (by omega)⟩
      · have hr2 : ((List.range' s n).filter k).length = best := by have := h.2.1; omega
        obtain ⟨w, hw, hm⟩ := max_ex R ((List.range' s n).filter k ++ [s + n]) (by simp)
        refine ⟨_, (h.drop hd hne hr2 hw hm ?_).1, fun o ho => ?_⟩
        · rw [← List.range'_1_concat]
          exact List.nodup_range'
        · rw [if_neg (by omega), h0 o (by omega)]
          rfl
theorem clD_len (D : Nat → Bool) (R : Nat → Int) (best s n : Nat) : (clD D R best (List.range' s n)).length ≤ best := by
  obtain ⟨k, h, -⟩ := top_ex D R best s n
  unfold clD
  rw [← h.end]
  exact h.2.1
theorem clS_len (x B : Nat → Int) (f : Nat) : (clS x B f).length ≤ bN B 7 := clD_len _ _ _ _ _
theorem clD_mem {D : Nat → Bool} {R : Nat → Int} {best s n L : Nat} (h : L ∈ clD D R best (List.range' s n)) : s ≤ L ∧ L < s + n := List.mem_range'_1.mp (List.mem_filter.mp h).1
theorem clS_mem {x B : Nat → Int} (hB : BOk B) {f L : Nat} (h : L ∈ clS x B f) : bN B 4 ≤ L ∧ L ≤ bN B 5 := by
  have h1 : bN B 4 ≤ L ∧ L < bN B 4 + (bN B 5 + 1 - bN B 4) := clD_mem h
  have := hB.lh
  omega
theorem p1_keepDips {g : uZ} {f : Nat} {x : Nat → Int} (hB : BOk (g 5)) (hx : XOk x) (hf : f < 100) (hrow : rowOk x (bN (g 5) 2) (bN (g 5) 3) (bN (g 5) 5) g f) : ∃ g', GF_X1_keepDips f g = some (((clD (dipS x (g 5) f) (relF x (g 5) f) (bN (g 5) 7) (lgs (g 5))).length : Int), g') ∧ arr g' 12 (6 * f) (clD (dipS x (g 5) f) (relF x (g 5) f) (bN (g 5) 7) (lgs (g 5))) ∧ ∀ j, j < 6 * f ∨ 6 * f + 6 ≤ j → g' 12 j = g 12 j := by
  have h3 := hB.b3
  have h4 := hB.b4
  have h5 := hB.b5
  have h7 := hB.b7
  have hlh := hB.lh
  have hRr : ∀ l, l ≤ bN (g 5) 5 + 1 → g 8 (50 * f + l) = relF x (g 5) f l ∧ inR (relF x (g 5) f l) := fun l hl => by
    have := rlS_bd hx (hop := bN (g 5) 2) (f := f) (wide := bN (g 5) 3) (L := l) (by omega) (by omega)
    exact ⟨(hrow.1 l hl).2, by unfold relF; omega⟩
  have em : (if g 5 7 < 5 then g 5 7 else 5) = ((bN (g 5) 7 : Nat) : Int) := by split <;> omega
  unfold GF_X1_keepDips
  rw [p0_7, cp_ok, p_min g (by omega) (by omega), cp_ok, p0_5, cp_ok, p0_4, cp_ok, em, h5.1, h4.1]
  suffices hh : ∃ z, lp (fun z => GB_X1_keepDips_3 (↑f) (↑(bN (g 5) 7)) (↑(bN (g 5) 5)) z.1 z.2.1 z.2.2) (0, (↑(bN (g 5) 4), g)) (fun z => GC_X1_keepDips_4 z.1 z.2) = some z ∧ z.1 = ((clD (dipS x (g 5) f) (relF x (g 5) f) (bN (g 5) 7) (lgs (g 5))).length : Int) ∧ arr z.2 12 (6 * f) (clD (dipS x (g 5) f) (relF x (g 5) f) (bN (g 5) 7) (lgs (g 5))) ∧ ∀ j, j < 6 * f ∨ 6 * f + 6 ≤ j → z.2 12 j = g 12 j by
    obtain ⟨⟨v, g'⟩, e, e2, h⟩ := hh
    exact ⟨g', by rw [e]; simp only at e2; rw [e2], h⟩
  generalize hD : dipS x (g 5) f = D at *
  generalize hR : relF x (g 5) f = R at *
  generalize hbest : bN (g 5) 7 = best at *
  generalize hlow : bN (g 5) 4 = low at *
  generalize hhigh : bN (g 5) 5 = high at *
  have hdip : ∀ L, dipR R (bN (g 5) 6) L = D L := fun L => by rw [← hD, ← hR]; rfl
  have hlgs : lgs (g 5) = List.range' low (high + 1 - low) := by unfold lgs; rw [hlow, hhigh]
  rw [hlgs]
  refine lp_go (fun t q => q.2.1 = ((low + t : Nat) : Int) ∧ Fr [12] [] g q.2.2 ∧ ∃ k, topOk D R best (List.range' low t) k ∧ (∀ o, low + t ≤ o → k o = false) ∧ q.1 = (((List.range' low t).filter k).length : Int) ∧ arr q.2.2 12 (6 * f) ((List.range' low t).filter k) ∧ ∀ j, j < 6 * f ∨ 6 * f + 6 ≤ j → q.2.2 12 j = g 12 j) (fun q => ∃ k, topOk D R best (List.range' low (high + 1 - low)) k ∧ q.1 = (((List.range' low (high + 1 - low)).filter k).length : Int) ∧ arr q.2 12 (6 * f) ((List.range' low (high + 1 - low)).filter k) ∧ ∀ j, j < 6 * f ∨ 6 * f + 6 ≤ j → q.2 12 j = g 12 j) (high + 1 - low) (by omega) ⟨by simp, Fr.rf, fun _ => false, topOk.nil _ _ _ _, fun _ _ => rfl, rfl, fun i hi => by simp at hi, fun _ _ => rfl⟩ ?_ ?_ ?_
  · rintro t ⟨v, w, q⟩ ht ⟨e2, hF, k, htop, h0, e1, ha, hout⟩
    simp only at e1 e2 hF ha hout
    subst e1 e2
    have q5 : q 5 = g 5 := hF.f 5 (by decide) (by decide)
    have q8 : q 8 = g 8 := hF.f 8 (by decide) (by decide)
    have hklen := htop.2.1
    have hne : ∀ o ∈ List.range' low t, o ≠ low + t := fun o ho => by have := List.mem_range'_1.mp ho; omega
    have hmem : ∀ l ∈ (List.range' low t).filter k ++ [low + t], l ≤ high := fun l hl => by
      rcases List.mem_append.mp hl with hl | hl
      · have := List.mem_range'_1.mp (List.mem_filter.mp hl).1
        omega
      · have := List.mem_singleton.mp hl
        omega
    dsimp only
    unfold GB_X1_keepDips_3 GJ_X1_keepDips_2
    rw [ck_ok (by omega), ck_ok (by omega), if_neg (by omega), p1_isDip (R := R) (hi := high) (q5 ▸ hB) hf (by omega) (by omega) (by omega) (by rw [q8]; exact hRr), cp_ok, q5, hdip]
    generalize hK : (List.range' low t).filter k = K at *
    cases hd : D (low + t)
    · rw [if_neg (by simp), ck_ok (by omega), if_pos rfl, lt_ok]
      refine ⟨_, rfl, ?_⟩
      dsimp only
      have hs := htop.skip hd (h0 _ (by omega))
      rw [List.range'_1_concat]
      refine ⟨by omega, hF, k, hs.1, fun o ho => h0 o (by omega), ?_, ?_, hout⟩
      · rw [hs.2, hK]
      · rw [hs.2, hK]
        exact ha
    · unfold GF_X11_cell
      rw [if_pos rfl, ck_ok (by omega), if_neg (by omega), cp_ok, wrZ_at (6 * f + K.length) (by omega) (by omega), lt_ok, ck_ok (by omega), ck_ok (by omega)]
      have ha2 : arr (upZ q 12 (6 * f + K.length) ((low + t : Nat) : Int)) 12 (6 * f) (K ++ [low + t]) := by
        intro i hi
        rw [List.length_append, List.length_singleton] at hi
        rw [upZ_s]
        by_cases hiK : i = K.length
        · subst hiK
          rw [if_pos rfl]
          simp
        · rw [if_neg (by omega), ha i (by omega), List.getD_eq_getElem?_getD, List.getD_eq_getElem?_getD, List.getElem?_append_left (by omega)]
      have hout2 : ∀ j, j < 6 * f ∨ 6 * f + 6 ≤ j → upZ q 12 (6 * f + K.length) ((low + t : Nat) : Int) 12 j = g 12 j := fun j hj => by
        rw [upZ_sn (by omega)]
        exact hout j hj
      by_cases hr : K.length < best
      · rw [if_pos (by omega), lt_ok]
        refine ⟨_, rfl, ?_⟩
        dsimp only
        have hs := htop.add hd hne (hK ▸ hr)
        rw [List.range'_1_concat]
        refine ⟨by omega, hF.wr (by decide), _, hs.1, fun o ho => ?_, ?_, ?_, hout2⟩
        · rw [if_neg (by omega)]
          exact h0 o (by omega)
        · rw [hs.2, hK]
          simp
        · rw [hs.2, hK]
          exact ha2
      · rw [if_neg (by omega)]
        have hlen2 : ((K ++ [low + t]).length : Int) = (K.length : Int) + 1 := by simp
        obtain ⟨g2, ed, w, hw, hm, ha3, hout3⟩ := p1_dropWorst (g := upZ q 12 (6 * f + K.length) ((low + t : Nat) : Int)) (R := R) (K := K ++ [low + t]) hf (by simp) (by simp; omega) (fun l hl => by
          have h1 := hmem l hl
          have h2 := hRr l (by omega)
          refine ⟨by omega, ?_, h2.2⟩
          rw [upZ_n (by decide), q8]
          exact h2.1) ha2
        have hFd : Fr [12] [] (upZ q 12 (6 * f + K.length) ((low + t : Nat) : Int)) g2 := fF_X1_dropWorst Fr.rf ed
        rw [← hlen2, ed, cp_ok, lt_ok, lt_ok]
        refine ⟨_, rfl, ?_⟩
        dsimp only
        have hnd : (List.range' low t ++ [low + t]).Nodup := by
          rw [← List.range'_1_concat]
          exact List.nodup_range'
        have hpw : (K ++ [low + t]).Pairwise (· < ·) := by
          have : ((List.range' low t ++ [low + t]).filter (fun o => if o = low + t then true else k o)) = K ++ [low + t] := by
            have h1 : (List.range' low t).filter (fun o => if o = low + t then true else k o) = K := by
              rw [← hK]
              exact List.filter_congr (fun o ho => by rw [if_neg (hne o ho)])
            have h2 : [low + t].filter (fun o => if o = low + t then true else k o) = [low + t] := by simp
            rw [List.filter_append, h1, h2]
          rw [← this, ← List.range'_1_concat]
          exact List.Pairwise.sublist List.filter_sublist (List.pairwise_lt_range' 1)
        have hlt : ∀ i j, i < j → j < (K ++ [low + t]).length → (K ++ [low + t]).getD i 0 < (K ++ [low + t]).getD j 0 := fun i j hij hj => by
          have := List.pairwise_iff_getElem.mp hpw i j (by omega) hj hij
          rw [List.getD_eq_getElem?_getD, List.getD_eq_getElem?_getD, List.getElem?_eq_getElem (by omega), List.getElem?_eq_getElem hj]
          exact this
        have hwm := getD_mem hw
        have hs := htop.drop (w := (K ++ [low + t]).getD w 0) hd hne (by rw [hK]; omega) (by rw [hK]; exact hwm) (by
          rw [hK]
          intro z hz hzw
          obtain ⟨j, hj, rfl⟩ := List.getElem_of_mem hz
          have hjg : (K ++ [low + t]).getD j 0 = (K ++ [low + t])[j] := by rw [List.getD_eq_getElem?_getD, List.getElem?_eq_getElem hj]; rfl
          have hjw : j ≠ w := fun q => hzw (by rw [← hjg, q])
          rw [← hjg]
          rcases hm j hj hjw with h | ⟨h, h2⟩
          · exact Or.inl h
          · exact Or.inr ⟨h, hlt j w h2 hw⟩) hnd
        have her : (K ++ [low + t]).erase ((K ++ [low + t]).getD w 0) = (K ++ [low + t]).eraseIdx w := by
          have hndK : (K ++ [low + t]).Nodup := hpw.imp (fun h => Nat.ne_of_lt h)
          have hg : (K ++ [low + t]).getD w 0 = (K ++ [low + t])[w] := by rw [List.getD_eq_getElem?_getD, List.getElem?_eq_getElem hw]; rfl
          rw [hg]
          exact er_nd _ w hw hndK
        rw [List.range'_1_concat]
        refine ⟨by omega, (hF.wr (by decide)).tr hFd (by decide) (by decide), _, hs.1, fun o ho => ?_, ?_, ?_, fun j hj => ?_⟩
        · rw [if_neg (by omega), h0 o (by omega)]
          rfl
        · rw [hs.2, hK, her, List.length_eraseIdx, if_pos hw]
          simp
          omega
        · rw [hs.2, hK, her]
          exact ha3
        · rw [hout3 j hj]
          exact hout2 j hj
  · rintro ⟨v, w, q⟩ ⟨e2, hF, k, htop, h0, e1, ha, hout⟩
    simp only at e1 e2 hF ha hout
    subst e1 e2
    dsimp only
    unfold GB_X1_keepDips_3
    rw [ck_ok (by omega), ck_ok (by omega), if_pos (by omega)]
    exact ⟨_, rfl, k, htop, rfl, ha, hout⟩
  · rintro ⟨v, q⟩ ⟨k, htop, e1, ha, hout⟩
    simp only at e1 ha hout
    refine ⟨_, rfl, ?_⟩
    dsimp only
    unfold clD
    rw [← htop.end]
    exact ⟨e1, ha, hout⟩
