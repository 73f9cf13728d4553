/-! what the leaves do, said of the mathematical state -/
theorem mod60 {x y : Int} {k l : Nat} (hk : k < 5) (hl : l < 5) (h : x % 60 * 5 + k = y % 60 * 5 + l) : x % 60 = y % 60 ∧ k = l := by omega
theorem bkW_cells (S : SV) (o : Nat) (deed clock letter at_ to_ : Int) (x : Int) (k : Nat) (hk : k < 5) : aI (bkW S o deed clock letter at_ to_) (o + 2) (x % 60 * 5 + k) = if x % 60 = (fI S o 2 + fI S o 3) % 60 then row5 deed clock letter at_ to_ k else aI S (o + 2) (x % 60 * 5 + k) := by
  unfold bkW
  simp only [aI_sA]
  by_cases h : x % 60 = (fI S o 2 + fI S o 3) % 60
  · rw [h]
    rcases (show k = 0 ∨ k = 1 ∨ k = 2 ∨ k = 3 ∨ k = 4 by omega) with rfl | rfl | rfl | rfl | rfl <;> simp [row5] <;> omega
  · rw [if_neg h]
    rw [if_neg (by omega), if_neg (by omega), if_neg (by omega), if_neg (by omega), if_neg (by omega), if_neg (by omega)]
theorem bkW_tally (S : SV) (o : Nat) (deed clock letter at_ to_ : Int) (k : Int) : aI (bkW S o deed clock letter at_ to_) (o + 1) k = if k = deed then aI S (o + 1) deed + 1 else aI S (o + 1) k := by
  unfold bkW
  simp only [aI_sA]
  by_cases h : k = deed
  · rw [if_pos ⟨trivial, h⟩, if_pos h]
  · rw [if_neg (fun z => h z.2), if_neg h, if_neg (by omega), if_neg (by omega), if_neg (by omega), if_neg (by omega), if_neg (by omega)]
theorem bkW_f (S : SV) (o : Nat) (deed clock letter at_ to_ : Int) (a k : Nat) : fI (bkW S o deed clock letter at_ to_) a k = fI S a k := rfl
theorem BookR.write {S : SV} {o : Nat} {ty : Int → Int} {lg : List Row} (h : BookR S o ty lg) (deed clock letter at_ to_ : Int) (hd : 0 ≤ deed ∧ deed < 9) : BookR (bkE S o deed clock letter at_ to_) o (fset ty deed (ty deed + 1)) (pushN 60 lg (row5 deed clock letter at_ to_)) := by
  obtain ⟨h1, h2, h3, h4, h5⟩ := h
  have hty : ∀ k : Int, 0 ≤ k → k < 9 → aI (bkW S o deed clock letter at_ to_) (o + 1) k = fset ty deed (ty deed + 1) k := by
    intro k q1 q2
    rw [bkW_tally, fset]
    by_cases h : k = deed
    · rw [if_pos h, if_pos h, h1 deed hd.1 hd.2]
    · rw [if_neg h, if_neg h, h1 k q1 q2]
  by_cases hl : lg.length < 60
  · have e1 : bkE S o deed clock letter at_ to_ = sF (bkW S o deed clock letter at_ to_) o 3 (fI S o 3 + 1) := if_pos (by omega)
    have e2 : pushN 60 lg (row5 deed clock letter at_ to_) = lg ++ [row5 deed clock letter at_ to_] := if_pos hl
    have ef : fI (sF (bkW S o deed clock letter at_ to_) o 3 (fI S o 3 + 1)) o 2 = fI S o 2 := by rw [fI_sF, if_neg (by omega)]; rfl
    rw [e1, e2]
    refine ⟨hty, ?_, ?_, ?_, ?_⟩
    · rw [fI_sF, if_pos ⟨rfl, rfl⟩, h2, List.length_append]; simp
    · rw [List.length_append]; simp; omega
    · rw [ef]; exact h4
    · intro i r hi k hk
      rw [ef, aI_sF, bkW_cells _ _ _ _ _ _ _ _ _ hk]
      by_cases hi2 : i < lg.length
      · rw [List.getElem?_append_left hi2] at hi
        rw [if_neg (by omega)]
        exact h5 i r hi k hk
      · rw [List.getElem?_append_right (by omega)] at hi
        have hi3 : i - lg.length < 1 := (List.getElem?_eq_some_iff.mp hi).1
        rw [show i - lg.length = 0 by omega] at hi
        cases hi
        rw [if_pos (by rw [h2, show (i : Int) = lg.length by omega])]
  · have e1 : bkE S o deed clock letter at_ to_ = sF (bkW S o deed clock letter at_ to_) o 2 ((fI S o 2 + 1) % 60) := if_neg (by omega)
    have e2 : pushN 60 lg (row5 deed clock letter at_ to_) = lg.drop 1 ++ [row5 deed clock letter at_ to_] := if_neg hl
    have ef : fI (sF (bkW S o deed clock letter at_ to_) o 2 ((fI S o 2 + 1) % 60)) o 2 = (fI S o 2 + 1) % 60 := by rw [fI_sF, if_pos ⟨rfl, rfl⟩]
    have hlen : (lg.drop 1).length = 59 := by rw [List.length_drop]; omega
    rw [e1, e2]
    refine ⟨hty, ?_, ?_, ?_, ?_⟩
    · rw [fI_sF, if_neg (by omega), bkW_f, h2, List.length_append, hlen]; simp; omega
    · rw [List.length_append, hlen]; simp
    · rw [ef]; omega
    · intro i r hi k hk
      rw [ef, aI_sF, bkW_cells _ _ _ _ _ _ _ _ _ hk]
      by_cases hi2 : i < 59
      · rw [List.getElem?_append_left (by omega), List.getElem?_drop] at hi
        rw [if_neg (by omega)]
        have := h5 (1 + i) r hi k hk
        rw [show ((fI S o 2 + 1) % 60 + (i : Int)) % 60 = (fI S o 2 + ((1 + i : Nat) : Int)) % 60 by omega]
        exact this
      · rw [List.getElem?_append_right (by omega)] at hi
        have hi3 : i - (lg.drop 1).length < 1 := (List.getElem?_eq_some_iff.mp hi).1
        rw [show i - (lg.drop 1).length = 0 by omega] at hi
        cases hi
        rw [if_pos (by omega)]
theorem bkE_same (S : SV) (o : Nat) (deed clock letter at_ to_ : Int) {lo hi : Nat} (h : o + 3 ≤ lo ∨ hi ≤ o) : Same S (bkE S o deed clock letter at_ to_) lo hi := by
  have hW : Same S (bkW S o deed clock letter at_ to_) lo hi := by
    unfold bkW
    refine Same.tr (Same.tr (Same.tr (Same.tr (Same.tr (Same.sA (by omega)) (Same.sA (by omega))) (Same.sA (by omega))) (Same.sA (by omega))) (Same.sA (by omega))) (Same.sA (by omega))
  unfold bkE
  split
  · exact hW.tr (Same.sF (by omega))
  · exact hW.tr (Same.sF (by omega))
theorem bkE_all {S : SV} (hr : AllR S) (o : Nat) {deed clock letter at_ to_ : Int} (h1 : R32 deed) (h2 : R32 clock) (h3 : R32 letter) (h4 : R32 at_) (h5 : R32 to_) (h6 : R32 (aI S (o + 1) deed + 1)) (h7 : fI S o 3 < 60 → R32 (fI S o 3 + 1)) : AllR (bkE S o deed clock letter at_ to_) := by
  have hW : AllR (bkW S o deed clock letter at_ to_) := by
    unfold bkW
    exact (((((hr.sA h1).sA h2).sA h3).sA h4).sA h5).sA h6
  unfold bkE
  split
  · exact hW.sF (h7 (by assumption))
  · exact hW.sF ⟨by omega, by omega⟩
-- boxes
def putS (S : SV) (o : Nat) (a letter fr : Int) : SV := sA (sA (sA S (o + 3) (a * 8 + aI S (o + 1) a % 8) letter) (o + 2) a fr) (o + 1) a (aI S (o + 1) a + 1)
theorem putS_same (S : SV) (o : Nat) (a letter fr : Int) {lo hi : Nat} (h : o + 4 ≤ lo ∨ hi ≤ o) : Same S (putS S o a letter fr) lo hi := ((Same.sA (by omega)).tr (Same.sA (by omega))).tr (Same.sA (by omega))
theorem putS_all {S : SV} (hr : AllR S) (o : Nat) {a letter fr : Int} (h1 : R32 letter) (h2 : R32 fr) (h3 : R32 (aI S (o + 1) a + 1)) : AllR (putS S o a letter fr) := ((hr.sA h1).sA h2).sA h3
theorem BoxR.knows {S : SV} {o : Nat} {g f : Int → Int} {w : Int → List Int} (h : BoxR S o g f w) {a letter : Int} (ha : 0 ≤ a ∧ a < 32) : knowsB S o a letter ↔ letter ∈ w a := by
  obtain ⟨h1, h2, h3, h4, h5⟩ := h a ha.1 ha.2
  constructor
  · rintro ⟨t, q1, q2, q3, q4⟩
    rw [h1] at q3
    -- the place t of the ring is that of one of the window
    have hl : ((w a).length : Int) = if g a < 8 then g a else 8 := h3
    have hu : ∃ u : Nat, u < (w a).length ∧ (g a - (w a).length + u) % 8 = t := by
      by_cases hg : g a < 8
      · rw [if_pos hg] at hl
        exact ⟨t.toNat, by omega, by omega⟩
      · rw [if_neg hg] at hl
        exact ⟨((t - g a) % 8).toNat, by omega, by omega⟩
    obtain ⟨u, hu1, hu2⟩ := hu
    have hx := h5 u ((w a)[u]) (List.getElem?_eq_getElem hu1)
    rw [hu2, q4] at hx
    rw [hx]
    exact List.getElem_mem hu1
  · intro hm
    obtain ⟨u, hu1, hu2⟩ := List.mem_iff_getElem.mp hm
    have hx := h5 u letter (by rw [List.getElem?_eq_getElem hu1, hu2])
    refine ⟨(g a - (w a).length + u) % 8, by omega, by omega, ?_, hx⟩
    rw [h1]
    split at h3 <;> omega
theorem BoxR.put {S : SV} {o : Nat} {g f : Int → Int} {w : Int → List Int} (h : BoxR S o g f w) {a letter fr : Int} (ha : 0 ≤ a ∧ a < 32) : BoxR (putS S o a letter fr) o (fset g a (g a + 1)) (fset f a fr) (fset w a (pushN 8 (w a) letter)) := by
  intro b hb1 hb2
  obtain ⟨h1, h2, h3, h4, h5⟩ := h b hb1 hb2
  obtain ⟨ha1, -⟩ := h a ha.1 ha.2
  have r1 : aI (putS S o a letter fr) (o + 1) b = if b = a then g a + 1 else g b := by
    unfold putS
    rw [aI_sA, aI_sA, aI_sA]
    by_cases e : b = a
    · rw [if_pos ⟨rfl, e⟩, if_pos e, ha1]
    · rw [if_neg (fun z => e z.2), if_neg e, if_neg (by omega), if_neg (by omega), h1]
  have r2 : aI (putS S o a letter fr) (o + 2) b = if b = a then fr else aI S (o + 2) b := by
    unfold putS
    rw [aI_sA, aI_sA, aI_sA]
    by_cases e : b = a
    · rw [if_neg (by omega), if_pos ⟨rfl, e⟩, if_pos e]
    · rw [if_neg (by omega), if_neg (fun z => e z.2), if_neg e, if_neg (by omega)]
  have r3 : ∀ x : Int, aI (putS S o a letter fr) (o + 3) x = if x = a * 8 + g a % 8 then letter else aI S (o + 3) x := by
    intro x
    unfold putS
    rw [aI_sA, aI_sA, aI_sA, ha1, if_neg (by omega), if_neg (by omega)]
    by_cases e : x = a * 8 + g a % 8
    · rw [if_pos ⟨rfl, e⟩, if_pos e]
    · rw [if_neg (fun z => e z.2), if_neg e]
  rw [r1, r2]
  unfold fset
  by_cases e : b = a
  · subst e
    simp only [if_true]
    by_cases hg : g b < 8
    · rw [if_pos hg] at h3
      have e2 : pushN 8 (w b) letter = w b ++ [letter] := if_pos (by omega)
      rw [e2]
      refine ⟨trivial, fun _ => trivial, ?_, by omega, ?_⟩
      · rw [List.length_append]; simp; split <;> omega
      · intro t x ht
        rw [r3]
        have hlen : ((w b ++ [letter]).length : Int) = g b + 1 := by rw [List.length_append]; simp; omega
        rw [hlen]
        by_cases ht2 : t < (w b).length
        · rw [List.getElem?_append_left ht2] at ht
          rw [if_neg (by omega)]
          have := h5 t x ht
          rw [show (g b - ((w b).length : Int) + t) % 8 = (g b + 1 - (g b + 1) + (t : Int)) % 8 by omega] at this
          exact this
        · rw [List.getElem?_append_right (by omega)] at ht
          have hi3 : t - (w b).length < 1 := (List.getElem?_eq_some_iff.mp ht).1
          rw [show t - (w b).length = 0 by omega] at ht
          cases ht
          rw [if_pos (by omega)]
    · rw [if_neg hg] at h3
      have e2 : pushN 8 (w b) letter = (w b).drop 1 ++ [letter] := if_neg (by omega)
      have hd : ((w b).drop 1).length = 7 := by rw [List.length_drop]; omega
      rw [e2]
      refine ⟨trivial, fun _ => trivial, ?_, by omega, ?_⟩
      · rw [List.length_append, hd]; simp; intro _; omega
      · intro t x ht
        rw [r3]
        have hlen : (((w b).drop 1 ++ [letter]).length : Int) = 8 := by rw [List.length_append, hd]; rfl
        rw [hlen]
        by_cases ht2 : t < 7
        · rw [List.getElem?_append_left (by omega), List.getElem?_drop] at ht
          rw [if_neg (by omega)]
          have := h5 (1 + t) x ht
          rw [show (g b - ((w b).length : Int) + ((1 + t : Nat) : Int)) % 8 = (g b + 1 - 8 + (t : Int)) % 8 by omega] at this
          exact this
        · rw [List.getElem?_append_right (by omega)] at ht
          have hi3 : t - ((w b).drop 1).length < 1 := (List.getElem?_eq_some_iff.mp ht).1
          rw [show t - ((w b).drop 1).length = 0 by omega] at ht
          cases ht
          rw [if_pos (by omega)]
  · simp only [if_neg e]
    refine ⟨trivial, h2, h3, h4, fun t x ht => ?_⟩
    rw [r3, if_neg (by omega)]
    exact h5 t x ht
-- strangers
theorem stP_same (S : SV) (o : Nat) (a b c d : Int) {lo hi : Nat} (h : o + 2 ≤ lo ∨ hi ≤ o) : Same S (stP S o a b c d) lo hi := (((((Same.sA (by omega)).tr (Same.sA (by omega))).tr (Same.sA (by omega))).tr (Same.sA (by omega))).tr (Same.sA (by omega))).tr (Same.sF (by omega))
theorem stP_all {S : SV} (hr : AllR S) (o : Nat) {a b c d : Int} (h1 : R32 a) (h2 : R32 b) (h3 : R32 c) (h4 : R32 d) (h5 : R32 (fI S o 1 + 1)) : AllR (stP S o a b c d) := (((((hr.sA h1).sA h2).sA h3).sA h4).sA (by decide)).sF h5
theorem stF_same (S : SV) (o : Nat) (i : Int) {lo hi : Nat} (h : o + 2 ≤ lo ∨ hi ≤ o) : Same S (stF S o i) lo hi := (Same.sF (by omega)).tr (Same.sC (by omega))
theorem stF_all {S : SV} (hr : AllR S) (o : Nat) {i : Int} (h5 : R32 (fI S o 1 - 1)) : AllR (stF S o i) := (hr.sF h5).sC
theorem StrR.down {S : SV} {o : Nat} {l : List Row} (h : StrR S o l) (hl : l.length < 8) (a b c d : Int) : StrR (stP S o a b c d) o (l ++ [row5 a b c d 0]) := by
  obtain ⟨h1, h2, h3⟩ := h
  refine ⟨?_, ?_, ?_⟩
  · unfold stP
    rw [fI_sF, if_pos ⟨rfl, rfl⟩, h1, List.length_append]; simp
  · rw [List.length_append]; simp; omega
  · intro i r hi k hk
    unfold stP
    simp only [aI_sF, aI_sA, h1]
    by_cases hi2 : i < l.length
    · rw [List.getElem?_append_left hi2] at hi
      rw [if_neg (by omega), if_neg (by omega), if_neg (by omega), if_neg (by omega), if_neg (by omega)]
      exact h3 i r hi k hk
    · rw [List.getElem?_append_right (by omega)] at hi
      have hi3 : i - l.length < 1 := (List.getElem?_eq_some_iff.mp hi).1
      have hi4 : i = l.length := by omega
      rw [show i - l.length = 0 by omega] at hi
      cases hi
      subst hi4
      rcases (show k = 0 ∨ k = 1 ∨ k = 2 ∨ k = 3 ∨ k = 4 by omega) with rfl | rfl | rfl | rfl | rfl <;> simp [row5] <;> omega
theorem StrR.forget {S : SV} {o : Nat} {l : List Row} (h : StrR S o l) (i : Nat) (hi : i < l.length) : StrR (stF S o i) o (l.eraseIdx i) := by
  obtain ⟨h1, h2, h3⟩ := h
  refine ⟨?_, ?_, ?_⟩
  · unfold stF
    rw [fI_sC, fI_sF, if_pos ⟨rfl, rfl⟩, h1, List.length_eraseIdx, if_pos hi]; omega
  · rw [List.length_eraseIdx, if_pos hi]; omega
  · intro t r ht k hk
    unfold stF
    rw [aI_sC, aI_sF, aI_sF, h1]
    rw [List.getElem?_eraseIdx] at ht
    by_cases ht2 : t < i
    · rw [if_pos ht2] at ht
      rw [if_neg (by omega)]
      exact h3 t r ht k hk
    · rw [if_neg ht2] at ht
      have hlt := (List.getElem?_eq_some_iff.mp ht).1
      rw [if_pos ⟨rfl, by omega, by omega⟩]
      have := h3 (t + 1) r ht k hk
      rw [show ((i : Int) + 1) * 5 + ((t : Int) * 5 + k - (i : Int) * 5) = ((t + 1 : Nat) : Int) * 5 + k by omega]
      exact this
theorem StrR.mark {S : SV} {o : Nat} {l : List Row} (h : StrR S o l) (i : Nat) (hi : i < l.length) : StrR (sA S (o + 1) ((i : Int) * 5 + 4) 1) o (l.set i (rset (l.getD i (fun _ => 0)) 4 1)) := by
  obtain ⟨h1, h2, h3⟩ := h
  refine ⟨h1.trans (by rw [List.length_set]), by rw [List.length_set]; exact h2, ?_⟩
  intro t r ht k hk
  rw [aI_sA]
  by_cases hti : i = t
  · subst hti
    rw [List.getElem?_set_self hi] at ht
    cases ht
    have hg : l[i]? = some (l.getD i (fun _ => 0)) := by rw [List.getD_eq_getElem?_getD, List.getElem?_eq_getElem hi]; rfl
    unfold rset
    by_cases hk4 : k = 4
    · subst hk4
      rw [if_pos ⟨rfl, rfl⟩, if_pos rfl]
    · rw [if_neg (by omega), if_neg hk4]
      exact h3 i _ hg k hk
  · rw [List.getElem?_set_ne hti] at ht
    rw [if_neg (by omega)]
    exact h3 t r ht k hk
theorem StrR.find {S : SV} {o : Nat} {l : List Row} (h : StrR S o l) (w f t : Int) : fndF (stM S o w f t) (fI S o 1).toNat 0 = (match l.findIdx? (strIs w f t) with | none => -4 | some i => (i : Int)) := by
  obtain ⟨h1, h2, h3⟩ := h
  have hm : ∀ (i : Nat) (r : Row), l[i]? = some r → (stM S o w f t (i : Int) ↔ strIs w f t r = true) := by
    intro i r hi
    have e0 := h3 i r hi 0 (by omega)
    have e1 := h3 i r hi 1 (by omega)
    have e2 := h3 i r hi 2 (by omega)
    unfold stM strIs
    rw [decide_eq_true_eq, ← e0, ← e1, ← e2]
    rfl
  have hn : (fI S o 1).toNat = l.length := by omega
  rcases fndF_spec (stM S o w f t) (fI S o 1).toNat 0 with ⟨q1, q2⟩ | ⟨q1, q2, q3, q4⟩
  · rw [q1]
    have : l.findIdx? (strIs w f t) = none := by
      rw [List.findIdx?_eq_none_iff]
      intro x hx
      obtain ⟨i, hi⟩ := List.getElem?_of_mem hx
      have hlt := (List.getElem?_eq_some_iff.mp hi).1
      have := q2 (i : Int) (by omega) (by omega)
      rw [hm i x hi] at this
      simpa using this
    rw [this]
  · generalize hz : fndF (stM S o w f t) (fI S o 1).toNat 0 = z at q1 q2 q3 q4 ⊢
    obtain ⟨n, rfl⟩ : ∃ n : Nat, z = n := ⟨z.toNat, by omega⟩
    have hlt : n < l.length := by omega
    have : l.findIdx? (strIs w f t) = some n := by
      rw [List.findIdx?_eq_some_iff_getElem]
      refine ⟨hlt, (hm n _ (List.getElem?_eq_getElem hlt)).mp q3, fun j hj => ?_⟩
      have := q4 (j : Int) (by omega) (by omega)
      rw [hm j _ (List.getElem?_eq_getElem (by omega))] at this
      simpa using this
    rw [this]
