/-! the mail's rows, said of the mathematical state -/
theorem fI_set8 (S : SV) (q : Nat) (a b c d e f g h : Int) (a' k : Nat) (hk : k < 8) : fI (set8 S q a b c d e f g h) a' k = if a' = q then row8 a b c d e f g h k else fI S a' k := by
  unfold set8
  simp only [fI_sF]
  by_cases e1 : a' = q
  · rw [if_pos e1]
    rcases (show k = 0 ∨ k = 1 ∨ k = 2 ∨ k = 3 ∨ k = 4 ∨ k = 5 ∨ k = 6 ∨ k = 7 by omega) with rfl | rfl | rfl | rfl | rfl | rfl | rfl | rfl <;> simp [e1, row8]
  · simp [e1]
theorem fI_set8_ne (S : SV) (q : Nat) (a b c d e f g h : Int) (a' k : Nat) (hn : a' ≠ q) : fI (set8 S q a b c d e f g h) a' k = fI S a' k := by
  unfold set8
  simp only [fI_sF]
  simp [hn]
section MailR
variable {S : SV} {o : Nat} {ad : Int → Nat} {cr : List Row} {liv : Int}
theorem MailR.qaE (h : MailR S o ad cr liv) {i : Int} (h0 : 0 ≤ i) (h1 : i < 120) : qa S o i = ad i := by
  unfold qa
  rw [h.2.2.1 i h0 h1]
  rfl
theorem MailR.rows (h : MailR S o ad cr liv) (hA : AdOk o ad) : RowsOk S o := by
  refine ⟨fun i q1 q2 => ?_, fun i j q1 q2 q3 q4 e => ?_⟩
  · rw [h.qaE q1 q2]
    exact ⟨h.2.2.1 i q1 q2, hA.1 i q1 q2⟩
  · rw [h.qaE q1 q2, h.qaE q3 q4] at e
    exact hA.2 i j q1 q2 q3 q4 e
theorem AdOk.ne (hA : AdOk o ad) {i j : Nat} (h1 : i < 120) (h2 : j < 120) (h : i ≠ j) : ad i ≠ ad j := fun e => h (by have := hA.2 i j (by omega) (by omega) (by omega) (by omega) e; omega)
theorem MailR.add (h : MailR S o ad cr liv) (hA : AdOk o ad) (hl : cr.length ≤ 119) (at_ letter fr to_ due : Int) : MailR (addS S o at_ letter fr to_ due) o ad (cr ++ [row8 at_ letter fr to_ 0 0 due 0]) (liv + 1) := by
  obtain ⟨h1, h2, h3, h4⟩ := id h
  have eq : qa S o (fI S o 1) = ad cr.length := by rw [h1]; exact h.qaE (by omega) (by omega)
  have hr := hA.1 (cr.length : Int) (by omega) (by omega)
  unfold addS
  rw [eq]
  refine ⟨?_, ?_, fun i q1 q2 => ?_, fun i r hi k hk => ?_⟩
  · rw [fI_sF, if_neg (by omega), fI_sF, if_pos ⟨rfl, rfl⟩, h1, List.length_append]; simp
  · rw [fI_sF, if_pos ⟨rfl, rfl⟩, h2]
  · exact h3 i q1 q2
  · by_cases hi2 : i < cr.length
    · rw [List.getElem?_append_left hi2] at hi
      have hr2 := hA.1 (i : Int) (by omega) (by omega)
      rw [fI_sF, if_neg (by omega), fI_sF, if_neg (by omega), fI_set8 _ _ _ _ _ _ _ _ _ _ _ _ hk, if_neg (hA.ne (by omega) (by omega) (by omega))]
      exact h4 i r hi k hk
    · rw [List.getElem?_append_right (by omega)] at hi
      have hi3 : i - cr.length < 1 := (List.getElem?_eq_some_iff.mp hi).1
      have hi4 : i = cr.length := by omega
      rw [show i - cr.length = 0 by omega] at hi
      cases hi
      subst hi4
      rw [fI_sF, if_neg (by omega), fI_sF, if_neg (by omega), fI_set8 _ _ _ _ _ _ _ _ _ _ _ _ hk, if_pos rfl]
theorem MailR.setF (h : MailR S o ad cr liv) (hA : AdOk o ad) (hl : cr.length ≤ 120) {i k : Nat} {r : Row} (hi : cr[i]? = some r) (v : Int) : MailR (sF S (ad i) k v) o ad (cr.set i (rset r k v)) liv := by
  obtain ⟨h1, h2, h3, h4⟩ := h
  have hlt := (List.getElem?_eq_some_iff.mp hi).1
  have hr := hA.1 (i : Int) (by omega) (by omega)
  refine ⟨?_, ?_, h3, fun t x ht k' hk' => ?_⟩
  · rw [fI_sF, if_neg (by omega), h1, List.length_set]
  · rw [fI_sF, if_neg (by omega), h2]
  · rw [fI_sF]
    by_cases hti : i = t
    · subst hti
      rw [List.getElem?_set_self hlt] at ht
      cases ht
      unfold rset
      by_cases e : k' = k
      · rw [if_pos ⟨rfl, e⟩, if_pos e]
      · rw [if_neg (fun z => e z.2), if_neg e]
        exact h4 i r hi k' hk'
    · rw [List.getElem?_set_ne hti] at ht
      have hlt2 := (List.getElem?_eq_some_iff.mp ht).1
      rw [if_neg (fun z => (hA.ne (by omega) (by omega) (Ne.symm hti)) z.1)]
      exact h4 t x ht k' hk'
theorem MailR.setL (h : MailR S o ad cr liv) (hA : AdOk o ad) (hl : cr.length ≤ 120) (v : Int) : MailR (sF S o 2 v) o ad cr v := by
  obtain ⟨h1, h2, h3, h4⟩ := h
  refine ⟨?_, ?_, h3, fun t x ht k' hk' => ?_⟩
  · rw [fI_sF, if_neg (by omega), h1]
  · rw [fI_sF, if_pos ⟨rfl, rfl⟩]
  · have hlt2 := (List.getElem?_eq_some_iff.mp ht).1
    have hr := hA.1 (t : Int) (by omega) (by omega)
    rw [fI_sF, if_neg (by omega)]
    exact h4 t x ht k' hk'
def remS (S : SV) (o q : Nat) : SV := sF (sF S q 0 (-1)) o 2 (fI S o 2 - 1)
theorem MailR.rem (h : MailR S o ad cr liv) (hA : AdOk o ad) (hl : cr.length ≤ 120) {i : Nat} {r : Row} (hi : cr[i]? = some r) : MailR (remS S o (ad i)) o ad (cr.set i (rset r 0 (-1))) (liv - 1) := by
  have h2 := (h.setF hA hl hi (k := 0) (-1)).setL hA (by rw [List.length_set]; exact hl) (liv - 1)
  unfold remS
  rw [h.2.1]
  exact h2
theorem MailR.onw (h : MailR S o ad cr liv) (hA : AdOk o ad) (hl : cr.length ≤ 119) {i : Nat} {r : Row} (hi : cr[i]? = some r) (at_ to_ marks due : Int) : MailR (onwS S o (ad i) at_ to_ marks due) o ad (cr ++ [row8 at_ (r 1) (r 2) to_ 0 (r 5 + 1) due marks]) (liv + 1) := by
  have hlt := (List.getElem?_eq_some_iff.mp hi).1
  have e1 := h.2.2.2 i r hi 1 (by omega)
  have e2 := h.2.2.2 i r hi 2 (by omega)
  have e5 := h.2.2.2 i r hi 5 (by omega)
  have eq : qa S o (fI S o 1) = ad cr.length := by rw [h.1]; exact h.qaE (by omega) (by omega)
  have h1 := h.add hA hl at_ (r 1) (r 2) to_ due
  have hg : (cr ++ [row8 at_ (r 1) (r 2) to_ 0 0 due 0])[cr.length]? = some (row8 at_ (r 1) (r 2) to_ 0 0 due 0) := by simp
  have h2 := h1.setF hA (by simp; omega) hg (k := 5) (r 5 + 1)
  have e3 : ∀ x : Row, (cr ++ [row8 at_ (r 1) (r 2) to_ 0 0 due 0]).set cr.length x = cr ++ [x] := fun x => by simp
  rw [e3] at h2
  have hg2 : (cr ++ [rset (row8 at_ (r 1) (r 2) to_ 0 0 due 0) 5 (r 5 + 1)])[cr.length]? = some (rset (row8 at_ (r 1) (r 2) to_ 0 0 due 0) 5 (r 5 + 1)) := by simp
  have h3 := h2.setF hA (by simp; omega) hg2 (k := 7) marks
  have e4 : ∀ x y : Row, (cr ++ [y]).set cr.length x = cr ++ [x] := fun x y => by simp
  rw [e4] at h3
  unfold onwS
  rw [eq, e1, e2, e5]
  refine ⟨?_, h3.2.1, h3.2.2.1, fun t x ht k hk => ?_⟩
  · rw [h3.1, List.length_append, List.length_append]; rfl
  · by_cases ht2 : t < cr.length
    · rw [List.getElem?_append_left ht2] at ht
      exact h3.2.2.2 t x (by rw [List.getElem?_append_left ht2]; exact ht) k hk
    · rw [List.getElem?_append_right (by omega)] at ht
      have hi3 : t - cr.length < 1 := (List.getElem?_eq_some_iff.mp ht).1
      have hi4 : t = cr.length := by omega
      rw [show t - cr.length = 0 by omega] at ht
      cases ht
      subst hi4
      rw [h3.2.2.2 cr.length (rset (rset (row8 at_ (r 1) (r 2) to_ 0 0 due 0) 5 (r 5 + 1)) 7 marks) (by simp) k hk]
      unfold rset
      rcases (show k = 0 ∨ k = 1 ∨ k = 2 ∨ k = 3 ∨ k = 4 ∨ k = 5 ∨ k = 6 ∨ k = 7 by omega) with rfl | rfl | rfl | rfl | rfl | rfl | rfl | rfl <;> simp [row8]
theorem set8_same {q : Nat} {a b c d e f g h : Int} {lo hi : Nat} (hq : q < lo ∨ hi ≤ q) : Same S (set8 S q a b c d e f g h) lo hi := (((((((Same.sF hq).tr (Same.sF hq)).tr (Same.sF hq)).tr (Same.sF hq)).tr (Same.sF hq)).tr (Same.sF hq)).tr (Same.sF hq)).tr (Same.sF hq)
theorem addS_same (h : MailR S o ad cr liv) (hA : AdOk o ad) (hl : cr.length ≤ 119) (at_ letter fr to_ due : Int) {lo hi : Nat} (hq : o + 122 ≤ lo ∨ hi ≤ o) : Same S (addS S o at_ letter fr to_ due) lo hi := by
  have eq : qa S o (fI S o 1) = ad cr.length := by rw [h.1]; exact h.qaE (by omega) (by omega)
  have hr := hA.1 (cr.length : Int) (by omega) (by omega)
  unfold addS
  rw [eq]
  exact ((set8_same (by omega)).tr (Same.sF (by omega))).tr (Same.sF (by omega))
theorem onwS_same (h : MailR S o ad cr liv) (hA : AdOk o ad) (hl : cr.length ≤ 119) (q : Nat) (at_ to_ marks due : Int) {lo hi : Nat} (hq : o + 122 ≤ lo ∨ hi ≤ o) : Same S (onwS S o q at_ to_ marks due) lo hi := by
  have eq : qa S o (fI S o 1) = ad cr.length := by rw [h.1]; exact h.qaE (by omega) (by omega)
  have hr := hA.1 (cr.length : Int) (by omega) (by omega)
  unfold onwS
  rw [eq]
  exact ((addS_same h hA hl _ _ _ _ _ hq).tr (Same.sF (by omega))).tr (Same.sF (by omega))
theorem set8_all (hr : AllR S) {q : Nat} {a b c d e f g h : Int} (h1 : R32 a) (h2 : R32 b) (h3 : R32 c) (h4 : R32 d) (h5 : R32 e) (h6 : R32 f) (h7 : R32 g) (h8 : R32 h) : AllR (set8 S q a b c d e f g h) := (((((((hr.sF h1).sF h2).sF h3).sF h4).sF h5).sF h6).sF h7).sF h8
theorem addS_all (hr : AllR S) (h : MailR S o ad cr liv) (hl : cr.length ≤ 119) (hv : R32 (liv + 1)) {at_ letter fr to_ due : Int} (h1 : R32 at_) (h2 : R32 letter) (h3 : R32 fr) (h4 : R32 to_) (h5 : R32 due) : AllR (addS S o at_ letter fr to_ due) := by
  unfold addS
  have e1 := h.1
  have e2 := h.2.1
  exact ((set8_all hr h1 h2 h3 h4 (by decide) (by decide) h5 (by decide)).sF ⟨by omega, by omega⟩).sF (by rw [e2]; exact hv)
theorem onwS_all (hr : AllR S) (h : MailR S o ad cr liv) (hl : cr.length ≤ 119) (hv : R32 (liv + 1)) {q : Nat} {at_ to_ marks due : Int} (h1 : R32 at_) (h4 : R32 to_) (h5 : R32 due) (h6 : R32 marks) (h7 : R32 (fI S q 5 + 1)) : AllR (onwS S o q at_ to_ marks due) := ((addS_all hr h hl hv h1 (hr.1 _ _) (hr.1 _ _) h4 h5).sF h7).sF h6
theorem remS_same {q : Nat} {lo hi : Nat} (hq : (q < lo ∨ hi ≤ q) ∧ (o < lo ∨ hi ≤ o)) : Same S (remS S o q) lo hi := (Same.sF hq.1).tr (Same.sF hq.2)
theorem remS_all (hr : AllR S) {q : Nat} (hv : R32 (fI S o 2 - 1)) : AllR (remS S o q) := (hr.sF (by decide)).sF hv
end MailR
