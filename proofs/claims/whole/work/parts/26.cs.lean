/-! the carrier's world: plan at p, round at r -/
def CarAt (K : List SH) (c p r : Nat) : Prop := K[c]? = some (.inr (2, [some p, some r]))
def PlanF (S : SV) (p : Nat) (pl : PL) : Prop := PlOk pl ∧ PlanOk S p ∧ fI S p 0 = pHs pl ∧ (∀ h, 0 ≤ h → h < pHs pl → aI S (p + 1) h = pWa pl h) ∧ (∀ a, 0 ≤ a → a < 32 → aI S (p + 6) a = pKd pl a ∧ aI S (p + 8) a = pLc pl a ∧ ∀ i, 0 ≤ i → i < pLc pl a → aI S (p + 9) (a * 4 + i) = pLd pl a i) ∧ (∀ d, 0 ≤ d → d < 4 → (hasRc S p d ↔ pRc pl d ≠ 0)) ∧ (∀ h d, 0 ≤ d → d < 4 → pRc pl d ≠ 0 → (isLastP S p h d ↔ lastM pl h d)) ∧ ∀ h d i, 0 ≤ d → d < 4 → 0 ≤ i → askedO S p h d i = ((asksM pl h d)[i.toNat]?).getD (-4)
theorem PlanF.same {S S' : SV} {p : Nat} {pl : PL} (h : PlanF S p pl) (hs : Same S S' p (p + 10)) : PlanF S' p pl := by
  have f0 : ∀ k, fI S' p k = fI S p k := (hs p (by omega) (by omega)).1
  have e1 : aI S' (p + 1) = aI S (p + 1) := funext (hs (p + 1) (by omega) (by omega)).2.1
  have e2 : aI S' (p + 2) = aI S (p + 2) := funext (hs (p + 2) (by omega) (by omega)).2.1
  have e3 : aI S' (p + 3) = aI S (p + 3) := funext (hs (p + 3) (by omega) (by omega)).2.1
  have e4 : aI S' (p + 4) = aI S (p + 4) := funext (hs (p + 4) (by omega) (by omega)).2.1
  have e5 : aI S' (p + 5) = aI S (p + 5) := funext (hs (p + 5) (by omega) (by omega)).2.1
  have e6 : aI S' (p + 6) = aI S (p + 6) := funext (hs (p + 6) (by omega) (by omega)).2.1
  have e8 : aI S' (p + 8) = aI S (p + 8) := funext (hs (p + 8) (by omega) (by omega)).2.1
  have e9 : aI S' (p + 9) = aI S (p + 9) := funext (hs (p + 9) (by omega) (by omega)).2.1
  have r1 : rhIs S' p = rhIs S p := by unfold rhIs; rw [e3]
  have r2 : prefO S' p = prefO S p := by unfold prefO; rw [r1, e2, e4]
  have r3 : hasRc S' p = hasRc S p := by unfold hasRc; rw [e2, f0]
  have r4 : isLastP S' p = isLastP S p := by unfold isLastP; rw [r2, r3, e4, e5]
  have r5 : askedO S' p = askedO S p := by unfold askedO; rw [r2, e2, e3, e4, e5]
  have r6 : PlanOk S' p = PlanOk S p := by unfold PlanOk; rw [f0, f0, e2, e5]
  unfold PlanF
  rw [r3, r4, r5, r6, f0, e1, e6, e8, e9]
  exact h
def CS (K : List SH) (S : SV) (c p r : Nat) (ad : Int → Nat) (cr : List Row) (liv : Int) (e : EN) (pl : PL) : Prop := (CarAt K c p r ∧ PlanAt K p ∧ RoundAt K r ∧ AdOk (r + 2) ad) ∧ p + 10 ≤ r ∧ AllR S ∧ PlanF S p pl ∧ RoundR S r ad cr liv e ∧ cr.length ≤ 120
def RowB (N : Int) (pl : PL) (x : Row) : Prop := (0 ≤ x 0 ∧ x 0 < pHs pl) ∧ (0 ≤ x 1 ∧ x 1 < N) ∧ (x 2 = -4 ∨ 0 ≤ x 2 ∧ x 2 < 32) ∧ (0 ≤ x 3 ∧ x 3 < 32) ∧ (0 ≤ x 4 ∧ x 4 ≤ 5) ∧ (0 ≤ x 5 ∧ x 5 ≤ 8) ∧ (0 ≤ x 6 ∧ x 6 < N) ∧ R32 (x 7)
def EnB (N : Int) (e : EN) : Prop := (0 ≤ eCl e ∧ eCl e < N) ∧ (0 ≤ eLe e ∧ eLe e < N) ∧ (0 ≤ eOl e ∧ eOl e < N) ∧ (∀ a, 0 ≤ a → a < 32 → 0 ≤ eGv e a ∧ eGv e a < N) ∧ (∀ k, 0 ≤ k → k < 9 → 0 ≤ eTy e k ∧ eTy e k < N) ∧ (∀ h, 0 ≤ h → h < 5 → ∀ x ∈ eSg e h, 0 ≤ x 3 ∧ x 3 < N) ∧ N ≤ 1000000000
section CSU
variable {K : List SH} {S : SV} {c p r : Nat} {ad : Int → Nat} {cr : List Row} {liv N : Int} {e : EN} {pl : PL}
/-- what lies inside the round alone changes -/
theorem CS.step {S' : SV} {cr' : List Row} {liv' : Int} {e' : EN} (h : CS K S c p r ad cr liv e pl) (ha : AllR S') (hR : RoundR S' r ad cr' liv' e') (hl : cr'.length ≤ 120) (hO : Outs S S' r (r + 142)) : CS K S' c p r ad cr' liv' e' pl ∧ Outs S S' r (r + 142) :=
  ⟨⟨h.1, h.2.1, ha, h.2.2.2.1.same (hO _ _ (Or.inl h.2.1)), hR, hl⟩, hO⟩
theorem CS.writeW (h : CS K S c p r ad cr liv e pl) {deed letter at_ to_ : Int} (hd : 0 ≤ deed ∧ deed < 9) (b1 : 0 ≤ eCl e ∧ eCl e < 1000000000) (b2 : 0 ≤ eTy e deed ∧ eTy e deed < 1000000000) (h1 : R32 letter) (h2 : R32 at_) (h3 : R32 to_) : CS K (bkE S (r + 128) deed (eCl e) letter at_ to_) c p r ad cr liv (logM e deed letter at_ to_) pl ∧ Outs S (bkE S (r + 128) deed (eCl e) letter at_ to_) r (r + 142) := by
  obtain ⟨⟨c1, c2, c3, c4⟩, c5, c6, c7, c8, c9⟩ := id h
  have b4 := c8.2.2.2.2.1.1 deed hd.1 hd.2
  have b5 := c8.2.2.2.2.1.2.1
  have b6 := c8.2.2.2.2.1.2.2.1
  exact h.step (bkE_all c6 _ ⟨by omega, by omega⟩ ⟨by omega, by omega⟩ h1 h2 h3 ⟨by omega, by omega⟩ (fun _ => ⟨by omega, by omega⟩)) (c8.write c4 c9 hd) c9 (fun x y q => bkE_same _ _ _ _ _ _ _ (by omega))
theorem CS.write (h : CS K S c p r ad cr liv e pl) (hE : EnB N e) {deed letter at_ to_ : Int} (hd : 0 ≤ deed ∧ deed < 9) (h1 : R32 letter) (h2 : R32 at_) (h3 : R32 to_) : CS K (bkE S (r + 128) deed (eCl e) letter at_ to_) c p r ad cr liv (logM e deed letter at_ to_) pl ∧ Outs S (bkE S (r + 128) deed (eCl e) letter at_ to_) r (r + 142) := by
  have b1 := hE.1
  have b2 := hE.2.2.2.2.1 deed hd.1 hd.2
  have b3 := hE.2.2.2.2.2.2
  exact h.writeW hd ⟨by omega, by omega⟩ ⟨by omega, by omega⟩ h1 h2 h3
theorem CS.add (h : CS K S c p r ad cr liv e pl) (hl : cr.length ≤ 119) (hv : R32 (liv + 1)) {at_ letter fr to_ due : Int} (h1 : R32 at_) (h2 : R32 letter) (h3 : R32 fr) (h4 : R32 to_) (h5 : R32 due) : CS K (addS S (r + 2) at_ letter fr to_ due) c p r ad (cr ++ [row8 at_ letter fr to_ 0 0 due 0]) (liv + 1) e pl ∧ Outs S (addS S (r + 2) at_ letter fr to_ due) r (r + 142) := by
  obtain ⟨⟨c1, c2, c3, c4⟩, c5, c6, c7, c8, c9⟩ := id h
  exact h.step (addS_all c6 c8.2.2.1 hl hv h1 h2 h3 h4 h5) (c8.add c4 hl _ _ _ _ _) (by rw [List.length_append]; simp; omega) (fun x y q => addS_same c8.2.2.1 c4 hl _ _ _ _ _ (by omega))
theorem CS.onw (h : CS K S c p r ad cr liv e pl) (hl : cr.length ≤ 119) (hv : R32 (liv + 1)) {i : Nat} {x : Row} (hi : cr[i]? = some x) {at_ to_ marks due : Int} (h1 : R32 at_) (h4 : R32 to_) (h5 : R32 due) (h6 : R32 marks) (h7 : R32 (x 5 + 1)) : CS K (onwS S (r + 2) (ad i) at_ to_ marks due) c p r ad (cr ++ [row8 at_ (x 1) (x 2) to_ 0 (x 5 + 1) due marks]) (liv + 1) e pl ∧ Outs S (onwS S (r + 2) (ad i) at_ to_ marks due) r (r + 142) := by
  obtain ⟨⟨c1, c2, c3, c4⟩, c5, c6, c7, c8, c9⟩ := id h
  exact h.step (onwS_all c6 c8.2.2.1 hl hv h1 h4 h5 h6 (by rw [c8.2.2.1.2.2.2 i x hi 5 (by omega)]; exact h7)) (c8.onw c4 hl hi _ _ _ _) (by rw [List.length_append]; simp; omega) (fun x y q => onwS_same c8.2.2.1 c4 hl _ _ _ _ _ (by omega))
theorem CS.rem (h : CS K S c p r ad cr liv e pl) (hv : R32 (liv - 1)) {i : Nat} {x : Row} (hi : cr[i]? = some x) : CS K (remS S (r + 2) (ad i)) c p r ad (cr.set i (rset x 0 (-1))) (liv - 1) e pl ∧ Outs S (remS S (r + 2) (ad i)) r (r + 142) := by
  obtain ⟨⟨c1, c2, c3, c4⟩, c5, c6, c7, c8, c9⟩ := id h
  have hlt := (List.getElem?_eq_some_iff.mp hi).1
  have hq := c4.1 (i : Int) (by omega) (by omega)
  exact h.step (remS_all c6 (by rw [c8.2.2.1.2.1]; exact hv)) (c8.rem c4 c9 hi) (by rw [List.length_set]; exact c9) (fun x y q => remS_same ⟨by omega, by omega⟩)
theorem CS.setF (h : CS K S c p r ad cr liv e pl) {i k : Nat} {x : Row} (hi : cr[i]? = some x) {v : Int} (hv : R32 v) : CS K (sF S (ad i) k v) c p r ad (cr.set i (rset x k v)) liv e pl ∧ Outs S (sF S (ad i) k v) r (r + 142) := by
  obtain ⟨⟨c1, c2, c3, c4⟩, c5, c6, c7, c8, c9⟩ := id h
  have hlt := (List.getElem?_eq_some_iff.mp hi).1
  have hq := c4.1 (i : Int) (by omega) (by omega)
  exact h.step (c6.sF hv) (c8.setF c4 c9 hi v) (by rw [List.length_set]; exact c9) (fun x y q => Same.sF (by omega))
theorem CS.put (h : CS K S c p r ad cr liv e pl) (hE : EnB N e) {a letter fr : Int} (ha : 0 ≤ a ∧ a < 32) (h1 : R32 letter) (h2 : R32 fr) : CS K (putS S (r + 124) a letter fr) c p r ad cr liv (eBxS e (fset (eGv e) a (eGv e a + 1)) (fset (eBf e) a fr) (fset (eWn e) a (pushN 8 (eWn e a) letter))) pl ∧ Outs S (putS S (r + 124) a letter fr) r (r + 142) := by
  obtain ⟨⟨c1, c2, c3, c4⟩, c5, c6, c7, c8, c9⟩ := id h
  have b2 := hE.2.2.2.1 a ha.1 ha.2
  have b3 := hE.2.2.2.2.2.2
  have b4 := (c8.2.2.2.1 a ha.1 ha.2).1
  exact h.step (putS_all c6 _ h1 h2 ⟨by omega, by omega⟩) (c8.put c4 c9 ha) c9 (fun x y q => putS_same _ _ _ _ _ (by omega))
theorem CS.strg {S' : SV} (h : CS K S c p r ad cr liv e pl) {o : Int} (ho : 0 ≤ o ∧ o < 5) {l : List Row} (ha : AllR S') (hs : StrR S' (sgAt r o) l) (hO : Outs S S' (sgAt r o) (sgAt r o + 2)) : CS K S' c p r ad cr liv (eSgS e (fset (eSg e) o l)) pl ∧ Outs S S' r (r + 142) := by
  obtain ⟨⟨c1, c2, c3, c4⟩, c5, c6, c7, c8, c9⟩ := id h
  exact h.step ha (c8.strg c4 c9 ho hs hO) c9 (hO.sub (by unfold sgAt; omega) (by unfold sgAt; omega))
theorem CS.cl (h : CS K S c p r ad cr liv e pl) {v : Int} (hv : R32 v) : CS K (sF S r 0 v) c p r ad cr liv (eClS e v) pl ∧ Outs S (sF S r 0 v) r (r + 142) := h.step (h.2.2.1.sF hv) (h.2.2.2.2.1.cl h.1.2.2.2 h.2.2.2.2.2 v) h.2.2.2.2.2 (fun x y q => Same.sF (by omega))
theorem CS.le (h : CS K S c p r ad cr liv e pl) {v : Int} (hv : R32 v) : CS K (sF S r 1 v) c p r ad cr liv (eLeS e v) pl ∧ Outs S (sF S r 1 v) r (r + 142) := h.step (h.2.2.1.sF hv) (h.2.2.2.2.1.le h.1.2.2.2 h.2.2.2.2.2 v) h.2.2.2.2.2 (fun x y q => Same.sF (by omega))
theorem CS.ol (h : CS K S c p r ad cr liv e pl) {v : Int} (hv : R32 v) : CS K (sF S r 2 v) c p r ad cr liv (eOlS e v) pl ∧ Outs S (sF S r 2 v) r (r + 142) := h.step (h.2.2.1.sF hv) (h.2.2.2.2.1.ol h.1.2.2.2 h.2.2.2.2.2 v) h.2.2.2.2.2 (fun x y q => Same.sF (by omega))
/-- what a row of the mail holds -/
theorem CS.row (h : CS K S c p r ad cr liv e pl) {i : Nat} {x : Row} (hi : cr[i]? = some x) : (∀ k, k < 8 → fI S (ad i) k = x k) ∧ K[ad i]? = some (.inr (3, [none, none, none, none, none, none, none, none])) ∧ (r + 4 ≤ ad i ∧ ad i < r + 124) := by
  obtain ⟨⟨c1, c2, c3, c4⟩, c5, c6, c7, c8, c9⟩ := h
  have hlt := (List.getElem?_eq_some_iff.mp hi).1
  have hq := c4.1 (i : Int) (by omega) (by omega)
  exact ⟨fun k hk => c8.2.2.1.2.2.2 i x hi k hk, c3.2.2.1.2.2 _ (by omega) (by omega), by omega, by omega⟩
end CSU
