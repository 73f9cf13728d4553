/-! a round's relation goes on over what the leaves do -/
section RoundU
variable {S : SV} {r : Nat} {ad : Int → Nat} {cr : List Row} {liv : Int} {e : EN}
theorem RoundR.write (h : RoundR S r ad cr liv e) (hA : AdOk (r + 2) ad) (hl : cr.length ≤ 120) {deed letter at_ to_ : Int} (hd : 0 ≤ deed ∧ deed < 9) : RoundR (bkE S (r + 128) deed (eCl e) letter at_ to_) r ad cr liv (logM e deed letter at_ to_) := by
  obtain ⟨⟨h1, h2, h3⟩, h4, h5, h6, h7, h8, h9⟩ := h
  have lo : Same S (bkE S (r + 128) deed (eCl e) letter at_ to_) r (r + 128) := bkE_same _ _ _ _ _ _ _ (by omega)
  have hi : Same S (bkE S (r + 128) deed (eCl e) letter at_ to_) (r + 131) (r + 142) := bkE_same _ _ _ _ _ _ _ (by omega)
  have q := lo r (by omega) (by omega)
  refine ⟨⟨(q.1 0).trans h1, (q.1 1).trans h2, (q.1 2).trans h3⟩, fun x a b => ((lo (r + 1) (by omega) (by omega)).2.1 x).trans (h4 x a b), h5.same hA hl (lo.sub (by omega) (by omega)), h6.same (lo.sub (by omega) (by omega)), h7.write deed (eCl e) letter at_ to_ hd, fun x a b => ((hi (r + 131) (by omega) (by omega)).2.2 x).trans (h8 x a b), fun x a b => (h9 x a b).same (hi.sub (by unfold sgAt; omega) (by unfold sgAt; omega))⟩
/-- a change inside the mail alone -/
theorem RoundR.mail {S' : SV} {cr' : List Row} {liv' : Int} (h : RoundR S r ad cr liv e) (hm : MailR S' (r + 2) ad cr' liv') (lo : Same S S' r (r + 2)) (hi : Same S S' (r + 124) (r + 142)) : RoundR S' r ad cr' liv' e := by
  obtain ⟨⟨h1, h2, h3⟩, h4, h5, h6, h7, h8, h9⟩ := h
  have q := lo r (by omega) (by omega)
  exact ⟨⟨(q.1 0).trans h1, (q.1 1).trans h2, (q.1 2).trans h3⟩, fun x a b => ((lo (r + 1) (by omega) (by omega)).2.1 x).trans (h4 x a b), hm, h6.same (hi.sub (by omega) (by omega)), h7.same (hi.sub (by omega) (by omega)), fun x a b => ((hi (r + 131) (by omega) (by omega)).2.2 x).trans (h8 x a b), fun x a b => (h9 x a b).same (hi.sub (by unfold sgAt; omega) (by unfold sgAt; omega))⟩
theorem RoundR.add (h : RoundR S r ad cr liv e) (hA : AdOk (r + 2) ad) (hl : cr.length ≤ 119) (at_ letter fr to_ due : Int) : RoundR (addS S (r + 2) at_ letter fr to_ due) r ad (cr ++ [row8 at_ letter fr to_ 0 0 due 0]) (liv + 1) e :=
  h.mail (h.2.2.1.add hA hl _ _ _ _ _) (addS_same h.2.2.1 hA hl _ _ _ _ _ (by omega)) (addS_same h.2.2.1 hA hl _ _ _ _ _ (by omega))
theorem RoundR.onw (h : RoundR S r ad cr liv e) (hA : AdOk (r + 2) ad) (hl : cr.length ≤ 119) {i : Nat} {x : Row} (hi : cr[i]? = some x) (at_ to_ marks due : Int) : RoundR (onwS S (r + 2) (ad i) at_ to_ marks due) r ad (cr ++ [row8 at_ (x 1) (x 2) to_ 0 (x 5 + 1) due marks]) (liv + 1) e :=
  h.mail (h.2.2.1.onw hA hl hi _ _ _ _) (onwS_same h.2.2.1 hA hl _ _ _ _ _ (by omega)) (onwS_same h.2.2.1 hA hl _ _ _ _ _ (by omega))
theorem RoundR.rem (h : RoundR S r ad cr liv e) (hA : AdOk (r + 2) ad) (hl : cr.length ≤ 120) {i : Nat} {x : Row} (hi : cr[i]? = some x) : RoundR (remS S (r + 2) (ad i)) r ad (cr.set i (rset x 0 (-1))) (liv - 1) e := by
  have hlt := (List.getElem?_eq_some_iff.mp hi).1
  have hr := hA.1 (i : Int) (by omega) (by omega)
  exact h.mail (h.2.2.1.rem hA hl hi) (remS_same ⟨by omega, by omega⟩) (remS_same ⟨by omega, by omega⟩)
theorem RoundR.setF (h : RoundR S r ad cr liv e) (hA : AdOk (r + 2) ad) (hl : cr.length ≤ 120) {i k : Nat} {x : Row} (hi : cr[i]? = some x) (v : Int) : RoundR (sF S (ad i) k v) r ad (cr.set i (rset x k v)) liv e := by
  have hlt := (List.getElem?_eq_some_iff.mp hi).1
  have hr := hA.1 (i : Int) (by omega) (by omega)
  exact h.mail (h.2.2.1.setF hA hl hi v) (Same.sF (by omega)) (Same.sF (by omega))
theorem RoundR.put (h : RoundR S r ad cr liv e) (hA : AdOk (r + 2) ad) (hl : cr.length ≤ 120) {a letter fr : Int} (ha : 0 ≤ a ∧ a < 32) : RoundR (putS S (r + 124) a letter fr) r ad cr liv (eBxS e (fset (eGv e) a (eGv e a + 1)) (fset (eBf e) a fr) (fset (eWn e) a (pushN 8 (eWn e a) letter))) := by
  obtain ⟨⟨h1, h2, h3⟩, h4, h5, h6, h7, h8, h9⟩ := h
  have lo : Same S (putS S (r + 124) a letter fr) r (r + 124) := putS_same _ _ _ _ _ (by omega)
  have hi : Same S (putS S (r + 124) a letter fr) (r + 128) (r + 142) := putS_same _ _ _ _ _ (by omega)
  have q := lo r (by omega) (by omega)
  exact ⟨⟨(q.1 0).trans h1, (q.1 1).trans h2, (q.1 2).trans h3⟩, fun x a b => ((lo (r + 1) (by omega) (by omega)).2.1 x).trans (h4 x a b), h5.same hA hl (lo.sub (by omega) (by omega)), h6.put ha, h7.same (hi.sub (by omega) (by omega)), fun x a b => ((hi (r + 131) (by omega) (by omega)).2.2 x).trans (h8 x a b), fun x a b => (h9 x a b).same (hi.sub (by unfold sgAt; omega) (by unfold sgAt; omega))⟩
theorem RoundR.strg {S' : SV} (h : RoundR S r ad cr liv e) (hA : AdOk (r + 2) ad) (hl : cr.length ≤ 120) {o : Int} (ho : 0 ≤ o ∧ o < 5) {l : List Row} (hs : StrR S' (sgAt r o) l) (hO : Outs S S' (sgAt r o) (sgAt r o + 2)) : RoundR S' r ad cr liv (eSgS e (fset (eSg e) o l)) := by
  obtain ⟨⟨h1, h2, h3⟩, h4, h5, h6, h7, h8, h9⟩ := h
  have lo : Same S S' r (r + 132) := hO _ _ (by unfold sgAt; omega)
  have q := lo r (by omega) (by omega)
  refine ⟨⟨(q.1 0).trans h1, (q.1 1).trans h2, (q.1 2).trans h3⟩, fun x a b => ((lo (r + 1) (by omega) (by omega)).2.1 x).trans (h4 x a b), h5.same hA hl (lo.sub (by omega) (by omega)), h6.same (lo.sub (by omega) (by omega)), h7.same (lo.sub (by omega) (by omega)), fun x a b => ((lo (r + 131) (by omega) (by omega)).2.2 x).trans (h8 x a b), fun x a b => ?_⟩
  show StrR S' (sgAt r x) (fset (eSg e) o l x)
  unfold fset
  by_cases hx : x = o
  · rw [if_pos hx, hx]
    exact hs
  · rw [if_neg hx]
    exact (h9 x a b).same (hO _ _ (by unfold sgAt; omega))
/-- a number of the round itself -/
theorem RoundR.num {k : Nat} {v : Int} {e' : EN} (h : RoundR S r ad cr liv e) (hA : AdOk (r + 2) ad) (hl : cr.length ≤ 120) (he : e'.2.2.2 = e.2.2.2) (h0 : eCl e' = if k = 0 then v else eCl e) (h1' : eLe e' = if k = 1 then v else eLe e) (h2' : eOl e' = if k = 2 then v else eOl e) : RoundR (sF S r k v) r ad cr liv e' := by
  obtain ⟨⟨h1, h2, h3⟩, h4, h5, h6, h7, h8, h9⟩ := h
  have hi : Same S (sF S r k v) (r + 1) (r + 142) := Same.sF (by omega)
  obtain ⟨a1, a2, a3, a4⟩ := e
  obtain ⟨b1, b2, b3, b4⟩ := e'
  have he : b4 = a4 := he
  subst he
  refine ⟨⟨?_, ?_, ?_⟩, h4, h5.same hA hl (hi.sub (by omega) (by omega)), h6.same (hi.sub (by omega) (by omega)), h7.same (hi.sub (by omega) (by omega)), h8, fun x a b => (h9 x a b).same (hi.sub (by unfold sgAt; omega) (by unfold sgAt; omega))⟩
  · rw [h0, fI_sF, h1]
    by_cases z : k = 0
    · rw [if_pos z, if_pos ⟨rfl, z.symm⟩]
    · rw [if_neg z, if_neg (fun y => z y.2.symm)]
  · rw [h1', fI_sF, h2]
    by_cases z : k = 1
    · rw [if_pos z, if_pos ⟨rfl, z.symm⟩]
    · rw [if_neg z, if_neg (fun y => z y.2.symm)]
  · rw [h2', fI_sF, h3]
    by_cases z : k = 2
    · rw [if_pos z, if_pos ⟨rfl, z.symm⟩]
    · rw [if_neg z, if_neg (fun y => z y.2.symm)]
theorem RoundR.cl (h : RoundR S r ad cr liv e) (hA : AdOk (r + 2) ad) (hl : cr.length ≤ 120) (v : Int) : RoundR (sF S r 0 v) r ad cr liv (eClS e v) := h.num hA hl rfl rfl rfl rfl
theorem RoundR.le (h : RoundR S r ad cr liv e) (hA : AdOk (r + 2) ad) (hl : cr.length ≤ 120) (v : Int) : RoundR (sF S r 1 v) r ad cr liv (eLeS e v) := h.num hA hl rfl rfl rfl rfl
theorem RoundR.ol (h : RoundR S r ad cr liv e) (hA : AdOk (r + 2) ad) (hl : cr.length ≤ 120) (v : Int) : RoundR (sF S r 2 v) r ad cr liv (eOlS e v) := h.num hA hl rfl rfl rfl rfl
end RoundU
