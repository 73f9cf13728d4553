/-! the reference reads a text: the draft -/
theorem aD {S : SV} {i v : Int} : aI (sA S 455 i v) 455 = fset (aI S 455) i v := by
  funext k
  rw [aI_sA]
  unfold fset
  by_cases h : k = i
  · rw [if_pos ⟨rfl, h⟩, if_pos h]
  · rw [if_neg (fun z => h z.2), if_neg h]
theorem Pq.sA {S : SV} {i v : Int} : Pq S (sA S 455 i v) := fun a x y => Same.sA (by omega)
theorem Pq.sF {S : SV} {k : Nat} {v : Int} : Pq S (sF S 453 k v) := fun a x y => Same.sF (by omega)
theorem tpOk.sA {S : SV} {tp : Int → Int} {n i v : Int} (h : tpOk S tp n) : tpOk (sA S 455 i v) tp n := ⟨h.1, h.2.1, fun j a b => by rw [aI_sA, if_neg (by omega)]; exact h.2.2 j a b⟩
theorem tpOk.sF {S : SV} {tp : Int → Int} {n : Int} {k : Nat} {v : Int} (h : tpOk S tp n) (hk : k ≠ 6) : tpOk (sF S 453 k v) tp n := ⟨by rw [fI_sF, if_neg (by omega)]; exact h.1, h.2.1, h.2.2⟩
def rcF (f : Int → Int) (d c h w : Int) : Int → Int := fset (fset (fset f (26 + 7 * d + 1 + 2 * c) h) (26 + 7 * d + 2 + 2 * c) w) (26 + 7 * d) (c + 1)
theorem PlC.addRc {f : Int → Int} {pl : PL} {d h w : Int} (hp : PlC f pl) (hD : DrB pl) (hd : 0 ≤ d ∧ d < 4) (hn : pRc pl d < 3) : PlC (rcF f d (pRc pl d) h w) (addRcM pl d h w) := by
  have hB := hD.2.1
  have hc := hB.1 d hd.1 hd.2
  obtain ⟨⟨h1, h2⟩, h3, h4, h5⟩ := hp
  unfold rcF
  refine ⟨⟨?_, ?_⟩, fun x a b => ?_, fun x a b => ?_, fun x a b => ?_⟩
  · rw [fset_f _ _ (by omega), fset_f _ _ (by omega), fset_f _ _ (by omega)]; exact h1
  · rw [fset_f _ _ (by omega), fset_f _ _ (by omega), fset_f _ _ (by omega)]; exact h2
  · rw [fset_f _ _ (by omega), fset_f _ _ (by omega), fset_f _ _ (by omega)]; exact h3 x a b
  · have hcx := hB.1 x a b
    show fset _ _ _ (26 + 7 * x) = fset (pRc pl) d (pRc pl d + 1) x ∧ ∀ i, 0 ≤ i → i < fset (pRc pl) d (pRc pl d + 1) x → fset _ _ _ (26 + 7 * x + 1 + 2 * i) = fset (pRh pl) d (fset (pRh pl d) (pRc pl d) h) x i ∧ fset _ _ _ (26 + 7 * x + 2 + 2 * i) = fset (pRp pl) d (fset (pRp pl d) (pRc pl d) w) x i
    by_cases e : x = d
    · subst e
      rw [fset_t, fset_t, fset_t, fset_t]
      refine ⟨rfl, fun i u v => ?_⟩
      by_cases ei : i = pRc pl x
      · subst ei
        rw [fset_t, fset_t]
        refine ⟨?_, ?_⟩
        · rw [fset_f _ _ (by omega), fset_f _ _ (by omega), fset_t]
        · rw [fset_f _ _ (by omega), fset_t]
      · rw [fset_f _ _ ei, fset_f _ _ ei]
        obtain ⟨g1, g2⟩ := (h4 x a b).2 i u (by omega)
        refine ⟨?_, ?_⟩
        · rw [fset_f _ _ (by omega), fset_f _ _ (by omega), fset_f _ _ (by omega)]; exact g1
        · rw [fset_f _ _ (by omega), fset_f _ _ (by omega), fset_f _ _ (by omega)]; exact g2
    · rw [fset_f (pRc pl) _ e, fset_f (pRh pl) _ e, fset_f (pRp pl) _ e]
      refine ⟨?_, fun i u v => ?_⟩
      · rw [fset_f _ _ (by omega), fset_f _ _ (by omega), fset_f _ _ (by omega)]; exact (h4 x a b).1
      · obtain ⟨g1, g2⟩ := (h4 x a b).2 i u v
        refine ⟨?_, ?_⟩
        · rw [fset_f _ _ (by omega), fset_f _ _ (by omega), fset_f _ _ (by omega)]; exact g1
        · rw [fset_f _ _ (by omega), fset_f _ _ (by omega), fset_f _ _ (by omega)]; exact g2
  · have hlx := hB.2 x a b
    obtain ⟨g1, g2, g3⟩ := h5 x a b
    refine ⟨?_, ?_, fun i u v => ?_⟩
    · rw [fset_f _ _ (by omega), fset_f _ _ (by omega), fset_f _ _ (by omega)]; exact g1
    · rw [fset_f _ _ (by omega), fset_f _ _ (by omega), fset_f _ _ (by omega)]; exact g2
    · have v : i < pLc pl x := v
      rw [fset_f _ _ (by omega), fset_f _ _ (by omega), fset_f _ _ (by omega)]; exact g3 i u v
theorem PlC.tell {f : Int → Int} {pl : PL} {x k : Int} (hp : PlC f pl) (hD : DrB pl) (hx : 0 ≤ x ∧ x < 32) : PlC (fset f (54 + 6 * x) k) (tellM pl x k) := by
  have hB := hD.2.1
  obtain ⟨⟨h1, h2⟩, h3, h4, h5⟩ := hp
  refine ⟨⟨by rw [fset_f _ _ (by omega)]; exact h1, by rw [fset_f _ _ (by omega)]; exact h2⟩, fun y a b => by rw [fset_f _ _ (by omega)]; exact h3 y a b, fun d a b => ?_, fun y a b => ?_⟩
  · have hcx := hB.1 d a b
    refine ⟨by rw [fset_f _ _ (by omega)]; exact (h4 d a b).1, fun i u v => ?_⟩
    have v : i < pRc pl d := v
    exact ⟨by rw [fset_f _ _ (by omega)]; exact ((h4 d a b).2 i u v).1, by rw [fset_f _ _ (by omega)]; exact ((h4 d a b).2 i u v).2⟩
  · have hlx := hB.2 y a b
    obtain ⟨g1, g2, g3⟩ := h5 y a b
    show fset f (54 + 6 * x) k (54 + 6 * y) = fset (pKd pl) x k y ∧ _
    refine ⟨?_, by rw [fset_f _ _ (by omega)]; exact g2, fun i u v => ?_⟩
    · by_cases e : y = x
      · rw [e, fset_t, fset_t]
      · rw [fset_f _ _ (by omega), fset_f _ _ e]; exact g1
    · have v : i < pLc pl y := v
      rw [fset_f _ _ (by omega)]; exact g3 i u v
def ldF (f : Int → Int) (x c b : Int) : Int → Int := fset (fset f (54 + 6 * x + 2 + c) b) (54 + 6 * x + 1) (c + 1)
theorem PlC.addLd {f : Int → Int} {pl : PL} {x b : Int} (hp : PlC f pl) (hD : DrB pl) (hx : 0 ≤ x ∧ x < 32) (hn : pLc pl x < 4) : PlC (ldF f x (pLc pl x) b) (addLdM pl x b) := by
  have hB := hD.2.1
  have hc := hB.2 x hx.1 hx.2
  obtain ⟨⟨h1, h2⟩, h3, h4, h5⟩ := hp
  unfold ldF
  refine ⟨⟨by rw [fset_f _ _ (by omega), fset_f _ _ (by omega)]; exact h1, by rw [fset_f _ _ (by omega), fset_f _ _ (by omega)]; exact h2⟩, fun y a b => by rw [fset_f _ _ (by omega), fset_f _ _ (by omega)]; exact h3 y a b, fun d a b => ?_, fun y a b' => ?_⟩
  · have hcx := hB.1 d a b
    refine ⟨by rw [fset_f _ _ (by omega), fset_f _ _ (by omega)]; exact (h4 d a b).1, fun i u v => ?_⟩
    have v : i < pRc pl d := v
    exact ⟨by rw [fset_f _ _ (by omega), fset_f _ _ (by omega)]; exact ((h4 d a b).2 i u v).1, by rw [fset_f _ _ (by omega), fset_f _ _ (by omega)]; exact ((h4 d a b).2 i u v).2⟩
  · have hlx := hB.2 y a b'
    obtain ⟨g1, g2, g3⟩ := h5 y a b'
    show fset _ _ _ (54 + 6 * y) = pKd pl y ∧ fset _ _ _ (54 + 6 * y + 1) = fset (pLc pl) x (pLc pl x + 1) y ∧ ∀ i, 0 ≤ i → i < fset (pLc pl) x (pLc pl x + 1) y → fset _ _ _ (54 + 6 * y + 2 + i) = fset (pLd pl) x (fset (pLd pl x) (pLc pl x) b) y i
    refine ⟨by rw [fset_f _ _ (by omega), fset_f _ _ (by omega)]; exact g1, ?_⟩
    by_cases e : y = x
    · subst e
      rw [fset_t, fset_t, fset_t]
      refine ⟨rfl, fun i u v => ?_⟩
      by_cases ei : i = pLc pl y
      · subst ei
        rw [fset_t, fset_f _ _ (by omega), fset_t]
      · rw [fset_f (pLd pl y) _ ei, fset_f _ _ (by omega), fset_f _ _ (by omega)]
        exact g3 i u (by omega)
    · rw [fset_f (pLc pl) _ e, fset_f (pLd pl) _ e]
      refine ⟨by rw [fset_f _ _ (by omega), fset_f _ _ (by omega)]; exact g2, fun i u v => ?_⟩
      rw [fset_f _ _ (by omega), fset_f _ _ (by omega)]
      exact g3 i u v
theorem PlC.addH {f : Int → Int} {pl : PL} {w : Int} (hp : PlC f pl) (hD : DrB pl) (hh : pHs pl < 5) : PlC (fset (fset f (16 + 2 * pHs pl) w) 0 (pHs pl + 1)) (addHM pl w) := by
  have hB := hD.2.1
  have hH := hD.1.1
  obtain ⟨⟨h1, h2⟩, h3, h4, h5⟩ := hp
  refine ⟨⟨by rw [fset_t]; rfl, by rw [fset_f _ _ (by omega), fset_f _ _ (by omega)]; exact h2⟩, fun y a b => ?_, fun d a b => ?_, fun y a b => ?_⟩
  · show fset _ _ _ (16 + 2 * y) = fset (pWa pl) (pHs pl) w y
    by_cases e : y = pHs pl
    · rw [e, fset_f _ _ (by omega), fset_t, fset_t]
    · rw [fset_f _ _ (by omega), fset_f _ _ (by omega), fset_f _ _ e]
      exact h3 y a b
  · have hcx := hB.1 d a b
    refine ⟨by rw [fset_f _ _ (by omega), fset_f _ _ (by omega)]; exact (h4 d a b).1, fun i u v => ?_⟩
    have v : i < pRc pl d := v
    exact ⟨by rw [fset_f _ _ (by omega), fset_f _ _ (by omega)]; exact ((h4 d a b).2 i u v).1, by rw [fset_f _ _ (by omega), fset_f _ _ (by omega)]; exact ((h4 d a b).2 i u v).2⟩
  · have hlx := hB.2 y a b
    obtain ⟨g1, g2, g3⟩ := h5 y a b
    refine ⟨by rw [fset_f _ _ (by omega), fset_f _ _ (by omega)]; exact g1, by rw [fset_f _ _ (by omega), fset_f _ _ (by omega)]; exact g2, fun i u v => ?_⟩
    have v : i < pLc pl y := v
    rw [fset_f _ _ (by omega), fset_f _ _ (by omega)]; exact g3 i u v
theorem PlC.addD {f : Int → Int} {pl : PL} (hp : PlC f pl) (hD : DrB pl) : PlC (fset f 1 (pDm pl + 1)) (addDM pl) := by
  have hB := hD.2.1
  obtain ⟨⟨h1, h2⟩, h3, h4, h5⟩ := hp
  refine ⟨⟨by rw [fset_f _ _ (by omega)]; exact h1, by rw [fset_t]; rfl⟩, fun y a b => by rw [fset_f _ _ (by omega)]; exact h3 y a b, fun d a b => ?_, fun y a b => ?_⟩
  · have hcx := hB.1 d a b
    refine ⟨by rw [fset_f _ _ (by omega)]; exact (h4 d a b).1, fun i u v => ?_⟩
    have v : i < pRc pl d := v
    exact ⟨by rw [fset_f _ _ (by omega)]; exact ((h4 d a b).2 i u v).1, by rw [fset_f _ _ (by omega)]; exact ((h4 d a b).2 i u v).2⟩
  · have hlx := hB.2 y a b
    obtain ⟨g1, g2, g3⟩ := h5 y a b
    refine ⟨by rw [fset_f _ _ (by omega)]; exact g1, by rw [fset_f _ _ (by omega)]; exact g2, fun i u v => ?_⟩
    have v : i < pLc pl y := v
    rw [fset_f _ _ (by omega)]; exact g3 i u v
/-- the highest house that receives, the highest domain that is told -/
theorem HiR.addRc {S S' : SV} {pl : PL} {d h w : Int} (hh : HiR S pl) (hd : 0 ≤ d ∧ d < 4) (hc : 0 ≤ pRc pl d) (h0 : 0 ≤ h) (h13 : fI S' 453 13 = if fI S 453 13 < h then h else fI S 453 13) (h14 : fI S' 453 14 = fI S 453 14) : HiR S' (addRcM pl d h w) := by
  obtain ⟨⟨g1, g2⟩, g3⟩ := hh
  unfold HiR
  rw [h14]
  refine ⟨⟨fun x i a b u v => ?_, ?_⟩, g3⟩
  · have v : i < fset (pRc pl) d (pRc pl d + 1) x := v
    show fset (pRh pl) d (fset (pRh pl d) (pRc pl d) h) x i ≤ fI S' 453 13
    by_cases e : x = d
    · subst e
      rw [fset_t] at v ⊢
      by_cases ei : i = pRc pl x
      · rw [ei, fset_t, h13]; split <;> omega
      · rw [fset_f _ _ ei, h13]
        have := g1 x i a b u (by omega)
        split <;> omega
    · rw [fset_f _ _ e] at v ⊢
      have := g1 x i a b u v
      rw [h13]
      split <;> omega
  · rw [h13]
    by_cases hlt : fI S 453 13 < h
    · rw [if_pos hlt]
      refine Or.inr ⟨d, pRc pl d, hd.1, hd.2, hc, ?_, ?_⟩
      · show pRc pl d < fset (pRc pl) d (pRc pl d + 1) d
        rw [fset_t]; omega
      · show fset (pRh pl) d (fset (pRh pl d) (pRc pl d) h) d (pRc pl d) = h
        rw [fset_t, fset_t]
    · rw [if_neg hlt]
      rcases g2 with z | ⟨x, i, a, b, u, v, z⟩
      · exact Or.inl z
      · refine Or.inr ⟨x, i, a, b, u, ?_, ?_⟩
        · show i < fset (pRc pl) d (pRc pl d + 1) x
          by_cases e : x = d
          · rw [e, fset_t]; rw [e] at v; omega
          · rw [fset_f _ _ e]; exact v
        · show fset (pRh pl) d (fset (pRh pl d) (pRc pl d) h) x i = _
          by_cases e : x = d
          · subst e
            rw [fset_t, fset_f _ _ (by omega)]; exact z
          · rw [fset_f _ _ e]; exact z
theorem HiR.tell {S S' : SV} {pl : PL} {x k : Int} (hh : HiR S pl) (hx : 0 ≤ x ∧ x < 32) (hk : k ≠ 0) (h13 : fI S' 453 13 = fI S 453 13) (h14 : fI S' 453 14 = if fI S 453 14 < x / 8 then x / 8 else fI S 453 14) : HiR S' (tellM pl x k) := by
  obtain ⟨g1, g2, g3⟩ := hh
  unfold HiR
  rw [h13]
  refine ⟨g1, fun y a b u => ?_, ?_⟩
  · have u : fset (pKd pl) x k y ≠ 0 := u
    rw [h14]
    by_cases e : y = x
    · rw [e]; split <;> omega
    · rw [fset_f _ _ e] at u
      have := g2 y a b u
      split <;> omega
  · rw [h14]
    by_cases hlt : fI S 453 14 < x / 8
    · rw [if_pos hlt]
      refine Or.inr ⟨x, hx.1, hx.2, ?_, rfl⟩
      show fset (pKd pl) x k x ≠ 0
      rw [fset_t]; exact hk
    · rw [if_neg hlt]
      rcases g3 with z | ⟨y, a, b, u, z⟩
      · exact Or.inl z
      · refine Or.inr ⟨y, a, b, ?_, z⟩
        show fset (pKd pl) x k y ≠ 0
        by_cases e : y = x
        · rw [e, fset_t]; exact hk
        · rw [fset_f _ _ e]; exact u
