/-! how far a handled item carries the bounds -/
theorem RowB.mono {N N' : Int} {pl : PL} {x : Row} (h : RowB N pl x) (hN : N ≤ N') : RowB N' pl x := by
  obtain ⟨h0, h1, h2, h3, h4, h5, h6, h7⟩ := h
  exact ⟨h0, ⟨h1.1, by omega⟩, h2, h3, h4, h5, ⟨h6.1, by omega⟩, h7⟩
theorem EnB.mono {N N' : Int} {e : EN} (h : EnB N e) (hN : N ≤ N') (hM : N' ≤ 1000000000) : EnB N' e := by
  obtain ⟨h1, h2, h3, h4, h5, h6, h7⟩ := h
  exact ⟨⟨h1.1, by omega⟩, ⟨h2.1, by omega⟩, ⟨h3.1, by omega⟩, fun a q1 q2 => ⟨(h4 a q1 q2).1, by have := (h4 a q1 q2).2; omega⟩, fun a q1 q2 => ⟨(h5 a q1 q2).1, by have := (h5 a q1 q2).2; omega⟩, fun a q1 q2 x hx => ⟨(h6 a q1 q2 x hx).1, by have := (h6 a q1 q2 x hx).2; omega⟩, hM⟩
theorem EnB.log {N : Int} {e : EN} (h : EnB N e) (hM : N + 1 ≤ 1000000000) (deed letter house to_ : Int) : EnB (N + 1) (logM e deed letter house to_) := by
  obtain ⟨h1, h2, h3, h4, h5, h6, h7⟩ := h.mono (by omega : N ≤ N + 1) hM
  obtain ⟨-, -, -, -, g5, -, -⟩ := id h
  refine ⟨h1, h2, h3, h4, fun k q1 q2 => ?_, h6, h7⟩
  show 0 ≤ fset (eTy e) deed (eTy e deed + 1) k ∧ fset (eTy e) deed (eTy e deed + 1) k < N + 1
  unfold fset
  by_cases hk : k = deed
  · rw [if_pos hk, ← hk]
    have := g5 k q1 q2
    omega
  · rw [if_neg hk]
    exact h5 k q1 q2
def okRow (N : Int) (pl : PL) (x : Row) : Prop := RowB N pl x ∧ x 4 ≤ 4
def okRes (N : Int) (pl : PL) (res : EN × Option Row × List Row) : Prop := EnB N res.1 ∧ (∀ z, res.2.1 = some z → okRow N pl z) ∧ ∀ z ∈ res.2.2, okRow N pl z
theorem bounceM_ok {N : Int} {pl : PL} {e : EN} {x : Row} (hE : EnB N e) (hx : RowB N pl x) (hM : N + 20 ≤ 1000000000) : okRes (N + 20) pl ((bounceM e x).1, none, (bounceM e x).2) := by
  have hL := fun d => (hE.log (by omega) d (x 1) (x 0) (x 3)).mono (by omega : N + 1 ≤ N + 20) hM
  obtain ⟨b0, b1, b2, b3, b4, b5, b6, b7⟩ := hx
  have hec := hE.1
  have hle := hE.2.1
  unfold bounceM
  by_cases h2 : x 2 = -4
  · rw [if_pos h2]
    exact ⟨hL 8, fun z h => (by cases h), fun z h => (by cases h)⟩
  · rw [if_neg h2]
    obtain ⟨l1, l2, l3, l4, l5, l6, l7⟩ := hL 7
    refine ⟨⟨l1, ⟨by show 0 ≤ eLe e + 1; omega, by show eLe e + 1 < _; omega⟩, l3, l4, l5, l6, l7⟩, fun z h => (by cases h), fun z h => ?_⟩
    rw [List.mem_singleton.mp h]
    refine ⟨⟨b0, ⟨hle.1, by show eLe e < _; omega⟩, Or.inl rfl, ⟨by show 0 ≤ x 2; omega, by show x 2 < 32; omega⟩, by show (0 : Int) ≤ 0 ∧ (0 : Int) ≤ 5; omega, by show (0 : Int) ≤ 0 ∧ (0 : Int) ≤ 8; omega, ⟨by show 0 ≤ eCl e + 1; omega, by show eCl e + 1 < _; omega⟩, by show R32 0; decide⟩, by show (0 : Int) ≤ 4; omega⟩
theorem giveM_ok {N : Int} {e : EN} {x : Row} (hE : EnB N e) (hM : N + 20 ≤ 1000000000) : EnB (N + 20) (giveM e x) := by
  by_cases hw : x 1 ∈ eWn e (x 3)
  · rw [show giveM e x = logI e 3 x (x 0) from if_pos hw]
    exact (hE.log (by omega) _ _ _ _).mono (by omega) hM
  · rw [show giveM e x = _ from if_neg hw]
    refine EnB.mono (EnB.log (N := N + 1) ?_ (by omega) _ _ _ _) (by omega) hM
    obtain ⟨-, -, -, g4, -, -, -⟩ := id hE
    obtain ⟨h1, h2, h3, h4, h5, h6, h7⟩ := hE.mono (by omega : N ≤ N + 1) (by omega)
    refine ⟨h1, h2, h3, fun k q1 q2 => ?_, h5, h6, h7⟩
    show 0 ≤ fset (eGv e) (x 3) (eGv e (x 3) + 1) k ∧ fset (eGv e) (x 3) (eGv e (x 3) + 1) k < N + 1
    unfold fset
    by_cases hk : k = x 3
    · rw [if_pos hk, ← hk]
      have := g4 k q1 q2
      omega
    · rw [if_neg hk]
      exact h4 k q1 q2
theorem handleM_ok {N : Int} {pl : PL} {e : EN} {n : Int} {x : Row} (hP : PlOk pl) (hE : EnB N e) (hx : okRow N pl x) (hM : N + 20 ≤ 1000000000) : okRes (N + 20) pl (handleM pl e n x) := by
  have hbo := bounceM_ok hE hx.1 hM
  have hL := fun d h => (hE.log (by omega) d (x 1) h (x 3)).mono (by omega : N + 1 ≤ N + 20) hM
  obtain ⟨⟨b0, b1, b2, b3, b4, b5, b6, b7⟩, hx4⟩ := id hx
  have hec := hE.1
  have heo := hE.2.2.1
  have hPA := hP.2.2.2.2.2 (x 3) b3.1 b3.2
  unfold handleM
  by_cases h1 : x 5 = 8 ∨ pRc pl (x 3 / 8) = 0
  · rw [if_pos h1]; exact hbo
  · rw [if_neg h1]
    have h58 : x 5 ≤ 7 := by have := fun z => h1 (Or.inl z); omega
    by_cases hla : lastM pl (x 0) (x 3 / 8)
    · rw [if_pos hla]
      split
      · exact ⟨giveM_ok hE hM, fun z h => (by cases h), fun z h => (by cases h)⟩
      · split
        · rename_i hk1 hk2
          have hld := hPA.2.2.2.2 0 (by omega) (by have := hPA.2.2.1 hk2; omega)
          refine ⟨hL 4 (x 0), fun z h => ?_, fun z h => (by cases h)⟩
          cases h
          exact ⟨⟨b0, ⟨b1.1, by show x 1 < _; omega⟩, b2, hld, by show (0 : Int) ≤ 0 ∧ (0 : Int) ≤ 5; omega, ⟨by show 0 ≤ x 5 + 1; omega, by show x 5 + 1 ≤ 8; omega⟩, ⟨by show 0 ≤ eCl e + 1; omega, by show eCl e + 1 < _; omega⟩, b7⟩, by show (0 : Int) ≤ 4; omega⟩
        · split
          · unfold openM
            split
            · refine ⟨hE.mono (by omega) hM, fun z h => ?_, fun z h => (by cases h)⟩
              cases h
              exact ⟨⟨b0, ⟨b1.1, by show x 1 < _; omega⟩, b2, b3, b4, b5, ⟨by show 0 ≤ eCl e + 1; omega, by show eCl e + 1 < _; omega⟩, b7⟩, hx4⟩
            · have hf4 := freeU_len pl (markM (x 7) (x 3)) (x 3) (pLc pl (x 3)).toNat
              rw [← freeM_eq] at hf4
              obtain ⟨l1, l2, l3, l4, l5, l6, l7⟩ := hL 5 (x 0)
              refine ⟨⟨l1, l2, ⟨by show 0 ≤ eOl e + _; omega, by show eOl e + _ < N + 20; omega⟩, l4, l5, l6, l7⟩, fun z h => (by cases h), fun z h => ?_⟩
              obtain ⟨a, ha, rfl⟩ := List.mem_map.mp h
              obtain ⟨t, ht, rfl⟩ := List.mem_map.mp (List.mem_filter.mp ha).1
              have ht := List.mem_range.mp ht
              have hld := hPA.2.2.2.2 t (by omega) (by omega)
              exact ⟨⟨b0, ⟨b1.1, by show x 1 < _; omega⟩, b2, hld, by show (0 : Int) ≤ 0 ∧ (0 : Int) ≤ 5; omega, ⟨by show 0 ≤ x 5 + 1; omega, by show x 5 + 1 ≤ 8; omega⟩, ⟨by show 0 ≤ eCl e + 1; omega, by show eCl e + 1 < _; omega⟩, mark_R _ _⟩, by show (0 : Int) ≤ 4; omega⟩
          · exact hbo
    · rw [if_neg hla]
      have hhs := hP.1
      have hcl1 := askM_cl pl x (asksM pl (x 0) (x 3 / 8)) e
      have hE1 := askM_EnB pl x (asksM pl (x 0) (x 3 / 8)) e hE (fun o ho => by have := asksM_mem ho hhs.1; omega)
      unfold travelM
      cases hask : askM pl e x (asksM pl (x 0) (x 3 / 8)) with
      | mk e1 so =>
        rw [hask] at hcl1 hE1
        have hL1 := fun d h => (hE1.log (by omega) d (x 1) h (x 3)).mono (by omega : N + 1 ≤ N + 20) hM
        cases so with
        | some o =>
          have hmem : ∀ (l : List Int) (e0 : EN) (e' : EN) (o' : Int), askM pl e0 x l = (e', some o') → o' ∈ l := by
            intro l
            induction l with
            | nil => intro e0 e' o' h; cases h
            | cons a as ih =>
              intro e0 e' o' h
              rw [askM] at h
              split at h
              · split at h
                · cases h; exact List.mem_cons_self
                · split at h
                  · cases h; exact List.mem_cons_self
                  · exact List.mem_cons_of_mem _ (ih _ _ _ h)
              · exact List.mem_cons_of_mem _ (ih _ _ _ h)
          have ho := asksM_mem (hmem _ _ _ _ hask) hhs.1
          refine ⟨hL1 1 o, fun z h => (by cases h), fun z h => ?_⟩
          rw [List.mem_singleton.mp h]
          exact ⟨⟨ho, ⟨b1.1, by show x 1 < _; omega⟩, b2, b3, by show (0 : Int) ≤ 0 ∧ (0 : Int) ≤ 5; omega, ⟨by show 0 ≤ x 5 + 1; omega, by show x 5 + 1 ≤ 8; omega⟩, ⟨by show 0 ≤ eCl e + 1; omega, by show eCl e + 1 < _; omega⟩, b7⟩, by show (0 : Int) ≤ 4; omega⟩
        | none =>
          show okRes (N + 20) pl (if x 4 + 1 = 5 then _ else _)
          split
          · exact bounceM_ok hE1 hx.1 hM
          · have hpw := pow_le4 (t := x 4) ⟨b4.1, hx4⟩
            refine ⟨hL1 6 (x 0), fun z h => ?_, fun z h => (by cases h)⟩
            cases h
            exact ⟨⟨b0, ⟨b1.1, by show x 1 < _; omega⟩, b2, b3, ⟨by show 0 ≤ x 4 + 1; omega, by show x 4 + 1 ≤ 5; omega⟩, b5, ⟨by show 0 ≤ eCl e + 2 ^ (x 4).toNat; omega, by show eCl e + 2 ^ (x 4).toNat < _; omega⟩, b7⟩, by show x 4 + 1 ≤ 4; omega⟩
/-- there are never more than 60 -/
theorem handleM_60 {pl : PL} {e : EN} {n : Int} {x : Row} (hn : 1 ≤ n ∧ n ≤ 60) : 0 ≤ n + (handleM pl e n x).2.2.length - (if (handleM pl e n x).2.1.isNone then 1 else 0) ∧ n + (handleM pl e n x).2.2.length - (if (handleM pl e n x).2.1.isNone then 1 else 0) ≤ 60 := by
  have hb : ∀ e' : EN, (bounceM e' x).2.length ≤ 1 := by
    intro e'
    unfold bounceM
    split <;> simp
  unfold handleM
  split
  · have := hb e
    simp only [Option.isNone_none, if_true]
    omega
  · by_cases hla : lastM pl (x 0) (x 3 / 8)
    · rw [if_pos hla]
      split
      · simp; omega
      · split
        · simp; omega
        · split
          · unfold openM
            split
            · simp; omega
            · rename_i h60
              simp only [Option.isNone_none, if_true, List.length_map]
              omega
          · have := hb e
            simp only [Option.isNone_none, if_true]
            omega
    · rw [if_neg hla]
      unfold travelM
      split
      · simp; omega
      · rename_i e1 _
        split
        · have := hb e1
          simp only [Option.isNone_none, if_true]
          omega
        · simp; omega
