/-! the first states of both -/
theorem rd_rows {A C : List va_E} {r : Nat} (h : A.length = r) : (∀ i : Int, 0 ≤ i → i < 120 → rfE (A ++ (bRound r ++ C))[r + 3]? i = some (r + 4 + i.toNat)) ∧ ∀ h : Int, 0 ≤ h → h < 5 → rfE (A ++ (bRound r ++ C))[r + 131]? h = some (sgAt r h) := by
  have e1 : (A ++ (bRound r ++ C))[r + 3]? = some (q0E 3 120 (mrF (r + 2) 120)) := by
    rw [List.getElem?_append_right (by omega), h, Nat.add_sub_cancel_left]
    rfl
  have e2 : (A ++ (bRound r ++ C))[r + 131]? = some (q0E 6 5 (srF r 5)) := by
    rw [List.getElem?_append_right (by omega), h, Nat.add_sub_cancel_left]
    show (preR r ++ q0E 6 5 (srF r 5) :: strs r 5 ++ C)[130]? = _
    rw [List.append_assoc, List.getElem?_append_right (by rw [preR_l]; omega), preR_l]
    rfl
  refine ⟨fun i a b => ?_, fun i a b => ?_⟩
  · rw [e1]
    show mrF (r + 2) 120 i.toNat = _
    unfold mrF
    rw [if_pos (by omega)]
  · rw [e2]
    show srF r 5 i.toNat = _
    unfold srF sgAt
    rw [if_pos (by omega)]
theorem e023 : ∃ C, E0 = (whO 0 :: (bTape 1 ++ bPlan 13)) ++ (bRound 23 ++ C) := ⟨[.inr (2, [.ref 13, .ref 23])] ++ q0E 4 2 (imF 0 2) :: ([z0E 2 2, q0E 5 4 (fun _ => none)] ++ rds 0 2) ++ bModel 453, by simp [E0, bWary, midW, preW]⟩
theorem e0169 : E0 = (whO 0 :: (preW 0 ++ q0E 4 2 (imF 0 2) :: [z0E 2 2, q0E 5 4 (fun _ => none)])) ++ (bRound 169 ++ (bRound 311 ++ bModel 453)) := by simp [E0, bWary, midW, rds]
theorem e0311 : E0 = (whO 0 :: (preW 0 ++ q0E 4 2 (imF 0 2) :: [z0E 2 2, q0E 5 4 (fun _ => none)]) ++ bRound 169) ++ (bRound 311 ++ bModel 453) := by simp [E0, bWary, midW, rds]
theorem e0_166 : E0[166]? = some (q0E 4 2 (imF 0 2)) := by
  rw [e0169]
  show ((preW 0 ++ q0E 4 2 (imF 0 2) :: [z0E 2 2, q0E 5 4 (fun _ => none)]) ++ (bRound 169 ++ (bRound 311 ++ bModel 453)))[165]? = _
  rw [List.append_assoc, List.getElem?_append_right (by rw [preW_l]; omega), preW_l]
  rfl
theorem e0_168 : E0[168]? = some (q0E 5 4 (fun _ => none)) := by
  rw [e0169]
  show ((preW 0 ++ q0E 4 2 (imF 0 2) :: [z0E 2 2, q0E 5 4 (fun _ => none)]) ++ (bRound 169 ++ (bRound 311 ++ bModel 453)))[167]? = _
  rw [List.append_assoc, List.getElem?_append_right (by rw [preW_l]; omega), preW_l]
  rfl
def M0 : MS := (fun _ => 0, 0, 0, p0M, (eUpS e0M (fun _ => 0), []), fun _ => none, fun _ => none)
theorem p0_plok : PlOk p0M := ⟨⟨by decide, by decide⟩, ⟨by decide, by decide⟩, fun d _ _ => ⟨Int.le_refl 0, by show (0 : Int) ≤ 3; omega, fun _ => rfl⟩, fun d i _ _ i0 i1 => by
  have i1 : i < 0 := i1
  omega, fun h h0 h1 => by
  have h1 : h < 0 := h1
  omega, fun a _ _ => ⟨⟨Int.le_refl 0, by show (0 : Int) ≤ 3; omega⟩, ⟨Int.le_refl 0, by show (0 : Int) ≤ 4; omega⟩, fun z => by
  have z : (0 : Int) = 2 := z
  omega, fun z => absurd rfl z, fun i i0 i1 => by
  have i1 : i < 0 := i1
  omega⟩⟩
def ad0 (r : Nat) : Int → Nat := fun i => r + 4 + i.toNat
theorem ad0_ok (r : Nat) : AdOk (r + 2) (ad0 r) := ⟨fun i a b => by unfold ad0; omega, fun i j a b c d e => by unfold ad0 at e; omega⟩
section FIRST
variable {S : SV}
def Z0 (S : SV) : Prop := (∀ a k, a < 453 → fI S a k = 0) ∧ (∀ a i, a < 453 → aI S a i = 0) ∧ ∀ a i, a < 453 → rI S a i = rfE E0[a]? i
theorem Z0.rows {r : Nat} (h : Z0 S) (hr : r = 23 ∨ r = 169 ∨ r = 311) : (∀ i : Int, 0 ≤ i → i < 120 → rI S (r + 3) i = some (ad0 r i)) ∧ ∀ h : Int, 0 ≤ h → h < 5 → rI S (r + 131) h = some (sgAt r h) := by
  have hb : r + 142 ≤ 453 := by omega
  have w : (∀ i : Int, 0 ≤ i → i < 120 → rfE E0[r + 3]? i = some (r + 4 + i.toNat)) ∧ ∀ h : Int, 0 ≤ h → h < 5 → rfE E0[r + 131]? h = some (sgAt r h) := by
    rcases hr with rfl | rfl | rfl
    · obtain ⟨C, e⟩ := e023
      rw [e]
      exact rd_rows (by simp [bTape_l, bPlan_l])
    · rw [e0169]
      exact rd_rows (by simp [preW_l])
    · rw [e0311]
      exact rd_rows (by simp [preW_l, bRound_l])
  exact ⟨fun i a b => by rw [h.2.2 _ _ (by omega)]; exact w.1 i a b, fun i a b => by rw [h.2.2 _ _ (by omega)]; exact w.2 i a b⟩
theorem Z0.plan (h : Z0 S) : PlanR S 13 p0M := by
  refine (plc0_R S 13).same (fun a a0 a1 => ⟨fun k => ?_, fun i => ?_, fun i => rfl⟩)
  · rw [h.1 a k (by omega)]
    simp only [plc0, fI_sFill, fI_sF]
    have := h.1 a k (by omega)
    split
    · rfl
    · split
      · rfl
      · exact this.symm
  · rw [h.2.1 a i (by omega)]
    simp only [plc0, aI_sFill, aI_sF]
    have := h.2.1 a i (by omega)
    repeat' split
    all_goals first | rfl | exact this.symm
theorem Z0.round (h : Z0 S) : RoundR S 23 (ad0 23) [] (([] : List Row).length) (eUpS e0M (fun _ => 0)) := by
  have hR := h.rows (Or.inl rfl)
  obtain ⟨f, g, -⟩ := h
  refine ⟨⟨f _ _ (by omega), f _ _ (by omega), f _ _ (by omega)⟩, fun x a b => g _ _ (by omega), ⟨f _ _ (by omega), f _ _ (by omega), hR.1, fun i r z => by cases z⟩, fun a u v => ⟨g _ _ (by omega), fun q => absurd rfl q, by simp [e0M, eWn, eGv, eUpS], Int.le_refl 0, fun t x z => by cases z⟩, ⟨fun k a b => g _ _ (by omega), f _ _ (by omega), by simp [e0M, eLg, eUpS], by rw [f _ _ (by omega)]; omega, fun i r z => by cases z⟩, hR.2, fun x a b => ⟨f _ _ (by unfold sgAt; omega), by simp [e0M, eSg, eUpS], fun i r z => by cases z⟩⟩
theorem Z0.enb : EnB 1 (eUpS e0M (fun _ => 0)) := ⟨⟨by decide, by decide⟩, ⟨by decide, by decide⟩, ⟨by decide, by decide⟩, fun a u v => ⟨Int.le_refl 0, by show (0 : Int) < 1; omega⟩, fun a u v => ⟨Int.le_refl 0, by show (0 : Int) < 1; omega⟩, fun x a b y hy => (by cases hy), by decide⟩
theorem Z0.wr (h : Z0 S) (hr : AllR S) : WR K0 S M0 1 := by
  have ht : TB S 1 (fun _ => 0) 0 := ⟨hr, h.1 _ _ (by omega), fun i a b => by omega, by omega, by omega⟩
  refine ⟨wsh0, ⟨ht, h.1 _ _ (by omega)⟩, ⟨h.plan, p0_plok⟩, ⟨⟨ad0 23, ⟨wsh0.2.2.2.2.1, wsh0.2.2.1, rd23, ad0_ok 23⟩, by omega, hr, h.plan.toF p0_plok, h.round, by simp [M0, mNw]⟩, Z0.enb, fun x hx => (by cases hx), by simp [M0, mNw]⟩, fun k a b => ⟨?_, ad0 (imA k), ⟨ad0_ok _, ?_⟩, Or.inl ⟨rfl, h.2.1 _ _ (by omega)⟩⟩, fun k a b => Or.inl ⟨rfl, ?_⟩, fun k k' o o' a b c d e x y => ?_⟩
  · rw [h.2.2 _ _ (by omega), e0_166]
    show imF 0 2 k.toNat = _
    unfold imF imA
    rw [if_pos (by omega), Nat.zero_add]
  · rcases (show k = 0 ∨ k = 1 by omega) with rfl | rfl
    · exact h.rows (Or.inr (Or.inl rfl))
    · exact h.rows (Or.inr (Or.inr rfl))
  · rw [h.2.2 _ _ (by omega), e0_168]
    rfl
  · rw [h.2.2 _ _ (by omega), e0_168] at x
    cases x
theorem anF_e00 {f : Int → Int} (hf : f 0 = 0) : EnC (anF f) (eUpS e0M (fun _ => 0)) [] := by
  have w := anF_e0 f
  refine ⟨w.1, w.2.1, w.2.2.1, fun x a b c => ?_, w.2.2.2.2.1, w.2.2.2.2.2⟩
  unfold anF at c
  rw [if_neg (by omega), if_neg (by omega), hf] at c
  omega
end FIRST
