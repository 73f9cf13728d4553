/-! the world at the entry -/
theorem kn_all {s : State} {args : Array Value} (hg : ∀ w ∈ gtbl, w.before args s = true) : ∀ c : Nat, ∃ q : ClassId × (Nat → Nat), ∀ r, vwCl[c]? = some r → u_Kn s r.1 r.2.1 r.2.2 q.1 q.2 := by
  intro c
  rcases (show c = 0 ∨ c = 1 ∨ c = 2 ∨ c = 3 ∨ c = 4 ∨ c = 5 ∨ c = 6 ∨ c = 7 ∨ c = 8 ∨ c = 9 ∨ c = 10 ∨ c = 11 ∨ 12 ≤ c by omega) with rfl | rfl | rfl | rfl | rfl | rfl | rfl | rfl | rfl | rfl | rfl | rfl | h
  · obtain ⟨cC, iS, h⟩ := u_known hg fw0 (hg _ inX0.1)
    exact ⟨(cC, iS), fun r hr => by cases hr; exact h⟩
  · obtain ⟨cC, iS, h⟩ := u_known hg fw1 (hg _ inX1.1)
    exact ⟨(cC, iS), fun r hr => by cases hr; exact h⟩
  · obtain ⟨cC, iS, h⟩ := u_known hg fw2 (hg _ inX2.1)
    exact ⟨(cC, iS), fun r hr => by cases hr; exact h⟩
  · obtain ⟨cC, iS, h⟩ := u_known hg fw3 (hg _ inX3.1)
    exact ⟨(cC, iS), fun r hr => by cases hr; exact h⟩
  · obtain ⟨cC, iS, h⟩ := u_known hg fw4 (hg _ inX4.1)
    exact ⟨(cC, iS), fun r hr => by cases hr; exact h⟩
  · obtain ⟨cC, iS, h⟩ := u_known hg fw5 (hg _ inX5.1)
    exact ⟨(cC, iS), fun r hr => by cases hr; exact h⟩
  · obtain ⟨cC, iS, h⟩ := u_known hg fw6 (hg _ inX6.1)
    exact ⟨(cC, iS), fun r hr => by cases hr; exact h⟩
  · obtain ⟨cC, iS, h⟩ := u_known hg fw7 (hg _ inX7.1)
    exact ⟨(cC, iS), fun r hr => by cases hr; exact h⟩
  · obtain ⟨cC, iS, h⟩ := u_known hg fw8 (hg _ inX8.1)
    exact ⟨(cC, iS), fun r hr => by cases hr; exact h⟩
  · obtain ⟨cC, iS, h⟩ := u_known hg fw9 (hg _ inX9.1)
    exact ⟨(cC, iS), fun r hr => by cases hr; exact h⟩
  · obtain ⟨cC, iS, h⟩ := u_known hg fw10 (hg _ inX10.1)
    exact ⟨(cC, iS), fun r hr => by cases hr; exact h⟩
  · obtain ⟨cC, iS, h⟩ := u_known hg fw11 (hg _ inX11.1)
    exact ⟨(cC, iS), fun r hr => by cases hr; exact h⟩
  · exact ⟨(0, fun _ => 0), fun r hr => by
      rw [List.getElem?_eq_none (by show 12 ≤ c; exact h)] at hr
      cases hr⟩
theorem arO {s : State} {C : String} (h : va_AO C s) : ∃ cA : ClassId, ArrOfT s cA (.object C) ∧ va_RA s cA (.object C) := by
  obtain ⟨comp, c, k, h1, h2, h3, h4, h5⟩ := Cond.arrayOver_spec h
  exact ⟨c, fun N z => ⟨(fun k h => by cases h), k, h3, comp, h4⟩, k, comp, h3, h4, h1, h5⟩
theorem arI {s : State} {args : Array Value} (h : (Cond.arrayClass .int).before args s = true) : ∃ cA : ClassId, ArrOfT s cA .int ∧ va_RA s cA .int := by
  obtain ⟨c, k, comp, h1, h2, h3⟩ := Cond.arrayClass_spec h
  exact ⟨c, fun N z => ⟨(fun k h => by cases h), k, h2, comp, h3⟩, h1⟩
theorem arB {s : State} {args : Array Value} (h : (Cond.arrayClass .byte).before args s = true) : ∃ cA : ClassId, ArrOfT s cA .byte ∧ va_RA s cA .byte := by
  obtain ⟨c, k, comp, h1, h2, h3⟩ := Cond.arrayClass_spec h
  exact ⟨c, fun N z => ⟨(fun k h => by cases h), k, h2, comp, h3⟩, h1⟩
theorem arZ {s : State} {args : Array Value} (h : (Cond.arrayClass .boolean).before args s = true) : ∃ cA : ClassId, ArrOfT s cA .boolean ∧ va_RA s cA .boolean := by
  obtain ⟨c, k, comp, h1, h2, h3⟩ := Cond.arrayClass_spec h
  exact ⟨c, fun N z => ⟨(fun k h => by cases h), k, h2, comp, h3⟩, h1⟩
def tyL : List FieldType := [.int, .byte, .boolean, .object RX3, .object RX6, .object RX7, .object RX8]
theorem ty_all {s : State} {args : Array Value} (hts : ∀ w ∈ lw_tbl, w.before args s = true) (ho : va_AO RX3 s ∧ va_AO RX6 s ∧ va_AO RX7 s ∧ va_AO RX8 s) : ∀ k : Nat, ∃ cA : ClassId, ∀ ty, tyL[k]? = some ty → ArrOfT s cA ty ∧ va_RA s cA ty := by
  intro k
  rcases (show k = 0 ∨ k = 1 ∨ k = 2 ∨ k = 3 ∨ k = 4 ∨ k = 5 ∨ k = 6 ∨ 7 ≤ k by omega) with rfl | rfl | rfl | rfl | rfl | rfl | rfl | h
  · obtain ⟨cA, h⟩ := arI (hts (.arrayClass .int) (List.mem_of_getElem? (i := 151) (by decide +kernel)))
    exact ⟨cA, fun ty e => by cases e; exact h⟩
  · obtain ⟨cA, h⟩ := arB (hts (.arrayClass .byte) (List.mem_of_getElem? (i := 150) (by decide +kernel)))
    exact ⟨cA, fun ty e => by cases e; exact h⟩
  · obtain ⟨cA, h⟩ := arZ (hts (.arrayClass .boolean) (List.mem_of_getElem? (i := 403) (by decide +kernel)))
    exact ⟨cA, fun ty e => by cases e; exact h⟩
  · obtain ⟨cA, h⟩ := arO ho.1
    exact ⟨cA, fun ty e => by cases e; exact h⟩
  · obtain ⟨cA, h⟩ := arO ho.2.1
    exact ⟨cA, fun ty e => by cases e; exact h⟩
  · obtain ⟨cA, h⟩ := arO ho.2.2.1
    exact ⟨cA, fun ty e => by cases e; exact h⟩
  · obtain ⟨cA, h⟩ := arO ho.2.2.2
    exact ⟨cA, fun ty e => by cases e; exact h⟩
  · exact ⟨0, fun ty hr => by
      rw [List.getElem?_eq_none (by show 7 ≤ k; exact h)] at hr
      cases hr⟩
def tmS (i : Nat) : Term := match i with
  | 0 => .string RX9 48
  | 1 => .string RX9 57
  | 2 => .string RX9 62
  | 3 => .string RX9 67
  | 4 => .string RX9 72
  | _ => .string RX9 84
theorem str_all {s : State} {args : Array Value} {A : Nat → Prop} (hgv : (Jvm.Cond.and given_1 narrow_1).before args s = true) (hA : ∀ a : Nat, a < s.heap.size → ¬ A a) : ∃ adK adV : Nat → Nat, vk_S 6 slen sbyt adK adV A s s.heap ∧ ∀ i : Nat, i < 6 → (tmS i).eval args s none [] s = some (.ref (adK i)) := by
  have hs := flat_of_before _ hgv
  refine vk_Sof (fun i hi => ?_) (fun i hi => ?_) (fun i hi => ?_) (fun i hi => ?_) (fun i hi => ?_) (fun i hi j hj => ?_) (fun i j hi hj hij => ?_) hA
  · rcases (show i = 0 ∨ i = 1 ∨ i = 2 ∨ i = 3 ∨ i = 4 ∨ i = 5 by omega) with rfl | rfl | rfl | rfl | rfl | rfl <;> decide
  · rcases (show i = 0 ∨ i = 1 ∨ i = 2 ∨ i = 3 ∨ i = 4 ∨ i = 5 by omega) with rfl | rfl | rfl | rfl | rfl | rfl <;> exact hs _ (by decide +kernel)
  · rcases (show i = 0 ∨ i = 1 ∨ i = 2 ∨ i = 3 ∨ i = 4 ∨ i = 5 by omega) with rfl | rfl | rfl | rfl | rfl | rfl <;> exact hs _ (by decide +kernel)
  · rcases (show i = 0 ∨ i = 1 ∨ i = 2 ∨ i = 3 ∨ i = 4 ∨ i = 5 by omega) with rfl | rfl | rfl | rfl | rfl | rfl <;> exact hs _ (by decide +kernel)
  · rcases (show i = 0 ∨ i = 1 ∨ i = 2 ∨ i = 3 ∨ i = 4 ∨ i = 5 by omega) with rfl | rfl | rfl | rfl | rfl | rfl <;> exact hs _ (by decide +kernel)
  · have hj6 : slen.getD i 0 ≤ 6 := by rcases (show i = 0 ∨ i = 1 ∨ i = 2 ∨ i = 3 ∨ i = 4 ∨ i = 5 by omega) with rfl | rfl | rfl | rfl | rfl | rfl <;> decide
    rcases (show j = 0 ∨ j = 1 ∨ j = 2 ∨ j = 3 ∨ j = 4 ∨ j = 5 by omega) with rfl | rfl | rfl | rfl | rfl | rfl <;> rcases (show i = 0 ∨ i = 1 ∨ i = 2 ∨ i = 3 ∨ i = 4 ∨ i = 5 by omega) with rfl | rfl | rfl | rfl | rfl | rfl <;> first | exact hs _ (by decide +kernel) | exact absurd hj (by decide)
  · rcases (show i = 0 ∨ i = 1 ∨ i = 2 ∨ i = 3 ∨ i = 4 ∨ i = 5 by omega) with rfl | rfl | rfl | rfl | rfl | rfl <;> rcases (show j = 0 ∨ j = 1 ∨ j = 2 ∨ j = 3 ∨ j = 4 ∨ j = 5 by omega) with rfl | rfl | rfl | rfl | rfl | rfl <;> first | exact absurd rfl hij | exact Or.inl (hs _ (by decide +kernel)) | exact Or.inr (hs _ (by decide +kernel))
theorem vk_S.cg {N : Nat} {len : List Nat} {byt : List (List Int32)} {adK adV adK' adV' : Nat → Nat} {A : Nat → Prop} {U : State} {H : Heap} (h : vk_S N len byt adK adV A U H) (e1 : ∀ i, i < N → adK' i = adK i) (e2 : ∀ i, i < N → adV' i = adV i) : vk_S N len byt adK' adV' A U H := ⟨fun i hi => by rw [e1 i hi, e2 i hi]; exact h.1 i hi, fun i j hi hj e => h.2 i j hi hj (by rw [e1 i hi, e1 j hj] at e; exact e)⟩
def gxF (b t : Nat) (adK adV : Nat → Nat) : Nat → Nat := fun i => if i = 100 then b else if i = 50 then t else if i < 10 then adK i else adV (i - 10)
