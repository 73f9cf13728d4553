/-! the class's plan, as the carrier uses it -/
theorem pdec_t {q : Prop} (h : @decide q (Classical.propDecidable q) = true) : q := @of_decide_eq_true q (Classical.propDecidable q) h
theorem pdec_i {q : Prop} (h : q) : @decide q (Classical.propDecidable q) = true := @decide_eq_true q (Classical.propDecidable q) h
theorem sorted_eq {α : Type} {R : α → α → Prop} (hi : ∀ x, ¬ R x x) (ht : ∀ x y z, R x y → R y z → R x z) : ∀ (l1 l2 : List α), l1.Pairwise R → l2.Pairwise R → (∀ z, z ∈ l1 ↔ z ∈ l2) → l1 = l2
  | [], [], _, _, _ => rfl
  | [], y :: l2, _, _, h => by have := (h y).mpr (List.mem_cons_self ..); cases this
  | x :: l1, [], _, _, h => by have := (h x).mp (List.mem_cons_self ..); cases this
  | x :: l1, y :: l2, h1, h2, h => by
    obtain ⟨a1, b1⟩ := List.pairwise_cons.mp h1
    obtain ⟨a2, b2⟩ := List.pairwise_cons.mp h2
    have hxy : x = y := by
      rcases List.mem_cons.mp ((h x).mp (List.mem_cons_self ..)) with e | e
      · exact e
      · rcases List.mem_cons.mp ((h y).mpr (List.mem_cons_self ..)) with e2 | e2
        · exact e2.symm
        · exact absurd (ht _ _ _ (a1 y e2) (a2 x e)) (hi x)
    subst hxy
    congr 1
    refine sorted_eq hi ht l1 l2 b1 b2 (fun z => ⟨fun hz => ?_, fun hz => ?_⟩)
    · rcases List.mem_cons.mp ((h z).mp (List.mem_cons_of_mem _ hz)) with e | e
      · rw [e] at hz
        exact absurd (a1 x hz) (hi x)
      · exact e
    · rcases List.mem_cons.mp ((h z).mpr (List.mem_cons_of_mem _ hz)) with e | e
      · rw [e] at hz
        exact absurd (a2 x hz) (hi x)
      · exact e
theorem filter_pre {α : Type} {c : α → Bool} : ∀ (l : List α) (i : Nat), l.Pairwise (fun x y => c y = true → c x = true) → (l.filter c)[i]? = (l[i]?).filter c
  | [], i, _ => by simp
  | x :: l, i, h => by
    obtain ⟨a, b⟩ := List.pairwise_cons.mp h
    by_cases e : c x = true
    · rw [List.filter_cons_of_pos e]
      cases i with
      | zero => simp [Option.filter, e]
      | succ i => simpa using filter_pre l i b
    · rw [List.filter_cons_of_neg e]
      have hn : ∀ y ∈ l, c y = false := fun y hy => by
        cases h2 : c y with
        | false => rfl
        | true => exact absurd (a y hy h2) e
      have : l.filter c = [] := List.filter_eq_nil_iff.mpr (fun y hy => by rw [hn y hy]; decide)
      rw [this]
      cases i with
      | zero => simp [Option.filter, e]
      | succ i =>
        show none = (l[i]?).filter c
        cases h3 : l[i]? with
        | none => rfl
        | some y => simp [Option.filter, hn y (List.mem_of_getElem? h3)]
theorem fndF_shift {p q : Int → Prop} (c : Int) : ∀ (m : Nat) (i : Int), 0 ≤ i → (∀ t, i ≤ t → t < i + m → (p (c + t) ↔ q t)) → fndF p m (c + i) = if fndF q m i = -4 then -4 else c + fndF q m i
  | 0, i, _, _ => by rw [fndF_0, fndF_0]; rfl
  | m + 1, i, h0, h => by
    by_cases e : q i
    · rw [fndF_t (by omega) e, fndF_t (by omega) ((h i (by omega) (by omega)).mpr e), if_neg (by omega)]
    · rw [fndF_f e, fndF_f (fun z => e ((h i (by omega) (by omega)).mp z)), show c + i + 1 = c + (i + 1) by omega]
      exact fndF_shift c m (i + 1) (by omega) (fun t a b => h t (by omega) (by omega))
section PF
variable {S : SV} {p : Nat} {pl : PL}
theorem prefO_eq (hR : PlanR S p pl) {h d : Int} (hd : 0 ≤ d ∧ d < 4) : prefO S p h d = prefM pl h d := by
  obtain ⟨g1, g2, g3, g4⟩ := hR.2.2.1 d hd.1 hd.2
  have e := fndF_shift (p := rhIs S p h) (q := rhAt pl h d) (d * 3) (pRc pl d).toNat 0 (by omega) (fun t a b => by
    unfold rhIs rhAt
    rw [(g2 t a (by omega)).1])
  rw [Int.add_zero] at e
  have hs := fndF_spec (rhAt pl h d) (pRc pl d).toNat 0
  unfold prefO prefM placeM
  rw [g1, e]
  by_cases h4 : fndF (rhAt pl h d) (pRc pl d).toNat 0 = -4
  · rw [if_pos h4, if_pos rfl, if_pos h4]
  · rw [if_neg h4, if_neg h4]
    rcases hs with ⟨z, -⟩ | ⟨z1, z2, -, -⟩
    · exact absurd z h4
    · rw [if_neg (by omega)]
      exact (g2 _ (by omega) (by omega)).2
theorem prefM_cases (pl : PL) (h d : Int) : (prefM pl h d = -4 ∧ ∀ i, 0 ≤ i → i < pRc pl d → pRh pl d i ≠ h) ∨ ∃ i, 0 ≤ i ∧ i < pRc pl d ∧ pRh pl d i = h ∧ prefM pl h d = pRp pl d i := by
  unfold prefM placeM
  rcases fndF_spec (rhAt pl h d) (pRc pl d).toNat 0 with ⟨z, z2⟩ | ⟨z1, z2, z3, -⟩
  · rw [if_pos z]
    exact Or.inl ⟨rfl, fun i a b => z2 i a (by omega)⟩
  · rw [if_neg (by omega)]
    exact Or.inr ⟨_, z1, by omega, z3, rfl⟩
theorem prefM_at (hP : PlOk pl) {d i : Int} (hd : 0 ≤ d ∧ d < 4) (hi : 0 ≤ i ∧ i < pRc pl d) : prefM pl (pRh pl d i) d = pRp pl d i := by
  rcases prefM_cases pl (pRh pl d i) d with ⟨-, z⟩ | ⟨j, a, b, c, e⟩
  · exact absurd rfl (z i hi.1 hi.2)
  · rw [e, (hP.2.2.2.1 d j hd.1 hd.2 a b).2.2 i hi.1 hi.2 c]
theorem keyLt.irr {x : Int} (h : keyLt S p x x) : False := by
  unfold keyLt at h
  omega
theorem rank_sur {n d j : Int} (hR : RankR S p n d) (hn : n ≤ 3) (hj : 0 ≤ j ∧ j < n) : ∃ i, 0 ≤ i ∧ i < n ∧ aI S (p + 5) (d * 3 + i) = d * 3 + j := by
  obtain ⟨h1, h2⟩ := hR
  have ne : ∀ i j, 0 ≤ i → i < j → j < n → aI S (p + 5) (d * 3 + i) ≠ aI S (p + 5) (d * 3 + j) := fun i j a b c e => by
    have := h2 i j a b c
    rw [e] at this
    exact this.irr
  rcases (show n = 1 ∨ n = 2 ∨ n = 3 by omega) with rfl | rfl | rfl
  · exact ⟨0, by omega, by omega, by have := h1 0 (by omega) (by omega); omega⟩
  · have a0 := h1 0 (by omega) (by omega)
    have a1 := h1 1 (by omega) (by omega)
    have n01 := ne 0 1 (by omega) (by omega) (by omega)
    by_cases e : aI S (p + 5) (d * 3 + 0) = d * 3 + j
    · exact ⟨0, by omega, by omega, e⟩
    · exact ⟨1, by omega, by omega, by omega⟩
  · have a0 := h1 0 (by omega) (by omega)
    have a1 := h1 1 (by omega) (by omega)
    have a2 := h1 2 (by omega) (by omega)
    have n01 := ne 0 1 (by omega) (by omega) (by omega)
    have n02 := ne 0 2 (by omega) (by omega) (by omega)
    have n12 := ne 1 2 (by omega) (by omega) (by omega)
    by_cases e : aI S (p + 5) (d * 3 + 0) = d * 3 + j
    · exact ⟨0, by omega, by omega, e⟩
    · by_cases e2 : aI S (p + 5) (d * 3 + 1) = d * 3 + j
      · exact ⟨1, by omega, by omega, e2⟩
      · exact ⟨2, by omega, by omega, by omega⟩
/-- the receiver at rank i -/
theorem rank_at (hR : PlanR S p pl) {d i : Int} (hd : 0 ≤ d ∧ d < 4) (hi : 0 ≤ i ∧ i < pRc pl d) : ∃ t, 0 ≤ t ∧ t < pRc pl d ∧ aI S (p + 5) (d * 3 + i) = d * 3 + t ∧ aI S (p + 3) (aI S (p + 5) (d * 3 + i)) = pRh pl d t ∧ aI S (p + 4) (aI S (p + 5) (d * 3 + i)) = pRp pl d t := by
  obtain ⟨g1, g2, g3, g4⟩ := hR.2.2.1 d hd.1 hd.2
  have h1 := g3 i hi.1 hi.2
  have h2 := g2 (aI S (p + 5) (d * 3 + i) - d * 3) (by omega) (by omega)
  rw [show d * 3 + (aI S (p + 5) (d * 3 + i) - d * 3) = aI S (p + 5) (d * 3 + i) by omega] at h2
  exact ⟨aI S (p + 5) (d * 3 + i) - d * 3, by omega, by omega, by omega, h2.1, h2.2⟩
def kapM (pl : PL) (d x y : Int) : Prop := prefM pl x d < prefM pl y d ∨ prefM pl x d = prefM pl y d ∧ x < y
theorem rank_kap (hR : PlanR S p pl) (hP : PlOk pl) {d i j : Int} (hd : 0 ≤ d ∧ d < 4) (h0 : 0 ≤ i) (h1 : i < j) (h2 : j < pRc pl d) : kapM pl d (aI S (p + 3) (aI S (p + 5) (d * 3 + i))) (aI S (p + 3) (aI S (p + 5) (d * 3 + j))) := by
  have z := (hR.2.2.1 d hd.1 hd.2).2.2.2 i j h0 h1 h2
  obtain ⟨t, t0, t1, -, t3, t4⟩ := rank_at hR hd ⟨h0, by omega⟩
  obtain ⟨u, u0, u1, -, u3, u4⟩ := rank_at hR (i := j) hd ⟨by omega, h2⟩
  unfold keyLt at z
  unfold kapM
  rw [t3, u3, prefM_at hP hd ⟨t0, t1⟩, prefM_at hP hd ⟨u0, u1⟩]
  rw [t3, t4, u3, u4] at z
  exact z
theorem PlanR.last (hR : PlanR S p pl) (hP : PlOk pl) {h d : Int} (hd : 0 ≤ d ∧ d < 4) (hn : pRc pl d ≠ 0) (hrc : hasRc S p d) : isLastP S p h d ↔ lastM pl h d := by
  have hb := hP.2.2.1 d hd.1 hd.2
  obtain ⟨t, t0, t1, t2, t3, t4⟩ := rank_at hR (i := 0) hd ⟨by omega, by omega⟩
  rw [Int.add_zero] at t2 t3 t4
  have hmin : ∀ j, 0 ≤ j → j < pRc pl d → pRp pl d t ≤ pRp pl d j := fun j a b => by
    obtain ⟨i, i0, i1, i2⟩ := rank_sur (hR.2.2.1 d hd.1 hd.2).2.2 hb.2.1 ⟨a, b⟩
    obtain ⟨u, u0, u1, u2, u3, u4⟩ := rank_at hR (i := i) hd ⟨i0, i1⟩
    have eu : u = j := by omega
    by_cases e : i = 0
    · subst e
      rw [Int.add_zero] at u2
      have : u = t := by omega
      rw [← this, eu]
      omega
    · have z := (hR.2.2.1 d hd.1 hd.2).2.2.2 0 i (by omega) (by omega) i1
      unfold keyLt at z
      rw [Int.add_zero, t4, t3, u4, u3, eu] at z
      omega
  have hpt := (hP.2.2.2.1 d t hd.1 hd.2 t0 t1).2.1
  unfold isLastP lastM
  rw [prefO_eq hR hd, t4]
  constructor
  · intro z
    rw [z.2]
    exact ⟨by omega, hmin⟩
  · intro z
    refine ⟨hrc, ?_⟩
    rcases prefM_cases pl h d with ⟨y, -⟩ | ⟨j, a, b, c, e⟩
    · exact absurd y z.1
    · have z2 := z.2 t t0 t1
      have z3 := hmin j a b
      rw [e] at z2 ⊢
      omega
theorem range_kap (n : Nat) : (List.range n).Pairwise (fun a b => a < b) := List.pairwise_lt_range
theorem asksM_eq (hR : PlanR S p pl) (hP : PlOk pl) {h d : Int} (hd : 0 ≤ d ∧ d < 4) : asksM pl h d = ((List.range (pRc pl d).toNat).map (fun t : Nat => aI S (p + 3) (aI S (p + 5) (d * 3 + (t : Int))))).filter (fun x => @decide (prefM pl h d = -4 ∨ prefM pl x d < prefM pl h d) (Classical.propDecidable _)) := by
  have hb := hP.2.2.1 d hd.1 hd.2
  refine sorted_eq (R := kapM pl d) (fun x z => by unfold kapM at z; omega) (fun x y z a b => by unfold kapM at *; omega) _ _ ?_ ?_ (fun z => ?_)
  · unfold asksM
    rw [List.pairwise_flatMap]
    refine ⟨fun pr _ => ?_, (range_kap _).imp (fun {a b} hab x hx y hy => ?_)⟩
    · refine List.Pairwise.imp_of_mem (R := fun x y : Int => x < y) (fun {x y} hx hy hxy => ?_) ?_
      · rw [List.mem_filter] at hx hy
        exact Or.inr ⟨by rw [pdec_t hx.2, pdec_t hy.2], hxy⟩
      · refine List.Pairwise.filter _ ?_
        rw [List.pairwise_map]
        exact (range_kap _).imp (fun {a b} hab => by omega)
    · rw [List.mem_filter] at hx hy
      exact Or.inl (by rw [pdec_t hx.2, pdec_t hy.2]; omega)
  · refine List.Pairwise.filter _ ?_
    rw [List.pairwise_map]
    refine List.Pairwise.imp_of_mem (fun {a b} ha hb2 hab => ?_) (range_kap _)
    rw [List.mem_range] at ha hb2
    exact rank_kap hR hP hd (by omega) (by omega) (by omega)
  · have hl : z ∈ asksM pl h d ↔ (0 ≤ z ∧ z < pHs pl) ∧ 0 ≤ prefM pl z d ∧ (prefM pl h d = -4 ∧ prefM pl z d < 10 ∨ prefM pl h d ≠ -4 ∧ prefM pl z d < prefM pl h d) := by
      unfold asksM
      rw [List.mem_flatMap]
      constructor
      · rintro ⟨pr, h1, h2⟩
        rw [List.mem_filter, List.mem_map] at h2
        obtain ⟨⟨t, ht, rfl⟩, h3⟩ := h2
        rw [List.mem_range] at h1 ht
        have h3 := pdec_t h3
        refine ⟨⟨by omega, by omega⟩, by omega, ?_⟩
        by_cases e : prefM pl h d = -4
        · rw [if_pos e] at h1
          exact Or.inl ⟨e, by omega⟩
        · rw [if_neg e] at h1
          exact Or.inr ⟨e, by omega⟩
      · rintro ⟨h1, h2, h3⟩
        refine ⟨(prefM pl z d).toNat, ?_, ?_⟩
        · rw [List.mem_range]
          split <;> omega
        · rw [List.mem_filter, List.mem_map]
          exact ⟨⟨z.toNat, List.mem_range.mpr (by omega), by omega⟩, pdec_i (by omega)⟩
    rw [hl, List.mem_filter, List.mem_map]
    constructor
    · rintro ⟨h1, h2, h3⟩
      rcases prefM_cases pl z d with ⟨y, -⟩ | ⟨j, a, b, c, e⟩
      · omega
      · obtain ⟨i, i0, i1, i2⟩ := rank_sur (hR.2.2.1 d hd.1 hd.2).2.2 hb.2.1 ⟨a, b⟩
        obtain ⟨u, u0, u1, u2, u3, u4⟩ := rank_at hR (i := i) hd ⟨i0, i1⟩
        have eu : u = j := by omega
        refine ⟨⟨i.toNat, List.mem_range.mpr (by omega), ?_⟩, pdec_i ?_⟩
        · rw [show ((i.toNat : Nat) : Int) = i by omega, u3, eu]
          exact c
        · omega
    · rintro ⟨⟨t, ht, rfl⟩, h2⟩
      rw [List.mem_range] at ht
      have h2 := pdec_t h2
      obtain ⟨u, u0, u1, u2, u3, u4⟩ := rank_at hR (i := (t : Int)) hd ⟨by omega, by omega⟩
      have hq := hP.2.2.2.1 d u hd.1 hd.2 u0 u1
      rw [u3] at h2 ⊢
      rw [prefM_at hP hd ⟨u0, u1⟩] at h2 ⊢
      refine ⟨hq.1, hq.2.1.1, ?_⟩
      rcases Classical.em (prefM pl h d = -4) with e | e
      · exact Or.inl ⟨e, by omega⟩
      · exact Or.inr ⟨e, by omega⟩
theorem PlanR.asked (hR : PlanR S p pl) (hP : PlOk pl) {h d i : Int} (hd : 0 ≤ d ∧ d < 4) (hi : 0 ≤ i) : askedO S p h d i = ((asksM pl h d)[i.toNat]?).getD (-4) := by
  have hb := hP.2.2.1 d hd.1 hd.2
  have hpre : ((List.range (pRc pl d).toNat).map (fun t : Nat => aI S (p + 3) (aI S (p + 5) (d * 3 + (t : Int))))).Pairwise (fun x y => (@decide (prefM pl h d = -4 ∨ prefM pl y d < prefM pl h d) (Classical.propDecidable _)) = true → (@decide (prefM pl h d = -4 ∨ prefM pl x d < prefM pl h d) (Classical.propDecidable _)) = true) := by
    rw [List.pairwise_map]
    refine List.Pairwise.imp_of_mem (fun {a b} ha hb2 hab hc => ?_) (range_kap _)
    rw [List.mem_range] at ha hb2
    have hc := pdec_t hc
    have hk := rank_kap hR hP hd (i := (a : Int)) (j := (b : Int)) (by omega) (by omega) (by omega)
    unfold kapM at hk
    exact pdec_i (by omega)
  rw [asksM_eq hR hP hd, filter_pre _ _ hpre]
  unfold askedO
  rw [(hR.2.2.1 d hd.1 hd.2).1]
  by_cases e : pRc pl d ≤ i
  · rw [if_pos e, List.getElem?_eq_none (by rw [List.length_map, List.length_range]; omega)]
    rfl
  · rw [if_neg e, List.getElem?_map, List.getElem?_range (by omega)]
    obtain ⟨u, u0, u1, u2, u3, u4⟩ := rank_at hR (i := i) hd ⟨hi, by omega⟩
    rw [prefO_eq hR hd]
    show _ = (Option.filter _ (some (aI S (p + 3) (aI S (p + 5) (d * 3 + ((i.toNat : Nat) : Int)))))).getD (-4)
    rw [show ((i.toNat : Nat) : Int) = i by omega, u3, u4]
    have hpm := prefM_at hP hd ⟨u0, u1⟩
    by_cases e2 : prefM pl h d = -4 ∨ pRp pl d u < prefM pl h d
    · rw [if_pos e2, Option.filter_some, if_pos (pdec_i (q := prefM pl h d = -4 ∨ prefM pl (pRh pl d u) d < prefM pl h d) (by rw [hpm]; exact e2))]
      rfl
    · rw [if_neg e2, Option.filter_some, if_neg (fun z => e2 (by have z := pdec_t z; rw [hpm] at z; exact z))]
      rfl
theorem PlanR.toF (hR : PlanR S p pl) (hP : PlOk pl) : PlanF S p pl := by
  have hrc : ∀ d, 0 ≤ d → d < 4 → (hasRc S p d ↔ pRc pl d ≠ 0) := fun d a b => by
    have hb := hP.2.2.1 d a b
    unfold hasRc
    rw [hR.1.2, (hR.2.2.1 d a b).1]
    constructor
    · intro z
      omega
    · intro z
      refine ⟨a, ?_, by omega⟩
      have := hb.2.2
      omega
  refine ⟨hP, ⟨by rw [hR.1.1]; exact hP.1, by rw [hR.1.2]; exact hP.2.1, fun d a b => ?_, fun d i a b c e => ?_⟩, hR.1.1, fun h a b => hR.2.1 h a (by have := hP.1; omega), fun a u v => hR.2.2.2.1 a u v, hrc, fun h d a b c => hR.last hP ⟨a, b⟩ c ((hrc d a b).mpr c), fun h d i a b c => hR.asked hP ⟨a, b⟩ c⟩
  · rw [(hR.2.2.1 d a b).1]
    have := hP.2.2.1 d a b
    omega
  · rw [(hR.2.2.1 d a b).1] at e ⊢
    exact (hR.2.2.1 d a b).2.2.1 i c e
end PF
