/-! a plan is copied; a house, an address, a lead are told -/
def PlB (pl : PL) : Prop := (∀ d, 0 ≤ d → d < 4 → 0 ≤ pRc pl d ∧ pRc pl d ≤ 3) ∧ ∀ a, 0 ≤ a → a < 32 → 0 ≤ pLc pl a ∧ pLc pl a ≤ 4
theorem PlanR.over {S S' : SV} {p q : Nat} {pl : PL} (h : PlanR S q pl) (hB : PlB pl) (f0 : fI S' p 0 = fI S q 0) (f1 : fI S' p 1 = fI S q 1) (e1 : ∀ x, 0 ≤ x → x < 5 → aI S' (p + 1) x = aI S (q + 1) x) (e2 : ∀ x, 0 ≤ x → x < 4 → aI S' (p + 2) x = aI S (q + 2) x) (e3 : ∀ x, 0 ≤ x → x < 12 → aI S' (p + 3) x = aI S (q + 3) x) (e4 : ∀ x, 0 ≤ x → x < 12 → aI S' (p + 4) x = aI S (q + 4) x) (e5 : ∀ x, 0 ≤ x → x < 12 → aI S' (p + 5) x = aI S (q + 5) x) (e6 : ∀ x, 0 ≤ x → x < 32 → aI S' (p + 6) x = aI S (q + 6) x) (e7 : ∀ x, 0 ≤ x → x < 4 → aI S' (p + 7) x = aI S (q + 7) x) (e8 : ∀ x, 0 ≤ x → x < 32 → aI S' (p + 8) x = aI S (q + 8) x) (e9 : ∀ x, 0 ≤ x → x < 128 → aI S' (p + 9) x = aI S (q + 9) x) : PlanR S' p pl := by
  obtain ⟨⟨h1, h2⟩, h3, h4, h5, h6⟩ := h
  refine ⟨⟨f0.trans h1, f1.trans h2⟩, fun x a b => (e1 x a b).trans (h3 x a b), fun d a b => ?_, fun x a b => ?_, fun k a b => (e7 k (by omega) (by omega)).trans (h6 k a b)⟩
  · obtain ⟨g1, g2, g3, g4⟩ := h4 d a b
    have hb := hB.1 d a b
    refine ⟨(e2 d a b).trans g1, fun i u v => ?_, fun i u v => ?_, fun i j u v w => ?_⟩
    · obtain ⟨w1, w2⟩ := g2 i u v
      exact ⟨(e3 _ (by omega) (by omega)).trans w1, (e4 _ (by omega) (by omega)).trans w2⟩
    · rw [e5 _ (by omega) (by omega)]
      exact g3 i u v
    · have y1 := g3 i u (by omega)
      have y2 := g3 j (by omega) w
      rw [e5 _ (by omega) (by omega), e5 _ (by omega) (by omega)]
      unfold keyLt
      rw [e3 _ (by omega) (by omega), e4 _ (by omega) (by omega), e3 _ (by omega) (by omega), e4 _ (by omega) (by omega)]
      exact g4 i j u v w
  · obtain ⟨g1, g2, g3⟩ := h5 x a b
    have hb := hB.2 x a b
    exact ⟨(e6 x a b).trans g1, (e8 x a b).trans g2, fun i u v => (e9 _ (by omega) (by omega)).trans (g3 i u v)⟩
section PlanX
variable {G : GT} {K : List SH} {S : SV} {p : Nat} {pl : PL}
theorem p_Plan_copy {q : Nat} (h : PlanAt K p) (hq : PlanAt K q) (hd : q + 10 ≤ p ∨ p + 10 ≤ q) (hr : AllR S) (hR : PlanR S q pl) (hB : PlB pl) : P G 1 0 0 mX5_copyFrom 0 (LE mX5_copyFrom [.ref p, .ref q]) [] K S (plQ K S p pl) := by
  obtain ⟨k0, k1, k2, k3, k4, k5, k6, k7, k8, k9⟩ := h
  obtain ⟨q0, q1, q2, q3, q4, q5, q6, q7, q8, q9⟩ := hq
  have hn : (q = p) = False := eq_false (by omega)
  rw [show LE mX5_copyFrom [.ref p, .ref q] = [some (.ref p), some (.ref q)] from rfl]
  refine T_aload_n dX5_copyFrom_0 rfl rfl ?_
  refine T_aload_n dX5_copyFrom_1 rfl rfl ?_
  refine P_geti dX5_copyFrom_2 fX5_39 (by assumption) rfl ?_
  refine P_puti dX5_copyFrom_5 fX5_39 (by assumption) rfl rfl ?_
  refine T_aload_n dX5_copyFrom_8 rfl rfl ?_
  refine T_aload_n dX5_copyFrom_9 rfl rfl ?_
  refine P_geti dX5_copyFrom_10 fX5_43 (by assumption) rfl ?_
  simp only [fI_sF, hn, false_and, if_false]
  refine P_puti dX5_copyFrom_13 fX5_43 (by assumption) rfl rfl ?_
  refine T_aload_n dX5_copyFrom_16 rfl rfl ?_
  refine P_getr dX5_copyFrom_17 fX5_9 (by assumption) rfl ?_
  refine I_iconst dX5_copyFrom_20 ?_
  refine T_aload_n dX5_copyFrom_21 rfl rfl ?_
  refine P_getr dX5_copyFrom_22 fX5_9 (by assumption) rfl ?_
  refine I_iconst dX5_copyFrom_25 ?_
  refine T_aload_n dX5_copyFrom_26 rfl rfl ?_
  refine P_getr dX5_copyFrom_27 fX5_9 (by assumption) rfl ?_
  refine P_alen dX5_copyFrom_30 (by assumption) (by decide) rfl ?_
  refine P_copy dX5_copyFrom_31 lX5_52 q1 k1 (by decide) (by decide) (by decide) (fun z => by cases z) (by decide) ?_
  refine T_aload_n dX5_copyFrom_34 rfl rfl ?_
  refine P_getr dX5_copyFrom_35 fX5_15 (by assumption) rfl ?_
  refine I_iconst dX5_copyFrom_38 ?_
  refine T_aload_n dX5_copyFrom_39 rfl rfl ?_
  refine P_getr dX5_copyFrom_40 fX5_15 (by assumption) rfl ?_
  refine I_iconst dX5_copyFrom_43 ?_
  refine T_aload_n dX5_copyFrom_44 rfl rfl ?_
  refine P_getr dX5_copyFrom_45 fX5_15 (by assumption) rfl ?_
  refine P_alen dX5_copyFrom_48 (by assumption) (by decide) rfl ?_
  refine P_copy dX5_copyFrom_49 lX5_52 q2 k2 (by decide) (by decide) (by decide) (fun z => by cases z) (by decide) ?_
  refine T_aload_n dX5_copyFrom_52 rfl rfl ?_
  refine P_getr dX5_copyFrom_53 fX5_18 (by assumption) rfl ?_
  refine I_iconst dX5_copyFrom_56 ?_
  refine T_aload_n dX5_copyFrom_57 rfl rfl ?_
  refine P_getr dX5_copyFrom_58 fX5_18 (by assumption) rfl ?_
  refine I_iconst dX5_copyFrom_61 ?_
  refine T_aload_n dX5_copyFrom_62 rfl rfl ?_
  refine P_getr dX5_copyFrom_63 fX5_18 (by assumption) rfl ?_
  refine P_alen dX5_copyFrom_66 (by assumption) (by decide) rfl ?_
  refine P_copy dX5_copyFrom_67 lX5_52 q3 k3 (by decide) (by decide) (by decide) (fun z => by cases z) (by decide) ?_
  refine T_aload_n dX5_copyFrom_70 rfl rfl ?_
  refine P_getr dX5_copyFrom_71 fX5_21 (by assumption) rfl ?_
  refine I_iconst dX5_copyFrom_74 ?_
  refine T_aload_n dX5_copyFrom_75 rfl rfl ?_
  refine P_getr dX5_copyFrom_76 fX5_21 (by assumption) rfl ?_
  refine I_iconst dX5_copyFrom_79 ?_
  refine T_aload_n dX5_copyFrom_80 rfl rfl ?_
  refine P_getr dX5_copyFrom_81 fX5_21 (by assumption) rfl ?_
  refine P_alen dX5_copyFrom_84 (by assumption) (by decide) rfl ?_
  refine P_copy dX5_copyFrom_85 lX5_52 q4 k4 (by decide) (by decide) (by decide) (fun z => by cases z) (by decide) ?_
  refine T_aload_n dX5_copyFrom_88 rfl rfl ?_
  refine P_getr dX5_copyFrom_89 fX5_24 (by assumption) rfl ?_
  refine I_iconst dX5_copyFrom_92 ?_
  refine T_aload_n dX5_copyFrom_93 rfl rfl ?_
  refine P_getr dX5_copyFrom_94 fX5_24 (by assumption) rfl ?_
  refine I_iconst dX5_copyFrom_97 ?_
  refine T_aload_n dX5_copyFrom_98 rfl rfl ?_
  refine P_getr dX5_copyFrom_99 fX5_24 (by assumption) rfl ?_
  refine P_alen dX5_copyFrom_102 (by assumption) (by decide) rfl ?_
  refine P_copy dX5_copyFrom_103 lX5_52 q5 k5 (by decide) (by decide) (by decide) (fun z => by cases z) (by decide) ?_
  refine T_aload_n dX5_copyFrom_106 rfl rfl ?_
  refine P_getr dX5_copyFrom_107 fX5_27 (by assumption) rfl ?_
  refine I_iconst dX5_copyFrom_110 ?_
  refine T_aload_n dX5_copyFrom_111 rfl rfl ?_
  refine P_getr dX5_copyFrom_112 fX5_27 (by assumption) rfl ?_
  refine I_iconst dX5_copyFrom_115 ?_
  refine T_aload_n dX5_copyFrom_116 rfl rfl ?_
  refine P_getr dX5_copyFrom_117 fX5_27 (by assumption) rfl ?_
  refine P_alen dX5_copyFrom_120 (by assumption) (by decide) rfl ?_
  refine P_copy dX5_copyFrom_121 lX5_52 q6 k6 (by decide) (by decide) (by decide) (fun z => by cases z) (by decide) ?_
  refine T_aload_n dX5_copyFrom_124 rfl rfl ?_
  refine P_getr dX5_copyFrom_125 fX5_30 (by assumption) rfl ?_
  refine I_iconst dX5_copyFrom_128 ?_
  refine T_aload_n dX5_copyFrom_129 rfl rfl ?_
  refine P_getr dX5_copyFrom_130 fX5_30 (by assumption) rfl ?_
  refine I_iconst dX5_copyFrom_133 ?_
  refine T_aload_n dX5_copyFrom_134 rfl rfl ?_
  refine P_getr dX5_copyFrom_135 fX5_30 (by assumption) rfl ?_
  refine P_alen dX5_copyFrom_138 (by assumption) (by decide) rfl ?_
  refine P_copy dX5_copyFrom_139 lX5_52 q7 k7 (by decide) (by decide) (by decide) (fun z => by cases z) (by decide) ?_
  refine T_aload_n dX5_copyFrom_142 rfl rfl ?_
  refine P_getr dX5_copyFrom_143 fX5_33 (by assumption) rfl ?_
  refine I_iconst dX5_copyFrom_146 ?_
  refine T_aload_n dX5_copyFrom_147 rfl rfl ?_
  refine P_getr dX5_copyFrom_148 fX5_33 (by assumption) rfl ?_
  refine I_iconst dX5_copyFrom_151 ?_
  refine T_aload_n dX5_copyFrom_152 rfl rfl ?_
  refine P_getr dX5_copyFrom_153 fX5_33 (by assumption) rfl ?_
  refine P_alen dX5_copyFrom_156 (by assumption) (by decide) rfl ?_
  refine P_copy dX5_copyFrom_157 lX5_52 q8 k8 (by decide) (by decide) (by decide) (fun z => by cases z) (by decide) ?_
  refine T_aload_n dX5_copyFrom_160 rfl rfl ?_
  refine P_getr dX5_copyFrom_161 fX5_36 (by assumption) rfl ?_
  refine I_iconst dX5_copyFrom_164 ?_
  refine T_aload_n dX5_copyFrom_165 rfl rfl ?_
  refine P_getr dX5_copyFrom_166 fX5_36 (by assumption) rfl ?_
  refine I_iconst dX5_copyFrom_169 ?_
  refine T_aload_n dX5_copyFrom_170 rfl rfl ?_
  refine P_getr dX5_copyFrom_171 fX5_36 (by assumption) rfl ?_
  refine P_alen dX5_copyFrom_174 (by assumption) (by decide) rfl ?_
  refine P_copy dX5_copyFrom_175 lX5_52 q9 k9 (by decide) (by decide) (by decide) (fun z => by cases z) (by decide) ?_
  exact T_return dX5_copyFrom_178 rfl ⟨_, _, rfl, rfl, rfl, hR.over hB (by simp [fI_sC, fI_sF]) (by simp [fI_sC, fI_sF]) (fun x a b => by rw [sCn (by omega), sCn (by omega), sCn (by omega), sCn (by omega), sCn (by omega), sCn (by omega), sCn (by omega), sCn (by omega), sCa a (by omega), aI_sF, aI_sF]) (fun x a b => by rw [sCn (by omega), sCn (by omega), sCn (by omega), sCn (by omega), sCn (by omega), sCn (by omega), sCn (by omega), sCa a (by omega), sCn (by omega), aI_sF, aI_sF]) (fun x a b => by rw [sCn (by omega), sCn (by omega), sCn (by omega), sCn (by omega), sCn (by omega), sCn (by omega), sCa a (by omega), sCn (by omega), sCn (by omega), aI_sF, aI_sF]) (fun x a b => by rw [sCn (by omega), sCn (by omega), sCn (by omega), sCn (by omega), sCn (by omega), sCa a (by omega), sCn (by omega), sCn (by omega), sCn (by omega), aI_sF, aI_sF]) (fun x a b => by rw [sCn (by omega), sCn (by omega), sCn (by omega), sCn (by omega), sCa a (by omega), sCn (by omega), sCn (by omega), sCn (by omega), sCn (by omega), aI_sF, aI_sF]) (fun x a b => by rw [sCn (by omega), sCn (by omega), sCn (by omega), sCa a (by omega), sCn (by omega), sCn (by omega), sCn (by omega), sCn (by omega), sCn (by omega), aI_sF, aI_sF]) (fun x a b => by rw [sCn (by omega), sCn (by omega), sCa a (by omega), sCn (by omega), sCn (by omega), sCn (by omega), sCn (by omega), sCn (by omega), sCn (by omega), aI_sF, aI_sF]) (fun x a b => by rw [sCn (by omega), sCa a (by omega), sCn (by omega), sCn (by omega), sCn (by omega), sCn (by omega), sCn (by omega), sCn (by omega), sCn (by omega), aI_sF, aI_sF]) (fun x a b => by rw [sCa a (by omega), sCn (by omega), sCn (by omega), sCn (by omega), sCn (by omega), sCn (by omega), sCn (by omega), sCn (by omega), sCn (by omega), aI_sF, aI_sF]), fun x y w => ((((((((((Same.sF (by omega)).tr (Same.sF (by omega))).tr (Same.sC (by omega))).tr (Same.sC (by omega))).tr (Same.sC (by omega))).tr (Same.sC (by omega))).tr (Same.sC (by omega))).tr (Same.sC (by omega))).tr (Same.sC (by omega))).tr (Same.sC (by omega))).tr (Same.sC (by omega)), (((((((((hr.sF (hr.1 _ _)).sF (hr.1 _ _)).sC).sC).sC).sC).sC).sC).sC).sC.sC⟩
def addHS (S : SV) (p : Nat) (z : Int) : SV := sF (sA S (p + 1) (fI S p 0) z) p 0 (fI S p 0 + 1)
theorem PlanR.addH (h : PlanR S p pl) (hs : 0 ≤ pHs pl) (z : Int) : PlanR (addHS S p z) p (addHM pl z) := by
  obtain ⟨⟨h1, h2⟩, h3, h4, h5, h6⟩ := h
  unfold addHS
  refine ⟨⟨?_, ?_⟩, fun x a b => ?_, fun d a b => ?_, fun x a b => ?_, fun k a b => ?_⟩
  · rw [fI_sF, if_pos ⟨rfl, rfl⟩, h1]
    rfl
  · rw [fI_sF, if_neg (by omega)]
    exact h2
  · rw [aI_sF, aI_sA]
    show _ = fset (pWa pl) (pHs pl) z x
    by_cases e : x = pHs pl
    · rw [if_pos ⟨rfl, by rw [h1]; exact e⟩, e, fset_t]
    · rw [if_neg (fun y => e (by rw [← h1]; exact y.2)), fset_f _ _ e]
      exact h3 x a b
  · obtain ⟨g1, g2, g3, g4⟩ := h4 d a b
    have n2 : ∀ y, aI (sF (sA S (p + 1) (fI S p 0) z) p 0 (fI S p 0 + 1)) (p + 2) y = aI S (p + 2) y := fun y => by rw [aI_sF, aI_sA, if_neg (by omega)]
    have n3 : ∀ y, aI (sF (sA S (p + 1) (fI S p 0) z) p 0 (fI S p 0 + 1)) (p + 3) y = aI S (p + 3) y := fun y => by rw [aI_sF, aI_sA, if_neg (by omega)]
    have n4 : ∀ y, aI (sF (sA S (p + 1) (fI S p 0) z) p 0 (fI S p 0 + 1)) (p + 4) y = aI S (p + 4) y := fun y => by rw [aI_sF, aI_sA, if_neg (by omega)]
    have n5 : ∀ y, aI (sF (sA S (p + 1) (fI S p 0) z) p 0 (fI S p 0 + 1)) (p + 5) y = aI S (p + 5) y := fun y => by rw [aI_sF, aI_sA, if_neg (by omega)]
    unfold RankR keyLt
    simp only [n2, n3, n4, n5]
    exact ⟨g1, g2, g3, g4⟩
  · obtain ⟨g1, g2, g3⟩ := h5 x a b
    refine ⟨?_, ?_, fun i u v => ?_⟩
    · rw [aI_sF, aI_sA, if_neg (by omega)]; exact g1
    · rw [aI_sF, aI_sA, if_neg (by omega)]; exact g2
    · rw [aI_sF, aI_sA, if_neg (by omega)]; exact g3 i u v
  · rw [aI_sF, aI_sA, if_neg (by omega)]; exact h6 k a b
theorem p_Plan_addHouse {z : Int} (h : PlanAt K p) (hr : AllR S) (hR : PlanR S p pl) (hs : 0 ≤ pHs pl ∧ pHs pl < 5) (hz : z = 0 ∨ z = 1) : P G 0 0 0 mX5_addHouse 0 (LE mX5_addHouse [.ref p, IV z]) [] K S (plQ K S p (addHM pl z)) := by
  obtain ⟨k0, k1, -⟩ := h
  have h1 : fI S p 0 = pHs pl := hR.1.1
  have hq := hR.addH hs.1 z
  have hO : Outs S (addHS S p z) p (p + 10) := fun x y w => (Same.sA (by omega)).tr (Same.sF (by omega))
  have hA : AllR (addHS S p z) := (hr.sA (by rcases hz with rfl | rfl <;> decide)).sF ⟨by omega, by omega⟩
  unfold addHS at hq hO hA
  rw [show LE mX5_addHouse [.ref p, IV z] = [some (.ref p), some (IV z)] from rfl]
  refine T_aload_n dX5_addHouse_0 rfl rfl ?_
  refine P_geti dX5_addHouse_1 fX5_39 (by assumption) rfl ?_
  refine I_iconst dX5_addHouse_4 ?_
  refine I_icmp_ge (tgt := 36) dX5_addHouse_5 (by decide) ⟨by omega, by omega⟩ ⟨by omega, by omega⟩ (fun h5 => ?_) (fun h5 => ?_)
  · omega
  · refine T_aload_n dX5_addHouse_8 rfl rfl ?_
    refine P_getr dX5_addHouse_9 fX5_9 (by assumption) rfl ?_
    refine T_aload_n dX5_addHouse_12 rfl rfl ?_
    refine P_geti dX5_addHouse_13 fX5_39 (by assumption) rfl ?_
    refine T_iload_n dX5_addHouse_16 rfl ?_
    refine I_if_eq (tgt := 24) dX5_addHouse_17 (by decide) (by rcases hz with rfl | rfl <;> decide) (fun h17 => ?_) (fun h17 => ?_)
    · obtain rfl : z = 0 := by omega
      refine I_iconst dX5_addHouse_24 ?_
      refine P_iast dX5_addHouse_25 (by assumption) ⟨by omega, by omega⟩ (by first | decide | omega) ?_
      refine T_aload_n dX5_addHouse_26 rfl rfl ?_
      refine T_dup dX5_addHouse_27 rfl ?_
      refine P_geti dX5_addHouse_28 fX5_39 (by assumption) rfl ?_
      refine I_iconst dX5_addHouse_31 ?_
      refine I_iadd dX5_addHouse_32 ?_
      refine P_puti dX5_addHouse_33 fX5_39 (by assumption) rfl rfl ?_
      skip
      exact T_return dX5_addHouse_36 rfl ⟨_, _, rfl, rfl, rfl, hq, hO, hA⟩
    · obtain rfl : z = 1 := by omega
      refine I_iconst dX5_addHouse_20 ?_
      refine T_goto (tgt := 25) dX5_addHouse_21 (by decide) ?_
      refine P_iast dX5_addHouse_25 (by assumption) ⟨by omega, by omega⟩ (by first | decide | omega) ?_
      refine T_aload_n dX5_addHouse_26 rfl rfl ?_
      refine T_dup dX5_addHouse_27 rfl ?_
      refine P_geti dX5_addHouse_28 fX5_39 (by assumption) rfl ?_
      refine I_iconst dX5_addHouse_31 ?_
      refine I_iadd dX5_addHouse_32 ?_
      refine P_puti dX5_addHouse_33 fX5_39 (by assumption) rfl rfl ?_
      skip
      exact T_return dX5_addHouse_36 rfl ⟨_, _, rfl, rfl, rfl, hq, hO, hA⟩
def tellS (S : SV) (p : Nat) (a k : Int) : SV := sA (sA S (p + 6) a k) (p + 7) k (aI (sA S (p + 6) a k) (p + 7) k + 1)
theorem kdC_tell (pl : PL) {a k : Int} (ha : 0 ≤ a ∧ a < 32) (h0 : pKd pl a = 0) (j : Int) (hj : 1 ≤ j) : kdC (tellM pl a k) j = if j = k then kdC pl j + 1 else kdC pl j := by
  unfold kdC
  rw [sumF_up (a := a) (g := fun t => b2p (pKd pl t = j)) 32 0 ha.1 (by omega) (fun t u v w => by
    show b2p (fset (pKd pl) a k t = j) = _
    rw [fset_f _ _ w])]
  have e1 : b2p (pKd pl a = j) = 0 := b2p_f (by omega)
  have e2 : b2p (pKd (tellM pl a k) a = j) = if j = k then 1 else 0 := by
    show b2p (fset (pKd pl) a k a = j) = _
    rw [fset_t]
    split
    · exact b2p_t (by omega)
    · exact b2p_f (by omega)
  rw [e1, e2]
  split <;> omega
theorem PlanR.tell (h : PlanR S p pl) {a k : Int} (ha : 0 ≤ a ∧ a < 32) (h0 : pKd pl a = 0) (hk : 1 ≤ k ∧ k ≤ 3) : PlanR (tellS S p a k) p (tellM pl a k) := by
  obtain ⟨⟨h1, h2⟩, h3, h4, h5, h6⟩ := h
  have n : ∀ (j : Nat) y, j ≠ 6 → j ≠ 7 → aI (tellS S p a k) (p + j) y = aI S (p + j) y := fun j y u v => by
    unfold tellS
    rw [aI_sA, if_neg (by omega), aI_sA, if_neg (by omega)]
  refine ⟨⟨h1, h2⟩, fun x u v => (n 1 x (by omega) (by omega)).trans (h3 x u v), fun d u v => ?_, fun x u v => ?_, fun j u v => ?_⟩
  · obtain ⟨g1, g2, g3, g4⟩ := h4 d u v
    have n2 := fun y => n 2 y (by omega) (by omega)
    have n3 := fun y => n 3 y (by omega) (by omega)
    have n4 := fun y => n 4 y (by omega) (by omega)
    have n5 := fun y => n 5 y (by omega) (by omega)
    unfold RankR keyLt
    simp only [n2, n3, n4, n5]
    exact ⟨g1, g2, g3, g4⟩
  · obtain ⟨g1, g2, g3⟩ := h5 x u v
    refine ⟨?_, (n 8 x (by omega) (by omega)).trans g2, fun i w y => (n 9 _ (by omega) (by omega)).trans (g3 i w y)⟩
    unfold tellS
    rw [aI_sA, if_neg (by omega), aI_sA]
    show _ = fset (pKd pl) a k x
    by_cases e : x = a
    · rw [if_pos ⟨rfl, e⟩, e, fset_t]
    · rw [if_neg (fun y => e y.2), fset_f _ _ e]
      exact g1
  · rw [kdC_tell pl ha h0 j u]
    unfold tellS
    rw [aI_sA]
    by_cases e : j = k
    · rw [if_pos ⟨rfl, e⟩, if_pos e, aI_sA, if_neg (by omega), e, h6 k hk.1 hk.2]
    · rw [if_neg (fun y => e y.2), if_neg e, aI_sA, if_neg (by omega)]
      exact h6 j u v
theorem sumF_le {f : Int → Int} : ∀ (m : Nat) (i : Int), (∀ t, 0 ≤ f t ∧ f t ≤ 1) → 0 ≤ sumF f m i ∧ sumF f m i ≤ m
  | 0, _, _ => ⟨by show (0 : Int) ≤ 0; omega, by show (0 : Int) ≤ 0; omega⟩
  | m + 1, i, h => by
    rw [sumF]
    have h1 := h i
    have h2 := sumF_le (f := f) m (i + 1) h
    omega
theorem kdC_le (pl : PL) (k : Int) : 0 ≤ kdC pl k ∧ kdC pl k ≤ 32 := sumF_le 32 0 (fun t => by rcases b2p_01 (pKd pl t = k) with z | z <;> rw [z] <;> decide)
theorem p_Plan_tell {a k : Int} (h : PlanAt K p) (hr : AllR S) (hR : PlanR S p pl) (ha : 0 ≤ a ∧ a < 32) (h0 : pKd pl a = 0) (hk : 1 ≤ k ∧ k ≤ 3) : P G 0 0 0 mX5_tell 0 (LE mX5_tell [.ref p, IV a, IV k]) [] K S (plQ K S p (tellM pl a k)) := by
  obtain ⟨k0, k1, k2, k3, k4, k5, k6, k7, k8, k9⟩ := h
  have hq := hR.tell ha h0 hk
  have hO : Outs S (tellS S p a k) p (p + 10) := fun x y w => (Same.sA (by omega)).tr (Same.sA (by omega))
  have hc : aI (sA S (p + 6) a k) (p + 7) k = kdC pl k := by
    rw [aI_sA, if_neg (by omega)]
    exact hR.2.2.2.2 k hk.1 hk.2
  have hl := kdC_le pl k
  have hA : AllR (tellS S p a k) := (hr.sA ⟨by omega, by omega⟩).sA (by rw [hc]; exact ⟨by omega, by omega⟩)
  rw [show LE mX5_tell [.ref p, IV a, IV k] = [some (.ref p), some (IV a), some (IV k)] from rfl]
  refine T_aload_n dX5_tell_0 rfl rfl ?_
  refine P_getr dX5_tell_1 fX5_27 (by assumption) rfl ?_
  refine T_iload_n dX5_tell_4 rfl ?_
  refine T_iload_n dX5_tell_5 rfl ?_
  refine P_iast dX5_tell_6 (by assumption) ⟨by omega, by omega⟩ (by first | decide | omega) ?_
  refine T_aload_n dX5_tell_7 rfl rfl ?_
  refine P_getr dX5_tell_8 fX5_30 (by assumption) rfl ?_
  refine T_iload_n dX5_tell_11 rfl ?_
  refine T_dup2 dX5_tell_12 rfl rfl ?_
  refine P_iald dX5_tell_13 (by assumption) ⟨by omega, by omega⟩ (by first | decide | omega) ?_
  refine I_iconst dX5_tell_14 ?_
  refine I_iadd dX5_tell_15 ?_
  refine P_iast dX5_tell_16 (by assumption) ⟨by omega, by omega⟩ (by first | decide | omega) ?_
  exact T_return dX5_tell_17 rfl ⟨_, _, rfl, rfl, rfl, hq, hO, hA⟩
def ldS (S : SV) (p : Nat) (a b n : Int) : SV := sA (sA S (p + 9) (a * 4 + n) b) (p + 8) a (n + 1)
theorem PlanR.addLd (h : PlanR S p pl) {a b : Int} (ha : 0 ≤ a ∧ a < 32) (hB : PlB pl) (hn : pLc pl a < 4) : PlanR (ldS S p a b (pLc pl a)) p (addLdM pl a b) := by
  obtain ⟨⟨h1, h2⟩, h3, h4, h5, h6⟩ := h
  have n : ∀ (j : Nat) y, j ≠ 8 → j ≠ 9 → aI (ldS S p a b (pLc pl a)) (p + j) y = aI S (p + j) y := fun j y u v => by
    unfold ldS
    rw [aI_sA, if_neg (by omega), aI_sA, if_neg (by omega)]
  have hb := hB.2 a ha.1 ha.2
  refine ⟨⟨h1, h2⟩, fun x u v => (n 1 x (by omega) (by omega)).trans (h3 x u v), fun d u v => ?_, fun x u v => ?_, fun j u v => (n 7 j (by omega) (by omega)).trans (h6 j u v)⟩
  · obtain ⟨g1, g2, g3, g4⟩ := h4 d u v
    have n2 := fun y => n 2 y (by omega) (by omega)
    have n3 := fun y => n 3 y (by omega) (by omega)
    have n4 := fun y => n 4 y (by omega) (by omega)
    have n5 := fun y => n 5 y (by omega) (by omega)
    unfold RankR keyLt
    simp only [n2, n3, n4, n5]
    exact ⟨g1, g2, g3, g4⟩
  · obtain ⟨g1, g2, g3⟩ := h5 x u v
    have hbx := hB.2 x u v
    refine ⟨(n 6 x (by omega) (by omega)).trans g1, ?_, fun i w y => ?_⟩
    · unfold ldS
      rw [aI_sA]
      show _ = fset (pLc pl) a (pLc pl a + 1) x
      by_cases e : x = a
      · rw [if_pos ⟨rfl, e⟩, e, fset_t]
      · rw [if_neg (fun y => e y.2), fset_f _ _ e, aI_sA, if_neg (by omega)]
        exact g2
    · have y : i < fset (pLc pl) a (pLc pl a + 1) x := y
      show _ = fset (pLd pl) a (fset (pLd pl a) (pLc pl a) b) x i
      unfold ldS
      rw [aI_sA, if_neg (by omega), aI_sA]
      by_cases e : x = a
      · subst e
        rw [fset_t] at y
        rw [fset_t]
        by_cases e2 : i = pLc pl x
        · rw [if_pos ⟨rfl, by omega⟩, e2, fset_t]
        · rw [if_neg (by omega), fset_f _ _ e2]
          exact g3 i w (by omega)
      · rw [fset_f _ _ e] at y
        rw [if_neg (by omega), fset_f _ _ e]
        exact g3 i w y
theorem p_Plan_addLead {a b : Int} (h : PlanAt K p) (hr : AllR S) (hR : PlanR S p pl) (ha : 0 ≤ a ∧ a < 32) (hB : PlB pl) (hn : pLc pl a < 4) (hb : R32 b) : P G 0 0 0 mX5_addLead 0 (LE mX5_addLead [.ref p, IV a, IV b]) [] K S (plQ K S p (addLdM pl a b)) := by
  obtain ⟨k0, k1, k2, k3, k4, k5, k6, k7, k8, k9⟩ := h
  have hc : aI S (p + 8) a = pLc pl a := (hR.2.2.2.1 a ha.1 ha.2).2.1
  have h0 := hB.2 a ha.1 ha.2
  have hq := hR.addLd (b := b) ha hB hn
  have hO : Outs S (ldS S p a b (pLc pl a)) p (p + 10) := fun x y w => (Same.sA (by omega)).tr (Same.sA (by omega))
  have hA : AllR (ldS S p a b (pLc pl a)) := (hr.sA hb).sA ⟨by omega, by omega⟩
  rw [show LE mX5_addLead [.ref p, IV a, IV b] = [some (.ref p), some (IV a), some (IV b), none] from rfl]
  refine T_aload_n dX5_addLead_0 rfl rfl ?_
  refine P_getr dX5_addLead_1 fX5_33 (by assumption) rfl ?_
  refine T_iload_n dX5_addLead_4 rfl ?_
  refine P_iald dX5_addLead_5 (by assumption) ⟨by omega, by omega⟩ (by first | decide | omega) ?_
  rw [hc]
  refine T_istore_n dX5_addLead_6 (by decide) rfl ?_
  refine T_iload_n dX5_addLead_7 rfl ?_
  refine I_iconst dX5_addLead_8 ?_
  refine I_icmp_ge (tgt := 32) dX5_addLead_9 (by decide) ⟨by omega, by omega⟩ ⟨by omega, by omega⟩ (fun h9 => ?_) (fun h9 => ?_)
  · omega
  · refine T_aload_n dX5_addLead_12 rfl rfl ?_
    refine P_getr dX5_addLead_13 fX5_36 (by assumption) rfl ?_
    refine T_iload_n dX5_addLead_16 rfl ?_
    refine I_iconst dX5_addLead_17 ?_
    refine I_imul dX5_addLead_18 ?_
    refine T_iload_n dX5_addLead_19 rfl ?_
    refine I_iadd dX5_addLead_20 ?_
    refine T_iload_n dX5_addLead_21 rfl ?_
    refine P_iast dX5_addLead_22 (by assumption) ⟨by omega, by omega⟩ (by first | decide | omega) ?_
    refine T_aload_n dX5_addLead_23 rfl rfl ?_
    refine P_getr dX5_addLead_24 fX5_33 (by assumption) rfl ?_
    refine T_iload_n dX5_addLead_27 rfl ?_
    refine T_iload_n dX5_addLead_28 rfl ?_
    refine I_iconst dX5_addLead_29 ?_
    refine I_iadd dX5_addLead_30 ?_
    refine P_iast dX5_addLead_31 (by assumption) ⟨by omega, by omega⟩ (by first | decide | omega) ?_
    exact T_return dX5_addLead_32 rfl ⟨_, _, rfl, rfl, rfl, hq, hO, hA⟩
end PlanX
