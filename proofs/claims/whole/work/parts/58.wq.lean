/-! the class's calls that only look -/
def houseB (p : PL) (h : Int) : Prop := 0 ≤ h ∧ h < pHs p
def domB (p : PL) (d : Int) : Prop := 0 ≤ d ∧ d < pDm p
theorem WQ.eq {K : List SH} {S : SV} {x v : Int} {M : MS} {N : Int} (h : WR K S M N) (e : x = v) : WQ K S v M N (some (IV x)) K S := by
  subst e
  exact WQ.here h
def mE (M : MS) : EN := (mNw M).1
def mIt (M : MS) : List Row := (mNw M).2
def z0R : Row := fun _ => 0
def inM (its : List Row) (h : Int) (t : Int) : Prop := (its.getD t.toNat z0R) 0 = h
noncomputable def ruleM (M : MS) (w : Int) : Int := if w < 0 ∨ 17 < w then -1 else if w = 0 then pHs (mPl M) else if w = 1 then pDm (mPl M) else if w < 5 then kdC (mPl M) (w - 1) else if w = 5 then eCl (mE M) else if w = 6 then eLe (mE M) else if w = 7 then ((mIt M).length : Int) else if w = 17 then eOl (mE M) else eTy (mE M) (w - 8)
noncomputable def houseA (M : MS) (h w : Int) : Int := @ite _ (houseB (mPl M) h) (Classical.propDecidable _) (if w = 0 then pWa (mPl M) h else if w = 1 then eUp (mE M) h else if w = 2 then sumF (fun t => b2p (inM (mIt M) h t)) (mIt M).length 0 else if w = 3 then ((eSg (mE M) h).length : Int) else if w = 4 then sumF (fun t => ((eSg (mE M) h).getD t.toNat z0R) 4) (eSg (mE M) h).length 0 else if w = 5 then sumF (fun d => b2p (lastM (mPl M) h d)) (pDm (mPl M)).toNat 0 else -1) (-1)
noncomputable def recA (M : MS) (d i w : Int) : Int := @ite _ (domB (mPl M) d ∧ 0 ≤ i ∧ 0 ≤ w ∧ w ≤ 2) (Classical.propDecidable _) (if pRc (mPl M) d ≤ i then -4 else if w = 2 then b2p (lastM (mPl M) (pRh (mPl M) d i) d) else if w = 0 then pRh (mPl M) d i else pRp (mPl M) d i) (-1)
noncomputable def addrA (M : MS) (a w : Int) : Int := @ite _ (addrB a ∧ 0 ≤ w ∧ w ≤ 3) (Classical.propDecidable _) (if w = 0 then pKd (mPl M) a else if pKd (mPl M) a = 3 ∧ w = 1 then pLc (mPl M) a else if pKd (mPl M) a = 1 then (if w = 1 then eGv (mE M) a else if eGv (mE M) a = 0 then -4 else if w = 2 then (eWn (mE M) a).getD ((eWn (mE M) a).length - 1) 0 else eBf (mE M) a) else -4) (-1)
noncomputable def leadsA (M : MS) (a i : Int) : Int := @ite _ (addrB a ∧ 0 ≤ i) (Classical.propDecidable _) (if i < pLc (mPl M) a then pLd (mPl M) a i else -4) (-1)
noncomputable def reachA (M : MS) (a i : Int) : Int := @ite _ (addrB a ∧ 0 ≤ i) (Classical.propDecidable _) (nthF (fun b => reachP (mPl M) a b ∧ pKd (mPl M) b = 1) 32 0 i) (-1)
noncomputable def itemQ (M : MS) (h i w : Int) : Int := @ite _ (houseB (mPl M) h ∧ 0 ≤ i ∧ 0 ≤ w ∧ w ≤ 6) (Classical.propDecidable _) (if nthF (inM (mIt M) h) (mIt M).length 0 i = -4 then -4 else itemA ((mIt M).getD (nthF (inM (mIt M) h) (mIt M).length 0 i).toNat z0R) w) (-1)
noncomputable def asksA (M : MS) (h d i : Int) : Int := @ite _ (houseB (mPl M) h ∧ domB (mPl M) d ∧ 0 ≤ i) (Classical.propDecidable _) (((asksM (mPl M) h d)[i.toNat]?).getD (-4)) (-1)
noncomputable def strgA (M : MS) (h i w : Int) : Int := @ite _ (houseB (mPl M) h ∧ 0 ≤ i ∧ 0 ≤ w ∧ w < 5) (Classical.propDecidable _) (if i < (eSg (mE M) h).length then ((eSg (mE M) h).getD i.toNat z0R) w.toNat else -4) (-1)
noncomputable def logA (M : MS) (i w : Int) : Int := @ite _ (0 ≤ i ∧ 0 ≤ w ∧ w < 5) (Classical.propDecidable _) (if i < (eLg (mE M)).length then ((eLg (mE M)).getD i.toNat z0R) w.toNat else -4) (-1)
def cntA (M : MS) (w : Int) : Int := if w = 0 then (if (mIm M 0).isSome then 1 else 0) + (if (mIm M 1).isSome then 1 else 0) else if w = 1 then mN M else if w = 2 then (match mSh M 0 with
  | none => -4
  | some q => q.2.1) else -1
theorem getD_at {l : List Row} {i : Nat} (h : i < l.length) : l[i]? = some (l.getD i z0R) := by
  rw [List.getD_eq_getElem?_getD, List.getElem?_eq_getElem h]
  rfl
theorem lastP_iff {S : SV} {p : Nat} {pl : PL} (hF : PlanF S p pl) {h d : Int} (hd : 0 ≤ d ∧ d < 4) : isLastP S p h d ↔ lastM pl h d := by
  obtain ⟨h1, h2, h3, h4, h5, h6, h7, h8⟩ := hF
  by_cases hz : pRc pl d = 0
  · constructor
    · intro q
      exact absurd hz ((h6 d hd.1 hd.2).mp q.1)
    · intro q
      rcases prefM_cases pl h d with z | ⟨i, z0, z1, -⟩
      · exact absurd z.1 q.1
      · omega
  · exact h7 h d hd.1 hd.2 hz
section WQs
variable {G : GT} {K : List SH} {S : SV} {M : MS} {N : Int}
theorem p_isHouse {h : Int} (hW : WR K S M N) (hh : R32 h) : P G 0 0 0 mX10_isHouse 0 (LE mX10_isHouse [.ref 0, IV h]) [] K S (Ret K (some (IV (b2p (houseB (mPl M) h)))) S) := by
  have w0 := hW.1.1
  have w2 := hW.1.2.2.1.1
  have e0 : fI S 13 0 = pHs (mPl M) := hW.2.2.1.1.1.1
  have hb := hW.2.2.1.2.1
  rw [show LE mX10_isHouse [.ref 0, IV h] = [some (.ref 0), some (IV h)] from rfl]
  refine T_iload_n dX10_isHouse_0 rfl ?_
  refine I_if_lt (tgt := 19) dX10_isHouse_1 (by decide) hh (fun h1 => ?_) (fun h1 => ?_)
  · have hq : b2p (houseB (mPl M) h) = 0 := b2p_f (fun z => by have := z.1; have := z.2; omega)
    refine I_iconst dX10_isHouse_19 ?_
    exact I_zreturn dX10_isHouse_20 rfl (by decide) ⟨_, _, rfl, by rw [hq], rfl, rfl⟩
  · refine T_iload_n dX10_isHouse_4 rfl ?_
    refine T_aload_n dX10_isHouse_5 rfl rfl ?_
    refine P_getr dX10_isHouse_6 fX10_19 (by assumption) rfl ?_
    refine P_geti dX10_isHouse_9 fX10_87 (by assumption) rfl ?_
    rw [e0]
    refine I_icmp_ge (tgt := 19) dX10_isHouse_12 (by decide) hh ⟨by omega, by omega⟩ (fun h12 => ?_) (fun h12 => ?_)
    · have hq : b2p (houseB (mPl M) h) = 0 := b2p_f (fun z => by have := z.1; have := z.2; omega)
      refine I_iconst dX10_isHouse_19 ?_
      exact I_zreturn dX10_isHouse_20 rfl (by decide) ⟨_, _, rfl, by rw [hq], rfl, rfl⟩
    · have hq : b2p (houseB (mPl M) h) = 1 := b2p_t ⟨by omega, by omega⟩
      refine I_iconst dX10_isHouse_15 ?_
      refine T_goto (tgt := 20) dX10_isHouse_16 (by decide) ?_
      exact I_zreturn dX10_isHouse_20 rfl (by decide) ⟨_, _, rfl, by rw [hq], rfl, rfl⟩
theorem p_isDomain {h : Int} (hW : WR K S M N) (hh : R32 h) : P G 0 0 0 mX10_isDomain 0 (LE mX10_isDomain [.ref 0, IV h]) [] K S (Ret K (some (IV (b2p (domB (mPl M) h)))) S) := by
  have w0 := hW.1.1
  have w2 := hW.1.2.2.1.1
  have e0 : fI S 13 1 = pDm (mPl M) := hW.2.2.1.1.1.2
  have hb := hW.2.2.1.2.2.1
  rw [show LE mX10_isDomain [.ref 0, IV h] = [some (.ref 0), some (IV h)] from rfl]
  refine T_iload_n dX10_isDomain_0 rfl ?_
  refine I_if_lt (tgt := 19) dX10_isDomain_1 (by decide) hh (fun h1 => ?_) (fun h1 => ?_)
  · have hq : b2p (domB (mPl M) h) = 0 := b2p_f (fun z => by have := z.1; have := z.2; omega)
    refine I_iconst dX10_isDomain_19 ?_
    exact I_zreturn dX10_isDomain_20 rfl (by decide) ⟨_, _, rfl, by rw [hq], rfl, rfl⟩
  · refine T_iload_n dX10_isDomain_4 rfl ?_
    refine T_aload_n dX10_isDomain_5 rfl rfl ?_
    refine P_getr dX10_isDomain_6 fX10_19 (by assumption) rfl ?_
    refine P_geti dX10_isDomain_9 fX10_90 (by assumption) rfl ?_
    rw [e0]
    refine I_icmp_ge (tgt := 19) dX10_isDomain_12 (by decide) hh ⟨by omega, by omega⟩ (fun h12 => ?_) (fun h12 => ?_)
    · have hq : b2p (domB (mPl M) h) = 0 := b2p_f (fun z => by have := z.1; have := z.2; omega)
      refine I_iconst dX10_isDomain_19 ?_
      exact I_zreturn dX10_isDomain_20 rfl (by decide) ⟨_, _, rfl, by rw [hq], rfl, rfl⟩
    · have hq : b2p (domB (mPl M) h) = 1 := b2p_t ⟨by omega, by omega⟩
      refine I_iconst dX10_isDomain_15 ?_
      refine T_goto (tgt := 20) dX10_isDomain_16 (by decide) ?_
      exact I_zreturn dX10_isDomain_20 rfl (by decide) ⟨_, _, rfl, by rw [hq], rfl, rfl⟩
theorem WR.rnd (h : WR K S M N) : ∃ ad, AdOk (23 + 2) ad ∧ RoundR S 23 ad (mIt M) (mIt M).length (mE M) := by
  obtain ⟨ad, c1, c2, c3, c4, c5, c6⟩ := h.2.2.2.1.1
  exact ⟨ad, c1.2.2.2, c5⟩
theorem WR.pf (h : WR K S M N) : PlanF S 13 (mPl M) := h.2.2.1.1.toF h.2.2.1.2
theorem p_W_rule {w : Int} (h : WR K S M N) (hw : R32 w) : P G 0 0 0 mX10_rule 0 (LE mX10_rule [.ref 0, IV w]) [] K S (WQ K S (ruleM M w) M N) := by
  have w0 := h.1.1
  obtain ⟨ad, hA, hR⟩ := h.rnd
  have k2 := h.1.2.2.1
  have k2' := k2.1
  have k27 := k2.2.2.2.2.2.2.2.1
  have k3 := h.1.2.2.2.1
  have k3' := k3.1
  have km := k3.2.2.1.1
  have kb := k3.2.2.2.2.1.1
  have kb1 := k3.2.2.2.2.1.2.1
  have hP := h.2.2.1.1
  by_cases ho : w < 0 ∨ 17 < w
  · have hv : ruleM M w = -1 := if_pos ho
    rw [hv]
    rw [show LE mX10_rule [.ref 0, IV w] = [some (.ref 0), some (IV w)] from rfl]
    refine T_iload_n dX10_rule_0 rfl ?_
    refine I_tblOut (tgt := 151) dX10_rule_1 hw (by omega) (by decide) ?_
    refine T_iload_n dX10_rule_151 rfl ?_
    refine I_bipush dX10_rule_152 (by decide) ?_
    refine I_icmp_lt (tgt := 181) dX10_rule_154 (by decide) hw ⟨by omega, by omega⟩ (fun h154 => ?_) (fun h154 => ?_)
    · refine I_iconst dX10_rule_181 ?_
      exact I_ireturn dX10_rule_182 rfl ⟨_, _, rfl, WQ.here h⟩
    · refine T_iload_n dX10_rule_157 rfl ?_
      refine I_bipush dX10_rule_158 (by decide) ?_
      refine I_icmp_ge (tgt := 181) dX10_rule_160 (by decide) hw ⟨by omega, by omega⟩ (fun h160 => ?_) (fun h160 => ?_)
      · refine I_iconst dX10_rule_181 ?_
        exact I_ireturn dX10_rule_182 rfl ⟨_, _, rfl, WQ.here h⟩
      · omega
  · rcases (show w = 0 ∨ w = 1 ∨ w = 2 ∨ w = 3 ∨ w = 4 ∨ w = 5 ∨ w = 6 ∨ w = 7 ∨ w = 8 ∨ w = 9 ∨ w = 10 ∨ w = 11 ∨ w = 12 ∨ w = 13 ∨ w = 14 ∨ w = 15 ∨ w = 16 ∨ w = 17 by omega) with rfl | rfl | rfl | rfl | rfl | rfl | rfl | rfl | rfl | rfl | rfl | rfl | rfl | rfl | rfl | rfl | rfl | rfl
    · rw [show LE mX10_rule [.ref 0, IV 0] = [some (.ref 0), some (IV 0)] from rfl]
      refine T_iload_n dX10_rule_0 rfl ?_
      refine I_tblIn (tgt := 88) dX10_rule_1 hw (by omega) (by omega) rfl (by decide) ?_
      refine T_aload_n dX10_rule_88 rfl rfl ?_
      refine P_getr dX10_rule_89 fX10_19 (by assumption) rfl ?_
      refine P_geti dX10_rule_92 fX10_87 (by assumption) rfl ?_
      exact I_ireturn dX10_rule_95 rfl ⟨_, _, rfl, WQ.eq h (by rw [show ruleM M 0 = pHs (mPl M) by simp [ruleM]]; exact hP.1.1)⟩
    · rw [show LE mX10_rule [.ref 0, IV 1] = [some (.ref 0), some (IV 1)] from rfl]
      refine T_iload_n dX10_rule_0 rfl ?_
      refine I_tblIn (tgt := 96) dX10_rule_1 hw (by omega) (by omega) rfl (by decide) ?_
      refine T_aload_n dX10_rule_96 rfl rfl ?_
      refine P_getr dX10_rule_97 fX10_19 (by assumption) rfl ?_
      refine P_geti dX10_rule_100 fX10_90 (by assumption) rfl ?_
      exact I_ireturn dX10_rule_103 rfl ⟨_, _, rfl, WQ.eq h (by rw [show ruleM M 1 = pDm (mPl M) by simp [ruleM]]; exact hP.1.2)⟩
    · rw [show LE mX10_rule [.ref 0, IV 2] = [some (.ref 0), some (IV 2)] from rfl]
      refine T_iload_n dX10_rule_0 rfl ?_
      refine I_tblIn (tgt := 104) dX10_rule_1 hw (by omega) (by omega) rfl (by decide) ?_
      refine T_aload_n dX10_rule_104 rfl rfl ?_
      refine P_getr dX10_rule_105 fX10_19 (by assumption) rfl ?_
      refine P_getr dX10_rule_108 fX10_93 (by assumption) rfl ?_
      refine T_iload_n dX10_rule_111 rfl ?_
      refine I_iconst dX10_rule_112 ?_
      refine I_isub dX10_rule_113 ?_
      refine P_iald dX10_rule_114 (by assumption) ⟨by omega, by omega⟩ (by first | decide | omega) ?_
      exact I_ireturn dX10_rule_115 rfl ⟨_, _, rfl, WQ.eq h (by rw [show ruleM M 2 = kdC (mPl M) 1 by simp [ruleM]]; exact hP.2.2.2.2 1 (by omega) (by omega))⟩
    · rw [show LE mX10_rule [.ref 0, IV 3] = [some (.ref 0), some (IV 3)] from rfl]
      refine T_iload_n dX10_rule_0 rfl ?_
      refine I_tblIn (tgt := 104) dX10_rule_1 hw (by omega) (by omega) rfl (by decide) ?_
      refine T_aload_n dX10_rule_104 rfl rfl ?_
      refine P_getr dX10_rule_105 fX10_19 (by assumption) rfl ?_
      refine P_getr dX10_rule_108 fX10_93 (by assumption) rfl ?_
      refine T_iload_n dX10_rule_111 rfl ?_
      refine I_iconst dX10_rule_112 ?_
      refine I_isub dX10_rule_113 ?_
      refine P_iald dX10_rule_114 (by assumption) ⟨by omega, by omega⟩ (by first | decide | omega) ?_
      exact I_ireturn dX10_rule_115 rfl ⟨_, _, rfl, WQ.eq h (by rw [show ruleM M 3 = kdC (mPl M) 2 by simp [ruleM]]; exact hP.2.2.2.2 2 (by omega) (by omega))⟩
    · rw [show LE mX10_rule [.ref 0, IV 4] = [some (.ref 0), some (IV 4)] from rfl]
      refine T_iload_n dX10_rule_0 rfl ?_
      refine I_tblIn (tgt := 104) dX10_rule_1 hw (by omega) (by omega) rfl (by decide) ?_
      refine T_aload_n dX10_rule_104 rfl rfl ?_
      refine P_getr dX10_rule_105 fX10_19 (by assumption) rfl ?_
      refine P_getr dX10_rule_108 fX10_93 (by assumption) rfl ?_
      refine T_iload_n dX10_rule_111 rfl ?_
      refine I_iconst dX10_rule_112 ?_
      refine I_isub dX10_rule_113 ?_
      refine P_iald dX10_rule_114 (by assumption) ⟨by omega, by omega⟩ (by first | decide | omega) ?_
      exact I_ireturn dX10_rule_115 rfl ⟨_, _, rfl, WQ.eq h (by rw [show ruleM M 4 = kdC (mPl M) 3 by simp [ruleM]]; exact hP.2.2.2.2 3 (by omega) (by omega))⟩
    · rw [show LE mX10_rule [.ref 0, IV 5] = [some (.ref 0), some (IV 5)] from rfl]
      refine T_iload_n dX10_rule_0 rfl ?_
      refine I_tblIn (tgt := 116) dX10_rule_1 hw (by omega) (by omega) rfl (by decide) ?_
      refine T_aload_n dX10_rule_116 rfl rfl ?_
      refine P_getr dX10_rule_117 fX10_26 (by assumption) rfl ?_
      refine P_geti dX10_rule_120 fX10_97 (by assumption) rfl ?_
      exact I_ireturn dX10_rule_123 rfl ⟨_, _, rfl, WQ.eq h (by rw [show ruleM M 5 = eCl (mE M) by simp [ruleM]]; exact hR.1.1)⟩
    · rw [show LE mX10_rule [.ref 0, IV 6] = [some (.ref 0), some (IV 6)] from rfl]
      refine T_iload_n dX10_rule_0 rfl ?_
      refine I_tblIn (tgt := 124) dX10_rule_1 hw (by omega) (by omega) rfl (by decide) ?_
      refine T_aload_n dX10_rule_124 rfl rfl ?_
      refine P_getr dX10_rule_125 fX10_26 (by assumption) rfl ?_
      refine P_geti dX10_rule_128 fX10_100 (by assumption) rfl ?_
      exact I_ireturn dX10_rule_131 rfl ⟨_, _, rfl, WQ.eq h (by rw [show ruleM M 6 = eLe (mE M) by simp [ruleM]]; exact hR.1.2.1)⟩
    · rw [show LE mX10_rule [.ref 0, IV 7] = [some (.ref 0), some (IV 7)] from rfl]
      refine T_iload_n dX10_rule_0 rfl ?_
      refine I_tblIn (tgt := 132) dX10_rule_1 hw (by omega) (by omega) rfl (by decide) ?_
      refine T_aload_n dX10_rule_132 rfl rfl ?_
      refine P_getr dX10_rule_133 fX10_26 (by assumption) rfl ?_
      refine P_getr dX10_rule_136 fX10_103 (by assumption) rfl ?_
      refine P_geti dX10_rule_139 fX10_107 (by assumption) rfl ?_
      exact I_ireturn dX10_rule_142 rfl ⟨_, _, rfl, WQ.eq h (by rw [show ruleM M 7 = ((mIt M).length : Int) by simp [ruleM]]; exact hR.2.2.1.2.1)⟩
    · rw [show LE mX10_rule [.ref 0, IV 8] = [some (.ref 0), some (IV 8)] from rfl]
      refine T_iload_n dX10_rule_0 rfl ?_
      refine I_tblIn (tgt := 151) dX10_rule_1 hw (by omega) (by omega) rfl (by decide) ?_
      refine T_iload_n dX10_rule_151 rfl ?_
      refine I_bipush dX10_rule_152 (by decide) ?_
      refine I_icmp_lt (tgt := 181) dX10_rule_154 (by decide) ⟨by omega, by omega⟩ ⟨by omega, by omega⟩ (fun h154 => ?_) (fun h154 => ?_)
      · omega
      · refine T_iload_n dX10_rule_157 rfl ?_
        refine I_bipush dX10_rule_158 (by decide) ?_
        refine I_icmp_ge (tgt := 181) dX10_rule_160 (by decide) ⟨by omega, by omega⟩ ⟨by omega, by omega⟩ (fun h160 => ?_) (fun h160 => ?_)
        · omega
        · refine T_aload_n dX10_rule_163 rfl rfl ?_
          refine P_getr dX10_rule_164 fX10_26 (by assumption) rfl ?_
          refine P_getr dX10_rule_167 fX10_115 (by assumption) rfl ?_
          refine P_getr dX10_rule_170 fX10_119 (by assumption) rfl ?_
          refine T_iload_n dX10_rule_173 rfl ?_
          refine I_bipush dX10_rule_174 (by decide) ?_
          refine I_isub dX10_rule_176 ?_
          refine P_iald dX10_rule_177 (by assumption) ⟨by omega, by omega⟩ (by first | decide | omega) ?_
          refine T_goto (tgt := 182) dX10_rule_178 (by decide) ?_
          exact I_ireturn dX10_rule_182 rfl ⟨_, _, rfl, WQ.eq h (by rw [show ruleM M 8 = eTy (mE M) 0 by simp [ruleM]]; exact hR.2.2.2.2.1.1 0 (by omega) (by omega))⟩
    · rw [show LE mX10_rule [.ref 0, IV 9] = [some (.ref 0), some (IV 9)] from rfl]
      refine T_iload_n dX10_rule_0 rfl ?_
      refine I_tblIn (tgt := 151) dX10_rule_1 hw (by omega) (by omega) rfl (by decide) ?_
      refine T_iload_n dX10_rule_151 rfl ?_
      refine I_bipush dX10_rule_152 (by decide) ?_
      refine I_icmp_lt (tgt := 181) dX10_rule_154 (by decide) ⟨by omega, by omega⟩ ⟨by omega, by omega⟩ (fun h154 => ?_) (fun h154 => ?_)
      · omega
      · refine T_iload_n dX10_rule_157 rfl ?_
        refine I_bipush dX10_rule_158 (by decide) ?_
        refine I_icmp_ge (tgt := 181) dX10_rule_160 (by decide) ⟨by omega, by omega⟩ ⟨by omega, by omega⟩ (fun h160 => ?_) (fun h160 => ?_)
        · omega
        · refine T_aload_n dX10_rule_163 rfl rfl ?_
          refine P_getr dX10_rule_164 fX10_26 (by assumption) rfl ?_
          refine P_getr dX10_rule_167 fX10_115 (by assumption) rfl ?_
          refine P_getr dX10_rule_170 fX10_119 (by assumption) rfl ?_
          refine T_iload_n dX10_rule_173 rfl ?_
          refine I_bipush dX10_rule_174 (by decide) ?_
          refine I_isub dX10_rule_176 ?_
          refine P_iald dX10_rule_177 (by assumption) ⟨by omega, by omega⟩ (by first | decide | omega) ?_
          refine T_goto (tgt := 182) dX10_rule_178 (by decide) ?_
          exact I_ireturn dX10_rule_182 rfl ⟨_, _, rfl, WQ.eq h (by rw [show ruleM M 9 = eTy (mE M) 1 by simp [ruleM]]; exact hR.2.2.2.2.1.1 1 (by omega) (by omega))⟩
    · rw [show LE mX10_rule [.ref 0, IV 10] = [some (.ref 0), some (IV 10)] from rfl]
      refine T_iload_n dX10_rule_0 rfl ?_
      refine I_tblIn (tgt := 151) dX10_rule_1 hw (by omega) (by omega) rfl (by decide) ?_
      refine T_iload_n dX10_rule_151 rfl ?_
      refine I_bipush dX10_rule_152 (by decide) ?_
      refine I_icmp_lt (tgt := 181) dX10_rule_154 (by decide) ⟨by omega, by omega⟩ ⟨by omega, by omega⟩ (fun h154 => ?_) (fun h154 => ?_)
      · omega
      · refine T_iload_n dX10_rule_157 rfl ?_
        refine I_bipush dX10_rule_158 (by decide) ?_
        refine I_icmp_ge (tgt := 181) dX10_rule_160 (by decide) ⟨by omega, by omega⟩ ⟨by omega, by omega⟩ (fun h160 => ?_) (fun h160 => ?_)
        · omega
        · refine T_aload_n dX10_rule_163 rfl rfl ?_
          refine P_getr dX10_rule_164 fX10_26 (by assumption) rfl ?_
          refine P_getr dX10_rule_167 fX10_115 (by assumption) rfl ?_
          refine P_getr dX10_rule_170 fX10_119 (by assumption) rfl ?_
          refine T_iload_n dX10_rule_173 rfl ?_
          refine I_bipush dX10_rule_174 (by decide) ?_
          refine I_isub dX10_rule_176 ?_
          refine P_iald dX10_rule_177 (by assumption) ⟨by omega, by omega⟩ (by first | decide | omega) ?_
          refine T_goto (tgt := 182) dX10_rule_178 (by decide) ?_
          exact I_ireturn dX10_rule_182 rfl ⟨_, _, rfl, WQ.eq h (by rw [show ruleM M 10 = eTy (mE M) 2 by simp [ruleM]]; exact hR.2.2.2.2.1.1 2 (by omega) (by omega))⟩
    · rw [show LE mX10_rule [.ref 0, IV 11] = [some (.ref 0), some (IV 11)] from rfl]
      refine T_iload_n dX10_rule_0 rfl ?_
      refine I_tblIn (tgt := 151) dX10_rule_1 hw (by omega) (by omega) rfl (by decide) ?_
      refine T_iload_n dX10_rule_151 rfl ?_
      refine I_bipush dX10_rule_152 (by decide) ?_
      refine I_icmp_lt (tgt := 181) dX10_rule_154 (by decide) ⟨by omega, by omega⟩ ⟨by omega, by omega⟩ (fun h154 => ?_) (fun h154 => ?_)
      · omega
      · refine T_iload_n dX10_rule_157 rfl ?_
        refine I_bipush dX10_rule_158 (by decide) ?_
        refine I_icmp_ge (tgt := 181) dX10_rule_160 (by decide) ⟨by omega, by omega⟩ ⟨by omega, by omega⟩ (fun h160 => ?_) (fun h160 => ?_)
        · omega
        · refine T_aload_n dX10_rule_163 rfl rfl ?_
          refine P_getr dX10_rule_164 fX10_26 (by assumption) rfl ?_
          refine P_getr dX10_rule_167 fX10_115 (by assumption) rfl ?_
          refine P_getr dX10_rule_170 fX10_119 (by assumption) rfl ?_
          refine T_iload_n dX10_rule_173 rfl ?_
          refine I_bipush dX10_rule_174 (by decide) ?_
          refine I_isub dX10_rule_176 ?_
          refine P_iald dX10_rule_177 (by assumption) ⟨by omega, by omega⟩ (by first | decide | omega) ?_
          refine T_goto (tgt := 182) dX10_rule_178 (by decide) ?_
          exact I_ireturn dX10_rule_182 rfl ⟨_, _, rfl, WQ.eq h (by rw [show ruleM M 11 = eTy (mE M) 3 by simp [ruleM]]; exact hR.2.2.2.2.1.1 3 (by omega) (by omega))⟩
    · rw [show LE mX10_rule [.ref 0, IV 12] = [some (.ref 0), some (IV 12)] from rfl]
      refine T_iload_n dX10_rule_0 rfl ?_
      refine I_tblIn (tgt := 151) dX10_rule_1 hw (by omega) (by omega) rfl (by decide) ?_
      refine T_iload_n dX10_rule_151 rfl ?_
      refine I_bipush dX10_rule_152 (by decide) ?_
      refine I_icmp_lt (tgt := 181) dX10_rule_154 (by decide) ⟨by omega, by omega⟩ ⟨by omega, by omega⟩ (fun h154 => ?_) (fun h154 => ?_)
      · omega
      · refine T_iload_n dX10_rule_157 rfl ?_
        refine I_bipush dX10_rule_158 (by decide) ?_
        refine I_icmp_ge (tgt := 181) dX10_rule_160 (by decide) ⟨by omega, by omega⟩ ⟨by omega, by omega⟩ (fun h160 => ?_) (fun h160 => ?_)
        · omega
        · refine T_aload_n dX10_rule_163 rfl rfl ?_
          refine P_getr dX10_rule_164 fX10_26 (by assumption) rfl ?_
          refine P_getr dX10_rule_167 fX10_115 (by assumption) rfl ?_
          refine P_getr dX10_rule_170 fX10_119 (by assumption) rfl ?_
          refine T_iload_n dX10_rule_173 rfl ?_
          refine I_bipush dX10_rule_174 (by decide) ?_
          refine I_isub dX10_rule_176 ?_
          refine P_iald dX10_rule_177 (by assumption) ⟨by omega, by omega⟩ (by first | decide | omega) ?_
          refine T_goto (tgt := 182) dX10_rule_178 (by decide) ?_
          exact I_ireturn dX10_rule_182 rfl ⟨_, _, rfl, WQ.eq h (by rw [show ruleM M 12 = eTy (mE M) 4 by simp [ruleM]]; exact hR.2.2.2.2.1.1 4 (by omega) (by omega))⟩
    · rw [show LE mX10_rule [.ref 0, IV 13] = [some (.ref 0), some (IV 13)] from rfl]
      refine T_iload_n dX10_rule_0 rfl ?_
      refine I_tblIn (tgt := 151) dX10_rule_1 hw (by omega) (by omega) rfl (by decide) ?_
      refine T_iload_n dX10_rule_151 rfl ?_
      refine I_bipush dX10_rule_152 (by decide) ?_
      refine I_icmp_lt (tgt := 181) dX10_rule_154 (by decide) ⟨by omega, by omega⟩ ⟨by omega, by omega⟩ (fun h154 => ?_) (fun h154 => ?_)
      · omega
      · refine T_iload_n dX10_rule_157 rfl ?_
        refine I_bipush dX10_rule_158 (by decide) ?_
        refine I_icmp_ge (tgt := 181) dX10_rule_160 (by decide) ⟨by omega, by omega⟩ ⟨by omega, by omega⟩ (fun h160 => ?_) (fun h160 => ?_)
        · omega
        · refine T_aload_n dX10_rule_163 rfl rfl ?_
          refine P_getr dX10_rule_164 fX10_26 (by assumption) rfl ?_
          refine P_getr dX10_rule_167 fX10_115 (by assumption) rfl ?_
          refine P_getr dX10_rule_170 fX10_119 (by assumption) rfl ?_
          refine T_iload_n dX10_rule_173 rfl ?_
          refine I_bipush dX10_rule_174 (by decide) ?_
          refine I_isub dX10_rule_176 ?_
          refine P_iald dX10_rule_177 (by assumption) ⟨by omega, by omega⟩ (by first | decide | omega) ?_
          refine T_goto (tgt := 182) dX10_rule_178 (by decide) ?_
          exact I_ireturn dX10_rule_182 rfl ⟨_, _, rfl, WQ.eq h (by rw [show ruleM M 13 = eTy (mE M) 5 by simp [ruleM]]; exact hR.2.2.2.2.1.1 5 (by omega) (by omega))⟩
    · rw [show LE mX10_rule [.ref 0, IV 14] = [some (.ref 0), some (IV 14)] from rfl]
      refine T_iload_n dX10_rule_0 rfl ?_
      refine I_tblIn (tgt := 151) dX10_rule_1 hw (by omega) (by omega) rfl (by decide) ?_
      refine T_iload_n dX10_rule_151 rfl ?_
      refine I_bipush dX10_rule_152 (by decide) ?_
      refine I_icmp_lt (tgt := 181) dX10_rule_154 (by decide) ⟨by omega, by omega⟩ ⟨by omega, by omega⟩ (fun h154 => ?_) (fun h154 => ?_)
      · omega
      · refine T_iload_n dX10_rule_157 rfl ?_
        refine I_bipush dX10_rule_158 (by decide) ?_
        refine I_icmp_ge (tgt := 181) dX10_rule_160 (by decide) ⟨by omega, by omega⟩ ⟨by omega, by omega⟩ (fun h160 => ?_) (fun h160 => ?_)
        · omega
        · refine T_aload_n dX10_rule_163 rfl rfl ?_
          refine P_getr dX10_rule_164 fX10_26 (by assumption) rfl ?_
          refine P_getr dX10_rule_167 fX10_115 (by assumption) rfl ?_
          refine P_getr dX10_rule_170 fX10_119 (by assumption) rfl ?_
          refine T_iload_n dX10_rule_173 rfl ?_
          refine I_bipush dX10_rule_174 (by decide) ?_
          refine I_isub dX10_rule_176 ?_
          refine P_iald dX10_rule_177 (by assumption) ⟨by omega, by omega⟩ (by first | decide | omega) ?_
          refine T_goto (tgt := 182) dX10_rule_178 (by decide) ?_
          exact I_ireturn dX10_rule_182 rfl ⟨_, _, rfl, WQ.eq h (by rw [show ruleM M 14 = eTy (mE M) 6 by simp [ruleM]]; exact hR.2.2.2.2.1.1 6 (by omega) (by omega))⟩
    · rw [show LE mX10_rule [.ref 0, IV 15] = [some (.ref 0), some (IV 15)] from rfl]
      refine T_iload_n dX10_rule_0 rfl ?_
      refine I_tblIn (tgt := 151) dX10_rule_1 hw (by omega) (by omega) rfl (by decide) ?_
      refine T_iload_n dX10_rule_151 rfl ?_
      refine I_bipush dX10_rule_152 (by decide) ?_
      refine I_icmp_lt (tgt := 181) dX10_rule_154 (by decide) ⟨by omega, by omega⟩ ⟨by omega, by omega⟩ (fun h154 => ?_) (fun h154 => ?_)
      · omega
      · refine T_iload_n dX10_rule_157 rfl ?_
        refine I_bipush dX10_rule_158 (by decide) ?_
        refine I_icmp_ge (tgt := 181) dX10_rule_160 (by decide) ⟨by omega, by omega⟩ ⟨by omega, by omega⟩ (fun h160 => ?_) (fun h160 => ?_)
        · omega
        · refine T_aload_n dX10_rule_163 rfl rfl ?_
          refine P_getr dX10_rule_164 fX10_26 (by assumption) rfl ?_
          refine P_getr dX10_rule_167 fX10_115 (by assumption) rfl ?_
          refine P_getr dX10_rule_170 fX10_119 (by assumption) rfl ?_
          refine T_iload_n dX10_rule_173 rfl ?_
          refine I_bipush dX10_rule_174 (by decide) ?_
          refine I_isub dX10_rule_176 ?_
          refine P_iald dX10_rule_177 (by assumption) ⟨by omega, by omega⟩ (by first | decide | omega) ?_
          refine T_goto (tgt := 182) dX10_rule_178 (by decide) ?_
          exact I_ireturn dX10_rule_182 rfl ⟨_, _, rfl, WQ.eq h (by rw [show ruleM M 15 = eTy (mE M) 7 by simp [ruleM]]; exact hR.2.2.2.2.1.1 7 (by omega) (by omega))⟩
    · rw [show LE mX10_rule [.ref 0, IV 16] = [some (.ref 0), some (IV 16)] from rfl]
      refine T_iload_n dX10_rule_0 rfl ?_
      refine I_tblIn (tgt := 151) dX10_rule_1 hw (by omega) (by omega) rfl (by decide) ?_
      refine T_iload_n dX10_rule_151 rfl ?_
      refine I_bipush dX10_rule_152 (by decide) ?_
      refine I_icmp_lt (tgt := 181) dX10_rule_154 (by decide) ⟨by omega, by omega⟩ ⟨by omega, by omega⟩ (fun h154 => ?_) (fun h154 => ?_)
      · omega
      · refine T_iload_n dX10_rule_157 rfl ?_
        refine I_bipush dX10_rule_158 (by decide) ?_
        refine I_icmp_ge (tgt := 181) dX10_rule_160 (by decide) ⟨by omega, by omega⟩ ⟨by omega, by omega⟩ (fun h160 => ?_) (fun h160 => ?_)
        · omega
        · refine T_aload_n dX10_rule_163 rfl rfl ?_
          refine P_getr dX10_rule_164 fX10_26 (by assumption) rfl ?_
          refine P_getr dX10_rule_167 fX10_115 (by assumption) rfl ?_
          refine P_getr dX10_rule_170 fX10_119 (by assumption) rfl ?_
          refine T_iload_n dX10_rule_173 rfl ?_
          refine I_bipush dX10_rule_174 (by decide) ?_
          refine I_isub dX10_rule_176 ?_
          refine P_iald dX10_rule_177 (by assumption) ⟨by omega, by omega⟩ (by first | decide | omega) ?_
          refine T_goto (tgt := 182) dX10_rule_178 (by decide) ?_
          exact I_ireturn dX10_rule_182 rfl ⟨_, _, rfl, WQ.eq h (by rw [show ruleM M 16 = eTy (mE M) 8 by simp [ruleM]]; exact hR.2.2.2.2.1.1 8 (by omega) (by omega))⟩
    · rw [show LE mX10_rule [.ref 0, IV 17] = [some (.ref 0), some (IV 17)] from rfl]
      refine T_iload_n dX10_rule_0 rfl ?_
      refine I_tblIn (tgt := 143) dX10_rule_1 hw (by omega) (by omega) rfl (by decide) ?_
      refine T_aload_n dX10_rule_143 rfl rfl ?_
      refine P_getr dX10_rule_144 fX10_26 (by assumption) rfl ?_
      refine P_geti dX10_rule_147 fX10_112 (by assumption) rfl ?_
      exact I_ireturn dX10_rule_150 rfl ⟨_, _, rfl, WQ.eq h (by rw [show ruleM M 17 = eOl (mE M) by simp [ruleM]]; exact hR.1.2.2)⟩
theorem p_W_house {x w : Int} (h : WR K S M N) (hx : R32 x) (hw : R32 w) : P G 3 0 0 mX10_house 0 (LE mX10_house [.ref 0, IV x, IV w]) [] K S (WQ K S (houseA M x w) M N) := by
  have w0 := h.1.1
  obtain ⟨ad, hA, hR⟩ := h.rnd
  have hr := h.allR
  have k2 := h.1.2.2.1
  have k2' := k2.1
  have k21 := k2.2.1
  have k3 := h.1.2.2.2.1
  have k3' := k3.1
  have k31 := k3.2.1
  have km := k3.2.2.1
  have km' := km.1
  have ks := k3.2.2.2.2.2.1
  have hP := h.2.2.1.1
  have hPo := h.2.2.1.2
  have hF := h.pf
  have h60 : (mIt M).length ≤ 60 := h.2.2.2.1.2.2.2
  by_cases hb : houseB (mPl M) x
  · have hv : houseA M x w = if w = 0 then pWa (mPl M) x else if w = 1 then eUp (mE M) x else if w = 2 then sumF (fun t => b2p (inM (mIt M) x t)) (mIt M).length 0 else if w = 3 then ((eSg (mE M) x).length : Int) else if w = 4 then sumF (fun t => ((eSg (mE M) x).getD t.toNat z0R) 4) (eSg (mE M) x).length 0 else if w = 5 then sumF (fun d => b2p (lastM (mPl M) x d)) (pDm (mPl M)).toNat 0 else -1 := if_pos hb
    rw [hv]
    have hb5 := hPo.1
    have hb1 := hb.1
    have hb2 := hb.2
    have ksg := k3.sg (x := x) hb1 (by omega)
    have ksg' := ksg.1
    have hst := hR.2.2.2.2.2.2 x hb1 (by omega)
    have hrs := hR.2.2.2.2.2.1 x hb1 (by omega)
    have hsl := hst.2.1
    have hsf := hst.1
    by_cases ho : w < 0 ∨ 5 < w
    · rw [if_neg (by omega), if_neg (by omega), if_neg (by omega), if_neg (by omega), if_neg (by omega), if_neg (by omega)]
      rw [show LE mX10_house [.ref 0, IV x, IV w] = [some (.ref 0), some (IV x), some (IV w)] from rfl]
      refine T_aload_n dX10_house_0 rfl rfl ?_
      refine T_iload_n dX10_house_1 rfl ?_
      refine Q_callV dX10_house_2 kX10_isHouse lX10_124 (by assumption) rfl (p_isHouse h hx) rfl rfl (Nat.le_of_ble_eq_true rfl) (Nat.le_of_ble_eq_true rfl) (by decide) (by decide) ?_
      rw [b2p_t hb]
      refine I_if_ne (tgt := 10) dX10_house_5 (by decide) ⟨by omega, by omega⟩ (fun h5 => ?_) (fun h5 => ?_)
      · refine T_iload_n dX10_house_10 rfl ?_
        refine I_tblOut (tgt := 115) dX10_house_11 hw (by omega) (by decide) ?_
        refine I_iconst dX10_house_115 ?_
        exact I_ireturn dX10_house_116 rfl ⟨_, _, rfl, WQ.here h⟩
      · cases h5
    · rcases (show w = 0 ∨ w = 1 ∨ w = 2 ∨ w = 3 ∨ w = 4 ∨ w = 5 by omega) with rfl | rfl | rfl | rfl | rfl | rfl
      · rw [show LE mX10_house [.ref 0, IV x, IV 0] = [some (.ref 0), some (IV x), some (IV 0)] from rfl]
        refine T_aload_n dX10_house_0 rfl rfl ?_
        refine T_iload_n dX10_house_1 rfl ?_
        refine Q_callV dX10_house_2 kX10_isHouse lX10_124 (by assumption) rfl (p_isHouse h hx) rfl rfl (Nat.le_of_ble_eq_true rfl) (Nat.le_of_ble_eq_true rfl) (by decide) (by decide) ?_
        rw [b2p_t hb]
        refine I_if_ne (tgt := 10) dX10_house_5 (by decide) ⟨by omega, by omega⟩ (fun h5 => ?_) (fun h5 => ?_)
        · refine T_iload_n dX10_house_10 rfl ?_
          refine I_tblIn (tgt := 48) dX10_house_11 hw (by omega) (by omega) rfl (by decide) ?_
          refine T_aload_n dX10_house_48 rfl rfl ?_
          refine P_getr dX10_house_49 fX10_19 (by assumption) rfl ?_
          refine P_getr dX10_house_52 fX10_128 (by assumption) rfl ?_
          refine T_iload_n dX10_house_55 rfl ?_
          refine P_iald dX10_house_56 (by assumption) ⟨by omega, by omega⟩ (by first | decide | omega) ?_
          exact I_ireturn dX10_house_57 rfl ⟨_, _, rfl, WQ.eq h (by rw [if_pos rfl]; exact hP.2.1 x hb1 (by omega))⟩
        · cases h5
      · rw [show LE mX10_house [.ref 0, IV x, IV 1] = [some (.ref 0), some (IV x), some (IV 1)] from rfl]
        refine T_aload_n dX10_house_0 rfl rfl ?_
        refine T_iload_n dX10_house_1 rfl ?_
        refine Q_callV dX10_house_2 kX10_isHouse lX10_124 (by assumption) rfl (p_isHouse h hx) rfl rfl (Nat.le_of_ble_eq_true rfl) (Nat.le_of_ble_eq_true rfl) (by decide) (by decide) ?_
        rw [b2p_t hb]
        refine I_if_ne (tgt := 10) dX10_house_5 (by decide) ⟨by omega, by omega⟩ (fun h5 => ?_) (fun h5 => ?_)
        · refine T_iload_n dX10_house_10 rfl ?_
          refine I_tblIn (tgt := 58) dX10_house_11 hw (by omega) (by omega) rfl (by decide) ?_
          refine T_aload_n dX10_house_58 rfl rfl ?_
          refine P_getr dX10_house_59 fX10_26 (by assumption) rfl ?_
          refine P_getr dX10_house_62 fX10_131 (by assumption) rfl ?_
          refine T_iload_n dX10_house_65 rfl ?_
          refine P_iald dX10_house_66 (by assumption) ⟨by omega, by omega⟩ (by first | decide | omega) ?_
          exact I_ireturn dX10_house_67 rfl ⟨_, _, rfl, WQ.eq h (by rw [if_neg (by omega), if_pos rfl]; exact hR.2.1 x hb1 (by omega))⟩
        · cases h5
      · have hu : fI S (23 + 2) 1 = (mIt M).length := hR.2.2.1.1
        have hz : ∀ t : Int, 0 ≤ t → t < (mIt M).length → (inH S (23 + 2) x t ↔ inM (mIt M) x t) := fun t u v => by
          unfold inH inM
          rw [hR.2.2.1.qaE u (by omega)]
          have e := hR.2.2.1.2.2.2 t.toNat _ (getD_at (by omega)) 0 (by omega)
          rw [Int.toNat_of_nonneg u] at e
          rw [e]
        rw [show LE mX10_house [.ref 0, IV x, IV 2] = [some (.ref 0), some (IV x), some (IV 2)] from rfl]
        refine T_aload_n dX10_house_0 rfl rfl ?_
        refine T_iload_n dX10_house_1 rfl ?_
        refine Q_callV dX10_house_2 kX10_isHouse lX10_124 (by assumption) rfl (p_isHouse h hx) rfl rfl (Nat.le_of_ble_eq_true rfl) (Nat.le_of_ble_eq_true rfl) (by decide) (by decide) ?_
        rw [b2p_t hb]
        refine I_if_ne (tgt := 10) dX10_house_5 (by decide) ⟨by omega, by omega⟩ (fun h5 => ?_) (fun h5 => ?_)
        · refine T_iload_n dX10_house_10 rfl ?_
          refine I_tblIn (tgt := 68) dX10_house_11 hw (by omega) (by omega) rfl (by decide) ?_
          refine T_aload_n dX10_house_68 rfl rfl ?_
          refine P_getr dX10_house_69 fX10_26 (by assumption) rfl ?_
          refine P_getr dX10_house_72 fX10_103 (by assumption) rfl ?_
          refine T_iload_n dX10_house_75 rfl ?_
          refine Q_callV dX10_house_76 kX4_itemsIn lX10_134 (by assumption) rfl (p_Mail_itemsIn km (hR.2.2.1.rows hA) ⟨by omega, by omega⟩ (fun i u v => hr.1 _ _) hx) rfl rfl (Nat.le_of_ble_eq_true rfl) (Nat.le_of_ble_eq_true rfl) (by decide) (by decide) ?_
          exact I_ireturn dX10_house_79 rfl ⟨_, _, rfl, WQ.eq h (by
            rw [if_neg (by omega), if_neg (by omega), if_pos rfl, hu]
            exact sumF_congr _ _ (fun t u v => b2p_c (hz t u (by omega))))⟩
        · cases h5
      · rw [show LE mX10_house [.ref 0, IV x, IV 3] = [some (.ref 0), some (IV x), some (IV 3)] from rfl]
        refine T_aload_n dX10_house_0 rfl rfl ?_
        refine T_iload_n dX10_house_1 rfl ?_
        refine Q_callV dX10_house_2 kX10_isHouse lX10_124 (by assumption) rfl (p_isHouse h hx) rfl rfl (Nat.le_of_ble_eq_true rfl) (Nat.le_of_ble_eq_true rfl) (by decide) (by decide) ?_
        rw [b2p_t hb]
        refine I_if_ne (tgt := 10) dX10_house_5 (by decide) ⟨by omega, by omega⟩ (fun h5 => ?_) (fun h5 => ?_)
        · refine T_iload_n dX10_house_10 rfl ?_
          refine I_tblIn (tgt := 80) dX10_house_11 hw (by omega) (by omega) rfl (by decide) ?_
          refine T_aload_n dX10_house_80 rfl rfl ?_
          refine P_getr dX10_house_81 fX10_26 (by assumption) rfl ?_
          refine P_getr dX10_house_84 fX10_138 (by assumption) rfl ?_
          refine T_iload_n dX10_house_87 rfl ?_
          refine P_aald dX10_house_88 (by assumption) (by decide) ⟨by omega, by omega⟩ (by decide) (by assumption) ?_
          refine P_geti dX10_house_89 fX10_142 (by assumption) rfl ?_
          exact I_ireturn dX10_house_92 rfl ⟨_, _, rfl, WQ.eq h (by rw [if_neg (by omega), if_neg (by omega), if_neg (by omega), if_pos rfl]; exact hsf)⟩
        · cases h5
      · rw [show LE mX10_house [.ref 0, IV x, IV 4] = [some (.ref 0), some (IV x), some (IV 4)] from rfl]
        refine T_aload_n dX10_house_0 rfl rfl ?_
        refine T_iload_n dX10_house_1 rfl ?_
        refine Q_callV dX10_house_2 kX10_isHouse lX10_124 (by assumption) rfl (p_isHouse h hx) rfl rfl (Nat.le_of_ble_eq_true rfl) (Nat.le_of_ble_eq_true rfl) (by decide) (by decide) ?_
        rw [b2p_t hb]
        refine I_if_ne (tgt := 10) dX10_house_5 (by decide) ⟨by omega, by omega⟩ (fun h5 => ?_) (fun h5 => ?_)
        · refine T_iload_n dX10_house_10 rfl ?_
          refine I_tblIn (tgt := 93) dX10_house_11 hw (by omega) (by omega) rfl (by decide) ?_
          refine T_aload_n dX10_house_93 rfl rfl ?_
          refine P_getr dX10_house_94 fX10_26 (by assumption) rfl ?_
          refine P_getr dX10_house_97 fX10_138 (by assumption) rfl ?_
          refine T_iload_n dX10_house_100 rfl ?_
          refine P_aald dX10_house_101 (by assumption) (by decide) ⟨by omega, by omega⟩ (by decide) (by assumption) ?_
          refine Q_callV dX10_house_102 kX8_passed lX10_147 (by assumption) rfl (p_Str_passed ksg ⟨by omega, by omega⟩) rfl rfl (Nat.le_of_ble_eq_true rfl) (Nat.le_of_ble_eq_true rfl) (by decide) (by decide) ?_
          exact I_ireturn dX10_house_105 rfl ⟨_, _, rfl, WQ.eq h (by
            rw [if_neg (by omega), if_neg (by omega), if_neg (by omega), if_neg (by omega), if_pos rfl, hsf]
            refine sumF_congr _ _ (fun t u v => ?_)
            have e := hst.2.2 t.toNat _ (getD_at (by omega)) 4 (by omega)
            rw [Int.toNat_of_nonneg u] at e
            exact e)⟩
        · cases h5
      · have hD : fI S 13 1 = pDm (mPl M) := hP.1.2
        have hD4 := hPo.2.1
        rw [show LE mX10_house [.ref 0, IV x, IV 5] = [some (.ref 0), some (IV x), some (IV 5)] from rfl]
        refine T_aload_n dX10_house_0 rfl rfl ?_
        refine T_iload_n dX10_house_1 rfl ?_
        refine Q_callV dX10_house_2 kX10_isHouse lX10_124 (by assumption) rfl (p_isHouse h hx) rfl rfl (Nat.le_of_ble_eq_true rfl) (Nat.le_of_ble_eq_true rfl) (by decide) (by decide) ?_
        rw [b2p_t hb]
        refine I_if_ne (tgt := 10) dX10_house_5 (by decide) ⟨by omega, by omega⟩ (fun h5 => ?_) (fun h5 => ?_)
        · refine T_iload_n dX10_house_10 rfl ?_
          refine I_tblIn (tgt := 106) dX10_house_11 hw (by omega) (by omega) rfl (by decide) ?_
          refine T_aload_n dX10_house_106 rfl rfl ?_
          refine P_getr dX10_house_107 fX10_19 (by assumption) rfl ?_
          refine T_iload_n dX10_house_110 rfl ?_
          refine Q_callV dX10_house_111 kX5_domainsEndingIn lX10_151 (by assumption) rfl (p_Plan_ending k2 hr hF.2.1 hx) rfl rfl (Nat.le_of_ble_eq_true rfl) (Nat.le_of_ble_eq_true rfl) (by decide) (by decide) ?_
          exact I_ireturn dX10_house_114 rfl ⟨_, _, rfl, WQ.eq h (by
            rw [if_neg (by omega), if_neg (by omega), if_neg (by omega), if_neg (by omega), if_neg (by omega), if_pos rfl, hD]
            exact sumF_congr _ _ (fun t u v => b2p_c (lastP_iff hF ⟨u, by omega⟩)))⟩
        · cases h5
  · have hv : houseA M x w = -1 := if_neg hb
    rw [hv]
    rw [show LE mX10_house [.ref 0, IV x, IV w] = [some (.ref 0), some (IV x), some (IV w)] from rfl]
    refine T_aload_n dX10_house_0 rfl rfl ?_
    refine T_iload_n dX10_house_1 rfl ?_
    refine Q_callV dX10_house_2 kX10_isHouse lX10_124 (by assumption) rfl (p_isHouse h hx) rfl rfl (Nat.le_of_ble_eq_true rfl) (Nat.le_of_ble_eq_true rfl) (by decide) (by decide) ?_
    rw [b2p_f hb]
    refine I_if_ne (tgt := 10) dX10_house_5 (by decide) ⟨by omega, by omega⟩ (fun h5 => ?_) (fun h5 => ?_)
    · exact absurd rfl h5
    · refine I_iconst dX10_house_8 ?_
      exact I_ireturn dX10_house_9 rfl ⟨_, _, rfl, WQ.here h⟩
end WQs
