/-! the reference reads a text: a line -/
theorem eb_as {α β γ : Type} (x : Except ER α) (f : α → Except ER β) (g : β → Except ER γ) : (x.bind f).bind g = x.bind fun a => (f a).bind g := by cases x <;> rfl
noncomputable def bodyM (tp : Int → Int) (n : Int) (pl : PL) (t : TK) : Except ER (PL × TK) := if lnM tp t = 0 then (if 5 ≤ pHs pl then .error (5, t.2.1) else (tkM tp n t.2.2.1).bind fun t2 => hseM tp n pl t2) else if lnM tp t = 1 then (if 4 ≤ pDm pl then .error (5, t.2.1) else (tkM tp n t.2.2.1).bind fun t2 => rcvsM tp n (pDm pl) 3 (addDM pl) t2) else if lnM tp t = -4 then .error (2, t.2.1) else (tkM tp n t.2.2.1).bind fun t2 => adrM tp n pl (lnM tp t - 1) t2
section RPG0
variable {tp : Int → Int} {n : Int} {pl : PL} {t : TK}
theorem house_b : houseM tp n pl t = (if 5 ≤ pHs pl then .error (5, t.2.1) else (tkM tp n t.2.2.1).bind fun t2 => hseM tp n pl t2 : Except ER (PL × TK)).bind signM := by
  unfold houseM
  by_cases h : 5 ≤ pHs pl
  · rw [if_pos h, if_pos h]; rfl
  · rw [if_neg h, if_neg h, eb_as]
    congr 1
    funext t2
    unfold hseM
    by_cases hw : wordM tp t2 5
    · rw [if_pos hw, if_pos hw, eb_as]; rfl
    · rw [if_neg hw, if_neg hw]; rfl
theorem dom_b : domM tp n pl t = (if 4 ≤ pDm pl then .error (5, t.2.1) else (tkM tp n t.2.2.1).bind fun t2 => rcvsM tp n (pDm pl) 3 (addDM pl) t2 : Except ER (PL × TK)).bind signM := by
  unfold domM
  by_cases h : 4 ≤ pDm pl
  · rw [if_pos h, if_pos h]; rfl
  · rw [if_neg h, if_neg h, eb_as]
theorem box_b : boxM tp n pl t = ((tkM tp n t.2.2.1).bind fun t2 => adrM tp n pl 1 t2).bind signM := by
  unfold boxM
  rw [eb_as]
  congr 1
  funext t2
  unfold adrM
  rw [eb_as]
  congr 1
  funext q
  rw [eb_as]
  congr 1
theorem ali_b : aliM tp n pl t = ((tkM tp n t.2.2.1).bind fun t2 => adrM tp n pl 2 t2).bind signM := by
  unfold aliM
  rw [eb_as]
  congr 1
  funext t2
  unfold adrM
  rw [eb_as]
  congr 1
  funext q
  rw [eb_as]
  congr 1
  funext t4
  rw [if_neg (by omega), eb_as]
  unfold tgt2
  rw [eb_as]
  congr 1
  funext r
  rw [eb_as]
  congr 1
theorem lis_b : lisM tp n pl t = ((tkM tp n t.2.2.1).bind fun t2 => adrM tp n pl 3 t2).bind signM := by
  unfold lisM
  rw [eb_as]
  congr 1
  funext t2
  unfold adrM
  rw [eb_as]
  congr 1
  funext q
  rw [eb_as]
  congr 1
  funext t4
  rw [if_neg (by omega), eb_as]
  unfold tgt2
  rw [eb_as]
  congr 1
  funext r
  rw [eb_as]
  congr 1
theorem line_b : lineM tp n pl t = (bodyM tp n pl t).bind signM := by
  unfold lineM bodyM lnM
  by_cases w0 : wordM tp t 0
  · rw [if_pos w0, if_pos w0, if_pos rfl]; exact house_b
  · rw [if_neg w0, if_neg w0]
    by_cases w1 : wordM tp t 1
    · rw [if_pos w1, if_pos w1, if_neg (by omega), if_pos rfl]; exact dom_b
    · rw [if_neg w1, if_neg w1]
      by_cases w2 : wordM tp t 2
      · rw [if_pos w2, if_pos w2, if_neg (by omega), if_neg (by omega), if_neg (by omega)]; exact box_b
      · rw [if_neg w2, if_neg w2]
        by_cases w3 : wordM tp t 3
        · rw [if_pos w3, if_pos w3, if_neg (by omega), if_neg (by omega), if_neg (by omega)]; exact ali_b
        · rw [if_neg w3, if_neg w3]
          by_cases w4 : wordM tp t 4
          · rw [if_pos w4, if_pos w4, if_neg (by omega), if_neg (by omega), if_neg (by omega)]; exact lis_b
          · rw [if_neg w4, if_neg w4, if_neg (by omega), if_neg (by omega), if_pos rfl]; rfl
theorem lnM_in : lnM tp t = 0 ∨ lnM tp t = 1 ∨ lnM tp t = 2 ∨ lnM tp t = 3 ∨ lnM tp t = 4 ∨ lnM tp t = -4 := by
  unfold lnM
  by_cases w0 : wordM tp t 0
  · rw [if_pos w0]; omega
  · rw [if_neg w0]
    by_cases w1 : wordM tp t 1
    · rw [if_pos w1]; omega
    · rw [if_neg w1]
      by_cases w2 : wordM tp t 2
      · rw [if_pos w2]; omega
      · rw [if_neg w2]
        by_cases w3 : wordM tp t 3
        · rw [if_pos w3]; omega
        · rw [if_neg w3]
          by_cases w4 : wordM tp t 4
          · rw [if_pos w4]; omega
          · rw [if_neg w4]; omega
theorem hseM_b {q : PL × TK} (hb : TkB n t) (h : hseM tp n pl t = .ok q) : TkB n q.2 := by
  have hb1 := hb.1
  unfold hseM at h
  by_cases hw : wordM tp t 5
  · rw [if_pos hw] at h
    obtain ⟨t3, h1, h2⟩ := bind_ok h
    injection h2 with h2
    subst h2
    exact (tkM_b ⟨by omega, by omega⟩ h1).1
  · rw [if_neg hw] at h
    injection h with h
    subst h
    exact hb
theorem adrM_b {q : PL × TK} {what : Int} (hD : DrB pl) (hw : 1 ≤ what ∧ what ≤ 3) (hb : TkB n t) (h : adrM tp n pl what t = .ok q) : TkB n q.2 := by
  unfold adrM at h
  obtain ⟨x, h1, h2⟩ := bind_ok h
  obtain ⟨xa, xb, -, x0, xe⟩ := toldM_b hb h1
  have xb1 := xb.1
  obtain ⟨t4, h3, h4⟩ := bind_ok h2
  have hb4 := (tkM_b ⟨by omega, by omega⟩ h3).1
  have hDx : DrB x.1 := by rw [xe]; exact hD.tell xa hw
  have hkx : pKd x.1 x.2.1 ≠ 0 := by rw [xe]; show fset (pKd pl) x.2.1 what x.2.1 ≠ 0; rw [fset_t]; omega
  have hlx : pLc x.1 x.2.1 = 0 := by rw [xe]; exact (hD.2.2.2.1 x.2.1 xa.1 xa.2).2.1 x0
  by_cases w1 : what = 1
  · rw [if_pos w1] at h4
    injection h4 with h4
    subst h4
    exact hb4
  · rw [if_neg w1] at h4
    obtain ⟨r, h5, h6⟩ := bind_ok h4
    unfold tgt2 at h5
    obtain ⟨y, h7, h8⟩ := bind_ok h5
    obtain ⟨t3, h9, h10⟩ := bind_ok h8
    injection h10 with h10
    subst h10
    obtain ⟨-, yD, yb, -, yl, yk⟩ := tgtM_b hDx hb4 xa hkx (by omega) h7
    have yb1 := yb.1
    have hb3 := (tkM_b ⟨by omega, by omega⟩ h9).1
    by_cases w2 : what = 2
    · rw [if_pos w2] at h6
      injection h6 with h6
      subst h6
      exact hb3
    · rw [if_neg w2] at h6
      exact (lstM_b xa 3 _ _ _ yD hb3 (by rw [yk]; exact hkx) (by omega) h6).2.1
end RPG0
section RPG
variable {G : GT} {K : List SH} {tp : Int → Int} {n : Int} {S0 : SV}
/-- a line, and the token behind it -/
noncomputable def ln2 (tp : Int → Int) (n : Int) (B : Except ER (PL × TK)) : Except ER (PL × TK) := (B.bind signM).bind fun q => (tkM tp n q.2).bind fun t3 => .ok (q.1, t3)
theorem l_ln128 {S : SV} {B : Except ER (PL × TK)} {ln : Int} (hM : MoAt K) (hB : ∀ q, B = .ok q → TkB n q.2) (hq : LXQ K S0 tp n B none K S) : P G 6 0 0 mX11_readLine 128 [some (.ref 453), some (IV ln)] [] K S (LXQ K S0 tp n (ln2 tp n B)) := by
  have m0 := hM.1
  obtain ⟨-, -, hq⟩ := hq
  unfold ln2
  cases B with
  | error e =>
    have hq : BS S0 S e := hq
    have hq2 : 0 < fI S 453 11 := by rw [hq.2.2.1]; exact hq.2.2.2.2
    show P G 6 0 0 mX11_readLine 128 _ [] K S (LXQ K S0 tp n (.error e))
    refine T_aload_n dX11_readLine_128 rfl rfl ?_
    refine P_geti dX11_readLine_129 fX11_60 (by assumption) rfl ?_
    refine I_if_ne (tgt := 153) dX11_readLine_132 (by decide) (hq.1.1 _ _) (fun h132 => ?_) (fun h132 => ?_)
    · refine T_aload_n dX11_readLine_153 rfl rfl ?_
      refine Q_callV dX11_readLine_154 kX11_reads lX11_101 (by assumption) rfl (f_reads hM hq.1 hq2) rfl rfl (Nat.le_of_ble_eq_true rfl) (Nat.le_of_ble_eq_true rfl) (by decide) (by decide) ?_
      exact T_return dX11_readLine_157 rfl ⟨_, _, rfl, rfl, rfl, hq⟩
    · omega
  | ok q =>
    obtain ⟨hG, hk⟩ : GS S0 S tp n q.1 ∧ TkS S q.2 := hq
    have hb := hB q rfl
    have hb1 := hb.1
    have g6 := hG.2.2.2.2.2.1
    have rt : R32 q.2.1 := by rw [← hk.1]; exact hG.1.1 _ _
    show P G 6 0 0 mX11_readLine 128 _ [] K S (LXQ K S0 tp n ((signM q).bind fun q => (tkM tp n q.2).bind fun t3 => .ok (q.1, t3)))
    unfold signM
    by_cases h3 : q.2.1 = 3
    · rw [if_pos h3]
      show P G 6 0 0 mX11_readLine 128 _ [] K S (LXQ K S0 tp n ((tkM tp n q.2.2.2.1).bind fun t3 => .ok (q.1, t3)))
      have c := p_reads (G := G) hM hG.1 hG.2.1 g6 hk.2.2.1 ⟨by omega, by omega⟩
      cases hX : tkM tp n q.2.2.2.1 with
      | error e =>
        rw [hX] at c
        show P G 6 0 0 mX11_readLine 128 _ [] K S (LXQ K S0 tp n (.error e))
        refine T_aload_n dX11_readLine_128 rfl rfl ?_
        refine P_geti dX11_readLine_129 fX11_60 (by assumption) rfl ?_
        rw [g6]
        refine I_if_ne (tgt := 153) dX11_readLine_132 (by decide) ⟨by omega, by omega⟩ (fun h132 => ?_) (fun h132 => ?_)
        · omega
        · refine T_aload_n dX11_readLine_135 rfl rfl ?_
          refine T_aload_n dX11_readLine_136 rfl rfl ?_
          refine P_geti dX11_readLine_137 fX11_69 (by assumption) rfl ?_
          rw [hk.1]
          refine I_iconst dX11_readLine_140 ?_
          refine I_icmp_ne (tgt := 148) dX11_readLine_141 (by decide) rt ⟨by omega, by omega⟩ (fun h141 => ?_) (fun h141 => ?_)
          · omega
          · refine I_iconst dX11_readLine_144 ?_
            refine T_goto (tgt := 149) dX11_readLine_145 (by decide) ?_
            refine I_iconst dX11_readLine_149 ?_
            refine Q_callV dX11_readLine_150 kX11_requires lX11_94 (by assumption) rfl (p_req1 hM) rfl rfl (Nat.le_of_ble_eq_true rfl) (Nat.le_of_ble_eq_true rfl) (by decide) (by decide) ?_
            refine T_aload_n dX11_readLine_153 rfl rfl ?_
            refine R_callV dX11_readLine_154 kX11_reads lX11_101 (by assumption) rfl c rfl rfl (Nat.le_of_ble_eq_true rfl) (Nat.le_of_ble_eq_true rfl) (by decide) (by decide) (fun r_ K_ S_ q_ => ?_)
            obtain ⟨rfl, hKe, hF, q11, q12, q0⟩ := q_
            have hKe := hKe.symm
            subst hKe
            exact T_return dX11_readLine_157 rfl ⟨_, _, rfl, rfl, rfl, hG.bs hF q11 q12 q0⟩
      | ok t3 =>
        rw [hX] at c
        show P G 6 0 0 mX11_readLine 128 _ [] K S (LXQ K S0 tp n (.ok (q.1, t3)))
        refine T_aload_n dX11_readLine_128 rfl rfl ?_
        refine P_geti dX11_readLine_129 fX11_60 (by assumption) rfl ?_
        rw [g6]
        refine I_if_ne (tgt := 153) dX11_readLine_132 (by decide) ⟨by omega, by omega⟩ (fun h132 => ?_) (fun h132 => ?_)
        · omega
        · refine T_aload_n dX11_readLine_135 rfl rfl ?_
          refine T_aload_n dX11_readLine_136 rfl rfl ?_
          refine P_geti dX11_readLine_137 fX11_69 (by assumption) rfl ?_
          rw [hk.1]
          refine I_iconst dX11_readLine_140 ?_
          refine I_icmp_ne (tgt := 148) dX11_readLine_141 (by decide) rt ⟨by omega, by omega⟩ (fun h141 => ?_) (fun h141 => ?_)
          · omega
          · refine I_iconst dX11_readLine_144 ?_
            refine T_goto (tgt := 149) dX11_readLine_145 (by decide) ?_
            refine I_iconst dX11_readLine_149 ?_
            refine Q_callV dX11_readLine_150 kX11_requires lX11_94 (by assumption) rfl (p_req1 hM) rfl rfl (Nat.le_of_ble_eq_true rfl) (Nat.le_of_ble_eq_true rfl) (by decide) (by decide) ?_
            refine T_aload_n dX11_readLine_153 rfl rfl ?_
            refine R_callV dX11_readLine_154 kX11_reads lX11_101 (by assumption) rfl c rfl rfl (Nat.le_of_ble_eq_true rfl) (Nat.le_of_ble_eq_true rfl) (by decide) (by decide) (fun r_ K_ S_ q_ => ?_)
            obtain ⟨rfl, hKe, hF, q11, hk4⟩ := q_
            have hKe := hKe.symm
            subst hKe
            exact T_return dX11_readLine_157 rfl ⟨_, _, rfl, rfl, rfl, hG.fq hF q11, hk4⟩
    · rw [if_neg h3]
      show P G 6 0 0 mX11_readLine 128 _ [] K S (LXQ K S0 tp n (.error (2, q.2.2.1)))
      have hF := errS_q (c := 2) hG.1 (by decide)
      have e11 : 0 < fI (errS S 2) 453 11 := by rw [errS_11]; omega
      refine T_aload_n dX11_readLine_128 rfl rfl ?_
      refine P_geti dX11_readLine_129 fX11_60 (by assumption) rfl ?_
      rw [g6]
      refine I_if_ne (tgt := 153) dX11_readLine_132 (by decide) ⟨by omega, by omega⟩ (fun h132 => ?_) (fun h132 => ?_)
      · omega
      · refine T_aload_n dX11_readLine_135 rfl rfl ?_
        refine T_aload_n dX11_readLine_136 rfl rfl ?_
        refine P_geti dX11_readLine_137 fX11_69 (by assumption) rfl ?_
        rw [hk.1]
        refine I_iconst dX11_readLine_140 ?_
        refine I_icmp_ne (tgt := 148) dX11_readLine_141 (by decide) rt ⟨by omega, by omega⟩ (fun h141 => ?_) (fun h141 => ?_)
        · refine I_iconst dX11_readLine_148 ?_
          refine I_iconst dX11_readLine_149 ?_
          refine Q_callV dX11_readLine_150 kX11_requires lX11_94 (by assumption) rfl (p_req0 hM g6) rfl rfl (Nat.le_of_ble_eq_true rfl) (Nat.le_of_ble_eq_true rfl) (by decide) (by decide) ?_
          refine T_aload_n dX11_readLine_153 rfl rfl ?_
          refine Q_callV dX11_readLine_154 kX11_reads lX11_101 (by assumption) rfl (f_reads hM hF.1 e11) rfl rfl (Nat.le_of_ble_eq_true rfl) (Nat.le_of_ble_eq_true rfl) (by decide) (by decide) ?_
          exact T_return dX11_readLine_157 rfl ⟨_, _, rfl, rfl, rfl, hG.bs hF errS_11 (by rw [errS_12]; exact hk.2.1) (by show (0 : Int) < 2; omega)⟩
        · omega
/-- behind the first token -/
theorem l_ln70 {S : SV} {pl : PL} {t : TK} {ln : Int} {F : TK → Except ER (PL × TK)} (hM : MoAt K) (hG : GS S0 S tp n pl) (hk : TkS S t) (hb : TkB n t) (z : ∀ (t2 : TK) (S' : SV), tkM tp n t.2.2.1 = .ok t2 → GS S0 S' tp n pl → TkS S' t2 → TkB n t2 → P G 6 0 0 mX11_readLine 82 [some (.ref 453), some (IV ln)] [] K S' (LXQ K S0 tp n (ln2 tp n (F t2)))) : P G 6 0 0 mX11_readLine 70 [some (.ref 453), some (IV ln)] [] K S (LXQ K S0 tp n (ln2 tp n ((tkM tp n t.2.2.1).bind F))) := by
  have m0 := hM.1
  have hb1 := hb.1
  have c := p_reads (G := G) hM hG.1 hG.2.1 hG.2.2.2.2.2.1 hk.2.2.1 ⟨by omega, by omega⟩
  cases hX : tkM tp n t.2.2.1 with
  | error e =>
    rw [hX] at c
    show P G 6 0 0 mX11_readLine 70 _ [] K S (LXQ K S0 tp n (.error e))
    refine T_aload_n dX11_readLine_70 rfl rfl ?_
    refine R_callV dX11_readLine_71 kX11_reads lX11_101 (by assumption) rfl c rfl rfl (Nat.le_of_ble_eq_true rfl) (Nat.le_of_ble_eq_true rfl) (by decide) (by decide) (fun r_ K_ S_ q_ => ?_)
    obtain ⟨rfl, hKe, hF, q11, q12, q0⟩ := q_
    have hKe := hKe.symm
    subst hKe
    refine T_aload_n dX11_readLine_74 rfl rfl ?_
    refine P_geti dX11_readLine_75 fX11_60 (by assumption) rfl ?_
    refine I_if_le (tgt := 82) dX11_readLine_78 (by decide) (hF.1.1 _ _) (fun h78 => ?_) (fun h78 => ?_)
    · omega
    · exact T_return dX11_readLine_81 rfl ⟨_, _, rfl, rfl, rfl, hG.bs hF q11 q12 q0⟩
  | ok t2 =>
    rw [hX] at c
    have hb2 := (tkM_b ⟨by omega, by omega⟩ hX).1
    show P G 6 0 0 mX11_readLine 70 _ [] K S (LXQ K S0 tp n (ln2 tp n (F t2)))
    refine T_aload_n dX11_readLine_70 rfl rfl ?_
    refine R_callV dX11_readLine_71 kX11_reads lX11_101 (by assumption) rfl c rfl rfl (Nat.le_of_ble_eq_true rfl) (Nat.le_of_ble_eq_true rfl) (by decide) (by decide) (fun r_ K_ S_ q_ => ?_)
    obtain ⟨rfl, hKe, hF, q11, hk2⟩ := q_
    have hKe := hKe.symm
    subst hKe
    have w := z t2 S_ hX (hG.fq hF q11) hk2 hb2
    refine T_aload_n dX11_readLine_74 rfl rfl ?_
    refine P_geti dX11_readLine_75 fX11_60 (by assumption) rfl ?_
    rw [q11]
    refine I_if_le (tgt := 82) dX11_readLine_78 (by decide) ⟨by omega, by omega⟩ (fun h78 => ?_) (fun h78 => ?_)
    · exact w
    · omega
theorem f_ln70 {S : SV} {e : ER} {ln : Int} (hM : MoAt K) (hq : BS S0 S e) : P G 6 0 0 mX11_readLine 70 [some (.ref 453), some (IV ln)] [] K S (LXQ K S0 tp n (.error e)) := by
  have m0 := hM.1
  have hq2 : 0 < fI S 453 11 := by rw [hq.2.2.1]; exact hq.2.2.2.2
  refine T_aload_n dX11_readLine_70 rfl rfl ?_
  refine Q_callV dX11_readLine_71 kX11_reads lX11_101 (by assumption) rfl (f_reads hM hq.1 hq2) rfl rfl (Nat.le_of_ble_eq_true rfl) (Nat.le_of_ble_eq_true rfl) (by decide) (by decide) ?_
  refine T_aload_n dX11_readLine_74 rfl rfl ?_
  refine P_geti dX11_readLine_75 fX11_60 (by assumption) rfl ?_
  refine I_if_le (tgt := 82) dX11_readLine_78 (by decide) (hq.1.1 _ _) (fun h78 => ?_) (fun h78 => ?_)
  · omega
  · exact T_return dX11_readLine_81 rfl ⟨_, _, rfl, rfl, rfl, hq⟩
theorem p_line {S : SV} {pl : PL} {t : TK} (hM : MoAt K) (hG : GS S0 S tp n pl) (hk : TkS S t) (hb : TkB n t) : P G 6 0 0 mX11_readLine 0 (LE mX11_readLine [.ref 453]) [] K S (LXQ K S0 tp n (ln2 tp n (bodyM tp n pl t))) := by
  have m0 := hM.1
  have m2 := hM.2.2.1
  obtain ⟨g1, g2, g3, g4, g5, g6, g7⟩ := id hG
  have e0 := g3.1.1
  have e1 := g3.1.2
  have hH := g4.1
  have cl := p_lineNow (G := G) hM g1 g2 hk hb
  have bad : ∀ c : Int, c = 2 ∨ c = 5 → BS S0 (errS S c) (c, t.2.1) := fun c hc => hG.bs (errS_q g1 (by rcases hc with z | z <;> rw [z] <;> decide)) errS_11 (by rw [errS_12]; exact hk.2.1) (by show 0 < c; omega)
  unfold bodyM
  rcases lnM_in (tp := tp) (t := t) with hl | hl | hl | hl | hl | hl
  · rw [hl] at cl ⊢
    rw [if_pos rfl]
    by_cases h5 : 5 ≤ pHs pl
    · rw [if_pos h5]
      have hq := bad 5 (Or.inr rfl)
      have w := f_ln70 (G := G) (tp := tp) (n := n) (ln := 0) hM hq
      rw [show LE mX11_readLine [.ref 453] = [some (.ref 453), none] from rfl]
      refine T_aload_n dX11_readLine_0 rfl rfl ?_
      refine Q_callV dX11_readLine_1 kX11_lineNow lX11_128 (by assumption) rfl cl rfl rfl (Nat.le_of_ble_eq_true rfl) (Nat.le_of_ble_eq_true rfl) (by decide) (by decide) ?_
      refine T_istore_n dX11_readLine_4 (by decide) rfl ?_
      refine T_aload_n dX11_readLine_5 rfl rfl ?_
      refine T_iload_n dX11_readLine_6 rfl ?_
      refine I_bipush dX11_readLine_7 (by decide) ?_
      refine I_icmp_eq (tgt := 16) dX11_readLine_9 (by decide) ⟨by omega, by omega⟩ ⟨by omega, by omega⟩ (fun h9 => ?_) (fun h9 => ?_)
      · omega
      · refine I_iconst dX11_readLine_12 ?_
        refine T_goto (tgt := 17) dX11_readLine_13 (by decide) ?_
        refine I_iconst dX11_readLine_17 ?_
        refine Q_callV dX11_readLine_18 kX11_requires lX11_94 (by assumption) rfl (p_req1 hM) rfl rfl (Nat.le_of_ble_eq_true rfl) (Nat.le_of_ble_eq_true rfl) (by decide) (by decide) ?_
        refine T_aload_n dX11_readLine_21 rfl rfl ?_
        refine T_iload_n dX11_readLine_22 rfl ?_
        refine I_if_ne (tgt := 36) dX11_readLine_23 (by decide) ⟨by omega, by omega⟩ (fun h23 => ?_) (fun h23 => ?_)
        · omega
        · refine T_aload_n dX11_readLine_26 rfl rfl ?_
          refine P_getr dX11_readLine_27 fX11_13 (by assumption) rfl ?_
          refine I_iconst dX11_readLine_30 ?_
          refine P_iald dX11_readLine_31 (by assumption) ⟨by omega, by omega⟩ (by first | decide | omega) ?_
          rw [e0]
          refine I_iconst dX11_readLine_32 ?_
          refine I_icmp_ge (tgt := 40) dX11_readLine_33 (by decide) ⟨by omega, by omega⟩ ⟨by omega, by omega⟩ (fun h33 => ?_) (fun h33 => ?_)
          · refine I_iconst dX11_readLine_40 ?_
            refine I_iconst dX11_readLine_41 ?_
            refine Q_callV dX11_readLine_42 kX11_requires lX11_94 (by assumption) rfl (p_req0 hM g6) rfl rfl (Nat.le_of_ble_eq_true rfl) (Nat.le_of_ble_eq_true rfl) (by decide) (by decide) ?_
            refine T_aload_n dX11_readLine_45 rfl rfl ?_
            refine T_iload_n dX11_readLine_46 rfl ?_
            refine I_iconst dX11_readLine_47 ?_
            refine I_icmp_ne (tgt := 61) dX11_readLine_48 (by decide) ⟨by omega, by omega⟩ ⟨by omega, by omega⟩ (fun h48 => ?_) (fun h48 => ?_)
            · refine I_iconst dX11_readLine_61 ?_
              refine T_goto (tgt := 66) dX11_readLine_62 (by decide) ?_
              refine I_iconst dX11_readLine_66 ?_
              refine Q_callV dX11_readLine_67 kX11_requires lX11_94 (by assumption) rfl (p_reqF hM (by decide) hq.1 (by rw [errS_11]; omega)) rfl rfl (Nat.le_of_ble_eq_true rfl) (Nat.le_of_ble_eq_true rfl) (by decide) (by decide) ?_
              exact w
            · omega
          · omega
    · rw [if_neg h5]
      have w := l_ln70 (G := G) (ln := 0) (F := fun t2 => hseM tp n pl t2) hM hG hk hb (fun t2 S' hX hG' hk' hb' => by
        have m0 := hM.1
        have c := p_hse (G := G) hM hG' hk' hb' (by omega)
        refine T_iload_n dX11_readLine_82 rfl ?_
        refine I_if_ne (tgt := 93) dX11_readLine_83 (by decide) (by decide) (fun h83 => ?_) (fun h83 => ?_)
        · exact absurd rfl h83
        · refine T_aload_n dX11_readLine_86 rfl rfl ?_
          refine R_callV dX11_readLine_87 kX11_readHouse lX11_131 (by assumption) rfl c rfl rfl (Nat.le_of_ble_eq_true rfl) (Nat.le_of_ble_eq_true rfl) (by decide) (by decide) (fun r_ K_ S_ q_ => ?_)
          have hq := q_
          obtain ⟨rfl, hKe, -⟩ := q_
          have hKe := hKe.symm
          subst hKe
          refine T_goto (tgt := 128) dX11_readLine_90 (by decide) ?_
          exact l_ln128 hM (fun q hq => hseM_b hb' hq) hq)
      rw [show LE mX11_readLine [.ref 453] = [some (.ref 453), none] from rfl]
      refine T_aload_n dX11_readLine_0 rfl rfl ?_
      refine Q_callV dX11_readLine_1 kX11_lineNow lX11_128 (by assumption) rfl cl rfl rfl (Nat.le_of_ble_eq_true rfl) (Nat.le_of_ble_eq_true rfl) (by decide) (by decide) ?_
      refine T_istore_n dX11_readLine_4 (by decide) rfl ?_
      refine T_aload_n dX11_readLine_5 rfl rfl ?_
      refine T_iload_n dX11_readLine_6 rfl ?_
      refine I_bipush dX11_readLine_7 (by decide) ?_
      refine I_icmp_eq (tgt := 16) dX11_readLine_9 (by decide) ⟨by omega, by omega⟩ ⟨by omega, by omega⟩ (fun h9 => ?_) (fun h9 => ?_)
      · omega
      · refine I_iconst dX11_readLine_12 ?_
        refine T_goto (tgt := 17) dX11_readLine_13 (by decide) ?_
        refine I_iconst dX11_readLine_17 ?_
        refine Q_callV dX11_readLine_18 kX11_requires lX11_94 (by assumption) rfl (p_req1 hM) rfl rfl (Nat.le_of_ble_eq_true rfl) (Nat.le_of_ble_eq_true rfl) (by decide) (by decide) ?_
        refine T_aload_n dX11_readLine_21 rfl rfl ?_
        refine T_iload_n dX11_readLine_22 rfl ?_
        refine I_if_ne (tgt := 36) dX11_readLine_23 (by decide) ⟨by omega, by omega⟩ (fun h23 => ?_) (fun h23 => ?_)
        · omega
        · refine T_aload_n dX11_readLine_26 rfl rfl ?_
          refine P_getr dX11_readLine_27 fX11_13 (by assumption) rfl ?_
          refine I_iconst dX11_readLine_30 ?_
          refine P_iald dX11_readLine_31 (by assumption) ⟨by omega, by omega⟩ (by first | decide | omega) ?_
          rw [e0]
          refine I_iconst dX11_readLine_32 ?_
          refine I_icmp_ge (tgt := 40) dX11_readLine_33 (by decide) ⟨by omega, by omega⟩ ⟨by omega, by omega⟩ (fun h33 => ?_) (fun h33 => ?_)
          · omega
          · refine I_iconst dX11_readLine_36 ?_
            refine T_goto (tgt := 41) dX11_readLine_37 (by decide) ?_
            refine I_iconst dX11_readLine_41 ?_
            refine Q_callV dX11_readLine_42 kX11_requires lX11_94 (by assumption) rfl (p_req1 hM) rfl rfl (Nat.le_of_ble_eq_true rfl) (Nat.le_of_ble_eq_true rfl) (by decide) (by decide) ?_
            refine T_aload_n dX11_readLine_45 rfl rfl ?_
            refine T_iload_n dX11_readLine_46 rfl ?_
            refine I_iconst dX11_readLine_47 ?_
            refine I_icmp_ne (tgt := 61) dX11_readLine_48 (by decide) ⟨by omega, by omega⟩ ⟨by omega, by omega⟩ (fun h48 => ?_) (fun h48 => ?_)
            · refine I_iconst dX11_readLine_61 ?_
              refine T_goto (tgt := 66) dX11_readLine_62 (by decide) ?_
              refine I_iconst dX11_readLine_66 ?_
              refine Q_callV dX11_readLine_67 kX11_requires lX11_94 (by assumption) rfl (p_req1 hM) rfl rfl (Nat.le_of_ble_eq_true rfl) (Nat.le_of_ble_eq_true rfl) (by decide) (by decide) ?_
              exact w
            · omega
  · rw [hl] at cl ⊢
    rw [if_neg (by omega), if_pos rfl]
    by_cases h4 : 4 ≤ pDm pl
    · rw [if_pos h4]
      have hq := bad 5 (Or.inr rfl)
      have w := f_ln70 (G := G) (tp := tp) (n := n) (ln := 1) hM hq
      rw [show LE mX11_readLine [.ref 453] = [some (.ref 453), none] from rfl]
      refine T_aload_n dX11_readLine_0 rfl rfl ?_
      refine Q_callV dX11_readLine_1 kX11_lineNow lX11_128 (by assumption) rfl cl rfl rfl (Nat.le_of_ble_eq_true rfl) (Nat.le_of_ble_eq_true rfl) (by decide) (by decide) ?_
      refine T_istore_n dX11_readLine_4 (by decide) rfl ?_
      refine T_aload_n dX11_readLine_5 rfl rfl ?_
      refine T_iload_n dX11_readLine_6 rfl ?_
      refine I_bipush dX11_readLine_7 (by decide) ?_
      refine I_icmp_eq (tgt := 16) dX11_readLine_9 (by decide) ⟨by omega, by omega⟩ ⟨by omega, by omega⟩ (fun h9 => ?_) (fun h9 => ?_)
      · omega
      · refine I_iconst dX11_readLine_12 ?_
        refine T_goto (tgt := 17) dX11_readLine_13 (by decide) ?_
        refine I_iconst dX11_readLine_17 ?_
        refine Q_callV dX11_readLine_18 kX11_requires lX11_94 (by assumption) rfl (p_req1 hM) rfl rfl (Nat.le_of_ble_eq_true rfl) (Nat.le_of_ble_eq_true rfl) (by decide) (by decide) ?_
        refine T_aload_n dX11_readLine_21 rfl rfl ?_
        refine T_iload_n dX11_readLine_22 rfl ?_
        refine I_if_ne (tgt := 36) dX11_readLine_23 (by decide) ⟨by omega, by omega⟩ (fun h23 => ?_) (fun h23 => ?_)
        · refine I_iconst dX11_readLine_36 ?_
          refine T_goto (tgt := 41) dX11_readLine_37 (by decide) ?_
          refine I_iconst dX11_readLine_41 ?_
          refine Q_callV dX11_readLine_42 kX11_requires lX11_94 (by assumption) rfl (p_req1 hM) rfl rfl (Nat.le_of_ble_eq_true rfl) (Nat.le_of_ble_eq_true rfl) (by decide) (by decide) ?_
          refine T_aload_n dX11_readLine_45 rfl rfl ?_
          refine T_iload_n dX11_readLine_46 rfl ?_
          refine I_iconst dX11_readLine_47 ?_
          refine I_icmp_ne (tgt := 61) dX11_readLine_48 (by decide) ⟨by omega, by omega⟩ ⟨by omega, by omega⟩ (fun h48 => ?_) (fun h48 => ?_)
          · omega
          · refine T_aload_n dX11_readLine_51 rfl rfl ?_
            refine P_getr dX11_readLine_52 fX11_13 (by assumption) rfl ?_
            refine I_iconst dX11_readLine_55 ?_
            refine P_iald dX11_readLine_56 (by assumption) ⟨by omega, by omega⟩ (by first | decide | omega) ?_
            rw [e1]
            refine I_iconst dX11_readLine_57 ?_
            refine I_icmp_ge (tgt := 65) dX11_readLine_58 (by decide) ⟨by omega, by omega⟩ ⟨by omega, by omega⟩ (fun h58 => ?_) (fun h58 => ?_)
            · refine I_iconst dX11_readLine_65 ?_
              refine I_iconst dX11_readLine_66 ?_
              refine Q_callV dX11_readLine_67 kX11_requires lX11_94 (by assumption) rfl (p_req0 hM g6) rfl rfl (Nat.le_of_ble_eq_true rfl) (Nat.le_of_ble_eq_true rfl) (by decide) (by decide) ?_
              exact w
            · omega
        · omega
    · rw [if_neg h4]
      have w := l_ln70 (G := G) (ln := 1) (F := fun t2 => rcvsM tp n (pDm pl) 3 (addDM pl) t2) hM hG hk hb (fun t2 S' hX hG' hk' hb' => by
        have m0 := hM.1
        have c := p_domR (G := G) hM hG' hk' hb' (by omega)
        refine T_iload_n dX11_readLine_82 rfl ?_
        refine I_if_ne (tgt := 93) dX11_readLine_83 (by decide) (by decide) (fun h83 => ?_) (fun h83 => ?_)
        · refine T_iload_n dX11_readLine_93 rfl ?_
          refine I_iconst dX11_readLine_94 ?_
          refine I_icmp_ne (tgt := 105) dX11_readLine_95 (by decide) (by decide) (by decide) (fun h95 => ?_) (fun h95 => ?_)
          · exact absurd rfl h95
          · refine T_aload_n dX11_readLine_98 rfl rfl ?_
            refine R_callV dX11_readLine_99 kX11_readDomain lX11_134 (by assumption) rfl c rfl rfl (Nat.le_of_ble_eq_true rfl) (Nat.le_of_ble_eq_true rfl) (by decide) (by decide) (fun r_ K_ S_ q_ => ?_)
            have hq := q_
            obtain ⟨rfl, hKe, -⟩ := q_
            have hKe := hKe.symm
            subst hKe
            refine T_goto (tgt := 128) dX11_readLine_102 (by decide) ?_
            have hz : pRc pl (pDm pl) = 0 := hG'.2.2.2.1.2.2.2.2.1 (pDm pl) (by omega) (by omega) (by omega)
            exact l_ln128 hM (fun q hq => (rcvsM_b 3 _ _ _ (hG'.2.2.2.1.addD (by omega)) hb' ⟨by omega, by show pDm pl < pDm pl + 1; omega⟩ (by show pRc pl (pDm pl) + ((3 : Nat) : Int) ≤ 3; omega) hq).2.1) hq
        · cases h83)
      rw [show LE mX11_readLine [.ref 453] = [some (.ref 453), none] from rfl]
      refine T_aload_n dX11_readLine_0 rfl rfl ?_
      refine Q_callV dX11_readLine_1 kX11_lineNow lX11_128 (by assumption) rfl cl rfl rfl (Nat.le_of_ble_eq_true rfl) (Nat.le_of_ble_eq_true rfl) (by decide) (by decide) ?_
      refine T_istore_n dX11_readLine_4 (by decide) rfl ?_
      refine T_aload_n dX11_readLine_5 rfl rfl ?_
      refine T_iload_n dX11_readLine_6 rfl ?_
      refine I_bipush dX11_readLine_7 (by decide) ?_
      refine I_icmp_eq (tgt := 16) dX11_readLine_9 (by decide) ⟨by omega, by omega⟩ ⟨by omega, by omega⟩ (fun h9 => ?_) (fun h9 => ?_)
      · omega
      · refine I_iconst dX11_readLine_12 ?_
        refine T_goto (tgt := 17) dX11_readLine_13 (by decide) ?_
        refine I_iconst dX11_readLine_17 ?_
        refine Q_callV dX11_readLine_18 kX11_requires lX11_94 (by assumption) rfl (p_req1 hM) rfl rfl (Nat.le_of_ble_eq_true rfl) (Nat.le_of_ble_eq_true rfl) (by decide) (by decide) ?_
        refine T_aload_n dX11_readLine_21 rfl rfl ?_
        refine T_iload_n dX11_readLine_22 rfl ?_
        refine I_if_ne (tgt := 36) dX11_readLine_23 (by decide) ⟨by omega, by omega⟩ (fun h23 => ?_) (fun h23 => ?_)
        · refine I_iconst dX11_readLine_36 ?_
          refine T_goto (tgt := 41) dX11_readLine_37 (by decide) ?_
          refine I_iconst dX11_readLine_41 ?_
          refine Q_callV dX11_readLine_42 kX11_requires lX11_94 (by assumption) rfl (p_req1 hM) rfl rfl (Nat.le_of_ble_eq_true rfl) (Nat.le_of_ble_eq_true rfl) (by decide) (by decide) ?_
          refine T_aload_n dX11_readLine_45 rfl rfl ?_
          refine T_iload_n dX11_readLine_46 rfl ?_
          refine I_iconst dX11_readLine_47 ?_
          refine I_icmp_ne (tgt := 61) dX11_readLine_48 (by decide) ⟨by omega, by omega⟩ ⟨by omega, by omega⟩ (fun h48 => ?_) (fun h48 => ?_)
          · omega
          · refine T_aload_n dX11_readLine_51 rfl rfl ?_
            refine P_getr dX11_readLine_52 fX11_13 (by assumption) rfl ?_
            refine I_iconst dX11_readLine_55 ?_
            refine P_iald dX11_readLine_56 (by assumption) ⟨by omega, by omega⟩ (by first | decide | omega) ?_
            rw [e1]
            refine I_iconst dX11_readLine_57 ?_
            refine I_icmp_ge (tgt := 65) dX11_readLine_58 (by decide) ⟨by omega, by omega⟩ ⟨by omega, by omega⟩ (fun h58 => ?_) (fun h58 => ?_)
            · omega
            · refine I_iconst dX11_readLine_61 ?_
              refine T_goto (tgt := 66) dX11_readLine_62 (by decide) ?_
              refine I_iconst dX11_readLine_66 ?_
              refine Q_callV dX11_readLine_67 kX11_requires lX11_94 (by assumption) rfl (p_req1 hM) rfl rfl (Nat.le_of_ble_eq_true rfl) (Nat.le_of_ble_eq_true rfl) (by decide) (by decide) ?_
              exact w
        · omega
  · rw [hl] at cl ⊢
    rw [if_neg (by omega), if_neg (by omega), if_neg (by omega)]
    have w := l_ln70 (G := G) (ln := 2) (F := fun t2 => adrM tp n pl (2 - 1) t2) hM hG hk hb (fun t2 S' hX hG' hk' hb' => by
        have m0 := hM.1
        have c := p_adr (G := G) (what := 1) hM hG' hk' hb' ⟨by omega, by omega⟩
        have h125 : T G 6 0 0 mX11_readLine 125 [some (.ref 453), some (IV 2)] [IV 1, .ref 453] (HP K S') (fun r σ' => ∃ K' S', σ' = HP K' S' ∧ LXQ K S0 tp n (ln2 tp n (adrM tp n pl 1 t2)) r K' S') := by
          refine R_callV dX11_readLine_125 kX11_readAddress lX11_137 (by assumption) rfl c rfl rfl (Nat.le_of_ble_eq_true rfl) (Nat.le_of_ble_eq_true rfl) (by decide) (by decide) (fun r_ K_ S_ q_ => ?_)
          have hq := q_
          obtain ⟨rfl, hKe, -⟩ := q_
          have hKe := hKe.symm
          subst hKe
          exact l_ln128 hM (fun q hq => adrM_b hG'.2.2.2.1 ⟨by omega, by omega⟩ hb' hq) hq
        refine T_iload_n dX11_readLine_82 rfl ?_
        refine I_if_ne (tgt := 93) dX11_readLine_83 (by decide) (by decide) (fun h83 => ?_) (fun h83 => ?_)
        · refine T_iload_n dX11_readLine_93 rfl ?_
          refine I_iconst dX11_readLine_94 ?_
          refine I_icmp_ne (tgt := 105) dX11_readLine_95 (by decide) (by decide) (by decide) (fun h95 => ?_) (fun h95 => ?_)
          rotate_left
          · cases h95
          refine T_aload_n dX11_readLine_105 rfl rfl ?_
          refine T_iload_n dX11_readLine_106 rfl ?_
          refine I_iconst dX11_readLine_107 ?_
          refine I_icmp_ne (tgt := 115) dX11_readLine_108 (by decide) (by decide) (by decide) (fun h108 => ?_) (fun h108 => ?_)
          · exact absurd rfl h108
          · refine I_iconst dX11_readLine_111 ?_
            refine T_goto (tgt := 125) dX11_readLine_112 (by decide) ?_
            exact h125
        · cases h83)
    rw [show LE mX11_readLine [.ref 453] = [some (.ref 453), none] from rfl]
    refine T_aload_n dX11_readLine_0 rfl rfl ?_
    refine Q_callV dX11_readLine_1 kX11_lineNow lX11_128 (by assumption) rfl cl rfl rfl (Nat.le_of_ble_eq_true rfl) (Nat.le_of_ble_eq_true rfl) (by decide) (by decide) ?_
    refine T_istore_n dX11_readLine_4 (by decide) rfl ?_
    refine T_aload_n dX11_readLine_5 rfl rfl ?_
    refine T_iload_n dX11_readLine_6 rfl ?_
    refine I_bipush dX11_readLine_7 (by decide) ?_
    refine I_icmp_eq (tgt := 16) dX11_readLine_9 (by decide) ⟨by omega, by omega⟩ ⟨by omega, by omega⟩ (fun h9 => ?_) (fun h9 => ?_)
    · omega
    · refine I_iconst dX11_readLine_12 ?_
      refine T_goto (tgt := 17) dX11_readLine_13 (by decide) ?_
      refine I_iconst dX11_readLine_17 ?_
      refine Q_callV dX11_readLine_18 kX11_requires lX11_94 (by assumption) rfl (p_req1 hM) rfl rfl (Nat.le_of_ble_eq_true rfl) (Nat.le_of_ble_eq_true rfl) (by decide) (by decide) ?_
      refine T_aload_n dX11_readLine_21 rfl rfl ?_
      refine T_iload_n dX11_readLine_22 rfl ?_
      refine I_if_ne (tgt := 36) dX11_readLine_23 (by decide) ⟨by omega, by omega⟩ (fun h23 => ?_) (fun h23 => ?_)
      · refine I_iconst dX11_readLine_36 ?_
        refine T_goto (tgt := 41) dX11_readLine_37 (by decide) ?_
        refine I_iconst dX11_readLine_41 ?_
        refine Q_callV dX11_readLine_42 kX11_requires lX11_94 (by assumption) rfl (p_req1 hM) rfl rfl (Nat.le_of_ble_eq_true rfl) (Nat.le_of_ble_eq_true rfl) (by decide) (by decide) ?_
        refine T_aload_n dX11_readLine_45 rfl rfl ?_
        refine T_iload_n dX11_readLine_46 rfl ?_
        refine I_iconst dX11_readLine_47 ?_
        refine I_icmp_ne (tgt := 61) dX11_readLine_48 (by decide) ⟨by omega, by omega⟩ ⟨by omega, by omega⟩ (fun h48 => ?_) (fun h48 => ?_)
        · refine I_iconst dX11_readLine_61 ?_
          refine T_goto (tgt := 66) dX11_readLine_62 (by decide) ?_
          refine I_iconst dX11_readLine_66 ?_
          refine Q_callV dX11_readLine_67 kX11_requires lX11_94 (by assumption) rfl (p_req1 hM) rfl rfl (Nat.le_of_ble_eq_true rfl) (Nat.le_of_ble_eq_true rfl) (by decide) (by decide) ?_
          exact w
        · omega
      · omega
  · rw [hl] at cl ⊢
    rw [if_neg (by omega), if_neg (by omega), if_neg (by omega)]
    have w := l_ln70 (G := G) (ln := 3) (F := fun t2 => adrM tp n pl (3 - 1) t2) hM hG hk hb (fun t2 S' hX hG' hk' hb' => by
        have m0 := hM.1
        have c := p_adr (G := G) (what := 2) hM hG' hk' hb' ⟨by omega, by omega⟩
        have h125 : T G 6 0 0 mX11_readLine 125 [some (.ref 453), some (IV 3)] [IV 2, .ref 453] (HP K S') (fun r σ' => ∃ K' S', σ' = HP K' S' ∧ LXQ K S0 tp n (ln2 tp n (adrM tp n pl 2 t2)) r K' S') := by
          refine R_callV dX11_readLine_125 kX11_readAddress lX11_137 (by assumption) rfl c rfl rfl (Nat.le_of_ble_eq_true rfl) (Nat.le_of_ble_eq_true rfl) (by decide) (by decide) (fun r_ K_ S_ q_ => ?_)
          have hq := q_
          obtain ⟨rfl, hKe, -⟩ := q_
          have hKe := hKe.symm
          subst hKe
          exact l_ln128 hM (fun q hq => adrM_b hG'.2.2.2.1 ⟨by omega, by omega⟩ hb' hq) hq
        refine T_iload_n dX11_readLine_82 rfl ?_
        refine I_if_ne (tgt := 93) dX11_readLine_83 (by decide) (by decide) (fun h83 => ?_) (fun h83 => ?_)
        · refine T_iload_n dX11_readLine_93 rfl ?_
          refine I_iconst dX11_readLine_94 ?_
          refine I_icmp_ne (tgt := 105) dX11_readLine_95 (by decide) (by decide) (by decide) (fun h95 => ?_) (fun h95 => ?_)
          rotate_left
          · cases h95
          refine T_aload_n dX11_readLine_105 rfl rfl ?_
          refine T_iload_n dX11_readLine_106 rfl ?_
          refine I_iconst dX11_readLine_107 ?_
          refine I_icmp_ne (tgt := 115) dX11_readLine_108 (by decide) (by decide) (by decide) (fun h108 => ?_) (fun h108 => ?_)
          · refine T_iload_n dX11_readLine_115 rfl ?_
            refine I_iconst dX11_readLine_116 ?_
            refine I_icmp_ne (tgt := 124) dX11_readLine_117 (by decide) (by decide) (by decide) (fun h117 => ?_) (fun h117 => ?_)
            · exact absurd rfl h117
            · refine I_iconst dX11_readLine_120 ?_
              refine T_goto (tgt := 125) dX11_readLine_121 (by decide) ?_
              exact h125
          · cases h108
        · cases h83)
    rw [show LE mX11_readLine [.ref 453] = [some (.ref 453), none] from rfl]
    refine T_aload_n dX11_readLine_0 rfl rfl ?_
    refine Q_callV dX11_readLine_1 kX11_lineNow lX11_128 (by assumption) rfl cl rfl rfl (Nat.le_of_ble_eq_true rfl) (Nat.le_of_ble_eq_true rfl) (by decide) (by decide) ?_
    refine T_istore_n dX11_readLine_4 (by decide) rfl ?_
    refine T_aload_n dX11_readLine_5 rfl rfl ?_
    refine T_iload_n dX11_readLine_6 rfl ?_
    refine I_bipush dX11_readLine_7 (by decide) ?_
    refine I_icmp_eq (tgt := 16) dX11_readLine_9 (by decide) ⟨by omega, by omega⟩ ⟨by omega, by omega⟩ (fun h9 => ?_) (fun h9 => ?_)
    · omega
    · refine I_iconst dX11_readLine_12 ?_
      refine T_goto (tgt := 17) dX11_readLine_13 (by decide) ?_
      refine I_iconst dX11_readLine_17 ?_
      refine Q_callV dX11_readLine_18 kX11_requires lX11_94 (by assumption) rfl (p_req1 hM) rfl rfl (Nat.le_of_ble_eq_true rfl) (Nat.le_of_ble_eq_true rfl) (by decide) (by decide) ?_
      refine T_aload_n dX11_readLine_21 rfl rfl ?_
      refine T_iload_n dX11_readLine_22 rfl ?_
      refine I_if_ne (tgt := 36) dX11_readLine_23 (by decide) ⟨by omega, by omega⟩ (fun h23 => ?_) (fun h23 => ?_)
      · refine I_iconst dX11_readLine_36 ?_
        refine T_goto (tgt := 41) dX11_readLine_37 (by decide) ?_
        refine I_iconst dX11_readLine_41 ?_
        refine Q_callV dX11_readLine_42 kX11_requires lX11_94 (by assumption) rfl (p_req1 hM) rfl rfl (Nat.le_of_ble_eq_true rfl) (Nat.le_of_ble_eq_true rfl) (by decide) (by decide) ?_
        refine T_aload_n dX11_readLine_45 rfl rfl ?_
        refine T_iload_n dX11_readLine_46 rfl ?_
        refine I_iconst dX11_readLine_47 ?_
        refine I_icmp_ne (tgt := 61) dX11_readLine_48 (by decide) ⟨by omega, by omega⟩ ⟨by omega, by omega⟩ (fun h48 => ?_) (fun h48 => ?_)
        · refine I_iconst dX11_readLine_61 ?_
          refine T_goto (tgt := 66) dX11_readLine_62 (by decide) ?_
          refine I_iconst dX11_readLine_66 ?_
          refine Q_callV dX11_readLine_67 kX11_requires lX11_94 (by assumption) rfl (p_req1 hM) rfl rfl (Nat.le_of_ble_eq_true rfl) (Nat.le_of_ble_eq_true rfl) (by decide) (by decide) ?_
          exact w
        · omega
      · omega
  · rw [hl] at cl ⊢
    rw [if_neg (by omega), if_neg (by omega), if_neg (by omega)]
    have w := l_ln70 (G := G) (ln := 4) (F := fun t2 => adrM tp n pl (4 - 1) t2) hM hG hk hb (fun t2 S' hX hG' hk' hb' => by
        have m0 := hM.1
        have c := p_adr (G := G) (what := 3) hM hG' hk' hb' ⟨by omega, by omega⟩
        have h125 : T G 6 0 0 mX11_readLine 125 [some (.ref 453), some (IV 4)] [IV 3, .ref 453] (HP K S') (fun r σ' => ∃ K' S', σ' = HP K' S' ∧ LXQ K S0 tp n (ln2 tp n (adrM tp n pl 3 t2)) r K' S') := by
          refine R_callV dX11_readLine_125 kX11_readAddress lX11_137 (by assumption) rfl c rfl rfl (Nat.le_of_ble_eq_true rfl) (Nat.le_of_ble_eq_true rfl) (by decide) (by decide) (fun r_ K_ S_ q_ => ?_)
          have hq := q_
          obtain ⟨rfl, hKe, -⟩ := q_
          have hKe := hKe.symm
          subst hKe
          exact l_ln128 hM (fun q hq => adrM_b hG'.2.2.2.1 ⟨by omega, by omega⟩ hb' hq) hq
        refine T_iload_n dX11_readLine_82 rfl ?_
        refine I_if_ne (tgt := 93) dX11_readLine_83 (by decide) (by decide) (fun h83 => ?_) (fun h83 => ?_)
        · refine T_iload_n dX11_readLine_93 rfl ?_
          refine I_iconst dX11_readLine_94 ?_
          refine I_icmp_ne (tgt := 105) dX11_readLine_95 (by decide) (by decide) (by decide) (fun h95 => ?_) (fun h95 => ?_)
          rotate_left
          · cases h95
          refine T_aload_n dX11_readLine_105 rfl rfl ?_
          refine T_iload_n dX11_readLine_106 rfl ?_
          refine I_iconst dX11_readLine_107 ?_
          refine I_icmp_ne (tgt := 115) dX11_readLine_108 (by decide) (by decide) (by decide) (fun h108 => ?_) (fun h108 => ?_)
          · refine T_iload_n dX11_readLine_115 rfl ?_
            refine I_iconst dX11_readLine_116 ?_
            refine I_icmp_ne (tgt := 124) dX11_readLine_117 (by decide) (by decide) (by decide) (fun h117 => ?_) (fun h117 => ?_)
            · refine I_iconst dX11_readLine_124 ?_
              exact h125
            · cases h117
          · cases h108
        · cases h83)
    rw [show LE mX11_readLine [.ref 453] = [some (.ref 453), none] from rfl]
    refine T_aload_n dX11_readLine_0 rfl rfl ?_
    refine Q_callV dX11_readLine_1 kX11_lineNow lX11_128 (by assumption) rfl cl rfl rfl (Nat.le_of_ble_eq_true rfl) (Nat.le_of_ble_eq_true rfl) (by decide) (by decide) ?_
    refine T_istore_n dX11_readLine_4 (by decide) rfl ?_
    refine T_aload_n dX11_readLine_5 rfl rfl ?_
    refine T_iload_n dX11_readLine_6 rfl ?_
    refine I_bipush dX11_readLine_7 (by decide) ?_
    refine I_icmp_eq (tgt := 16) dX11_readLine_9 (by decide) ⟨by omega, by omega⟩ ⟨by omega, by omega⟩ (fun h9 => ?_) (fun h9 => ?_)
    · omega
    · refine I_iconst dX11_readLine_12 ?_
      refine T_goto (tgt := 17) dX11_readLine_13 (by decide) ?_
      refine I_iconst dX11_readLine_17 ?_
      refine Q_callV dX11_readLine_18 kX11_requires lX11_94 (by assumption) rfl (p_req1 hM) rfl rfl (Nat.le_of_ble_eq_true rfl) (Nat.le_of_ble_eq_true rfl) (by decide) (by decide) ?_
      refine T_aload_n dX11_readLine_21 rfl rfl ?_
      refine T_iload_n dX11_readLine_22 rfl ?_
      refine I_if_ne (tgt := 36) dX11_readLine_23 (by decide) ⟨by omega, by omega⟩ (fun h23 => ?_) (fun h23 => ?_)
      · refine I_iconst dX11_readLine_36 ?_
        refine T_goto (tgt := 41) dX11_readLine_37 (by decide) ?_
        refine I_iconst dX11_readLine_41 ?_
        refine Q_callV dX11_readLine_42 kX11_requires lX11_94 (by assumption) rfl (p_req1 hM) rfl rfl (Nat.le_of_ble_eq_true rfl) (Nat.le_of_ble_eq_true rfl) (by decide) (by decide) ?_
        refine T_aload_n dX11_readLine_45 rfl rfl ?_
        refine T_iload_n dX11_readLine_46 rfl ?_
        refine I_iconst dX11_readLine_47 ?_
        refine I_icmp_ne (tgt := 61) dX11_readLine_48 (by decide) ⟨by omega, by omega⟩ ⟨by omega, by omega⟩ (fun h48 => ?_) (fun h48 => ?_)
        · refine I_iconst dX11_readLine_61 ?_
          refine T_goto (tgt := 66) dX11_readLine_62 (by decide) ?_
          refine I_iconst dX11_readLine_66 ?_
          refine Q_callV dX11_readLine_67 kX11_requires lX11_94 (by assumption) rfl (p_req1 hM) rfl rfl (Nat.le_of_ble_eq_true rfl) (Nat.le_of_ble_eq_true rfl) (by decide) (by decide) ?_
          exact w
        · omega
      · omega
  · rw [hl] at cl ⊢
    rw [if_neg (by omega), if_neg (by omega), if_pos rfl]
    have hq := bad 2 (Or.inl rfl)
    have w := f_ln70 (G := G) (tp := tp) (n := n) (ln := -4) hM hq
    rw [show LE mX11_readLine [.ref 453] = [some (.ref 453), none] from rfl]
    refine T_aload_n dX11_readLine_0 rfl rfl ?_
    refine Q_callV dX11_readLine_1 kX11_lineNow lX11_128 (by assumption) rfl cl rfl rfl (Nat.le_of_ble_eq_true rfl) (Nat.le_of_ble_eq_true rfl) (by decide) (by decide) ?_
    refine T_istore_n dX11_readLine_4 (by decide) rfl ?_
    refine T_aload_n dX11_readLine_5 rfl rfl ?_
    refine T_iload_n dX11_readLine_6 rfl ?_
    refine I_bipush dX11_readLine_7 (by decide) ?_
    refine I_icmp_eq (tgt := 16) dX11_readLine_9 (by decide) ⟨by omega, by omega⟩ ⟨by omega, by omega⟩ (fun h9 => ?_) (fun h9 => ?_)
    · refine I_iconst dX11_readLine_16 ?_
      refine I_iconst dX11_readLine_17 ?_
      refine Q_callV dX11_readLine_18 kX11_requires lX11_94 (by assumption) rfl (p_req0 hM g6) rfl rfl (Nat.le_of_ble_eq_true rfl) (Nat.le_of_ble_eq_true rfl) (by decide) (by decide) ?_
      refine T_aload_n dX11_readLine_21 rfl rfl ?_
      refine T_iload_n dX11_readLine_22 rfl ?_
      refine I_if_ne (tgt := 36) dX11_readLine_23 (by decide) ⟨by omega, by omega⟩ (fun h23 => ?_) (fun h23 => ?_)
      · refine I_iconst dX11_readLine_36 ?_
        refine T_goto (tgt := 41) dX11_readLine_37 (by decide) ?_
        refine I_iconst dX11_readLine_41 ?_
        refine Q_callV dX11_readLine_42 kX11_requires lX11_94 (by assumption) rfl (p_reqF hM (by decide) hq.1 (by rw [errS_11]; omega)) rfl rfl (Nat.le_of_ble_eq_true rfl) (Nat.le_of_ble_eq_true rfl) (by decide) (by decide) ?_
        refine T_aload_n dX11_readLine_45 rfl rfl ?_
        refine T_iload_n dX11_readLine_46 rfl ?_
        refine I_iconst dX11_readLine_47 ?_
        refine I_icmp_ne (tgt := 61) dX11_readLine_48 (by decide) ⟨by omega, by omega⟩ ⟨by omega, by omega⟩ (fun h48 => ?_) (fun h48 => ?_)
        · refine I_iconst dX11_readLine_61 ?_
          refine T_goto (tgt := 66) dX11_readLine_62 (by decide) ?_
          refine I_iconst dX11_readLine_66 ?_
          refine Q_callV dX11_readLine_67 kX11_requires lX11_94 (by assumption) rfl (p_reqF hM (by decide) hq.1 (by rw [errS_11]; omega)) rfl rfl (Nat.le_of_ble_eq_true rfl) (Nat.le_of_ble_eq_true rfl) (by decide) (by decide) ?_
          exact w
        · omega
      · omega
    · exact absurd rfl h9
end RPG
