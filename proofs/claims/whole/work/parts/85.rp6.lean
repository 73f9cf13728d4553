/-! the reference reads a text: addresses that are told -/
section RPE
variable {G : GT} {K : List SH} {tp : Int → Int} {n : Int} {S0 : SV}
theorem f_tgt {S : SV} {c z k : Int} (hM : MoAt K) (hr : AllR S) (h : 0 < fI S 453 11) (hc : 0 ≤ c ∧ c < 244) (hk : R32 k) : P G 4 0 0 mX11_readTarget 18 [some (.ref 453), some (IV c), some (IV z), some (IV k)] [] K S (Ret K none S) := by
  have m0 := hM.1
  have m2 := hM.2.2.1
  refine T_iload_n dX11_readTarget_18 rfl ?_
  refine T_aload_n dX11_readTarget_19 rfl rfl ?_
  refine P_getr dX11_readTarget_20 fX11_13 (by assumption) rfl ?_
  refine T_iload_n dX11_readTarget_23 rfl ?_
  refine I_iconst dX11_readTarget_24 ?_
  refine I_iadd dX11_readTarget_25 ?_
  refine P_iald dX11_readTarget_26 (by assumption) ⟨by omega, by omega⟩ (by first | decide | omega) ?_
  refine I_icmp_ge (tgt := 67) dX11_readTarget_27 (by decide) hk (hr.2 _ _) (fun h27 => ?_) (fun h27 => ?_)
  · refine T_aload_n dX11_readTarget_67 rfl rfl ?_
    refine P_geti dX11_readTarget_68 fX11_60 (by assumption) rfl ?_
    refine I_if_ne (tgt := 104) dX11_readTarget_71 (by decide) (hr.1 _ _) (fun h71 => ?_) (fun h71 => ?_)
    · refine T_aload_n dX11_readTarget_104 rfl rfl ?_
      refine Q_callV dX11_readTarget_105 kX11_reads lX11_101 (by assumption) rfl (f_reads hM hr h) rfl rfl (Nat.le_of_ble_eq_true rfl) (Nat.le_of_ble_eq_true rfl) (by decide) (by decide) ?_
      exact T_return dX11_readTarget_108 rfl ⟨_, _, rfl, rfl, rfl, rfl⟩
    · omega
  · refine T_aload_n dX11_readTarget_30 rfl rfl ?_
    refine P_geti dX11_readTarget_31 fX11_60 (by assumption) rfl ?_
    refine I_if_ne (tgt := 67) dX11_readTarget_34 (by decide) (hr.1 _ _) (fun h34 => ?_) (fun h34 => ?_)
    · refine T_aload_n dX11_readTarget_67 rfl rfl ?_
      refine P_geti dX11_readTarget_68 fX11_60 (by assumption) rfl ?_
      refine I_if_ne (tgt := 104) dX11_readTarget_71 (by decide) (hr.1 _ _) (fun h71 => ?_) (fun h71 => ?_)
      · refine T_aload_n dX11_readTarget_104 rfl rfl ?_
        refine Q_callV dX11_readTarget_105 kX11_reads lX11_101 (by assumption) rfl (f_reads hM hr h) rfl rfl (Nat.le_of_ble_eq_true rfl) (Nat.le_of_ble_eq_true rfl) (by decide) (by decide) ?_
        exact T_return dX11_readTarget_108 rfl ⟨_, _, rfl, rfl, rfl, rfl⟩
      · omega
    · omega
theorem f_tgt0 {S : SV} {c : Int} (hM : MoAt K) (hr : AllR S) (h : 0 < fI S 453 11) (hc : 0 ≤ c ∧ c < 244) : P G 4 0 0 mX11_readTarget 0 (LE mX11_readTarget [.ref 453, IV c]) [] K S (Ret K none S) := by
  have m0 := hM.1
  have z := f_tgt (G := G) (z := 0) (k := 0) hM hr h hc (by decide)
  rw [show LE mX11_readTarget [.ref 453, IV c] = [some (.ref 453), some (IV c), none, none] from rfl]
  refine T_aload_n dX11_readTarget_0 rfl rfl ?_
  refine P_geti dX11_readTarget_1 fX11_60 (by assumption) rfl ?_
  refine I_if_ne (tgt := 14) dX11_readTarget_4 (by decide) (hr.1 _ _) (fun h4 => ?_) (fun h4 => ?_)
  · refine I_iconst dX11_readTarget_14 ?_
    refine T_istore_n dX11_readTarget_15 (by decide) rfl ?_
    refine I_iconst dX11_readTarget_16 ?_
    refine T_istore_n dX11_readTarget_17 (by decide) rfl ?_
    exact z
  · omega
noncomputable def tgt2 (tp : Int → Int) (n : Int) (pl : PL) (a : Int) (t : TK) : Except ER (PL × TK) := (tgtM tp n pl a t).bind fun q => (tkM tp n q.2.2.2.1).bind fun t3 => .ok (q.1, t3)
theorem l_tgt104 {S : SV} {pl : PL} {t : TK} {c b k : Int} (hM : MoAt K) (hG : GS S0 S tp n pl) (hk : TkS S t) (hb : TkB n t) : P G 4 0 0 mX11_readTarget 104 [some (.ref 453), some (IV c), some (IV b), some (IV k)] [] K S (LXQ K S0 tp n ((tkM tp n t.2.2.1).bind fun t3 => .ok (pl, t3))) := by
  have m0 := hM.1
  have hb1 := hb.1
  have c := p_reads (G := G) hM hG.1 hG.2.1 hG.2.2.2.2.2.1 hk.2.2.1 ⟨by omega, by omega⟩
  cases hX : tkM tp n t.2.2.1 with
  | error e =>
    rw [hX] at c
    show P G 4 0 0 mX11_readTarget 104 _ [] K S (LXQ K S0 tp n (.error e))
    refine T_aload_n dX11_readTarget_104 rfl rfl ?_
    refine R_callV dX11_readTarget_105 kX11_reads lX11_101 (by assumption) rfl c rfl rfl (Nat.le_of_ble_eq_true rfl) (Nat.le_of_ble_eq_true rfl) (by decide) (by decide) (fun r_ K_ S_ q_ => ?_)
    obtain ⟨rfl, hKe, hF, q11, q12, q0⟩ := q_
    have hKe := hKe.symm
    subst hKe
    exact T_return dX11_readTarget_108 rfl ⟨_, _, rfl, rfl, rfl, hG.bs hF q11 q12 q0⟩
  | ok t3 =>
    rw [hX] at c
    show P G 4 0 0 mX11_readTarget 104 _ [] K S (LXQ K S0 tp n (.ok (pl, t3)))
    refine T_aload_n dX11_readTarget_104 rfl rfl ?_
    refine R_callV dX11_readTarget_105 kX11_reads lX11_101 (by assumption) rfl c rfl rfl (Nat.le_of_ble_eq_true rfl) (Nat.le_of_ble_eq_true rfl) (by decide) (by decide) (fun r_ K_ S_ q_ => ?_)
    obtain ⟨rfl, hKe, hF, q11, hk3⟩ := q_
    have hKe := hKe.symm
    subst hKe
    exact T_return dX11_readTarget_108 rfl ⟨_, _, rfl, rfl, rfl, hG.fq hF q11, hk3⟩
theorem l_tgt67 {S : SV} {pl : PL} {t : TK} {a b k : Int} (hM : MoAt K) (hG : GS S0 S tp n pl) (hk : TkS S t) (hb : TkB n t) (ha : 0 ≤ a ∧ a < 32) (hka : pKd pl a ≠ 0) (hn : pLc pl a < 4) (hbb : 0 ≤ b ∧ b < 32) : P G 4 0 0 mX11_readTarget 67 [some (.ref 453), some (IV (54 + 6 * a)), some (IV b), some (IV k)] [] K S (LXQ K S0 tp n ((tkM tp n t.2.2.1).bind fun t3 => .ok (addLdM pl a b, t3))) := by
  have m0 := hM.1
  have m2 := hM.2.2.1
  obtain ⟨g1, g2, g3, g4, g5, g6, g7⟩ := id hG
  have hc0 := g4.2.1.2 a ha.1 ha.2
  have hb1 := hb.1
  have ec := (g3.2.2.2 a ha.1 ha.2).2.1
  have e1 : aI (sA S 455 (54 + 6 * a + 2 + pLc pl a) b) 455 (54 + 6 * a + 1) = pLc pl a := by rw [aD, fset_f _ _ (by omega)]; exact ec
  have hG2 : GS S0 (sA (sA S 455 (54 + 6 * a + 2 + pLc pl a) b) 455 (54 + 6 * a + 1) (pLc pl a + 1)) tp n (addLdM pl a b) := ⟨(g1.sA ⟨by omega, by omega⟩).sA ⟨by omega, by omega⟩, g2.sA.sA, by rw [aD, aD]; exact g3.addLd g4 ha hn, g4.addLd ha hka hn hbb, g5, g6, (g7.tr Pq.sA).tr Pq.sA⟩
  have hk2 : TkS (sA (sA S 455 (54 + 6 * a + 2 + pLc pl a) b) 455 (54 + 6 * a + 1) (pLc pl a + 1)) t := hk
  have z := l_tgt104 (G := G) (c := 54 + 6 * a) (b := b) (k := k) hM hG2 hk2 hb
  refine T_aload_n dX11_readTarget_67 rfl rfl ?_
  refine P_geti dX11_readTarget_68 fX11_60 (by assumption) rfl ?_
  rw [g6]
  refine I_if_ne (tgt := 104) dX11_readTarget_71 (by decide) ⟨by omega, by omega⟩ (fun h71 => ?_) (fun h71 => ?_)
  · omega
  · refine T_aload_n dX11_readTarget_74 rfl rfl ?_
    refine P_getr dX11_readTarget_75 fX11_13 (by assumption) rfl ?_
    refine T_iload_n dX11_readTarget_78 rfl ?_
    refine I_iconst dX11_readTarget_79 ?_
    refine I_iadd dX11_readTarget_80 ?_
    refine T_aload_n dX11_readTarget_81 rfl rfl ?_
    refine P_getr dX11_readTarget_82 fX11_13 (by assumption) rfl ?_
    refine T_iload_n dX11_readTarget_85 rfl ?_
    refine I_iconst dX11_readTarget_86 ?_
    refine I_iadd dX11_readTarget_87 ?_
    refine P_iald dX11_readTarget_88 (by assumption) ⟨by omega, by omega⟩ (by first | decide | omega) ?_
    rw [ec]
    refine I_iadd dX11_readTarget_89 ?_
    refine T_iload_n dX11_readTarget_90 rfl ?_
    refine P_iast dX11_readTarget_91 (by assumption) ⟨by omega, by omega⟩ (by first | decide | omega) ?_
    refine T_aload_n dX11_readTarget_92 rfl rfl ?_
    refine P_getr dX11_readTarget_93 fX11_13 (by assumption) rfl ?_
    refine T_iload_n dX11_readTarget_96 rfl ?_
    refine I_iconst dX11_readTarget_97 ?_
    refine I_iadd dX11_readTarget_98 ?_
    refine T_dup2 dX11_readTarget_99 rfl rfl ?_
    refine P_iald dX11_readTarget_100 (by assumption) ⟨by omega, by omega⟩ (by first | decide | omega) ?_
    rw [e1]
    refine I_iconst dX11_readTarget_101 ?_
    refine I_iadd dX11_readTarget_102 ?_
    refine P_iast dX11_readTarget_103 (by assumption) ⟨by omega, by omega⟩ (by first | decide | omega) ?_
    exact z
theorem l_tgtL {S : SV} {pl : PL} {t : TK} {a b : Int} (hM : MoAt K) (hG : GS S0 S tp n pl) (hk : TkS S t) (hb : TkB n t) (ha : 0 ≤ a ∧ a < 32) (hka : pKd pl a ≠ 0) (hn : pLc pl a < 4) (hbb : 0 ≤ b ∧ b < 32) (m : Nat) : ∀ k : Int, 0 ≤ k → pLc pl a - k = m → (∀ i, 0 ≤ i → i < k → pLd pl a i ≠ b) → P G 4 0 0 mX11_readTarget 18 [some (.ref 453), some (IV (54 + 6 * a)), some (IV b), some (IV k)] [] K S (LXQ K S0 tp n (@ite _ (leadsP pl a b) (Classical.propDecidable _) (.error (4, t.2.1)) ((tkM tp n t.2.2.1).bind fun t3 => .ok (addLdM pl a b, t3)))) := by
  have m0 := hM.1
  have m2 := hM.2.2.1
  obtain ⟨g1, g2, g3, g4, g5, g6, g7⟩ := id hG
  have hc0 := g4.2.1.2 a ha.1 ha.2
  obtain ⟨-, ec, er⟩ := g3.2.2.2 a ha.1 ha.2
  induction m with
  | zero =>
    intro k h0 hm hne
    have hv : ¬ leadsP pl a b := fun ⟨i, i0, i1, i2⟩ => hne i i0 (by omega) i2
    rw [if_neg hv]
    have z := l_tgt67 (G := G) (k := k) hM hG hk hb ha hka hn hbb
    refine T_iload_n dX11_readTarget_18 rfl ?_
    refine T_aload_n dX11_readTarget_19 rfl rfl ?_
    refine P_getr dX11_readTarget_20 fX11_13 (by assumption) rfl ?_
    refine T_iload_n dX11_readTarget_23 rfl ?_
    refine I_iconst dX11_readTarget_24 ?_
    refine I_iadd dX11_readTarget_25 ?_
    refine P_iald dX11_readTarget_26 (by assumption) ⟨by omega, by omega⟩ (by first | decide | omega) ?_
    rw [ec]
    refine I_icmp_ge (tgt := 67) dX11_readTarget_27 (by decide) ⟨by omega, by omega⟩ ⟨by omega, by omega⟩ (fun h27 => ?_) (fun h27 => ?_)
    · exact z
    · omega
  | succ m ih =>
    intro k h0 hm hne
    have ek := er k h0 (by omega)
    have hrk := (g4.2.2.2.1 a ha.1 ha.2).2.2 k h0 (by omega)
    by_cases hq : pLd pl a k = b
    · have hv : leadsP pl a b := ⟨k, h0, by omega, hq⟩
      rw [if_pos hv]
      have hF := errS_q (c := 4) g1 (by decide)
      have z := f_tgt (G := G) (c := 54 + 6 * a) (z := b) (k := k + 1) hM hF.1 (by rw [errS_11]; omega) ⟨by omega, by omega⟩ ⟨by omega, by omega⟩
      refine T_iload_n dX11_readTarget_18 rfl ?_
      refine T_aload_n dX11_readTarget_19 rfl rfl ?_
      refine P_getr dX11_readTarget_20 fX11_13 (by assumption) rfl ?_
      refine T_iload_n dX11_readTarget_23 rfl ?_
      refine I_iconst dX11_readTarget_24 ?_
      refine I_iadd dX11_readTarget_25 ?_
      refine P_iald dX11_readTarget_26 (by assumption) ⟨by omega, by omega⟩ (by first | decide | omega) ?_
      rw [ec]
      refine I_icmp_ge (tgt := 67) dX11_readTarget_27 (by decide) ⟨by omega, by omega⟩ ⟨by omega, by omega⟩ (fun h27 => ?_) (fun h27 => ?_)
      · omega
      · refine T_aload_n dX11_readTarget_30 rfl rfl ?_
        refine P_geti dX11_readTarget_31 fX11_60 (by assumption) rfl ?_
        rw [g6]
        refine I_if_ne (tgt := 67) dX11_readTarget_34 (by decide) ⟨by omega, by omega⟩ (fun h34 => ?_) (fun h34 => ?_)
        · omega
        · refine T_aload_n dX11_readTarget_37 rfl rfl ?_
          refine T_aload_n dX11_readTarget_38 rfl rfl ?_
          refine P_getr dX11_readTarget_39 fX11_13 (by assumption) rfl ?_
          refine T_iload_n dX11_readTarget_42 rfl ?_
          refine I_iconst dX11_readTarget_43 ?_
          refine I_iadd dX11_readTarget_44 ?_
          refine T_iload_n dX11_readTarget_45 rfl ?_
          refine I_iadd dX11_readTarget_46 ?_
          refine P_iald dX11_readTarget_47 (by assumption) ⟨by omega, by omega⟩ (by first | decide | omega) ?_
          rw [ek]
          refine T_iload_n dX11_readTarget_48 rfl ?_
          refine I_icmp_eq (tgt := 56) dX11_readTarget_49 (by decide) ⟨by omega, by omega⟩ ⟨by omega, by omega⟩ (fun h49 => ?_) (fun h49 => ?_)
          · refine I_iconst dX11_readTarget_56 ?_
            refine I_iconst dX11_readTarget_57 ?_
            refine Q_callV dX11_readTarget_58 kX11_requires lX11_94 (by assumption) rfl (p_req0 hM g6) rfl rfl (Nat.le_of_ble_eq_true rfl) (Nat.le_of_ble_eq_true rfl) (by decide) (by decide) ?_
            refine I_iinc dX11_readTarget_61 rfl (by decide) rfl ?_
            refine T_goto (tgt := 18) dX11_readTarget_64 (by decide) ?_
            exact P.weaken z (fun r' K' S' q => by
              obtain ⟨rfl, rfl, rfl⟩ := q
              exact ⟨rfl, rfl, hG.bs hF errS_11 (by rw [errS_12]; exact hk.2.1) (by show (0 : Int) < 4; omega)⟩)
          · omega
    · have z := ih (k + 1) (by omega) (by omega) (fun i u v => by
        by_cases e : i = k
        · rw [e]; exact hq
        · exact hne i u (by omega))
      refine T_iload_n dX11_readTarget_18 rfl ?_
      refine T_aload_n dX11_readTarget_19 rfl rfl ?_
      refine P_getr dX11_readTarget_20 fX11_13 (by assumption) rfl ?_
      refine T_iload_n dX11_readTarget_23 rfl ?_
      refine I_iconst dX11_readTarget_24 ?_
      refine I_iadd dX11_readTarget_25 ?_
      refine P_iald dX11_readTarget_26 (by assumption) ⟨by omega, by omega⟩ (by first | decide | omega) ?_
      rw [ec]
      refine I_icmp_ge (tgt := 67) dX11_readTarget_27 (by decide) ⟨by omega, by omega⟩ ⟨by omega, by omega⟩ (fun h27 => ?_) (fun h27 => ?_)
      · omega
      · refine T_aload_n dX11_readTarget_30 rfl rfl ?_
        refine P_geti dX11_readTarget_31 fX11_60 (by assumption) rfl ?_
        rw [g6]
        refine I_if_ne (tgt := 67) dX11_readTarget_34 (by decide) ⟨by omega, by omega⟩ (fun h34 => ?_) (fun h34 => ?_)
        · omega
        · refine T_aload_n dX11_readTarget_37 rfl rfl ?_
          refine T_aload_n dX11_readTarget_38 rfl rfl ?_
          refine P_getr dX11_readTarget_39 fX11_13 (by assumption) rfl ?_
          refine T_iload_n dX11_readTarget_42 rfl ?_
          refine I_iconst dX11_readTarget_43 ?_
          refine I_iadd dX11_readTarget_44 ?_
          refine T_iload_n dX11_readTarget_45 rfl ?_
          refine I_iadd dX11_readTarget_46 ?_
          refine P_iald dX11_readTarget_47 (by assumption) ⟨by omega, by omega⟩ (by first | decide | omega) ?_
          rw [ek]
          refine T_iload_n dX11_readTarget_48 rfl ?_
          refine I_icmp_eq (tgt := 56) dX11_readTarget_49 (by decide) ⟨by omega, by omega⟩ ⟨by omega, by omega⟩ (fun h49 => ?_) (fun h49 => ?_)
          · omega
          · refine I_iconst dX11_readTarget_52 ?_
            refine T_goto (tgt := 57) dX11_readTarget_53 (by decide) ?_
            refine I_iconst dX11_readTarget_57 ?_
            refine Q_callV dX11_readTarget_58 kX11_requires lX11_94 (by assumption) rfl (p_req1 hM) rfl rfl (Nat.le_of_ble_eq_true rfl) (Nat.le_of_ble_eq_true rfl) (by decide) (by decide) ?_
            refine I_iinc dX11_readTarget_61 rfl (by decide) rfl ?_
            refine T_goto (tgt := 18) dX11_readTarget_64 (by decide) ?_
            exact z
theorem tgt2_eq {pl : PL} {t : TK} {a : Int} : tgt2 tp n pl a t = (addrM tp n t).bind fun q => @ite _ (leadsP pl a q.1) (Classical.propDecidable _) (.error (4, q.2.2.1)) ((tkM tp n q.2.2.2.1).bind fun t3 => .ok (addLdM pl a q.1, t3)) := by
  unfold tgt2 tgtM
  cases addrM tp n t with
  | error e => rfl
  | ok q =>
    show ((@ite (Except ER (PL × TK)) (leadsP pl a q.1) (Classical.propDecidable _) (Except.error (4, q.2.2.1)) (Except.ok (addLdM pl a q.1, q.2))).bind _) = @ite (Except ER (PL × TK)) (leadsP pl a q.1) (Classical.propDecidable _) _ _
    by_cases hl : leadsP pl a q.1
    · rw [if_pos hl, if_pos hl]; rfl
    · rw [if_neg hl, if_neg hl]; rfl
theorem p_tgt {S : SV} {pl : PL} {t : TK} {a : Int} (hM : MoAt K) (hG : GS S0 S tp n pl) (hk : TkS S t) (hb : TkB n t) (ha : 0 ≤ a ∧ a < 32) (hka : pKd pl a ≠ 0) (hn : pLc pl a < 4) : P G 4 0 0 mX11_readTarget 0 (LE mX11_readTarget [.ref 453, IV (54 + 6 * a)]) [] K S (LXQ K S0 tp n (tgt2 tp n pl a t)) := by
  have m0 := hM.1
  obtain ⟨g1, g2, g3, g4, g5, g6, g7⟩ := id hG
  have hc0 := g4.2.1.2 a ha.1 ha.2
  rw [tgt2_eq]
  have c := p_addr (G := G) hM g1 g2 g6 hk hb
  cases hX : addrM tp n t with
  | error e =>
    rw [hX] at c
    show P G 4 0 0 mX11_readTarget 0 (LE mX11_readTarget [.ref 453, IV (54 + 6 * a)]) [] K S (LXQ K S0 tp n (.error e))
    rw [show LE mX11_readTarget [.ref 453, IV (54 + 6 * a)] = [some (.ref 453), some (IV (54 + 6 * a)), none, none] from rfl]
    refine T_aload_n dX11_readTarget_0 rfl rfl ?_
    refine P_geti dX11_readTarget_1 fX11_60 (by assumption) rfl ?_
    rw [g6]
    refine I_if_ne (tgt := 14) dX11_readTarget_4 (by decide) ⟨by omega, by omega⟩ (fun h4 => ?_) (fun h4 => ?_)
    · omega
    · refine T_aload_n dX11_readTarget_7 rfl rfl ?_
      refine R_callV dX11_readTarget_8 kX11_addressNow lX11_118 (by assumption) rfl c rfl rfl (Nat.le_of_ble_eq_true rfl) (Nat.le_of_ble_eq_true rfl) (by decide) (by decide) (fun r_ K_ S_ q_ => ?_)
      obtain ⟨hKe, hF, ⟨z, rfl, z0, z1⟩, q11, q12, q0⟩ := q_
      have hKe := hKe.symm
      subst hKe
      have w := f_tgt (G := G) (c := 54 + 6 * a) (z := z) (k := 0) hM hF.1 (by omega) ⟨by omega, by omega⟩ (by decide)
      refine T_goto (tgt := 15) dX11_readTarget_11 (by decide) ?_
      refine T_istore_n dX11_readTarget_15 (by decide) rfl ?_
      refine I_iconst dX11_readTarget_16 ?_
      refine T_istore_n dX11_readTarget_17 (by decide) rfl ?_
      exact P.weaken w (fun r' K' S' q => by
        obtain ⟨rfl, rfl, rfl⟩ := q
        exact ⟨rfl, rfl, hG.bs hF q11 q12 q0⟩)
  | ok q =>
    rw [hX] at c
    obtain ⟨qb, qt, -, -, -⟩ := addrM_b hb hX
    show P G 4 0 0 mX11_readTarget 0 (LE mX11_readTarget [.ref 453, IV (54 + 6 * a)]) [] K S (LXQ K S0 tp n (@ite _ (leadsP pl a q.1) (Classical.propDecidable _) (.error (4, q.2.2.1)) ((tkM tp n q.2.2.2.1).bind fun t3 => .ok (addLdM pl a q.1, t3))))
    rw [show LE mX11_readTarget [.ref 453, IV (54 + 6 * a)] = [some (.ref 453), some (IV (54 + 6 * a)), none, none] from rfl]
    refine T_aload_n dX11_readTarget_0 rfl rfl ?_
    refine P_geti dX11_readTarget_1 fX11_60 (by assumption) rfl ?_
    rw [g6]
    refine I_if_ne (tgt := 14) dX11_readTarget_4 (by decide) ⟨by omega, by omega⟩ (fun h4 => ?_) (fun h4 => ?_)
    · omega
    · refine T_aload_n dX11_readTarget_7 rfl rfl ?_
      refine R_callV dX11_readTarget_8 kX11_addressNow lX11_118 (by assumption) rfl c rfl rfl (Nat.le_of_ble_eq_true rfl) (Nat.le_of_ble_eq_true rfl) (by decide) (by decide) (fun r_ K_ S_ q_ => ?_)
      obtain ⟨hKe, hF, rfl, q11, hk2⟩ := q_
      have hKe := hKe.symm
      subst hKe
      have w := l_tgtL (G := G) hM (hG.fq hF q11) hk2 qt ha hka hn qb (pLc pl a).toNat 0 (by omega) (by omega) (fun i u v => by omega)
      refine T_goto (tgt := 15) dX11_readTarget_11 (by decide) ?_
      refine T_istore_n dX11_readTarget_15 (by decide) rfl ?_
      refine I_iconst dX11_readTarget_16 ?_
      refine T_istore_n dX11_readTarget_17 (by decide) rfl ?_
      exact w
/-- the loop over those that a list leads to: b says whether there is one more -/
def adB (t : TK) (b : Int) : Prop := b = if t.1 = 2 then 1 else 0
theorem l_ad95 {S : SV} {what a c b : Int} {e : ER} (hM : MoAt K) (hq : BS S0 S e) (hw : R32 what) : P G 5 0 0 mX11_readAddress 95 [some (.ref 453), some (IV what), some (IV a), some (IV c), some (IV b)] [] K S (LXQ K S0 tp n (.error e)) := by
  have m0 := hM.1
  have hq2 : 0 < fI S 453 11 := by rw [hq.2.2.1]; exact hq.2.2.2.2
  refine T_aload_n dX11_readAddress_95 rfl rfl ?_
  refine P_geti dX11_readAddress_96 fX11_60 (by assumption) rfl ?_
  refine I_if_ne (tgt := 157) dX11_readAddress_99 (by decide) (hq.1.1 _ _) (fun h99 => ?_) (fun h99 => ?_)
  · exact T_return dX11_readAddress_157 rfl ⟨_, _, rfl, rfl, rfl, hq⟩
  · omega
theorem l_ad95o {S : SV} {pl : PL} {t : TK} {what a c : Int} (hM : MoAt K) (hG : GS S0 S tp n pl) (hk : TkS S t) : P G 5 0 0 mX11_readAddress 95 [some (.ref 453), some (IV what), some (IV a), some (IV c), some (IV 0)] [] K S (LXQ K S0 tp n (.ok (pl, t))) := by
  have m0 := hM.1
  have g6 := hG.2.2.2.2.2.1
  refine T_aload_n dX11_readAddress_95 rfl rfl ?_
  refine P_geti dX11_readAddress_96 fX11_60 (by assumption) rfl ?_
  rw [g6]
  refine I_if_ne (tgt := 157) dX11_readAddress_99 (by decide) ⟨by omega, by omega⟩ (fun h99 => ?_) (fun h99 => ?_)
  · omega
  · refine T_iload dX11_readAddress_102 rfl ?_
    refine I_if_eq (tgt := 157) dX11_readAddress_104 (by decide) ⟨by omega, by omega⟩ (fun h104 => ?_) (fun h104 => ?_)
    · exact T_return dX11_readAddress_157 rfl ⟨_, _, rfl, rfl, rfl, hG, hk⟩
    · exact absurd rfl h104
/-- one more, whether it stands there or not; then z -/
theorem l_ad1 {S : SV} {pl : PL} {t : TK} {what a : Int} {F : PL × TK → Except ER (PL × TK)} (hM : MoAt K) (hw : what = 2 ∨ what = 3) (ha : 0 ≤ a ∧ a < 32) (hG : GS S0 S tp n pl) (hk : TkS S t) (hb : TkB n t) (hka : pKd pl a ≠ 0) (hn : pLc pl a < 4) (z : ∀ (r : PL × TK) (S' : SV) (b : Int), tgt2 tp n pl a t = .ok r → GS S0 S' tp n r.1 → TkS S' r.2 → b = (if what = 3 ∧ r.2.1 = 2 then 1 else 0) → P G 5 0 0 mX11_readAddress 95 [some (.ref 453), some (IV what), some (IV a), some (IV (54 + 6 * a)), some (IV b)] [] K S' (LXQ K S0 tp n (F r))) : P G 5 0 0 mX11_readAddress 95 [some (.ref 453), some (IV what), some (IV a), some (IV (54 + 6 * a)), some (IV 1)] [] K S (LXQ K S0 tp n ((tgt2 tp n pl a t).bind F)) := by
  have m0 := hM.1
  have m2 := hM.2.2.1
  obtain ⟨g1, g2, g3, g4, g5, g6, g7⟩ := id hG
  have hc0 := g4.2.1.2 a ha.1 ha.2
  have ec := (g3.2.2.2 a ha.1 ha.2).2.1
  have c := p_tgt (G := G) hM hG hk hb ha hka hn
  have h134 : ∀ S_, LXQ K S0 tp n (tgt2 tp n pl a t) none K S_ → P G 5 0 0 mX11_readAddress 134 [some (.ref 453), some (IV what), some (IV a), some (IV (54 + 6 * a)), some (IV 1)] [] K S_ (LXQ K S0 tp n ((tgt2 tp n pl a t).bind F)) := by
    intro S_ hq
    obtain ⟨-, -, hq⟩ := hq
    cases hX : tgt2 tp n pl a t with
    | error e =>
      rw [hX] at hq
      have hq : BS S0 S_ e := hq
      have w0 := l_ad95 (G := G) (tp := tp) (n := n) (what := what) (a := a) (c := 54 + 6 * a) (b := 0) hM hq ⟨by omega, by omega⟩
      have w1 := l_ad95 (G := G) (tp := tp) (n := n) (what := what) (a := a) (c := 54 + 6 * a) (b := 1) hM hq ⟨by omega, by omega⟩
      show P G 5 0 0 mX11_readAddress 134 _ [] K S_ (LXQ K S0 tp n (.error e))
      refine T_iload_n dX11_readAddress_134 rfl ?_
      refine I_iconst dX11_readAddress_135 ?_
      refine I_icmp_ne (tgt := 151) dX11_readAddress_136 (by decide) ⟨by omega, by omega⟩ ⟨by omega, by omega⟩ (fun h136 => ?_) (fun h136 => ?_)
      · refine I_iconst dX11_readAddress_151 ?_
        refine T_istore dX11_readAddress_152 (by decide) rfl ?_
        refine T_goto (tgt := 95) dX11_readAddress_154 (by decide) ?_
        first | exact w0 | exact w1
      · refine T_aload_n dX11_readAddress_139 rfl rfl ?_
        refine P_geti dX11_readAddress_140 fX11_69 (by assumption) rfl ?_
        refine I_iconst dX11_readAddress_143 ?_
        refine I_icmp_ne (tgt := 151) dX11_readAddress_144 (by decide) (hq.1.1 _ _) ⟨by omega, by omega⟩ (fun h144 => ?_) (fun h144 => ?_)
        · refine I_iconst dX11_readAddress_151 ?_
          refine T_istore dX11_readAddress_152 (by decide) rfl ?_
          refine T_goto (tgt := 95) dX11_readAddress_154 (by decide) ?_
          first | exact w0 | exact w1
        · refine I_iconst dX11_readAddress_147 ?_
          refine T_goto (tgt := 152) dX11_readAddress_148 (by decide) ?_
          refine T_istore dX11_readAddress_152 (by decide) rfl ?_
          refine T_goto (tgt := 95) dX11_readAddress_154 (by decide) ?_
          first | exact w0 | exact w1
    | ok r =>
      rw [hX] at hq
      have hq : GS S0 S_ tp n r.1 ∧ TkS S_ r.2 := hq
      have k9 := hq.2.1
      have rt : R32 r.2.1 := by rw [← k9]; exact hq.1.1.1 _ _
      have w := fun b hb => z r S_ b hX hq.1 hq.2 hb
      show P G 5 0 0 mX11_readAddress 134 _ [] K S_ (LXQ K S0 tp n (F r))
      refine T_iload_n dX11_readAddress_134 rfl ?_
      refine I_iconst dX11_readAddress_135 ?_
      refine I_icmp_ne (tgt := 151) dX11_readAddress_136 (by decide) ⟨by omega, by omega⟩ ⟨by omega, by omega⟩ (fun h136 => ?_) (fun h136 => ?_)
      · have w := w 0 (by rw [if_neg (fun y => by have := y.1; have := y.2; omega)])
        refine I_iconst dX11_readAddress_151 ?_
        refine T_istore dX11_readAddress_152 (by decide) rfl ?_
        refine T_goto (tgt := 95) dX11_readAddress_154 (by decide) ?_
        exact w
      · refine T_aload_n dX11_readAddress_139 rfl rfl ?_
        refine P_geti dX11_readAddress_140 fX11_69 (by assumption) rfl ?_
        rw [k9]
        refine I_iconst dX11_readAddress_143 ?_
        refine I_icmp_ne (tgt := 151) dX11_readAddress_144 (by decide) rt ⟨by omega, by omega⟩ (fun h144 => ?_) (fun h144 => ?_)
        · have w := w 0 (by rw [if_neg (fun y => by have := y.1; have := y.2; omega)])
          refine I_iconst dX11_readAddress_151 ?_
          refine T_istore dX11_readAddress_152 (by decide) rfl ?_
          refine T_goto (tgt := 95) dX11_readAddress_154 (by decide) ?_
          exact w
        · have w := w 1 (by rw [if_pos ⟨by omega, by omega⟩])
          refine I_iconst dX11_readAddress_147 ?_
          refine T_goto (tgt := 152) dX11_readAddress_148 (by decide) ?_
          refine T_istore dX11_readAddress_152 (by decide) rfl ?_
          refine T_goto (tgt := 95) dX11_readAddress_154 (by decide) ?_
          exact w
  refine T_aload_n dX11_readAddress_95 rfl rfl ?_
  refine P_geti dX11_readAddress_96 fX11_60 (by assumption) rfl ?_
  rw [g6]
  refine I_if_ne (tgt := 157) dX11_readAddress_99 (by decide) ⟨by omega, by omega⟩ (fun h99 => ?_) (fun h99 => ?_)
  · omega
  · refine T_iload dX11_readAddress_102 rfl ?_
    refine I_if_eq (tgt := 157) dX11_readAddress_104 (by decide) ⟨by omega, by omega⟩ (fun h104 => ?_) (fun h104 => ?_)
    · cases h104
    · refine T_aload_n dX11_readAddress_107 rfl rfl ?_
      refine T_aload_n dX11_readAddress_108 rfl rfl ?_
      refine P_getr dX11_readAddress_109 fX11_13 (by assumption) rfl ?_
      refine T_iload_n dX11_readAddress_112 rfl ?_
      refine I_iconst dX11_readAddress_113 ?_
      refine I_iadd dX11_readAddress_114 ?_
      refine P_iald dX11_readAddress_115 (by assumption) ⟨by omega, by omega⟩ (by first | decide | omega) ?_
      rw [ec]
      refine I_iconst dX11_readAddress_116 ?_
      refine I_icmp_ge (tgt := 124) dX11_readAddress_117 (by decide) ⟨by omega, by omega⟩ ⟨by omega, by omega⟩ (fun h117 => ?_) (fun h117 => ?_)
      · omega
      · refine I_iconst dX11_readAddress_120 ?_
        refine T_goto (tgt := 125) dX11_readAddress_121 (by decide) ?_
        refine I_iconst dX11_readAddress_125 ?_
        refine Q_callV dX11_readAddress_126 kX11_requires lX11_94 (by assumption) rfl (p_req1 hM) rfl rfl (Nat.le_of_ble_eq_true rfl) (Nat.le_of_ble_eq_true rfl) (by decide) (by decide) ?_
        refine T_aload_n dX11_readAddress_129 rfl rfl ?_
        refine T_iload_n dX11_readAddress_130 rfl ?_
        refine R_callV dX11_readAddress_131 kX11_readTarget lX11_125 (by assumption) rfl c rfl rfl (Nat.le_of_ble_eq_true rfl) (Nat.le_of_ble_eq_true rfl) (by decide) (by decide) (fun r_ K_ S_ q_ => ?_)
        have hq := q_
        obtain ⟨rfl, hKe, -⟩ := q_
        have hKe := hKe.symm
        subst hKe
        exact h134 _ hq
theorem l_adL {a : Int} (hM : MoAt K) (ha : 0 ≤ a ∧ a < 32) (m : Nat) : ∀ (pl : PL) (t : TK) (S : SV) (b : Int), pLc pl a + m = 4 → GS S0 S tp n pl → TkS S t → TkB n t → pKd pl a ≠ 0 → b = (if t.1 = 2 then 1 else 0) → P G 5 0 0 mX11_readAddress 95 [some (.ref 453), some (IV 3), some (IV a), some (IV (54 + 6 * a)), some (IV b)] [] K S (LXQ K S0 tp n (lstM tp n a m pl t)) := by
  have m0 := hM.1
  have m2 := hM.2.2.1
  induction m with
  | zero =>
    intro pl t S b hm hG hk hb hka hbb
    unfold lstM
    by_cases h2 : t.1 = 2
    · rw [if_pos h2] at hbb ⊢
      subst hbb
      obtain ⟨g1, g2, g3, g4, g5, g6, g7⟩ := id hG
      have ec := (g3.2.2.2 a ha.1 ha.2).2.1
      have hF := errS_q (c := 2) g1 (by decide)
      have e11 : 0 < fI (errS S 2) 453 11 := by rw [errS_11]; omega
      have hq : BS S0 (errS S 2) (2, t.2.1) := hG.bs hF errS_11 (by rw [errS_12]; exact hk.2.1) (by show (0 : Int) < 2; omega)
      have w0 := l_ad95 (G := G) (tp := tp) (n := n) (what := 3) (a := a) (c := 54 + 6 * a) (b := 0) hM hq (by decide)
      have w1 := l_ad95 (G := G) (tp := tp) (n := n) (what := 3) (a := a) (c := 54 + 6 * a) (b := 1) hM hq (by decide)
      refine T_aload_n dX11_readAddress_95 rfl rfl ?_
      refine P_geti dX11_readAddress_96 fX11_60 (by assumption) rfl ?_
      rw [g6]
      refine I_if_ne (tgt := 157) dX11_readAddress_99 (by decide) ⟨by omega, by omega⟩ (fun h99 => ?_) (fun h99 => ?_)
      · omega
      · refine T_iload dX11_readAddress_102 rfl ?_
        refine I_if_eq (tgt := 157) dX11_readAddress_104 (by decide) ⟨by omega, by omega⟩ (fun h104 => ?_) (fun h104 => ?_)
        · cases h104
        · refine T_aload_n dX11_readAddress_107 rfl rfl ?_
          refine T_aload_n dX11_readAddress_108 rfl rfl ?_
          refine P_getr dX11_readAddress_109 fX11_13 (by assumption) rfl ?_
          refine T_iload_n dX11_readAddress_112 rfl ?_
          refine I_iconst dX11_readAddress_113 ?_
          refine I_iadd dX11_readAddress_114 ?_
          refine P_iald dX11_readAddress_115 (by assumption) ⟨by omega, by omega⟩ (by first | decide | omega) ?_
          rw [ec]
          refine I_iconst dX11_readAddress_116 ?_
          refine I_icmp_ge (tgt := 124) dX11_readAddress_117 (by decide) ⟨by omega, by omega⟩ ⟨by omega, by omega⟩ (fun h117 => ?_) (fun h117 => ?_)
          · refine I_iconst dX11_readAddress_124 ?_
            refine I_iconst dX11_readAddress_125 ?_
            refine Q_callV dX11_readAddress_126 kX11_requires lX11_94 (by assumption) rfl (p_req0 hM g6) rfl rfl (Nat.le_of_ble_eq_true rfl) (Nat.le_of_ble_eq_true rfl) (by decide) (by decide) ?_
            refine T_aload_n dX11_readAddress_129 rfl rfl ?_
            refine T_iload_n dX11_readAddress_130 rfl ?_
            refine Q_callV dX11_readAddress_131 kX11_readTarget lX11_125 (by assumption) rfl (f_tgt0 hM hF.1 e11 ⟨by omega, by omega⟩) rfl rfl (Nat.le_of_ble_eq_true rfl) (Nat.le_of_ble_eq_true rfl) (by decide) (by decide) ?_
            refine T_iload_n dX11_readAddress_134 rfl ?_
            refine I_iconst dX11_readAddress_135 ?_
            refine I_icmp_ne (tgt := 151) dX11_readAddress_136 (by decide) ⟨by omega, by omega⟩ ⟨by omega, by omega⟩ (fun h136 => ?_) (fun h136 => ?_)
            · exact absurd rfl h136
            · refine T_aload_n dX11_readAddress_139 rfl rfl ?_
              refine P_geti dX11_readAddress_140 fX11_69 (by assumption) rfl ?_
              refine I_iconst dX11_readAddress_143 ?_
              refine I_icmp_ne (tgt := 151) dX11_readAddress_144 (by decide) (hF.1.1 _ _) ⟨by omega, by omega⟩ (fun h144 => ?_) (fun h144 => ?_)
              · refine I_iconst dX11_readAddress_151 ?_
                refine T_istore dX11_readAddress_152 (by decide) rfl ?_
                refine T_goto (tgt := 95) dX11_readAddress_154 (by decide) ?_
                first | exact w0 | exact w1
              · refine I_iconst dX11_readAddress_147 ?_
                refine T_goto (tgt := 152) dX11_readAddress_148 (by decide) ?_
                refine T_istore dX11_readAddress_152 (by decide) rfl ?_
                refine T_goto (tgt := 95) dX11_readAddress_154 (by decide) ?_
                first | exact w0 | exact w1
          · omega
    · rw [if_neg h2] at hbb ⊢
      subst hbb
      exact l_ad95o hM hG hk
  | succ m ih =>
    intro pl t S b hm hG hk hb hka hbb
    unfold lstM
    by_cases h2 : t.1 = 2
    · rw [if_pos h2] at hbb ⊢
      subst hbb
      have w := l_ad1 (G := G) (S0 := S0) (what := 3) (F := fun r => lstM tp n a m r.1 r.2) hM (Or.inr rfl) ha hG hk hb hka (by omega) (fun r S' b' hX hG' hk' hb' => by
        unfold tgt2 at hX
        obtain ⟨q, hq1, hq2⟩ := bind_ok hX
        obtain ⟨t3, ht1, ht2⟩ := bind_ok hq2
        injection ht2 with ht2
        subst ht2
        obtain ⟨-, -, qb, -, ql, qk⟩ := tgtM_b hG.2.2.2.1 hb ha hka (by omega) hq1
        have qb1 := qb.1
        refine ih q.1 t3 S' b' (by omega) hG' hk' (tkM_b ⟨by omega, by omega⟩ ht1).1 (by rw [qk]; exact hka) ?_
        rw [hb']
        by_cases h22 : t3.1 = 2
        · rw [if_pos ⟨rfl, h22⟩, if_pos h22]
        · rw [if_neg (fun y => h22 y.2), if_neg h22])
      have e : ((tgt2 tp n pl a t).bind fun r => lstM tp n a m r.1 r.2) = (tgtM tp n pl a t).bind fun q => (tkM tp n q.2.2.2.1).bind fun t3 => lstM tp n a m q.1 t3 := by
        unfold tgt2
        cases tgtM tp n pl a t with
        | error e => rfl
        | ok q =>
          show (((tkM tp n q.2.2.2.1).bind fun t3 => (Except.ok (q.1, t3) : Except ER (PL × TK))).bind _) = (tkM tp n q.2.2.2.1).bind _
          cases tkM tp n q.2.2.2.1 <;> rfl
      rw [e] at w
      exact w
    · rw [if_neg h2] at hbb ⊢
      subst hbb
      exact l_ad95o hM hG hk
end RPE
