/-! the reference reads a text: domains -/
def LXQ (K : List SH) (S0 : SV) (tp : Int → Int) (n : Int) (X : Except ER (PL × TK)) : Option Value → List SH → SV → Prop := fun rv K' S' => rv = none ∧ K' = K ∧ match X with
  | .error e => BS S0 S' e
  | .ok q => GS S0 S' tp n q.1 ∧ TkS S' q.2
section RPD
variable {G : GT} {K : List SH} {tp : Int → Int} {n : Int} {S0 : SV}
theorem f_rcv {S : SV} {c z k : Int} (hM : MoAt K) (hr : AllR S) (h : 0 < fI S 453 11) (hc : 0 ≤ c ∧ c < 240) (hk : R32 k) : P G 3 0 0 mX11_readReceiver 28 [some (.ref 453), some (IV c), some (IV z), some (IV k)] [] K S (Ret K none S) := by
  have m0 := hM.1
  have m2 := hM.2.2.1
  refine T_iload_n dX11_readReceiver_28 rfl ?_
  refine T_aload_n dX11_readReceiver_29 rfl rfl ?_
  refine P_getr dX11_readReceiver_30 fX11_13 (by assumption) rfl ?_
  refine T_iload_n dX11_readReceiver_33 rfl ?_
  refine P_iald dX11_readReceiver_34 (by assumption) ⟨by omega, by omega⟩ (by first | decide | omega) ?_
  refine I_icmp_ge (tgt := 77) dX11_readReceiver_35 (by decide) hk (hr.2 _ _) (fun h35 => ?_) (fun h35 => ?_)
  · refine T_aload_n dX11_readReceiver_77 rfl rfl ?_
    refine Q_callV dX11_readReceiver_78 kX11_reads lX11_101 (by assumption) rfl (f_reads hM hr h) rfl rfl (Nat.le_of_ble_eq_true rfl) (Nat.le_of_ble_eq_true rfl) (by decide) (by decide) ?_
    refine T_aload_n dX11_readReceiver_81 rfl rfl ?_
    refine I_bipush dX11_readReceiver_82 (by decide) ?_
    refine Q_callV dX11_readReceiver_84 kX11_readNumber lX11_108 (by assumption) rfl (f_rnum hM hr h) rfl rfl (Nat.le_of_ble_eq_true rfl) (Nat.le_of_ble_eq_true rfl) (by decide) (by decide) ?_
    refine T_istore_n dX11_readReceiver_87 (by decide) rfl ?_
    refine T_aload_n dX11_readReceiver_88 rfl rfl ?_
    refine P_geti dX11_readReceiver_89 fX11_60 (by assumption) rfl ?_
    refine I_if_ne (tgt := 161) dX11_readReceiver_92 (by decide) (hr.1 _ _) (fun h92 => ?_) (fun h92 => ?_)
    · exact T_return dX11_readReceiver_161 rfl ⟨_, _, rfl, rfl, rfl, rfl⟩
    · omega
  · refine T_aload_n dX11_readReceiver_38 rfl rfl ?_
    refine P_geti dX11_readReceiver_39 fX11_60 (by assumption) rfl ?_
    refine I_if_ne (tgt := 77) dX11_readReceiver_42 (by decide) (hr.1 _ _) (fun h42 => ?_) (fun h42 => ?_)
    · refine T_aload_n dX11_readReceiver_77 rfl rfl ?_
      refine Q_callV dX11_readReceiver_78 kX11_reads lX11_101 (by assumption) rfl (f_reads hM hr h) rfl rfl (Nat.le_of_ble_eq_true rfl) (Nat.le_of_ble_eq_true rfl) (by decide) (by decide) ?_
      refine T_aload_n dX11_readReceiver_81 rfl rfl ?_
      refine I_bipush dX11_readReceiver_82 (by decide) ?_
      refine Q_callV dX11_readReceiver_84 kX11_readNumber lX11_108 (by assumption) rfl (f_rnum hM hr h) rfl rfl (Nat.le_of_ble_eq_true rfl) (Nat.le_of_ble_eq_true rfl) (by decide) (by decide) ?_
      refine T_istore_n dX11_readReceiver_87 (by decide) rfl ?_
      refine T_aload_n dX11_readReceiver_88 rfl rfl ?_
      refine P_geti dX11_readReceiver_89 fX11_60 (by assumption) rfl ?_
      refine I_if_ne (tgt := 161) dX11_readReceiver_92 (by decide) (hr.1 _ _) (fun h92 => ?_) (fun h92 => ?_)
      · exact T_return dX11_readReceiver_161 rfl ⟨_, _, rfl, rfl, rfl, rfl⟩
      · omega
    · omega
/-- a receiver more, and what comes behind it -/
noncomputable def rcv2 (tp : Int → Int) (n : Int) (pl : PL) (d : Int) (t : TK) : Except ER (PL × TK) := if pRc pl d = 3 then .error (2, t.2.1) else (rcvM tp n pl d t).bind fun q => (tkM tp n q.2.2.2.1).bind fun t3 => .ok (q.1, t3)
theorem l_rcv2 {S : SV} {pl : PL} {t t2 : TK} {d h w : Int} (hM : MoAt K) (hG : GS S0 S tp n pl) (hd : 0 ≤ d ∧ d < pDm pl) (hn : pRc pl d < 3) (hh : 0 ≤ h ∧ h ≤ 4) (hw : 0 ≤ w ∧ w ≤ 9) (hne : ∀ i, 0 ≤ i → i < pRc pl d → pRh pl d i ≠ h) (hk : TkS S t2) : P G 3 0 0 mX11_readReceiver 95 [some (.ref 453), some (IV (26 + 7 * d)), some (IV h), some (IV w)] [] K S (LXQ K S0 tp n (.ok (addRcM pl d h w, t2))) := by
  have m0 := hM.1
  have m2 := hM.2.2.1
  obtain ⟨g1, g2, g3, g4, g5, g6, g7⟩ := hG
  have hd4 := g4.1.2
  have hc0 := g4.2.1.1 d hd.1 (by omega)
  have ec := (g3.2.2.1 d hd.1 (by omega)).1
  have r13 := g1.1 453 13
  have hP := g3.addRc (h := h) (w := w) g4 ⟨hd.1, by omega⟩ hn
  have hDn := g4.addRc hd hn hh hw hne
  have e1 : aI (sA S 455 (26 + 7 * d + 1 + 2 * pRc pl d) h) 455 (26 + 7 * d) = pRc pl d := by rw [aD, fset_f _ _ (by omega)]; exact ec
  have e2 : aI (sA (sA S 455 (26 + 7 * d + 1 + 2 * pRc pl d) h) 455 (26 + 7 * d + 2 + 2 * pRc pl d) w) 455 (26 + 7 * d) = pRc pl d := by rw [aD, fset_f _ _ (by omega), aD, fset_f _ _ (by omega)]; exact ec
  have eF : aI (sA (sA (sA S 455 (26 + 7 * d + 1 + 2 * pRc pl d) h) 455 (26 + 7 * d + 2 + 2 * pRc pl d) w) 455 (26 + 7 * d) (pRc pl d + 1)) 455 = rcF (aI S 455) d (pRc pl d) h w := by rw [aD, aD, aD]; rfl
  have hA3 : AllR (sA (sA (sA S 455 (26 + 7 * d + 1 + 2 * pRc pl d) h) 455 (26 + 7 * d + 2 + 2 * pRc pl d) w) 455 (26 + 7 * d) (pRc pl d + 1)) := ((g1.sA ⟨by omega, by omega⟩).sA ⟨by omega, by omega⟩).sA ⟨by omega, by omega⟩
  have hPq : Pq S (sA (sA (sA S 455 (26 + 7 * d + 1 + 2 * pRc pl d) h) 455 (26 + 7 * d + 2 + 2 * pRc pl d) w) 455 (26 + 7 * d) (pRc pl d + 1)) := (Pq.sA.tr Pq.sA).tr Pq.sA
  have hT3 : tpOk (sA (sA (sA S 455 (26 + 7 * d + 1 + 2 * pRc pl d) h) 455 (26 + 7 * d + 2 + 2 * pRc pl d) w) 455 (26 + 7 * d) (pRc pl d + 1)) tp n := g2.sA.sA.sA
  have hf3 : ∀ k, fI (sA (sA (sA S 455 (26 + 7 * d + 1 + 2 * pRc pl d) h) 455 (26 + 7 * d + 2 + 2 * pRc pl d) w) 455 (26 + 7 * d) (pRc pl d + 1)) 453 k = fI S 453 k := fun k => rfl
  have fin : ∀ u : Int, R32 u → u = (if fI S 453 13 < h then h else fI S 453 13) → LXQ K S0 tp n (.ok (addRcM pl d h w, t2)) none K (sF (sA (sA (sA S 455 (26 + 7 * d + 1 + 2 * pRc pl d) h) 455 (26 + 7 * d + 2 + 2 * pRc pl d) w) 455 (26 + 7 * d) (pRc pl d + 1)) 453 13 u) := by
    intro u hu hue
    generalize sA (sA (sA S 455 (26 + 7 * d + 1 + 2 * pRc pl d) h) 455 (26 + 7 * d + 2 + 2 * pRc pl d) w) 455 (26 + 7 * d) (pRc pl d + 1) = S3 at eF hA3 hPq hT3 hf3
    refine ⟨rfl, rfl, ⟨hA3.sF hu, hT3.sF (by omega), ?_, hDn, g5.addRc ⟨hd.1, by omega⟩ hc0.1 hh.1 ?_ ?_, ?_, (g7.tr hPq).tr Pq.sF⟩, ?_⟩
    · show PlC (aI S3 455) _
      rw [eF]; exact hP
    · rw [fFt]; exact hue
    · rw [fFs (by omega)]; exact hf3 14
    · rw [fFs (by omega), hf3]; exact g6
    · exact ⟨by rw [fFs (by omega), hf3]; exact hk.1, by rw [fFs (by omega), hf3]; exact hk.2.1, by rw [fFs (by omega), hf3]; exact hk.2.2.1, fun z => by rw [fFs (by omega), hf3]; exact hk.2.2.2 z⟩
  have f1 : fI S 453 13 < h → _ := fun z => fin h ⟨by omega, by omega⟩ (by rw [if_pos z])
  have f2 : ¬ fI S 453 13 < h → _ := fun z => fin (fI S 453 13) r13 (by rw [if_neg z])
  refine T_aload_n dX11_readReceiver_95 rfl rfl ?_
  refine P_getr dX11_readReceiver_96 fX11_13 (by assumption) rfl ?_
  refine T_iload_n dX11_readReceiver_99 rfl ?_
  refine I_iconst dX11_readReceiver_100 ?_
  refine I_iadd dX11_readReceiver_101 ?_
  refine I_iconst dX11_readReceiver_102 ?_
  refine T_aload_n dX11_readReceiver_103 rfl rfl ?_
  refine P_getr dX11_readReceiver_104 fX11_13 (by assumption) rfl ?_
  refine T_iload_n dX11_readReceiver_107 rfl ?_
  refine P_iald dX11_readReceiver_108 (by assumption) ⟨by omega, by omega⟩ (by first | decide | omega) ?_
  rw [ec]
  refine I_imul dX11_readReceiver_109 ?_
  refine I_iadd dX11_readReceiver_110 ?_
  refine T_iload_n dX11_readReceiver_111 rfl ?_
  refine P_iast dX11_readReceiver_112 (by assumption) ⟨by omega, by omega⟩ (by first | decide | omega) ?_
  refine T_aload_n dX11_readReceiver_113 rfl rfl ?_
  refine P_getr dX11_readReceiver_114 fX11_13 (by assumption) rfl ?_
  refine T_iload_n dX11_readReceiver_117 rfl ?_
  refine I_iconst dX11_readReceiver_118 ?_
  refine I_iadd dX11_readReceiver_119 ?_
  refine I_iconst dX11_readReceiver_120 ?_
  refine T_aload_n dX11_readReceiver_121 rfl rfl ?_
  refine P_getr dX11_readReceiver_122 fX11_13 (by assumption) rfl ?_
  refine T_iload_n dX11_readReceiver_125 rfl ?_
  refine P_iald dX11_readReceiver_126 (by assumption) ⟨by omega, by omega⟩ (by first | decide | omega) ?_
  rw [e1]
  refine I_imul dX11_readReceiver_127 ?_
  refine I_iadd dX11_readReceiver_128 ?_
  refine T_iload_n dX11_readReceiver_129 rfl ?_
  refine P_iast dX11_readReceiver_130 (by assumption) ⟨by omega, by omega⟩ (by first | decide | omega) ?_
  refine T_aload_n dX11_readReceiver_131 rfl rfl ?_
  refine P_getr dX11_readReceiver_132 fX11_13 (by assumption) rfl ?_
  refine T_iload_n dX11_readReceiver_135 rfl ?_
  refine T_dup2 dX11_readReceiver_136 rfl rfl ?_
  refine P_iald dX11_readReceiver_137 (by assumption) ⟨by omega, by omega⟩ (by first | decide | omega) ?_
  rw [e2]
  refine I_iconst dX11_readReceiver_138 ?_
  refine I_iadd dX11_readReceiver_139 ?_
  refine P_iast dX11_readReceiver_140 (by assumption) ⟨by omega, by omega⟩ (by first | decide | omega) ?_
  refine T_aload_n dX11_readReceiver_141 rfl rfl ?_
  refine T_iload_n dX11_readReceiver_142 rfl ?_
  refine T_aload_n dX11_readReceiver_143 rfl rfl ?_
  refine P_geti dX11_readReceiver_144 fX11_111 (by assumption) rfl ?_
  refine I_icmp_le (tgt := 154) dX11_readReceiver_147 (by decide) ⟨by omega, by omega⟩ r13 (fun h147_ => ?_) (fun h147_ => ?_)
  · refine T_aload_n dX11_readReceiver_154 rfl rfl ?_
    refine P_geti dX11_readReceiver_155 fX11_111 (by assumption) rfl ?_
    refine P_puti dX11_readReceiver_158 fX11_111 (by assumption) rfl rfl ?_
    exact T_return dX11_readReceiver_161 rfl ⟨_, _, rfl, by first | exact f1 (by have h1 : ¬ h ≤ fI S 453 13 := h147_; omega) | exact f2 (by have h1 : h ≤ fI S 453 13 := h147_; omega)⟩
  · refine T_iload_n dX11_readReceiver_150 rfl ?_
    refine T_goto (tgt := 158) dX11_readReceiver_151 (by decide) ?_
    refine P_puti dX11_readReceiver_158 fX11_111 (by assumption) rfl rfl ?_
    exact T_return dX11_readReceiver_161 rfl ⟨_, _, rfl, by first | exact f1 (by have h1 : ¬ h ≤ fI S 453 13 := h147_; omega) | exact f2 (by have h1 : h ≤ fI S 453 13 := h147_; omega)⟩
noncomputable def rcvT (tp : Int → Int) (n : Int) (pl : PL) (d h : Int) (t : TK) : Except ER (PL × TK) := (tkM tp n t.2.2.1).bind fun t2 => (numM t2 9).bind fun w => (tkM tp n t2.2.2.1).bind fun t3 => .ok (addRcM pl d h w, t3)
theorem l_rcv77 {S : SV} {pl : PL} {t : TK} {d h k : Int} (hM : MoAt K) (hG : GS S0 S tp n pl) (hk : TkS S t) (hb : TkB n t) (hd : 0 ≤ d ∧ d < pDm pl) (hn : pRc pl d < 3) (hh : 0 ≤ h ∧ h ≤ 4) (hne : ∀ i, 0 ≤ i → i < pRc pl d → pRh pl d i ≠ h) : P G 3 0 0 mX11_readReceiver 77 [some (.ref 453), some (IV (26 + 7 * d)), some (IV h), some (IV k)] [] K S (LXQ K S0 tp n (rcvT tp n pl d h t)) := by
  have m0 := hM.1
  have hb1 := hb.1
  have c := p_reads (G := G) hM hG.1 hG.2.1 hG.2.2.2.2.2.1 hk.2.2.1 ⟨by omega, by omega⟩
  unfold rcvT
  cases hX : tkM tp n t.2.2.1 with
  | error e =>
    rw [hX] at c
    show P G 3 0 0 mX11_readReceiver 77 _ [] K S (LXQ K S0 tp n (.error e))
    refine T_aload_n dX11_readReceiver_77 rfl rfl ?_
    refine R_callV dX11_readReceiver_78 kX11_reads lX11_101 (by assumption) rfl c rfl rfl (Nat.le_of_ble_eq_true rfl) (Nat.le_of_ble_eq_true rfl) (by decide) (by decide) (fun r_ K_ S_ q_ => ?_)
    obtain ⟨rfl, hKe, hF, q11, q12, q0⟩ := q_
    have hKe := hKe.symm
    subst hKe
    refine T_aload_n dX11_readReceiver_81 rfl rfl ?_
    refine I_bipush dX11_readReceiver_82 (by decide) ?_
    refine Q_callV dX11_readReceiver_84 kX11_readNumber lX11_108 (by assumption) rfl (f_rnum hM hF.1 (by omega)) rfl rfl (Nat.le_of_ble_eq_true rfl) (Nat.le_of_ble_eq_true rfl) (by decide) (by decide) ?_
    refine T_istore_n dX11_readReceiver_87 (by decide) rfl ?_
    refine T_aload_n dX11_readReceiver_88 rfl rfl ?_
    refine P_geti dX11_readReceiver_89 fX11_60 (by assumption) rfl ?_
    refine I_if_ne (tgt := 161) dX11_readReceiver_92 (by decide) (hF.1.1 _ _) (fun h92 => ?_) (fun h92 => ?_)
    · exact T_return dX11_readReceiver_161 rfl ⟨_, _, rfl, rfl, rfl, hG.bs hF q11 q12 q0⟩
    · omega
  | ok t2 =>
    rw [hX] at c
    have hb2 := (tkM_b ⟨by omega, by omega⟩ hX).1
    have hb21 := hb2.1
    show P G 3 0 0 mX11_readReceiver 77 _ [] K S (LXQ K S0 tp n ((numM t2 9).bind fun w => (tkM tp n t2.2.2.1).bind fun t3 => .ok (addRcM pl d h w, t3)))
    refine T_aload_n dX11_readReceiver_77 rfl rfl ?_
    refine R_callV dX11_readReceiver_78 kX11_reads lX11_101 (by assumption) rfl c rfl rfl (Nat.le_of_ble_eq_true rfl) (Nat.le_of_ble_eq_true rfl) (by decide) (by decide) (fun r_ K_ S_ q_ => ?_)
    obtain ⟨rfl, hKe, hF, q11, hk2⟩ := q_
    have hKe := hKe.symm
    subst hKe
    have hG2 := hG.fq hF q11
    have c2 := p_rnum (G := G) (most := 9) hM hG2.1 hG2.2.1 q11 hk2 hb2 (by decide)
    cases hY : numM t2 9 with
    | error e =>
      rw [hY] at c2
      show P G 3 0 0 mX11_readReceiver 81 _ [] K S_ (LXQ K S0 tp n (.error e))
      refine T_aload_n dX11_readReceiver_81 rfl rfl ?_
      refine I_bipush dX11_readReceiver_82 (by decide) ?_
      refine R_callV dX11_readReceiver_84 kX11_readNumber lX11_108 (by assumption) rfl c2 rfl rfl (Nat.le_of_ble_eq_true rfl) (Nat.le_of_ble_eq_true rfl) (by decide) (by decide) (fun r_ K_ S_ q_ => ?_)
      obtain ⟨hKe, hF2, rfl, q11', q12, q0⟩ := q_
      have hKe := hKe.symm
      subst hKe
      refine T_istore_n dX11_readReceiver_87 (by decide) rfl ?_
      refine T_aload_n dX11_readReceiver_88 rfl rfl ?_
      refine P_geti dX11_readReceiver_89 fX11_60 (by assumption) rfl ?_
      refine I_if_ne (tgt := 161) dX11_readReceiver_92 (by decide) (hF2.1.1 _ _) (fun h92 => ?_) (fun h92 => ?_)
      · exact T_return dX11_readReceiver_161 rfl ⟨_, _, rfl, rfl, rfl, hG2.bs hF2 q11' q12 q0⟩
      · omega
    | ok w =>
      rw [hY] at c2
      obtain ⟨-, -, w0, w1⟩ := numM_b hY hb2
      show P G 3 0 0 mX11_readReceiver 81 _ [] K S_ (LXQ K S0 tp n ((tkM tp n t2.2.2.1).bind fun t3 => .ok (addRcM pl d h w, t3)))
      cases hZ : tkM tp n t2.2.2.1 with
      | error e =>
        rw [hZ] at c2
        show P G 3 0 0 mX11_readReceiver 81 _ [] K S_ (LXQ K S0 tp n (.error e))
        refine T_aload_n dX11_readReceiver_81 rfl rfl ?_
        refine I_bipush dX11_readReceiver_82 (by decide) ?_
        refine R_callV dX11_readReceiver_84 kX11_readNumber lX11_108 (by assumption) rfl c2 rfl rfl (Nat.le_of_ble_eq_true rfl) (Nat.le_of_ble_eq_true rfl) (by decide) (by decide) (fun r_ K_ S_ q_ => ?_)
        obtain ⟨hKe, hF2, rfl, q11', q12, q0⟩ := q_
        have hKe := hKe.symm
        subst hKe
        refine T_istore_n dX11_readReceiver_87 (by decide) rfl ?_
        refine T_aload_n dX11_readReceiver_88 rfl rfl ?_
        refine P_geti dX11_readReceiver_89 fX11_60 (by assumption) rfl ?_
        refine I_if_ne (tgt := 161) dX11_readReceiver_92 (by decide) (hF2.1.1 _ _) (fun h92 => ?_) (fun h92 => ?_)
        · exact T_return dX11_readReceiver_161 rfl ⟨_, _, rfl, rfl, rfl, hG2.bs hF2 q11' q12 q0⟩
        · omega
      | ok t3 =>
        rw [hZ] at c2
        show P G 3 0 0 mX11_readReceiver 81 _ [] K S_ (LXQ K S0 tp n (.ok (addRcM pl d h w, t3)))
        refine T_aload_n dX11_readReceiver_81 rfl rfl ?_
        refine I_bipush dX11_readReceiver_82 (by decide) ?_
        refine R_callV dX11_readReceiver_84 kX11_readNumber lX11_108 (by assumption) rfl c2 rfl rfl (Nat.le_of_ble_eq_true rfl) (Nat.le_of_ble_eq_true rfl) (by decide) (by decide) (fun r_ K_ S_ q_ => ?_)
        obtain ⟨hKe, hF2, rfl, q11', hk3⟩ := q_
        have hKe := hKe.symm
        subst hKe
        have z := l_rcv2 (G := G) hM (hG2.fq hF2 q11') hd hn hh ⟨w0, w1⟩ hne hk3 (t := t)
        refine T_istore_n dX11_readReceiver_87 (by decide) rfl ?_
        refine T_aload_n dX11_readReceiver_88 rfl rfl ?_
        refine P_geti dX11_readReceiver_89 fX11_60 (by assumption) rfl ?_
        rw [q11']
        refine I_if_ne (tgt := 161) dX11_readReceiver_92 (by decide) ⟨by omega, by omega⟩ (fun h92 => ?_) (fun h92 => ?_)
        · omega
        · exact z
theorem l_rcvL {S : SV} {pl : PL} {t : TK} {d h : Int} (hM : MoAt K) (hG : GS S0 S tp n pl) (hk : TkS S t) (hb : TkB n t) (hd : 0 ≤ d ∧ d < pDm pl) (hn : pRc pl d < 3) (hh : 0 ≤ h ∧ h ≤ 4) (m : Nat) : ∀ k : Int, 0 ≤ k → pRc pl d - k = m → (∀ i, 0 ≤ i → i < k → pRh pl d i ≠ h) → P G 3 0 0 mX11_readReceiver 28 [some (.ref 453), some (IV (26 + 7 * d)), some (IV h), some (IV k)] [] K S (LXQ K S0 tp n (if prefM pl h d ≠ -4 then .error (4, t.2.1) else rcvT tp n pl d h t)) := by
  have m0 := hM.1
  have m2 := hM.2.2.1
  obtain ⟨g1, g2, g3, g4, g5, g6, g7⟩ := id hG
  have hd4 := g4.1.2
  have hc0 := g4.2.1.1 d hd.1 (by omega)
  obtain ⟨ec, er⟩ := g3.2.2.1 d hd.1 (by omega)
  induction m with
  | zero =>
    intro k h0 hm hne
    have hne' : ∀ i, 0 ≤ i → i < pRc pl d → pRh pl d i ≠ h := fun i u v => hne i u (by omega)
    have hv : prefM pl h d = -4 := by
      rcases prefM_cases pl h d with z | ⟨i, i0, i1, i2, -⟩
      · exact z.1
      · exact absurd i2 (hne' i i0 i1)
    rw [if_neg (fun z => z hv)]
    have z := l_rcv77 (G := G) (k := k) hM hG hk hb hd hn hh hne'
    refine T_iload_n dX11_readReceiver_28 rfl ?_
    refine T_aload_n dX11_readReceiver_29 rfl rfl ?_
    refine P_getr dX11_readReceiver_30 fX11_13 (by assumption) rfl ?_
    refine T_iload_n dX11_readReceiver_33 rfl ?_
    refine P_iald dX11_readReceiver_34 (by assumption) ⟨by omega, by omega⟩ (by first | decide | omega) ?_
    rw [ec]
    refine I_icmp_ge (tgt := 77) dX11_readReceiver_35 (by decide) ⟨by omega, by omega⟩ ⟨by omega, by omega⟩ (fun h35 => ?_) (fun h35 => ?_)
    · exact z
    · omega
  | succ m ih =>
    intro k h0 hm hne
    have ek := (er k h0 (by omega)).1
    have hrk := (g4.2.2.1 d k hd.1 (by omega) h0 (by omega)).1
    by_cases hq : pRh pl d k = h
    · have hv : prefM pl h d ≠ -4 := by
        rcases prefM_cases pl h d with z | ⟨i, i0, i1, i2, i3⟩
        · exact absurd hq (z.2 k h0 (by omega))
        · have := (g4.2.2.1 d i hd.1 (by omega) i0 i1).2.1
          omega
      rw [if_pos hv]
      have hF := errS_q (c := 4) g1 (by decide)
      have z := f_rcv (G := G) (c := 26 + 7 * d) (z := h) (k := k + 1) hM hF.1 (by rw [errS_11]; omega) ⟨by omega, by omega⟩ ⟨by omega, by omega⟩
      refine T_iload_n dX11_readReceiver_28 rfl ?_
      refine T_aload_n dX11_readReceiver_29 rfl rfl ?_
      refine P_getr dX11_readReceiver_30 fX11_13 (by assumption) rfl ?_
      refine T_iload_n dX11_readReceiver_33 rfl ?_
      refine P_iald dX11_readReceiver_34 (by assumption) ⟨by omega, by omega⟩ (by first | decide | omega) ?_
      rw [ec]
      refine I_icmp_ge (tgt := 77) dX11_readReceiver_35 (by decide) ⟨by omega, by omega⟩ ⟨by omega, by omega⟩ (fun h35 => ?_) (fun h35 => ?_)
      · omega
      · refine T_aload_n dX11_readReceiver_38 rfl rfl ?_
        refine P_geti dX11_readReceiver_39 fX11_60 (by assumption) rfl ?_
        rw [g6]
        refine I_if_ne (tgt := 77) dX11_readReceiver_42 (by decide) ⟨by omega, by omega⟩ (fun h42 => ?_) (fun h42 => ?_)
        · omega
        · refine T_aload_n dX11_readReceiver_45 rfl rfl ?_
          refine T_aload_n dX11_readReceiver_46 rfl rfl ?_
          refine P_getr dX11_readReceiver_47 fX11_13 (by assumption) rfl ?_
          refine T_iload_n dX11_readReceiver_50 rfl ?_
          refine I_iconst dX11_readReceiver_51 ?_
          refine I_iadd dX11_readReceiver_52 ?_
          refine I_iconst dX11_readReceiver_53 ?_
          refine T_iload_n dX11_readReceiver_54 rfl ?_
          refine I_imul dX11_readReceiver_55 ?_
          refine I_iadd dX11_readReceiver_56 ?_
          refine P_iald dX11_readReceiver_57 (by assumption) ⟨by omega, by omega⟩ (by first | decide | omega) ?_
          rw [ek]
          refine T_iload_n dX11_readReceiver_58 rfl ?_
          refine I_icmp_eq (tgt := 66) dX11_readReceiver_59 (by decide) ⟨by omega, by omega⟩ ⟨by omega, by omega⟩ (fun h59 => ?_) (fun h59 => ?_)
          · refine I_iconst dX11_readReceiver_66 ?_
            refine I_iconst dX11_readReceiver_67 ?_
            refine Q_callV dX11_readReceiver_68 kX11_requires lX11_94 (by assumption) rfl (p_req0 hM g6) rfl rfl (Nat.le_of_ble_eq_true rfl) (Nat.le_of_ble_eq_true rfl) (by decide) (by decide) ?_
            refine I_iinc dX11_readReceiver_71 rfl (by decide) rfl ?_
            refine T_goto (tgt := 28) dX11_readReceiver_74 (by decide) ?_
            exact P.weaken z (fun r' K' S' q => by
              obtain ⟨rfl, rfl, rfl⟩ := q
              exact ⟨rfl, rfl, hG.bs hF errS_11 (by rw [errS_12]; exact hk.2.1) (by show (0 : Int) < 4; omega)⟩)
          · omega
    · have z := ih (k + 1) (by omega) (by omega) (fun i u v => by
        by_cases e : i = k
        · rw [e]; exact hq
        · exact hne i u (by omega))
      refine T_iload_n dX11_readReceiver_28 rfl ?_
      refine T_aload_n dX11_readReceiver_29 rfl rfl ?_
      refine P_getr dX11_readReceiver_30 fX11_13 (by assumption) rfl ?_
      refine T_iload_n dX11_readReceiver_33 rfl ?_
      refine P_iald dX11_readReceiver_34 (by assumption) ⟨by omega, by omega⟩ (by first | decide | omega) ?_
      rw [ec]
      refine I_icmp_ge (tgt := 77) dX11_readReceiver_35 (by decide) ⟨by omega, by omega⟩ ⟨by omega, by omega⟩ (fun h35 => ?_) (fun h35 => ?_)
      · omega
      · refine T_aload_n dX11_readReceiver_38 rfl rfl ?_
        refine P_geti dX11_readReceiver_39 fX11_60 (by assumption) rfl ?_
        rw [g6]
        refine I_if_ne (tgt := 77) dX11_readReceiver_42 (by decide) ⟨by omega, by omega⟩ (fun h42 => ?_) (fun h42 => ?_)
        · omega
        · refine T_aload_n dX11_readReceiver_45 rfl rfl ?_
          refine T_aload_n dX11_readReceiver_46 rfl rfl ?_
          refine P_getr dX11_readReceiver_47 fX11_13 (by assumption) rfl ?_
          refine T_iload_n dX11_readReceiver_50 rfl ?_
          refine I_iconst dX11_readReceiver_51 ?_
          refine I_iadd dX11_readReceiver_52 ?_
          refine I_iconst dX11_readReceiver_53 ?_
          refine T_iload_n dX11_readReceiver_54 rfl ?_
          refine I_imul dX11_readReceiver_55 ?_
          refine I_iadd dX11_readReceiver_56 ?_
          refine P_iald dX11_readReceiver_57 (by assumption) ⟨by omega, by omega⟩ (by first | decide | omega) ?_
          rw [ek]
          refine T_iload_n dX11_readReceiver_58 rfl ?_
          refine I_icmp_eq (tgt := 66) dX11_readReceiver_59 (by decide) ⟨by omega, by omega⟩ ⟨by omega, by omega⟩ (fun h59 => ?_) (fun h59 => ?_)
          · omega
          · refine I_iconst dX11_readReceiver_62 ?_
            refine T_goto (tgt := 67) dX11_readReceiver_63 (by decide) ?_
            refine I_iconst dX11_readReceiver_67 ?_
            refine Q_callV dX11_readReceiver_68 kX11_requires lX11_94 (by assumption) rfl (p_req1 hM) rfl rfl (Nat.le_of_ble_eq_true rfl) (Nat.le_of_ble_eq_true rfl) (by decide) (by decide) ?_
            refine I_iinc dX11_readReceiver_71 rfl (by decide) rfl ?_
            refine T_goto (tgt := 28) dX11_readReceiver_74 (by decide) ?_
            exact z
theorem rcv2_eq {pl : PL} {t : TK} {d : Int} (hn : ¬ pRc pl d = 3) : rcv2 tp n pl d t = (numM t 4).bind fun h => if prefM pl h d ≠ -4 then .error (4, t.2.1) else rcvT tp n pl d h t := by
  unfold rcv2
  rw [if_neg hn]
  unfold rcvM rcvT
  cases numM t 4 with
  | error e => rfl
  | ok h =>
    show ((if prefM pl h d ≠ -4 then (Except.error (4, t.2.1) : Except ER (PL × TK)) else _).bind _) = if prefM pl h d ≠ -4 then _ else _
    by_cases hp : prefM pl h d ≠ -4
    · rw [if_pos hp, if_pos hp]; rfl
    · rw [if_neg hp, if_neg hp]
      cases tkM tp n t.2.2.1 with
      | error e => rfl
      | ok t2 =>
        show (((numM t2 9).bind _).bind _) = (numM t2 9).bind _
        cases numM t2 9 with
        | error e => rfl
        | ok w => rfl
theorem p_rcv {S : SV} {pl : PL} {t : TK} {d : Int} (hM : MoAt K) (hG : GS S0 S tp n pl) (hk : TkS S t) (hb : TkB n t) (hd : 0 ≤ d ∧ d < pDm pl) : P G 3 0 0 mX11_readReceiver 0 (LE mX11_readReceiver [.ref 453, IV (26 + 7 * d)]) [] K S (LXQ K S0 tp n (rcv2 tp n pl d t)) := by
  have m0 := hM.1
  have m2 := hM.2.2.1
  obtain ⟨g1, g2, g3, g4, g5, g6, g7⟩ := id hG
  have hd4 := g4.1.2
  have hc0 := g4.2.1.1 d hd.1 (by omega)
  have ec := (g3.2.2.1 d hd.1 (by omega)).1
  by_cases h3 : pRc pl d = 3
  · have hv : rcv2 tp n pl d t = .error (2, t.2.1) := if_pos h3
    rw [hv]
    have hF := errS_q (c := 2) g1 (by decide)
    have e11 : 0 < fI (errS S 2) 453 11 := by rw [errS_11]; omega
    have z := f_rcv (G := G) (c := 26 + 7 * d) (z := 0) (k := 0) hM hF.1 e11 ⟨by omega, by omega⟩ ⟨by omega, by omega⟩
    rw [show LE mX11_readReceiver [.ref 453, IV (26 + 7 * d)] = [some (.ref 453), some (IV (26 + 7 * d)), none, none] from rfl]
    refine T_aload_n dX11_readReceiver_0 rfl rfl ?_
    refine T_aload_n dX11_readReceiver_1 rfl rfl ?_
    refine P_getr dX11_readReceiver_2 fX11_13 (by assumption) rfl ?_
    refine T_iload_n dX11_readReceiver_5 rfl ?_
    refine P_iald dX11_readReceiver_6 (by assumption) ⟨by omega, by omega⟩ (by first | decide | omega) ?_
    rw [ec]
    refine I_iconst dX11_readReceiver_7 ?_
    refine I_icmp_ge (tgt := 15) dX11_readReceiver_8 (by decide) ⟨by omega, by omega⟩ ⟨by omega, by omega⟩ (fun h8 => ?_) (fun h8 => ?_)
    · refine I_iconst dX11_readReceiver_15 ?_
      refine I_iconst dX11_readReceiver_16 ?_
      refine Q_callV dX11_readReceiver_17 kX11_requires lX11_94 (by assumption) rfl (p_req0 hM g6) rfl rfl (Nat.le_of_ble_eq_true rfl) (Nat.le_of_ble_eq_true rfl) (by decide) (by decide) ?_
      refine T_aload_n dX11_readReceiver_20 rfl rfl ?_
      refine I_iconst dX11_readReceiver_21 ?_
      refine Q_callV dX11_readReceiver_22 kX11_numberNow lX11_98 (by assumption) rfl (f_num hM hF.1 e11) rfl rfl (Nat.le_of_ble_eq_true rfl) (Nat.le_of_ble_eq_true rfl) (by decide) (by decide) ?_
      refine T_istore_n dX11_readReceiver_25 (by decide) rfl ?_
      refine I_iconst dX11_readReceiver_26 ?_
      refine T_istore_n dX11_readReceiver_27 (by decide) rfl ?_
      exact P.weaken z (fun r' K' S' q => by
        obtain ⟨rfl, rfl, rfl⟩ := q
        exact ⟨rfl, rfl, hG.bs hF errS_11 (by rw [errS_12]; exact hk.2.1) (by show (0 : Int) < 2; omega)⟩)
    · omega
  · rw [rcv2_eq h3]
    have c := p_num (G := G) (most := 4) hM g1 g6 hk hb (by decide)
    cases hX : numM t 4 with
    | error e =>
      rw [hX] at c
      obtain ⟨q1, q2⟩ := numM_er hX
      have hF := errS_q (c := e.1) g1 (by rcases q1 with z | z <;> rw [z] <;> decide)
      have e11 : 0 < fI (errS S e.1) 453 11 := by rw [errS_11]; omega
      have z := f_rcv (G := G) (c := 26 + 7 * d) (z := 0) (k := 0) hM hF.1 e11 ⟨by omega, by omega⟩ ⟨by omega, by omega⟩
      show P G 3 0 0 mX11_readReceiver 0 (LE mX11_readReceiver [.ref 453, IV (26 + 7 * d)]) [] K S (LXQ K S0 tp n (.error e))
      rw [show LE mX11_readReceiver [.ref 453, IV (26 + 7 * d)] = [some (.ref 453), some (IV (26 + 7 * d)), none, none] from rfl]
      refine T_aload_n dX11_readReceiver_0 rfl rfl ?_
      refine T_aload_n dX11_readReceiver_1 rfl rfl ?_
      refine P_getr dX11_readReceiver_2 fX11_13 (by assumption) rfl ?_
      refine T_iload_n dX11_readReceiver_5 rfl ?_
      refine P_iald dX11_readReceiver_6 (by assumption) ⟨by omega, by omega⟩ (by first | decide | omega) ?_
      rw [ec]
      refine I_iconst dX11_readReceiver_7 ?_
      refine I_icmp_ge (tgt := 15) dX11_readReceiver_8 (by decide) ⟨by omega, by omega⟩ ⟨by omega, by omega⟩ (fun h8 => ?_) (fun h8 => ?_)
      · omega
      · refine I_iconst dX11_readReceiver_11 ?_
        refine T_goto (tgt := 16) dX11_readReceiver_12 (by decide) ?_
        refine I_iconst dX11_readReceiver_16 ?_
        refine Q_callV dX11_readReceiver_17 kX11_requires lX11_94 (by assumption) rfl (p_req1 hM) rfl rfl (Nat.le_of_ble_eq_true rfl) (Nat.le_of_ble_eq_true rfl) (by decide) (by decide) ?_
        refine T_aload_n dX11_readReceiver_20 rfl rfl ?_
        refine I_iconst dX11_readReceiver_21 ?_
        refine Q_callV dX11_readReceiver_22 kX11_numberNow lX11_98 (by assumption) rfl c rfl rfl (Nat.le_of_ble_eq_true rfl) (Nat.le_of_ble_eq_true rfl) (by decide) (by decide) ?_
        refine T_istore_n dX11_readReceiver_25 (by decide) rfl ?_
        refine I_iconst dX11_readReceiver_26 ?_
        refine T_istore_n dX11_readReceiver_27 (by decide) rfl ?_
        exact P.weaken z (fun r' K' S' q => by
          obtain ⟨rfl, rfl, rfl⟩ := q
          exact ⟨rfl, rfl, hG.bs hF errS_11 (by rw [errS_12, q2]; exact hk.2.1) (by omega)⟩)
    | ok h =>
      rw [hX] at c
      obtain ⟨-, -, w0, w1⟩ := numM_b hX hb
      have z := l_rcvL (G := G) hM hG hk hb hd (by omega) ⟨w0, w1⟩ (pRc pl d).toNat 0 (by omega) (by omega) (fun i u v => by omega)
      show P G 3 0 0 mX11_readReceiver 0 (LE mX11_readReceiver [.ref 453, IV (26 + 7 * d)]) [] K S (LXQ K S0 tp n (if prefM pl h d ≠ -4 then .error (4, t.2.1) else rcvT tp n pl d h t))
      rw [show LE mX11_readReceiver [.ref 453, IV (26 + 7 * d)] = [some (.ref 453), some (IV (26 + 7 * d)), none, none] from rfl]
      refine T_aload_n dX11_readReceiver_0 rfl rfl ?_
      refine T_aload_n dX11_readReceiver_1 rfl rfl ?_
      refine P_getr dX11_readReceiver_2 fX11_13 (by assumption) rfl ?_
      refine T_iload_n dX11_readReceiver_5 rfl ?_
      refine P_iald dX11_readReceiver_6 (by assumption) ⟨by omega, by omega⟩ (by first | decide | omega) ?_
      rw [ec]
      refine I_iconst dX11_readReceiver_7 ?_
      refine I_icmp_ge (tgt := 15) dX11_readReceiver_8 (by decide) ⟨by omega, by omega⟩ ⟨by omega, by omega⟩ (fun h8 => ?_) (fun h8 => ?_)
      · omega
      · refine I_iconst dX11_readReceiver_11 ?_
        refine T_goto (tgt := 16) dX11_readReceiver_12 (by decide) ?_
        refine I_iconst dX11_readReceiver_16 ?_
        refine Q_callV dX11_readReceiver_17 kX11_requires lX11_94 (by assumption) rfl (p_req1 hM) rfl rfl (Nat.le_of_ble_eq_true rfl) (Nat.le_of_ble_eq_true rfl) (by decide) (by decide) ?_
        refine T_aload_n dX11_readReceiver_20 rfl rfl ?_
        refine I_iconst dX11_readReceiver_21 ?_
        refine Q_callV dX11_readReceiver_22 kX11_numberNow lX11_98 (by assumption) rfl c rfl rfl (Nat.le_of_ble_eq_true rfl) (Nat.le_of_ble_eq_true rfl) (by decide) (by decide) ?_
        refine T_istore_n dX11_readReceiver_25 (by decide) rfl ?_
        refine I_iconst dX11_readReceiver_26 ?_
        refine T_istore_n dX11_readReceiver_27 (by decide) rfl ?_
        exact z
theorem l_domR {d : Int} (hM : MoAt K) (m : Nat) : ∀ (pl : PL) (t : TK) (S : SV), 0 ≤ d ∧ d < pDm pl → pRc pl d + m = 3 → GS S0 S tp n pl → TkS S t → TkB n t → P G 4 0 0 mX11_readDomain 23 [some (.ref 453), some (IV (26 + 7 * d))] [] K S (LXQ K S0 tp n (rcvsM tp n d m pl t)) := by
  have m0 := hM.1
  induction m with
  | zero =>
    intro pl t S hd hm hG hk hb
    have g6 := hG.2.2.2.2.2.1
    have rt : R32 t.1 := by rw [← hk.1]; exact hG.1.1 _ _
    have c := p_rcv (G := G) hM hG hk hb hd
    unfold rcvsM
    by_cases h2 : t.1 = 2
    · rw [if_pos h2]
      have hv : rcv2 tp n pl d t = .error (2, t.2.1) := if_pos (by omega)
      rw [hv] at c
      refine T_aload_n dX11_readDomain_23 rfl rfl ?_
      refine P_geti dX11_readDomain_24 fX11_60 (by assumption) rfl ?_
      rw [g6]
      refine I_if_ne (tgt := 46) dX11_readDomain_27 (by decide) ⟨by omega, by omega⟩ (fun h27 => ?_) (fun h27 => ?_)
      · omega
      · refine T_aload_n dX11_readDomain_30 rfl rfl ?_
        refine P_geti dX11_readDomain_31 fX11_69 (by assumption) rfl ?_
        rw [hk.1]
        refine I_iconst dX11_readDomain_34 ?_
        refine I_icmp_ne (tgt := 46) dX11_readDomain_35 (by decide) rt ⟨by omega, by omega⟩ (fun h35 => ?_) (fun h35 => ?_)
        · omega
        · refine T_aload_n dX11_readDomain_38 rfl rfl ?_
          refine T_iload_n dX11_readDomain_39 rfl ?_
          refine R_callV dX11_readDomain_40 kX11_readReceiver lX11_114 (by assumption) rfl c rfl rfl (Nat.le_of_ble_eq_true rfl) (Nat.le_of_ble_eq_true rfl) (by decide) (by decide) (fun r_ K_ S_ q_ => ?_)
          obtain ⟨rfl, hKe, hq⟩ := q_
          have hKe := hKe.symm
          subst hKe
          refine T_goto (tgt := 23) dX11_readDomain_43 (by decide) ?_
          have hq2 : 0 < fI S_ 453 11 := by rw [hq.2.2.1]; exact hq.2.2.2.2
          refine T_aload_n dX11_readDomain_23 rfl rfl ?_
          refine P_geti dX11_readDomain_24 fX11_60 (by assumption) rfl ?_
          refine I_if_ne (tgt := 46) dX11_readDomain_27 (by decide) (hq.1.1 _ _) (fun h27 => ?_) (fun h27 => ?_)
          · exact T_return dX11_readDomain_46 rfl ⟨_, _, rfl, rfl, rfl, hq⟩
          · omega
    · rw [if_neg h2]
      refine T_aload_n dX11_readDomain_23 rfl rfl ?_
      refine P_geti dX11_readDomain_24 fX11_60 (by assumption) rfl ?_
      rw [g6]
      refine I_if_ne (tgt := 46) dX11_readDomain_27 (by decide) ⟨by omega, by omega⟩ (fun h27 => ?_) (fun h27 => ?_)
      · omega
      · refine T_aload_n dX11_readDomain_30 rfl rfl ?_
        refine P_geti dX11_readDomain_31 fX11_69 (by assumption) rfl ?_
        rw [hk.1]
        refine I_iconst dX11_readDomain_34 ?_
        refine I_icmp_ne (tgt := 46) dX11_readDomain_35 (by decide) rt ⟨by omega, by omega⟩ (fun h35 => ?_) (fun h35 => ?_)
        · exact T_return dX11_readDomain_46 rfl ⟨_, _, rfl, rfl, rfl, hG, hk⟩
        · omega
  | succ m ih =>
    intro pl t S hd hm hG hk hb
    have g6 := hG.2.2.2.2.2.1
    have rt : R32 t.1 := by rw [← hk.1]; exact hG.1.1 _ _
    have c := p_rcv (G := G) hM hG hk hb hd
    unfold rcvsM
    by_cases h2 : t.1 = 2
    · rw [if_pos h2]
      have hv : rcv2 tp n pl d t = (rcvM tp n pl d t).bind fun q => (tkM tp n q.2.2.2.1).bind fun t3 => .ok (q.1, t3) := if_neg (by omega)
      rw [hv] at c
      have hbad : ∀ (e : ER) (S_ : SV), BS S0 S_ e → P G 4 0 0 mX11_readDomain 23 [some (.ref 453), some (IV (26 + 7 * d))] [] K S_ (LXQ K S0 tp n (.error e)) := by
        intro e S_ hq
        have hq2 : 0 < fI S_ 453 11 := by rw [hq.2.2.1]; exact hq.2.2.2.2
        refine T_aload_n dX11_readDomain_23 rfl rfl ?_
        refine P_geti dX11_readDomain_24 fX11_60 (by assumption) rfl ?_
        refine I_if_ne (tgt := 46) dX11_readDomain_27 (by decide) (hq.1.1 _ _) (fun h27 => ?_) (fun h27 => ?_)
        · exact T_return dX11_readDomain_46 rfl ⟨_, _, rfl, rfl, rfl, hq⟩
        · omega
      have hgo : ∀ S_, LXQ K S0 tp n ((rcvM tp n pl d t).bind fun q => (tkM tp n q.2.2.2.1).bind fun t3 => .ok (q.1, t3)) none K S_ → P G 4 0 0 mX11_readDomain 23 [some (.ref 453), some (IV (26 + 7 * d))] [] K S_ (LXQ K S0 tp n ((rcvM tp n pl d t).bind fun q => (tkM tp n q.2.2.2.1).bind fun t3 => rcvsM tp n d m q.1 t3)) := by
        intro S_ hq
        obtain ⟨-, -, hq⟩ := hq
        cases hX : rcvM tp n pl d t with
        | error e => rw [hX] at hq; exact hbad e S_ hq
        | ok q =>
          rw [hX] at hq
          obtain ⟨-, -, b1, -, b2, b3, -, -⟩ := rcvM_b hG.2.2.2.1 hb hd (by omega) hX
          have b11 := b1.1
          show P G 4 0 0 mX11_readDomain 23 [some (.ref 453), some (IV (26 + 7 * d))] [] K S_ (LXQ K S0 tp n ((tkM tp n q.2.2.2.1).bind fun t3 => rcvsM tp n d m q.1 t3))
          cases hY : tkM tp n q.2.2.2.1 with
          | error e =>
            have hq : match ((tkM tp n q.2.2.2.1).bind fun t3 => (Except.ok (q.1, t3) : Except ER (PL × TK))) with | .error e => BS S0 S_ e | .ok q => GS S0 S_ tp n q.1 ∧ TkS S_ q.2 := hq
            rw [hY] at hq
            exact hbad e S_ hq
          | ok t3 =>
            have hq : match ((tkM tp n q.2.2.2.1).bind fun t3 => (Except.ok (q.1, t3) : Except ER (PL × TK))) with | .error e => BS S0 S_ e | .ok q => GS S0 S_ tp n q.1 ∧ TkS S_ q.2 := hq
            rw [hY] at hq
            exact ih q.1 t3 S_ (by omega) (by omega) hq.1 hq.2 (tkM_b ⟨by omega, by omega⟩ hY).1
      refine T_aload_n dX11_readDomain_23 rfl rfl ?_
      refine P_geti dX11_readDomain_24 fX11_60 (by assumption) rfl ?_
      rw [g6]
      refine I_if_ne (tgt := 46) dX11_readDomain_27 (by decide) ⟨by omega, by omega⟩ (fun h27 => ?_) (fun h27 => ?_)
      · omega
      · refine T_aload_n dX11_readDomain_30 rfl rfl ?_
        refine P_geti dX11_readDomain_31 fX11_69 (by assumption) rfl ?_
        rw [hk.1]
        refine I_iconst dX11_readDomain_34 ?_
        refine I_icmp_ne (tgt := 46) dX11_readDomain_35 (by decide) rt ⟨by omega, by omega⟩ (fun h35 => ?_) (fun h35 => ?_)
        · omega
        · refine T_aload_n dX11_readDomain_38 rfl rfl ?_
          refine T_iload_n dX11_readDomain_39 rfl ?_
          refine R_callV dX11_readDomain_40 kX11_readReceiver lX11_114 (by assumption) rfl c rfl rfl (Nat.le_of_ble_eq_true rfl) (Nat.le_of_ble_eq_true rfl) (by decide) (by decide) (fun r_ K_ S_ q_ => ?_)
          have hq := q_
          obtain ⟨rfl, hKe, -⟩ := q_
          have hKe := hKe.symm
          subst hKe
          refine T_goto (tgt := 23) dX11_readDomain_43 (by decide) ?_
          exact hgo _ hq
    · rw [if_neg h2]
      refine T_aload_n dX11_readDomain_23 rfl rfl ?_
      refine P_geti dX11_readDomain_24 fX11_60 (by assumption) rfl ?_
      rw [g6]
      refine I_if_ne (tgt := 46) dX11_readDomain_27 (by decide) ⟨by omega, by omega⟩ (fun h27 => ?_) (fun h27 => ?_)
      · omega
      · refine T_aload_n dX11_readDomain_30 rfl rfl ?_
        refine P_geti dX11_readDomain_31 fX11_69 (by assumption) rfl ?_
        rw [hk.1]
        refine I_iconst dX11_readDomain_34 ?_
        refine I_icmp_ne (tgt := 46) dX11_readDomain_35 (by decide) rt ⟨by omega, by omega⟩ (fun h35 => ?_) (fun h35 => ?_)
        · exact T_return dX11_readDomain_46 rfl ⟨_, _, rfl, rfl, rfl, hG, hk⟩
        · omega
theorem p_domR {S : SV} {pl : PL} {t : TK} (hM : MoAt K) (hG : GS S0 S tp n pl) (hk : TkS S t) (hb : TkB n t) (hd : pDm pl < 4) : P G 4 0 0 mX11_readDomain 0 (LE mX11_readDomain [.ref 453]) [] K S (LXQ K S0 tp n (rcvsM tp n (pDm pl) 3 (addDM pl) t)) := by
  have m0 := hM.1
  have m2 := hM.2.2.1
  obtain ⟨g1, g2, g3, g4, g5, g6, g7⟩ := id hG
  have hd4 := g4.1.2
  have e1 := g3.1.2
  have hz : pRc pl (pDm pl) = 0 := g4.2.2.2.2.1 (pDm pl) (by omega) hd (by omega)
  have hG2 : GS S0 (sA S 455 1 (pDm pl + 1)) tp n (addDM pl) := ⟨g1.sA ⟨by omega, by omega⟩, g2.sA, by rw [aD]; exact g3.addD g4, g4.addD hd, g5, g6, g7.tr Pq.sA⟩
  have z := l_domR (G := G) (S0 := S0) (tp := tp) (n := n) (d := pDm pl) hM 3 (addDM pl) t (sA S 455 1 (pDm pl + 1)) ⟨by omega, by show pDm pl < pDm pl + 1; omega⟩ (by show pRc pl (pDm pl) + ((3 : Nat) : Int) = 3; omega) hG2 hk hb
  rw [show LE mX11_readDomain [.ref 453] = [some (.ref 453), none] from rfl]
  refine I_bipush dX11_readDomain_0 (by decide) ?_
  refine I_bipush dX11_readDomain_2 (by decide) ?_
  refine T_aload_n dX11_readDomain_4 rfl rfl ?_
  refine P_getr dX11_readDomain_5 fX11_13 (by assumption) rfl ?_
  refine I_iconst dX11_readDomain_8 ?_
  refine P_iald dX11_readDomain_9 (by assumption) ⟨by omega, by omega⟩ (by first | decide | omega) ?_
  rw [e1]
  refine I_imul dX11_readDomain_10 ?_
  refine I_iadd dX11_readDomain_11 ?_
  refine T_istore_n dX11_readDomain_12 (by decide) rfl ?_
  refine T_aload_n dX11_readDomain_13 rfl rfl ?_
  refine P_getr dX11_readDomain_14 fX11_13 (by assumption) rfl ?_
  refine I_iconst dX11_readDomain_17 ?_
  refine T_dup2 dX11_readDomain_18 rfl rfl ?_
  refine P_iald dX11_readDomain_19 (by assumption) ⟨by omega, by omega⟩ (by first | decide | omega) ?_
  rw [e1]
  refine I_iconst dX11_readDomain_20 ?_
  refine I_iadd dX11_readDomain_21 ?_
  refine P_iast dX11_readDomain_22 (by assumption) ⟨by omega, by omega⟩ (by first | decide | omega) ?_
  exact z
end RPD
