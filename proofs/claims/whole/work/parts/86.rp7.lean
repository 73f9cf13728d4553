/-! the reference reads a text: an address is told; a house -/
section RPF
variable {G : GT} {K : List SH} {tp : Int → Int} {n : Int} {S0 : SV}
noncomputable def adrM (tp : Int → Int) (n : Int) (pl : PL) (what : Int) (t : TK) : Except ER (PL × TK) := (toldM tp n pl what t).bind fun q => (tkM tp n q.2.2.2.2.1).bind fun t4 => if what = 1 then .ok (q.1, t4) else (tgt2 tp n q.1 q.2.1 t4).bind fun r => if what = 2 then .ok r else lstM tp n q.2.1 3 r.1 r.2
noncomputable def adr4 (tp : Int → Int) (n : Int) (pl : PL) (what a : Int) (t4 : TK) : Except ER (PL × TK) := if what = 1 then .ok (pl, t4) else (tgt2 tp n pl a t4).bind fun r => if what = 2 then .ok r else lstM tp n a 3 r.1 r.2
theorem f_ad79 {S : SV} {what a c : Int} {e : ER} (hM : MoAt K) (hq : BS S0 S e) (hw : 1 ≤ what ∧ what ≤ 3) : P G 5 0 0 mX11_readAddress 79 [some (.ref 453), some (IV what), some (IV a), some (IV c), none] [] K S (LXQ K S0 tp n (.error e)) := by
  have m0 := hM.1
  have hq2 : 0 < fI S 453 11 := by rw [hq.2.2.1]; exact hq.2.2.2.2
  have w0 := l_ad95 (G := G) (tp := tp) (n := n) (what := what) (a := a) (c := c) (b := 0) hM hq ⟨by omega, by omega⟩
  have w1 := l_ad95 (G := G) (tp := tp) (n := n) (what := what) (a := a) (c := c) (b := 1) hM hq ⟨by omega, by omega⟩
  refine T_aload_n dX11_readAddress_79 rfl rfl ?_
  refine Q_callV dX11_readAddress_80 kX11_reads lX11_101 (by assumption) rfl (f_reads hM hq.1 hq2) rfl rfl (Nat.le_of_ble_eq_true rfl) (Nat.le_of_ble_eq_true rfl) (by decide) (by decide) ?_
  refine T_iload_n dX11_readAddress_83 rfl ?_
  refine I_iconst dX11_readAddress_84 ?_
  refine I_icmp_eq (tgt := 92) dX11_readAddress_85 (by decide) ⟨by omega, by omega⟩ ⟨by omega, by omega⟩ (fun h85 => ?_) (fun h85 => ?_)
  · refine I_iconst dX11_readAddress_92 ?_
    refine T_istore dX11_readAddress_93 (by decide) rfl ?_
    first | exact w0 | exact w1
  · refine I_iconst dX11_readAddress_88 ?_
    refine T_goto (tgt := 93) dX11_readAddress_89 (by decide) ?_
    refine T_istore dX11_readAddress_93 (by decide) rfl ?_
    first | exact w0 | exact w1
theorem l_ad83 {S : SV} {pl : PL} {t4 : TK} {what a : Int} (hM : MoAt K) (hG : GS S0 S tp n pl) (hk : TkS S t4) (hb : TkB n t4) (hw : 1 ≤ what ∧ what ≤ 3) (ha : 0 ≤ a ∧ a < 32) (hka : pKd pl a ≠ 0) (hl : pLc pl a = 0) : P G 5 0 0 mX11_readAddress 83 [some (.ref 453), some (IV what), some (IV a), some (IV (54 + 6 * a)), none] [] K S (LXQ K S0 tp n (adr4 tp n pl what a t4)) := by
  have m0 := hM.1
  unfold adr4
  rcases (show what = 1 ∨ what = 2 ∨ what = 3 by omega) with rfl | rfl | rfl
  · rw [if_pos rfl]
    have w := l_ad95o (G := G) (what := 1) (a := a) (c := 54 + 6 * a) hM hG hk
    refine T_iload_n dX11_readAddress_83 rfl ?_
    refine I_iconst dX11_readAddress_84 ?_
    refine I_icmp_eq (tgt := 92) dX11_readAddress_85 (by decide) ⟨by omega, by omega⟩ ⟨by omega, by omega⟩ (fun h85 => ?_) (fun h85 => ?_)
    · refine I_iconst dX11_readAddress_92 ?_
      refine T_istore dX11_readAddress_93 (by decide) rfl ?_
      exact w
    · exact absurd rfl h85
  · rw [if_neg (by omega)]
    have w := l_ad1 (G := G) (S0 := S0) (what := 2) (F := fun r => if (2 : Int) = 2 then .ok r else lstM tp n a 3 r.1 r.2) hM (Or.inl rfl) ha hG hk hb hka (by omega) (fun r S' b' hX hG' hk' hb' => by
      rw [if_neg (fun y => by have := y.1; omega)] at hb'
      subst hb'
      show P G 5 0 0 mX11_readAddress 95 _ [] K S' (LXQ K S0 tp n (if (2 : Int) = 2 then .ok r else lstM tp n a 3 r.1 r.2))
      rw [if_pos rfl]
      exact l_ad95o hM hG' hk')
    refine T_iload_n dX11_readAddress_83 rfl ?_
    refine I_iconst dX11_readAddress_84 ?_
    refine I_icmp_eq (tgt := 92) dX11_readAddress_85 (by decide) ⟨by omega, by omega⟩ ⟨by omega, by omega⟩ (fun h85 => ?_) (fun h85 => ?_)
    · omega
    · refine I_iconst dX11_readAddress_88 ?_
      refine T_goto (tgt := 93) dX11_readAddress_89 (by decide) ?_
      refine T_istore dX11_readAddress_93 (by decide) rfl ?_
      exact w
  · rw [if_neg (by omega)]
    have w := l_ad1 (G := G) (S0 := S0) (what := 3) (F := fun r => if (3 : Int) = 2 then .ok r else lstM tp n a 3 r.1 r.2) hM (Or.inr rfl) ha hG hk hb hka (by omega) (fun r S' b' hX hG' hk' hb' => by
      unfold tgt2 at hX
      obtain ⟨q, hq1, hq2⟩ := bind_ok hX
      obtain ⟨t3, ht1, ht2⟩ := bind_ok hq2
      injection ht2 with ht2
      subst ht2
      obtain ⟨-, -, qb, -, ql, qk⟩ := tgtM_b hG.2.2.2.1 hb ha hka (by omega) hq1
      have qb1 := qb.1
      show P G 5 0 0 mX11_readAddress 95 _ [] K S' (LXQ K S0 tp n (if (3 : Int) = 2 then .ok (q.1, t3) else lstM tp n a 3 q.1 t3))
      rw [if_neg (by omega)]
      refine l_adL hM ha 3 q.1 t3 S' b' (by omega) hG' hk' (tkM_b ⟨by omega, by omega⟩ ht1).1 (by rw [qk]; exact hka) ?_
      rw [hb']
      by_cases h22 : t3.1 = 2
      · rw [if_pos ⟨rfl, h22⟩, if_pos h22]
      · rw [if_neg (fun y => h22 y.2), if_neg h22])
    refine T_iload_n dX11_readAddress_83 rfl ?_
    refine I_iconst dX11_readAddress_84 ?_
    refine I_icmp_eq (tgt := 92) dX11_readAddress_85 (by decide) ⟨by omega, by omega⟩ ⟨by omega, by omega⟩ (fun h85 => ?_) (fun h85 => ?_)
    · omega
    · refine I_iconst dX11_readAddress_88 ?_
      refine T_goto (tgt := 93) dX11_readAddress_89 (by decide) ?_
      refine T_istore dX11_readAddress_93 (by decide) rfl ?_
      exact w
theorem l_ad79 {S : SV} {pl : PL} {t : TK} {what a : Int} (hM : MoAt K) (hG : GS S0 S tp n pl) (hk : TkS S t) (hb : TkB n t) (hw : 1 ≤ what ∧ what ≤ 3) (ha : 0 ≤ a ∧ a < 32) (hka : pKd pl a ≠ 0) (hl : pLc pl a = 0) : P G 5 0 0 mX11_readAddress 79 [some (.ref 453), some (IV what), some (IV a), some (IV (54 + 6 * a)), none] [] K S (LXQ K S0 tp n ((tkM tp n t.2.2.1).bind fun t4 => adr4 tp n pl what a t4)) := by
  have m0 := hM.1
  have hb1 := hb.1
  have c := p_reads (G := G) hM hG.1 hG.2.1 hG.2.2.2.2.2.1 hk.2.2.1 ⟨by omega, by omega⟩
  cases hX : tkM tp n t.2.2.1 with
  | error e =>
    rw [hX] at c
    show P G 5 0 0 mX11_readAddress 79 _ [] K S (LXQ K S0 tp n (.error e))
    refine T_aload_n dX11_readAddress_79 rfl rfl ?_
    refine R_callV dX11_readAddress_80 kX11_reads lX11_101 (by assumption) rfl c rfl rfl (Nat.le_of_ble_eq_true rfl) (Nat.le_of_ble_eq_true rfl) (by decide) (by decide) (fun r_ K_ S_ q_ => ?_)
    obtain ⟨rfl, hKe, hF, q11, q12, q0⟩ := q_
    have hKe := hKe.symm
    subst hKe
    have hq := hG.bs hF q11 q12 q0
    have w0 := l_ad95 (G := G) (tp := tp) (n := n) (what := what) (a := a) (c := 54 + 6 * a) (b := 0) hM hq ⟨by omega, by omega⟩
    have w1 := l_ad95 (G := G) (tp := tp) (n := n) (what := what) (a := a) (c := 54 + 6 * a) (b := 1) hM hq ⟨by omega, by omega⟩
    refine T_iload_n dX11_readAddress_83 rfl ?_
    refine I_iconst dX11_readAddress_84 ?_
    refine I_icmp_eq (tgt := 92) dX11_readAddress_85 (by decide) ⟨by omega, by omega⟩ ⟨by omega, by omega⟩ (fun h85 => ?_) (fun h85 => ?_)
    · refine I_iconst dX11_readAddress_92 ?_
      refine T_istore dX11_readAddress_93 (by decide) rfl ?_
      first | exact w0 | exact w1
    · refine I_iconst dX11_readAddress_88 ?_
      refine T_goto (tgt := 93) dX11_readAddress_89 (by decide) ?_
      refine T_istore dX11_readAddress_93 (by decide) rfl ?_
      first | exact w0 | exact w1
  | ok t4 =>
    rw [hX] at c
    have hb4 := (tkM_b ⟨by omega, by omega⟩ hX).1
    show P G 5 0 0 mX11_readAddress 79 _ [] K S (LXQ K S0 tp n (adr4 tp n pl what a t4))
    refine T_aload_n dX11_readAddress_79 rfl rfl ?_
    refine R_callV dX11_readAddress_80 kX11_reads lX11_101 (by assumption) rfl c rfl rfl (Nat.le_of_ble_eq_true rfl) (Nat.le_of_ble_eq_true rfl) (by decide) (by decide) (fun r_ K_ S_ q_ => ?_)
    obtain ⟨rfl, hKe, hF, q11, hk4⟩ := q_
    have hKe := hKe.symm
    subst hKe
    have w := l_ad83 (G := G) hM (hG.fq hF q11) hk4 hb4 hw ha hka hl
    exact w
theorem adrM_eq {pl : PL} {what : Int} {t : TK} : adrM tp n pl what t = (addrM tp n t).bind fun q => if pKd pl q.1 ≠ 0 then .error (4, q.2.2.1) else (tkM tp n q.2.2.2.1).bind fun t4 => adr4 tp n (tellM pl q.1 what) what q.1 t4 := by
  unfold adrM toldM
  cases addrM tp n t with
  | error e => rfl
  | ok q =>
    show ((if pKd pl q.1 ≠ 0 then (Except.error (4, q.2.2.1) : Except ER (PL × Int × TK)) else Except.ok (tellM pl q.1 what, q.1, q.2)).bind _) = if pKd pl q.1 ≠ 0 then (Except.error (4, q.2.2.1) : Except ER (PL × TK)) else _
    by_cases hp : pKd pl q.1 ≠ 0
    · rw [if_pos hp, if_pos hp]; rfl
    · rw [if_neg hp, if_neg hp]; rfl
theorem p_adr {S : SV} {pl : PL} {t : TK} {what : Int} (hM : MoAt K) (hG : GS S0 S tp n pl) (hk : TkS S t) (hb : TkB n t) (hw : 1 ≤ what ∧ what ≤ 3) : P G 5 0 0 mX11_readAddress 0 (LE mX11_readAddress [.ref 453, IV what]) [] K S (LXQ K S0 tp n (adrM tp n pl what t)) := by
  have m0 := hM.1
  have m2 := hM.2.2.1
  obtain ⟨g1, g2, g3, g4, g5, g6, g7⟩ := id hG
  rw [adrM_eq]
  have c := p_addr (G := G) hM g1 g2 g6 hk hb
  cases hX : addrM tp n t with
  | error e =>
    rw [hX] at c
    show P G 5 0 0 mX11_readAddress 0 (LE mX11_readAddress [.ref 453, IV what]) [] K S (LXQ K S0 tp n (.error e))
    rw [show LE mX11_readAddress [.ref 453, IV what] = [some (.ref 453), some (IV what), none, none, none] from rfl]
    refine T_aload_n dX11_readAddress_0 rfl rfl ?_
    refine R_callV dX11_readAddress_1 kX11_addressNow lX11_118 (by assumption) rfl c rfl rfl (Nat.le_of_ble_eq_true rfl) (Nat.le_of_ble_eq_true rfl) (by decide) (by decide) (fun r_ K_ S_ q_ => ?_)
    obtain ⟨hKe, hF, ⟨z, rfl, z0, z1⟩, q11, q12, q0⟩ := q_
    have hKe := hKe.symm
    subst hKe
    have w := f_ad79 (G := G) (tp := tp) (n := n) (what := what) (a := z) (c := 54 + 6 * z) hM (hG.bs hF q11 q12 q0) hw
    refine T_istore_n dX11_readAddress_4 (by decide) rfl ?_
    refine I_bipush dX11_readAddress_5 (by decide) ?_
    refine I_bipush dX11_readAddress_7 (by decide) ?_
    refine T_iload_n dX11_readAddress_9 rfl ?_
    refine I_imul dX11_readAddress_10 ?_
    refine I_iadd dX11_readAddress_11 ?_
    refine T_istore_n dX11_readAddress_12 (by decide) rfl ?_
    refine T_aload_n dX11_readAddress_13 rfl rfl ?_
    refine P_geti dX11_readAddress_14 fX11_60 (by assumption) rfl ?_
    refine I_if_ne (tgt := 39) dX11_readAddress_17 (by decide) (hF.1.1 _ _) (fun h17 => ?_) (fun h17 => ?_)
    · refine T_aload_n dX11_readAddress_39 rfl rfl ?_
      refine P_geti dX11_readAddress_40 fX11_60 (by assumption) rfl ?_
      refine I_if_ne (tgt := 79) dX11_readAddress_43 (by decide) (hF.1.1 _ _) (fun h43 => ?_) (fun h43 => ?_)
      · exact w
      · omega
    · omega
  | ok q =>
    rw [hX] at c
    obtain ⟨qb, qt, -, -, -⟩ := addrM_b hb hX
    obtain ⟨a, t2⟩ := q
    have qb : 0 ≤ a ∧ a < 32 := qb
    have qt : TkB n t2 := qt
    show P G 5 0 0 mX11_readAddress 0 (LE mX11_readAddress [.ref 453, IV what]) [] K S (LXQ K S0 tp n (if pKd pl a ≠ 0 then .error (4, t2.2.1) else (tkM tp n t2.2.2.1).bind fun t4 => adr4 tp n (tellM pl a what) what a t4))
    have hkd := (g4.2.2.2.1 a qb.1 qb.2).1
    have hl0 := (g4.2.2.2.1 a qb.1 qb.2).2.1
    by_cases hp : pKd pl a ≠ 0
    · rw [if_pos hp]
      rw [show LE mX11_readAddress [.ref 453, IV what] = [some (.ref 453), some (IV what), none, none, none] from rfl]
      refine T_aload_n dX11_readAddress_0 rfl rfl ?_
      refine R_callV dX11_readAddress_1 kX11_addressNow lX11_118 (by assumption) rfl c rfl rfl (Nat.le_of_ble_eq_true rfl) (Nat.le_of_ble_eq_true rfl) (by decide) (by decide) (fun r_ K_ S_ q_ => ?_)
      obtain ⟨hKe, hF, rfl, q11, hk2⟩ := q_
      have hKe := hKe.symm
      subst hKe
      have hG2 := hG.fq hF q11
      have ek : aI S_ 455 (54 + 6 * a) = pKd pl a := (hG2.2.2.1.2.2.2 a qb.1 qb.2).1
      have hF2 := errS_q (c := 4) hG2.1 (by decide)
      have hq := hG2.bs (e := (4, t2.2.1)) hF2 errS_11 (by rw [errS_12]; exact hk2.2.1) (by show (0 : Int) < 4; omega)
      have w := f_ad79 (G := G) (tp := tp) (n := n) (what := what) (a := a) (c := 54 + 6 * a) hM hq hw
      refine T_istore_n dX11_readAddress_4 (by decide) rfl ?_
      refine I_bipush dX11_readAddress_5 (by decide) ?_
      refine I_bipush dX11_readAddress_7 (by decide) ?_
      refine T_iload_n dX11_readAddress_9 rfl ?_
      refine I_imul dX11_readAddress_10 ?_
      refine I_iadd dX11_readAddress_11 ?_
      refine T_istore_n dX11_readAddress_12 (by decide) rfl ?_
      refine T_aload_n dX11_readAddress_13 rfl rfl ?_
      refine P_geti dX11_readAddress_14 fX11_60 (by assumption) rfl ?_
      rw [q11]
      refine I_if_ne (tgt := 39) dX11_readAddress_17 (by decide) ⟨by omega, by omega⟩ (fun h17 => ?_) (fun h17 => ?_)
      · omega
      · refine T_aload_n dX11_readAddress_20 rfl rfl ?_
        refine T_aload_n dX11_readAddress_21 rfl rfl ?_
        refine P_getr dX11_readAddress_22 fX11_13 (by assumption) rfl ?_
        refine T_iload_n dX11_readAddress_25 rfl ?_
        refine P_iald dX11_readAddress_26 (by assumption) ⟨by omega, by omega⟩ (by first | decide | omega) ?_
        rw [ek]
        refine I_if_ne (tgt := 34) dX11_readAddress_27 (by decide) ⟨by omega, by omega⟩ (fun h27 => ?_) (fun h27 => ?_)
        · refine I_iconst dX11_readAddress_34 ?_
          refine I_iconst dX11_readAddress_35 ?_
          refine Q_callV dX11_readAddress_36 kX11_requires lX11_94 (by assumption) rfl (p_req0 hM q11) rfl rfl (Nat.le_of_ble_eq_true rfl) (Nat.le_of_ble_eq_true rfl) (by decide) (by decide) ?_
          refine T_aload_n dX11_readAddress_39 rfl rfl ?_
          refine P_geti dX11_readAddress_40 fX11_60 (by assumption) rfl ?_
          rw [errS_11]
          refine I_if_ne (tgt := 79) dX11_readAddress_43 (by decide) ⟨by omega, by omega⟩ (fun h43 => ?_) (fun h43 => ?_)
          · exact w
          · omega
        · omega
    · rw [if_neg hp]
      have hl0' : pLc pl a = 0 := hl0 (by omega)
      rw [show LE mX11_readAddress [.ref 453, IV what] = [some (.ref 453), some (IV what), none, none, none] from rfl]
      refine T_aload_n dX11_readAddress_0 rfl rfl ?_
      refine R_callV dX11_readAddress_1 kX11_addressNow lX11_118 (by assumption) rfl c rfl rfl (Nat.le_of_ble_eq_true rfl) (Nat.le_of_ble_eq_true rfl) (by decide) (by decide) (fun r_ K_ S_ q_ => ?_)
      obtain ⟨hKe, hF, rfl, q11, hk2⟩ := q_
      have hKe := hKe.symm
      subst hKe
      obtain ⟨j1, j2, j3, j4, j5, j6, j7⟩ := hG.fq hF q11
      have ek : aI S_ 455 (54 + 6 * a) = pKd pl a := (j3.2.2.2 a qb.1 qb.2).1
      have r14 := j1.1 453 14
      have fin : ∀ u : Int, R32 u → u = (if fI S_ 453 14 < a / 8 then a / 8 else fI S_ 453 14) → P G 5 0 0 mX11_readAddress 79 [some (.ref 453), some (IV what), some (IV a), some (IV (54 + 6 * a)), none] [] K (sF (sA S_ 455 (54 + 6 * a) what) 453 14 u) (LXQ K S0 tp n ((tkM tp n t2.2.2.1).bind fun t4 => adr4 tp n (tellM pl a what) what a t4)) := by
        intro u hu hue
        have hGn : GS S0 (sF (sA S_ 455 (54 + 6 * a) what) 453 14 u) tp n (tellM pl a what) := ⟨(j1.sA ⟨by omega, by omega⟩).sF hu, j2.sA.sF (by omega), by show PlC (aI (sA S_ 455 (54 + 6 * a) what) 455) _; rw [aD]; exact j3.tell j4 qb, j4.tell qb hw, j5.tell qb (by omega) (by rw [fFs (by omega)]; rfl) (by rw [fFt]; exact hue), by rw [fFs (by omega)]; exact j6, (j7.tr Pq.sA).tr Pq.sF⟩
        have hkn : TkS (sF (sA S_ 455 (54 + 6 * a) what) 453 14 u) t2 := ⟨by rw [fFs (by omega)]; exact hk2.1, by rw [fFs (by omega)]; exact hk2.2.1, by rw [fFs (by omega)]; exact hk2.2.2.1, fun z => by rw [fFs (by omega)]; exact hk2.2.2.2 z⟩
        exact l_ad79 hM hGn hkn qt hw qb (by show fset (pKd pl) a what a ≠ 0; rw [fset_t]; omega) hl0'
      have f1 : fI S_ 453 14 < a / 8 → _ := fun z => fin (a / 8) ⟨by omega, by omega⟩ (by rw [if_pos z])
      have f2 : ¬ fI S_ 453 14 < a / 8 → _ := fun z => fin (fI S_ 453 14) r14 (by rw [if_neg z])
      refine T_istore_n dX11_readAddress_4 (by decide) rfl ?_
      refine I_bipush dX11_readAddress_5 (by decide) ?_
      refine I_bipush dX11_readAddress_7 (by decide) ?_
      refine T_iload_n dX11_readAddress_9 rfl ?_
      refine I_imul dX11_readAddress_10 ?_
      refine I_iadd dX11_readAddress_11 ?_
      refine T_istore_n dX11_readAddress_12 (by decide) rfl ?_
      refine T_aload_n dX11_readAddress_13 rfl rfl ?_
      refine P_geti dX11_readAddress_14 fX11_60 (by assumption) rfl ?_
      rw [q11]
      refine I_if_ne (tgt := 39) dX11_readAddress_17 (by decide) ⟨by omega, by omega⟩ (fun h17 => ?_) (fun h17 => ?_)
      · omega
      · refine T_aload_n dX11_readAddress_20 rfl rfl ?_
        refine T_aload_n dX11_readAddress_21 rfl rfl ?_
        refine P_getr dX11_readAddress_22 fX11_13 (by assumption) rfl ?_
        refine T_iload_n dX11_readAddress_25 rfl ?_
        refine P_iald dX11_readAddress_26 (by assumption) ⟨by omega, by omega⟩ (by first | decide | omega) ?_
        rw [ek]
        refine I_if_ne (tgt := 34) dX11_readAddress_27 (by decide) ⟨by omega, by omega⟩ (fun h27 => ?_) (fun h27 => ?_)
        · omega
        · refine I_iconst dX11_readAddress_30 ?_
          refine T_goto (tgt := 35) dX11_readAddress_31 (by decide) ?_
          refine I_iconst dX11_readAddress_35 ?_
          refine Q_callV dX11_readAddress_36 kX11_requires lX11_94 (by assumption) rfl (p_req1 hM) rfl rfl (Nat.le_of_ble_eq_true rfl) (Nat.le_of_ble_eq_true rfl) (by decide) (by decide) ?_
          refine T_aload_n dX11_readAddress_39 rfl rfl ?_
          refine P_geti dX11_readAddress_40 fX11_60 (by assumption) rfl ?_
          rw [q11]
          refine I_if_ne (tgt := 79) dX11_readAddress_43 (by decide) ⟨by omega, by omega⟩ (fun h43 => ?_) (fun h43 => ?_)
          · omega
          · refine T_aload_n dX11_readAddress_46 rfl rfl ?_
            refine P_getr dX11_readAddress_47 fX11_13 (by assumption) rfl ?_
            refine T_iload_n dX11_readAddress_50 rfl ?_
            refine T_iload_n dX11_readAddress_51 rfl ?_
            refine P_iast dX11_readAddress_52 (by assumption) ⟨by omega, by omega⟩ (by first | decide | omega) ?_
            refine T_aload_n dX11_readAddress_53 rfl rfl ?_
            refine T_iload_n dX11_readAddress_54 rfl ?_
            refine I_bipush dX11_readAddress_55 (by decide) ?_
            refine I_idiv dX11_readAddress_57 ⟨by omega, by omega⟩ ⟨by omega, by omega⟩ ?_
            refine T_aload_n dX11_readAddress_58 rfl rfl ?_
            refine P_geti dX11_readAddress_59 fX11_122 (by assumption) rfl ?_
            refine I_icmp_le (tgt := 72) dX11_readAddress_62 (by decide) ⟨by omega, by omega⟩ r14 (fun h62_ => ?_) (fun h62_ => ?_)
            · refine T_aload_n dX11_readAddress_72 rfl rfl ?_
              refine P_geti dX11_readAddress_73 fX11_122 (by assumption) rfl ?_
              refine P_puti dX11_readAddress_76 fX11_122 (by assumption) rfl rfl ?_
              first
                | exact f1 (by have h1 : ¬ a / 8 ≤ fI S_ 453 14 := h62_; omega)
                | exact f2 (by have h1 : a / 8 ≤ fI S_ 453 14 := h62_; omega)
            · refine T_iload_n dX11_readAddress_65 rfl ?_
              refine I_bipush dX11_readAddress_66 (by decide) ?_
              refine I_idiv dX11_readAddress_68 ⟨by omega, by omega⟩ ⟨by omega, by omega⟩ ?_
              refine T_goto (tgt := 76) dX11_readAddress_69 (by decide) ?_
              refine P_puti dX11_readAddress_76 fX11_122 (by assumption) rfl rfl ?_
              first
                | exact f1 (by have h1 : ¬ a / 8 ≤ fI S_ 453 14 := h62_; omega)
                | exact f2 (by have h1 : a / 8 ≤ fI S_ 453 14 := h62_; omega)
noncomputable def hseM (tp : Int → Int) (n : Int) (pl : PL) (t : TK) : Except ER (PL × TK) := @ite _ (wordM tp t 5) (Classical.propDecidable _) ((tkM tp n t.2.2.1).bind fun t3 => .ok (addHM pl 1, t3)) (.ok (addHM pl 0, t))
theorem p_hse {S : SV} {pl : PL} {t : TK} (hM : MoAt K) (hG : GS S0 S tp n pl) (hk : TkS S t) (hb : TkB n t) (hh : pHs pl < 5) : P G 2 0 0 mX11_readHouse 0 (LE mX11_readHouse [.ref 453]) [] K S (LXQ K S0 tp n (hseM tp n pl t)) := by
  have m0 := hM.1
  have m2 := hM.2.2.1
  obtain ⟨g1, g2, g3, g4, g5, g6, g7⟩ := id hG
  have hb1 := hb.1
  have hH := g4.1.1
  have e0 := g3.1.1
  have c1 := p_is (G := G) (l := 4) (f := 0) (a := 119) (b := 97) (c := 114) hM g1 g2 hk hb (by decide) ⟨by omega, by omega⟩ (by decide) (by decide) (by decide)
  have c2 := p_is (G := G) (l := 4) (f := 1) (a := 97) (b := 114) (c := 121) hM g1 g2 hk hb (by decide) ⟨by omega, by omega⟩ (by decide) (by decide) (by decide)
  have e1 : ∀ w : Int, aI (sA S 455 (16 + 2 * pHs pl) w) 455 0 = pHs pl := fun w => by rw [aD, fset_f _ _ (by omega)]; exact e0
  have hG2 : ∀ w : Int, w = 0 ∨ w = 1 → GS S0 (sA (sA S 455 (16 + 2 * pHs pl) w) 455 0 (pHs pl + 1)) tp n (addHM pl w) := fun w hw => ⟨(g1.sA ⟨by omega, by omega⟩).sA ⟨by omega, by omega⟩, g2.sA.sA, by rw [aD, aD]; exact g3.addH g4 hh, g4.addH hh hw, g5, g6, (g7.tr Pq.sA).tr Pq.sA⟩
  unfold hseM
  by_cases hw : wordM tp t 5
  · rw [if_pos hw]
    obtain ⟨i1, i2⟩ := (word_5 g2 hb).mp hw
    have hG3 := hG2 1 (Or.inr rfl)
    have hk3 : TkS (sA (sA S 455 (16 + 2 * pHs pl) 1) 455 0 (pHs pl + 1)) t := hk
    have c := p_reads (G := G) hM hG3.1 hG3.2.1 hG3.2.2.2.2.2.1 hk3.2.2.1 ⟨by omega, by omega⟩
    cases hX : tkM tp n t.2.2.1 with
    | error e =>
      rw [hX] at c
      show P G 2 0 0 mX11_readHouse 0 (LE mX11_readHouse [.ref 453]) [] K S (LXQ K S0 tp n (.error e))
      rw [show LE mX11_readHouse [.ref 453] = [some (.ref 453), none] from rfl]
      refine T_aload_n dX11_readHouse_0 rfl rfl ?_
      refine I_iconst dX11_readHouse_1 ?_
      refine I_iconst dX11_readHouse_2 ?_
      refine I_bipush dX11_readHouse_3 (by decide) ?_
      refine I_bipush dX11_readHouse_5 (by decide) ?_
      refine I_bipush dX11_readHouse_7 (by decide) ?_
      refine Q_callV dX11_readHouse_9 kX11_is lX11_79 (by assumption) rfl c1 rfl rfl (Nat.le_of_ble_eq_true rfl) (Nat.le_of_ble_eq_true rfl) (by decide) (by decide) ?_
      rw [b2p_t i1]
      refine I_if_eq (tgt := 34) dX11_readHouse_12 (by decide) ⟨by omega, by omega⟩ (fun h12 => ?_) (fun h12 => ?_)
      · cases h12
      · refine T_aload_n dX11_readHouse_15 rfl rfl ?_
        refine I_iconst dX11_readHouse_16 ?_
        refine I_iconst dX11_readHouse_17 ?_
        refine I_bipush dX11_readHouse_18 (by decide) ?_
        refine I_bipush dX11_readHouse_20 (by decide) ?_
        refine I_bipush dX11_readHouse_22 (by decide) ?_
        refine Q_callV dX11_readHouse_24 kX11_is lX11_79 (by assumption) rfl c2 rfl rfl (Nat.le_of_ble_eq_true rfl) (Nat.le_of_ble_eq_true rfl) (by decide) (by decide) ?_
        rw [b2p_t i2]
        refine I_if_eq (tgt := 34) dX11_readHouse_27 (by decide) ⟨by omega, by omega⟩ (fun h27 => ?_) (fun h27 => ?_)
        · cases h27
        · refine I_iconst dX11_readHouse_30 ?_
          refine T_goto (tgt := 35) dX11_readHouse_31 (by decide) ?_
          refine T_istore_n dX11_readHouse_35 (by decide) rfl ?_
          refine T_aload_n dX11_readHouse_36 rfl rfl ?_
          refine P_getr dX11_readHouse_37 fX11_13 (by assumption) rfl ?_
          refine I_bipush dX11_readHouse_40 (by decide) ?_
          refine I_iconst dX11_readHouse_42 ?_
          refine T_aload_n dX11_readHouse_43 rfl rfl ?_
          refine P_getr dX11_readHouse_44 fX11_13 (by assumption) rfl ?_
          refine I_iconst dX11_readHouse_47 ?_
          refine P_iald dX11_readHouse_48 (by assumption) ⟨by omega, by omega⟩ (by first | decide | omega) ?_
          rw [e0]
          refine I_imul dX11_readHouse_49 ?_
          refine I_iadd dX11_readHouse_50 ?_
          refine T_iload_n dX11_readHouse_51 rfl ?_
          refine Q_callS dX11_readHouse_52 kX11_flag lX11_104 (p_flag (Or.inr rfl)) rfl rfl (Nat.le_of_ble_eq_true rfl) (Nat.le_of_ble_eq_true rfl) (by decide) (by decide) ?_
          refine P_iast dX11_readHouse_55 (by assumption) ⟨by omega, by omega⟩ (by first | decide | omega) ?_
          refine T_aload_n dX11_readHouse_56 rfl rfl ?_
          refine P_getr dX11_readHouse_57 fX11_13 (by assumption) rfl ?_
          refine I_iconst dX11_readHouse_60 ?_
          refine T_dup2 dX11_readHouse_61 rfl rfl ?_
          refine P_iald dX11_readHouse_62 (by assumption) ⟨by omega, by omega⟩ (by first | decide | omega) ?_
          rw [e1]
          refine I_iconst dX11_readHouse_63 ?_
          refine I_iadd dX11_readHouse_64 ?_
          refine P_iast dX11_readHouse_65 (by assumption) ⟨by omega, by omega⟩ (by first | decide | omega) ?_
          refine T_iload_n dX11_readHouse_66 rfl ?_
          refine I_if_eq (tgt := 74) dX11_readHouse_67 (by decide) ⟨by omega, by omega⟩ (fun h67 => ?_) (fun h67 => ?_)
          · cases h67
          · refine T_aload_n dX11_readHouse_70 rfl rfl ?_
            refine R_callV dX11_readHouse_71 kX11_reads lX11_101 (by assumption) rfl c rfl rfl (Nat.le_of_ble_eq_true rfl) (Nat.le_of_ble_eq_true rfl) (by decide) (by decide) (fun r_ K_ S_ q_ => ?_)
            obtain ⟨rfl, hKe, hF, q11, q12, q0⟩ := q_
            have hKe := hKe.symm
            subst hKe
            exact T_return dX11_readHouse_74 rfl ⟨_, _, rfl, rfl, rfl, hG3.bs hF q11 q12 q0⟩
    | ok t3 =>
      rw [hX] at c
      show P G 2 0 0 mX11_readHouse 0 (LE mX11_readHouse [.ref 453]) [] K S (LXQ K S0 tp n (.ok (addHM pl 1, t3)))
      rw [show LE mX11_readHouse [.ref 453] = [some (.ref 453), none] from rfl]
      refine T_aload_n dX11_readHouse_0 rfl rfl ?_
      refine I_iconst dX11_readHouse_1 ?_
      refine I_iconst dX11_readHouse_2 ?_
      refine I_bipush dX11_readHouse_3 (by decide) ?_
      refine I_bipush dX11_readHouse_5 (by decide) ?_
      refine I_bipush dX11_readHouse_7 (by decide) ?_
      refine Q_callV dX11_readHouse_9 kX11_is lX11_79 (by assumption) rfl c1 rfl rfl (Nat.le_of_ble_eq_true rfl) (Nat.le_of_ble_eq_true rfl) (by decide) (by decide) ?_
      rw [b2p_t i1]
      refine I_if_eq (tgt := 34) dX11_readHouse_12 (by decide) ⟨by omega, by omega⟩ (fun h12 => ?_) (fun h12 => ?_)
      · cases h12
      · refine T_aload_n dX11_readHouse_15 rfl rfl ?_
        refine I_iconst dX11_readHouse_16 ?_
        refine I_iconst dX11_readHouse_17 ?_
        refine I_bipush dX11_readHouse_18 (by decide) ?_
        refine I_bipush dX11_readHouse_20 (by decide) ?_
        refine I_bipush dX11_readHouse_22 (by decide) ?_
        refine Q_callV dX11_readHouse_24 kX11_is lX11_79 (by assumption) rfl c2 rfl rfl (Nat.le_of_ble_eq_true rfl) (Nat.le_of_ble_eq_true rfl) (by decide) (by decide) ?_
        rw [b2p_t i2]
        refine I_if_eq (tgt := 34) dX11_readHouse_27 (by decide) ⟨by omega, by omega⟩ (fun h27 => ?_) (fun h27 => ?_)
        · cases h27
        · refine I_iconst dX11_readHouse_30 ?_
          refine T_goto (tgt := 35) dX11_readHouse_31 (by decide) ?_
          refine T_istore_n dX11_readHouse_35 (by decide) rfl ?_
          refine T_aload_n dX11_readHouse_36 rfl rfl ?_
          refine P_getr dX11_readHouse_37 fX11_13 (by assumption) rfl ?_
          refine I_bipush dX11_readHouse_40 (by decide) ?_
          refine I_iconst dX11_readHouse_42 ?_
          refine T_aload_n dX11_readHouse_43 rfl rfl ?_
          refine P_getr dX11_readHouse_44 fX11_13 (by assumption) rfl ?_
          refine I_iconst dX11_readHouse_47 ?_
          refine P_iald dX11_readHouse_48 (by assumption) ⟨by omega, by omega⟩ (by first | decide | omega) ?_
          rw [e0]
          refine I_imul dX11_readHouse_49 ?_
          refine I_iadd dX11_readHouse_50 ?_
          refine T_iload_n dX11_readHouse_51 rfl ?_
          refine Q_callS dX11_readHouse_52 kX11_flag lX11_104 (p_flag (Or.inr rfl)) rfl rfl (Nat.le_of_ble_eq_true rfl) (Nat.le_of_ble_eq_true rfl) (by decide) (by decide) ?_
          refine P_iast dX11_readHouse_55 (by assumption) ⟨by omega, by omega⟩ (by first | decide | omega) ?_
          refine T_aload_n dX11_readHouse_56 rfl rfl ?_
          refine P_getr dX11_readHouse_57 fX11_13 (by assumption) rfl ?_
          refine I_iconst dX11_readHouse_60 ?_
          refine T_dup2 dX11_readHouse_61 rfl rfl ?_
          refine P_iald dX11_readHouse_62 (by assumption) ⟨by omega, by omega⟩ (by first | decide | omega) ?_
          rw [e1]
          refine I_iconst dX11_readHouse_63 ?_
          refine I_iadd dX11_readHouse_64 ?_
          refine P_iast dX11_readHouse_65 (by assumption) ⟨by omega, by omega⟩ (by first | decide | omega) ?_
          refine T_iload_n dX11_readHouse_66 rfl ?_
          refine I_if_eq (tgt := 74) dX11_readHouse_67 (by decide) ⟨by omega, by omega⟩ (fun h67 => ?_) (fun h67 => ?_)
          · cases h67
          · refine T_aload_n dX11_readHouse_70 rfl rfl ?_
            refine R_callV dX11_readHouse_71 kX11_reads lX11_101 (by assumption) rfl c rfl rfl (Nat.le_of_ble_eq_true rfl) (Nat.le_of_ble_eq_true rfl) (by decide) (by decide) (fun r_ K_ S_ q_ => ?_)
            obtain ⟨rfl, hKe, hF, q11, hk4⟩ := q_
            have hKe := hKe.symm
            subst hKe
            exact T_return dX11_readHouse_74 rfl ⟨_, _, rfl, rfl, rfl, hG3.fq hF q11, hk4⟩
  · rw [if_neg hw]
    have hG3 := hG2 0 (Or.inl rfl)
    rw [show LE mX11_readHouse [.ref 453] = [some (.ref 453), none] from rfl]
    refine T_aload_n dX11_readHouse_0 rfl rfl ?_
    refine I_iconst dX11_readHouse_1 ?_
    refine I_iconst dX11_readHouse_2 ?_
    refine I_bipush dX11_readHouse_3 (by decide) ?_
    refine I_bipush dX11_readHouse_5 (by decide) ?_
    refine I_bipush dX11_readHouse_7 (by decide) ?_
    refine Q_callV dX11_readHouse_9 kX11_is lX11_79 (by assumption) rfl c1 rfl rfl (Nat.le_of_ble_eq_true rfl) (Nat.le_of_ble_eq_true rfl) (by decide) (by decide) ?_
    refine I_if_eq (tgt := 34) dX11_readHouse_12 (by decide) (b2p_R _) (fun h12 => ?_) (fun h12 => ?_)
    · refine I_iconst dX11_readHouse_34 ?_
      refine T_istore_n dX11_readHouse_35 (by decide) rfl ?_
      refine T_aload_n dX11_readHouse_36 rfl rfl ?_
      refine P_getr dX11_readHouse_37 fX11_13 (by assumption) rfl ?_
      refine I_bipush dX11_readHouse_40 (by decide) ?_
      refine I_iconst dX11_readHouse_42 ?_
      refine T_aload_n dX11_readHouse_43 rfl rfl ?_
      refine P_getr dX11_readHouse_44 fX11_13 (by assumption) rfl ?_
      refine I_iconst dX11_readHouse_47 ?_
      refine P_iald dX11_readHouse_48 (by assumption) ⟨by omega, by omega⟩ (by first | decide | omega) ?_
      rw [e0]
      refine I_imul dX11_readHouse_49 ?_
      refine I_iadd dX11_readHouse_50 ?_
      refine T_iload_n dX11_readHouse_51 rfl ?_
      refine Q_callS dX11_readHouse_52 kX11_flag lX11_104 (p_flag (Or.inl rfl)) rfl rfl (Nat.le_of_ble_eq_true rfl) (Nat.le_of_ble_eq_true rfl) (by decide) (by decide) ?_
      refine P_iast dX11_readHouse_55 (by assumption) ⟨by omega, by omega⟩ (by first | decide | omega) ?_
      refine T_aload_n dX11_readHouse_56 rfl rfl ?_
      refine P_getr dX11_readHouse_57 fX11_13 (by assumption) rfl ?_
      refine I_iconst dX11_readHouse_60 ?_
      refine T_dup2 dX11_readHouse_61 rfl rfl ?_
      refine P_iald dX11_readHouse_62 (by assumption) ⟨by omega, by omega⟩ (by first | decide | omega) ?_
      rw [e1]
      refine I_iconst dX11_readHouse_63 ?_
      refine I_iadd dX11_readHouse_64 ?_
      refine P_iast dX11_readHouse_65 (by assumption) ⟨by omega, by omega⟩ (by first | decide | omega) ?_
      refine T_iload_n dX11_readHouse_66 rfl ?_
      refine I_if_eq (tgt := 74) dX11_readHouse_67 (by decide) ⟨by omega, by omega⟩ (fun h67 => ?_) (fun h67 => ?_)
      · exact T_return dX11_readHouse_74 rfl ⟨_, _, rfl, rfl, rfl, hG3, hk⟩
      · exact absurd rfl h67
    · refine T_aload_n dX11_readHouse_15 rfl rfl ?_
      refine I_iconst dX11_readHouse_16 ?_
      refine I_iconst dX11_readHouse_17 ?_
      refine I_bipush dX11_readHouse_18 (by decide) ?_
      refine I_bipush dX11_readHouse_20 (by decide) ?_
      refine I_bipush dX11_readHouse_22 (by decide) ?_
      refine Q_callV dX11_readHouse_24 kX11_is lX11_79 (by assumption) rfl c2 rfl rfl (Nat.le_of_ble_eq_true rfl) (Nat.le_of_ble_eq_true rfl) (by decide) (by decide) ?_
      refine I_if_eq (tgt := 34) dX11_readHouse_27 (by decide) (b2p_R _) (fun h27 => ?_) (fun h27 => ?_)
      · refine I_iconst dX11_readHouse_34 ?_
        refine T_istore_n dX11_readHouse_35 (by decide) rfl ?_
        refine T_aload_n dX11_readHouse_36 rfl rfl ?_
        refine P_getr dX11_readHouse_37 fX11_13 (by assumption) rfl ?_
        refine I_bipush dX11_readHouse_40 (by decide) ?_
        refine I_iconst dX11_readHouse_42 ?_
        refine T_aload_n dX11_readHouse_43 rfl rfl ?_
        refine P_getr dX11_readHouse_44 fX11_13 (by assumption) rfl ?_
        refine I_iconst dX11_readHouse_47 ?_
        refine P_iald dX11_readHouse_48 (by assumption) ⟨by omega, by omega⟩ (by first | decide | omega) ?_
        rw [e0]
        refine I_imul dX11_readHouse_49 ?_
        refine I_iadd dX11_readHouse_50 ?_
        refine T_iload_n dX11_readHouse_51 rfl ?_
        refine Q_callS dX11_readHouse_52 kX11_flag lX11_104 (p_flag (Or.inl rfl)) rfl rfl (Nat.le_of_ble_eq_true rfl) (Nat.le_of_ble_eq_true rfl) (by decide) (by decide) ?_
        refine P_iast dX11_readHouse_55 (by assumption) ⟨by omega, by omega⟩ (by first | decide | omega) ?_
        refine T_aload_n dX11_readHouse_56 rfl rfl ?_
        refine P_getr dX11_readHouse_57 fX11_13 (by assumption) rfl ?_
        refine I_iconst dX11_readHouse_60 ?_
        refine T_dup2 dX11_readHouse_61 rfl rfl ?_
        refine P_iald dX11_readHouse_62 (by assumption) ⟨by omega, by omega⟩ (by first | decide | omega) ?_
        rw [e1]
        refine I_iconst dX11_readHouse_63 ?_
        refine I_iadd dX11_readHouse_64 ?_
        refine P_iast dX11_readHouse_65 (by assumption) ⟨by omega, by omega⟩ (by first | decide | omega) ?_
        refine T_iload_n dX11_readHouse_66 rfl ?_
        refine I_if_eq (tgt := 74) dX11_readHouse_67 (by decide) ⟨by omega, by omega⟩ (fun h67 => ?_) (fun h67 => ?_)
        · exact T_return dX11_readHouse_74 rfl ⟨_, _, rfl, rfl, rfl, hG3, hk⟩
        · exact absurd rfl h67
      · exact absurd ((word_5 g2 hb).mpr ⟨b2p_of h12, b2p_of h27⟩) hw
end RPF
