/-! Carrier: an item bounces, is given, follows an alias, is tried later -/
section RC
variable {G : GT} {d mc ms : Nat} {j : MD} {pc : Nat} {L : List (Option Value)} {st : List Value} {K : List SH} {S : SV} {Q : Option Value → List SH → SV → Prop}
theorem R_callV {idx n b ci d' : Nat} {j' : MD} {As stk : List Value} {fds : List (Option Nat)} {Q' : Option Value → List SH → SV → Prop} {F : u_T} {N : Nat} (hd : decode j.2.1 pc = .ok (.invokevirtual idx, 3)) (hk : MOk j' ∧ MInst j' ∧ MPar j' n) (hl : MLk j.1.cls idx j') (hb : K[b]? = some (.inr (ci, fds))) (hc : vwCl[ci]? = some (j'.1.cls, F, N)) (hM : P G d' 0 0 j' 0 (LE j' (.ref b :: As)) [] K S Q') (hn : As.length = n) (hstk : stk = As.reverse ++ .ref b :: st) (h8 : (st.map fun v => v.category).sum ≤ 8) (hL : (LA (.ref b :: As)).length ≤ j'.2.2.1) (hdd : d' + 1 ≤ d) (hmx : j'.2.2.1 ≤ 16) (kk : ∀ r K' S', Q' r K' S' → P G d mc ms j (pc + 3) L (r.toList ++ st) K' S' Q) : P G d mc ms j pc L stk K S Q := by
  have h := P_callV (mc := mc) (ms := ms) (st := st) (L := L) (Q := Q) hd hk hl hb hc hM hn hstk h8 hL hdd hmx kk
  rw [Nat.zero_add, Nat.zero_add] at h
  exact h
theorem R_callS {idx n d' : Nat} {j' : MD} {As stk : List Value} {Q' : Option Value → List SH → SV → Prop} (hd : decode j.2.1 pc = .ok (.invokestatic idx, 3)) (hk : MOk j' ∧ MStat j' ∧ MPar j' n) (hl : MLk j.1.cls idx j') (hM : P G d' 0 0 j' 0 (LE j' As) [] K S Q') (hn : As.length = n) (hstk : stk = As.reverse ++ st) (h8 : (st.map fun v => v.category).sum ≤ 8) (hL : (LA As).length ≤ j'.2.2.1) (hdd : d' + 1 ≤ d) (hmx : j'.2.2.1 ≤ 16) (kk : ∀ r K' S', Q' r K' S' → P G d mc ms j (pc + 3) L (r.toList ++ st) K' S' Q) : P G d mc ms j pc L stk K S Q := by
  have h := P_callS (mc := mc) (ms := ms) (st := st) (L := L) (Q := Q) hd hk hl hM hn hstk h8 hL hdd hmx kk
  rw [Nat.zero_add, Nat.zero_add] at h
  exact h
end RC
def HQ (K : List SH) (S : SV) (c p r : Nat) (ad : Int → Nat) (cr : List Row) (liv : Int) (e : EN) (pl : PL) : Option Value → List SH → SV → Prop := fun rv K' S' => rv = none ∧ K' = K ∧ CS K S' c p r ad cr liv e pl ∧ Outs S S' r (r + 142)
section Car
variable {G : GT} {K : List SH} {S : SV} {c p r : Nat} {ad : Int → Nat} {cr : List Row} {liv N : Int} {e : EN} {pl : PL} {i : Nat} {x : Row}
theorem p_Car_bounce (hS : CS K S c p r ad cr liv e pl) (hi : cr[i]? = some x) (hx : RowB N pl x) (hE : EnB N e) (hl : cr.length ≤ 119) (hv : 0 ≤ liv ∧ liv ≤ 1000) : P G 2 0 0 mX2_bounce 0 (LE mX2_bounce [.ref c, .ref (ad i)]) [] K S (HQ K S c p r ad ((cr ++ (bounceM e x).2).set i (rset x 0 (-1))) (liv + (bounceM e x).2.length - 1) (bounceM e x).1 pl) := by
  obtain ⟨⟨kc, kp, kr, hA⟩, hpr, -, hP, hR, -⟩ := id hS
  unfold CarAt at kc
  obtain ⟨kr0, kr1, km, kb, kk, -⟩ := id kr
  have kk0 := kk.1
  have km0 := km.1
  obtain ⟨hf, kq, hq⟩ := hS.row hi
  have f0 := hf 0 (by omega)
  have f1 := hf 1 (by omega)
  have f2 := hf 2 (by omega)
  have f3 := hf 3 (by omega)
  have hcl := hR.1.1
  obtain ⟨b0, b1, b2, b3, b4, b5, b6, b7⟩ := hx
  have hhs := hP.1.1
  have hb2 := hR.2.2.2.2.1.2.2.2.1
  have hb3 := hR.2.2.2.2.1.2.1
  have hb4 := hR.2.2.2.2.1.2.2.1
  have hN := hE.2.2.2.2.2.2
  have hle := hE.2.1
  have hec := hE.1
  by_cases h2 : x 2 = -4
  · have hB : bounceM e x = (logI e 8 x (x 0), []) := if_pos h2
    rw [hB]
    obtain ⟨hS1, hO1⟩ := hS.write hE (deed := 8) (letter := x 1) (at_ := x 0) (to_ := x 3) ⟨by omega, by omega⟩ ⟨by omega, by omega⟩ ⟨by omega, by omega⟩ ⟨by omega, by omega⟩
    rw [show LE mX2_bounce [.ref c, .ref (ad i)] = [some (.ref c), some (.ref (ad i))] from rfl]
    refine T_aload_n dX2_bounce_0 rfl rfl ?_
    refine P_geti dX2_bounce_1 fX2_151 (by assumption) rfl ?_
    rw [f2]
    refine I_bipush dX2_bounce_4 (by decide) ?_
    refine I_icmp_ne (tgt := 36) dX2_bounce_6 (by decide) ⟨by omega, by omega⟩ ⟨by omega, by omega⟩ (fun h6 => ?_) (fun h6 => ?_)
    · exact absurd h2 h6
    · refine T_aload_n dX2_bounce_9 rfl rfl ?_
      refine P_getr dX2_bounce_10 fX2_15 (by assumption) rfl ?_
      refine P_getr dX2_bounce_13 fX2_54 (by assumption) rfl ?_
      refine I_bipush dX2_bounce_16 (by decide) ?_
      refine T_aload_n dX2_bounce_18 rfl rfl ?_
      refine P_getr dX2_bounce_19 fX2_15 (by assumption) rfl ?_
      refine P_geti dX2_bounce_22 fX2_47 (by assumption) rfl ?_
      rw [hcl]
      refine T_aload_n dX2_bounce_25 rfl rfl ?_
      refine T_aload_n dX2_bounce_26 rfl rfl ?_
      refine P_geti dX2_bounce_27 fX2_89 (by assumption) rfl ?_
      rw [f0]
      refine Q_callV dX2_bounce_30 kX0_write lX2_58 (by assumption) rfl (p_Book_write kk kq ⟨by omega, by omega⟩ hb2 ⟨by omega, by omega⟩) rfl rfl (Nat.le_of_ble_eq_true rfl) (Nat.le_of_ble_eq_true rfl) (by decide) (by decide) ?_
      rw [f1, f3]
      generalize bkE S (r + 128) 8 (eCl e) (x 1) (x 0) (x 3) = S1 at hS1 hO1 ⊢
      have hS2 := hS1.rem ⟨by omega, by omega⟩ hi
      refine T_goto (tgt := 110) dX2_bounce_33 (by decide) ?_
      refine T_aload_n dX2_bounce_110 rfl rfl ?_
      refine P_getr dX2_bounce_111 fX2_15 (by assumption) rfl ?_
      refine P_getr dX2_bounce_114 fX2_29 (by assumption) rfl ?_
      refine T_aload_n dX2_bounce_117 rfl rfl ?_
      refine Q_callV dX2_bounce_118 kX4_remove lX2_158 (by assumption) rfl (p_Mail_remove km kq (by omega)) rfl rfl (Nat.le_of_ble_eq_true rfl) (Nat.le_of_ble_eq_true rfl) (by decide) (by decide) ?_
      exact T_return dX2_bounce_121 rfl ⟨_, _, rfl, rfl, rfl, by rw [List.append_nil, show liv + (([] : List Row).length : Int) - 1 = liv - 1 by simp]; exact hS2.1, hO1.tr hS2.2⟩
  · have hB : bounceM e x = (eLeS (logI e 7 x (x 0)) (eLe e + 1), [row8 (x 0) (eLe e) (-4) (x 2) 0 0 (eCl e + 1) 0]) := if_neg h2
    rw [hB]
    have hi2 : (cr ++ [row8 (x 0) (eLe e) (-4) (x 2) 0 0 (eCl e + 1) 0])[i]? = some x := by rw [List.getElem?_append_left (List.getElem?_eq_some_iff.mp hi).1]; exact hi
    obtain ⟨hS1, hO1⟩ := hS.write hE (deed := 7) (letter := x 1) (at_ := x 0) (to_ := x 3) ⟨by omega, by omega⟩ ⟨by omega, by omega⟩ ⟨by omega, by omega⟩ ⟨by omega, by omega⟩
    rw [show LE mX2_bounce [.ref c, .ref (ad i)] = [some (.ref c), some (.ref (ad i))] from rfl]
    refine T_aload_n dX2_bounce_0 rfl rfl ?_
    refine P_geti dX2_bounce_1 fX2_151 (by assumption) rfl ?_
    rw [f2]
    refine I_bipush dX2_bounce_4 (by decide) ?_
    refine I_icmp_ne (tgt := 36) dX2_bounce_6 (by decide) ⟨by omega, by omega⟩ ⟨by omega, by omega⟩ (fun h6 => ?_) (fun h6 => ?_)
    · refine T_aload_n dX2_bounce_36 rfl rfl ?_
      refine P_getr dX2_bounce_37 fX2_15 (by assumption) rfl ?_
      refine P_getr dX2_bounce_40 fX2_54 (by assumption) rfl ?_
      refine I_bipush dX2_bounce_43 (by decide) ?_
      refine T_aload_n dX2_bounce_45 rfl rfl ?_
      refine P_getr dX2_bounce_46 fX2_15 (by assumption) rfl ?_
      refine P_geti dX2_bounce_49 fX2_47 (by assumption) rfl ?_
      rw [hcl]
      refine T_aload_n dX2_bounce_52 rfl rfl ?_
      refine T_aload_n dX2_bounce_53 rfl rfl ?_
      refine P_geti dX2_bounce_54 fX2_89 (by assumption) rfl ?_
      rw [f0]
      refine Q_callV dX2_bounce_57 kX0_write lX2_58 (by assumption) rfl (p_Book_write kk kq ⟨by omega, by omega⟩ hb2 ⟨by omega, by omega⟩) rfl rfl (Nat.le_of_ble_eq_true rfl) (Nat.le_of_ble_eq_true rfl) (by decide) (by decide) ?_
      rw [f1, f3]
      generalize bkE S (r + 128) 7 (eCl e) (x 1) (x 0) (x 3) = S1 at hS1 hO1 ⊢
      have g := (hS1.row hi).1
      have hR1 := hS1.2.2.2.2.1
      have gl : fI S1 r 1 = eLe e := hR1.1.2.1
      have gc : fI S1 r 0 = eCl e := hR1.1.1
      have gu := hR1.2.2.1.1
      obtain ⟨hS2, hO2⟩ := hS1.add (at_ := x 0) (letter := eLe e) (fr := -4) (to_ := x 2) (due := eCl e + 1) hl ⟨by omega, by omega⟩ ⟨by omega, by omega⟩ ⟨by omega, by omega⟩ ⟨by omega, by omega⟩ ⟨by omega, by omega⟩ ⟨by omega, by omega⟩
      refine T_aload_n dX2_bounce_60 rfl rfl ?_
      refine P_getr dX2_bounce_61 fX2_15 (by assumption) rfl ?_
      refine P_getr dX2_bounce_64 fX2_29 (by assumption) rfl ?_
      refine T_aload_n dX2_bounce_67 rfl rfl ?_
      refine P_geti dX2_bounce_68 fX2_89 (by assumption) rfl ?_
      rw [g 0 (by omega)]
      refine T_aload_n dX2_bounce_71 rfl rfl ?_
      refine P_getr dX2_bounce_72 fX2_15 (by assumption) rfl ?_
      refine P_geti dX2_bounce_75 fX2_44 (by assumption) rfl ?_
      rw [gl]
      refine I_bipush dX2_bounce_78 (by decide) ?_
      refine T_aload_n dX2_bounce_80 rfl rfl ?_
      refine P_geti dX2_bounce_81 fX2_151 (by assumption) rfl ?_
      rw [g 2 (by omega)]
      refine T_aload_n dX2_bounce_84 rfl rfl ?_
      refine P_getr dX2_bounce_85 fX2_15 (by assumption) rfl ?_
      refine P_geti dX2_bounce_88 fX2_47 (by assumption) rfl ?_
      rw [gc]
      refine I_iconst dX2_bounce_91 ?_
      refine I_iadd dX2_bounce_92 ?_
      refine Q_callV dX2_bounce_93 kX4_add lX2_50 (by assumption) rfl (p_Mail_add km (hR1.2.2.1.rows hA) ⟨by omega, by omega⟩) rfl rfl (Nat.le_of_ble_eq_true rfl) (Nat.le_of_ble_eq_true rfl) (by decide) (by decide) ?_
      generalize addS S1 (r + 2) (x 0) (eLe e) (-4) (x 2) (eCl e + 1) = S2 at hS2 hO2 ⊢
      have gl2 : fI S2 r 1 = eLe e := hS2.2.2.2.2.1.1.2.1
      obtain ⟨hS3, hO3⟩ := hS2.le (v := eLe e + 1) ⟨by omega, by omega⟩
      have hS4 := hS3.rem ⟨by omega, by omega⟩ hi2
      refine T_pop dX2_bounce_96 rfl ?_
      refine T_aload_n dX2_bounce_97 rfl rfl ?_
      refine P_getr dX2_bounce_98 fX2_15 (by assumption) rfl ?_
      refine T_dup dX2_bounce_101 rfl ?_
      refine P_geti dX2_bounce_102 fX2_44 (by assumption) rfl ?_
      rw [gl2]
      refine I_iconst dX2_bounce_105 ?_
      refine I_iadd dX2_bounce_106 ?_
      refine P_puti dX2_bounce_107 fX2_44 (by assumption) rfl rfl ?_
      refine T_aload_n dX2_bounce_110 rfl rfl ?_
      refine P_getr dX2_bounce_111 fX2_15 (by assumption) rfl ?_
      refine P_getr dX2_bounce_114 fX2_29 (by assumption) rfl ?_
      refine T_aload_n dX2_bounce_117 rfl rfl ?_
      refine Q_callV dX2_bounce_118 kX4_remove lX2_158 (by assumption) rfl (p_Mail_remove km kq (by omega)) rfl rfl (Nat.le_of_ble_eq_true rfl) (Nat.le_of_ble_eq_true rfl) (by decide) (by decide) ?_
      exact T_return dX2_bounce_121 rfl ⟨_, _, rfl, rfl, rfl, by rw [show liv + (([row8 (x 0) (eLe e) (-4) (x 2) 0 0 (eCl e + 1) 0] : List Row).length : Int) - 1 = liv + 1 - 1 by simp]; exact hS4.1, ((hO1.tr hO2).tr hO3).tr hS4.2⟩
    · exact absurd h6 h2
theorem p_Car_give (hS : CS K S c p r ad cr liv e pl) (hi : cr[i]? = some x) (hx : RowB N pl x) (hE : EnB N e) (hv : 0 ≤ liv ∧ liv ≤ 1000) : P G 2 0 0 mX2_give 0 (LE mX2_give [.ref c, .ref (ad i)]) [] K S (HQ K S c p r ad (cr.set i (rset x 0 (-1))) (liv - 1) (giveM e x) pl) := by
  obtain ⟨⟨kc, kp, kr, hA⟩, hpr, -, hP, hR, -⟩ := id hS
  unfold CarAt at kc
  obtain ⟨kr0, kr1, km, kb, kk, -⟩ := id kr
  have kk0 := kk.1
  have km0 := km.1
  obtain ⟨hf, kq, hq⟩ := hS.row hi
  have f0 := hf 0 (by omega)
  have f1 := hf 1 (by omega)
  have f2 := hf 2 (by omega)
  have f3 := hf 3 (by omega)
  have hcl := hR.1.1
  obtain ⟨b0, b1, b2, b3, b4, b5, b6, b7⟩ := hx
  have hhs := hP.1.1
  have hb2 := hR.2.2.2.2.1.2.2.2.1
  have hb3 := hR.2.2.2.2.1.2.1
  have hb4 := hR.2.2.2.2.1.2.2.1
  have hN := hE.2.2.2.2.2.2
  have hle := hE.2.1
  have hec := hE.1
  have kb0 := kb.1
  have hgv := hE.2.2.2.1 (x 3) b3.1 b3.2
  have hg : 0 ≤ aI S (r + 124 + 1) (x 3) ∧ aI S (r + 124 + 1) (x 3) < 2147483647 := by rw [(hR.2.2.2.1 (x 3) b3.1 b3.2).1]; omega
  have hkn := hR.2.2.2.1.knows (a := x 3) (letter := x 1) b3
  by_cases hw : x 1 ∈ eWn e (x 3)
  · have hG : giveM e x = logI e 3 x (x 0) := if_pos hw
    rw [hG]
    obtain ⟨hS1, hO1⟩ := hS.write hE (deed := 3) (letter := x 1) (at_ := x 0) (to_ := x 3) ⟨by omega, by omega⟩ ⟨by omega, by omega⟩ ⟨by omega, by omega⟩ ⟨by omega, by omega⟩
    rw [show LE mX2_give [.ref c, .ref (ad i)] = [some (.ref c), some (.ref (ad i))] from rfl]
    refine T_aload_n dX2_give_0 rfl rfl ?_
    refine P_getr dX2_give_1 fX2_15 (by assumption) rfl ?_
    refine P_getr dX2_give_4 fX2_139 (by assumption) rfl ?_
    refine T_aload_n dX2_give_7 rfl rfl ?_
    refine P_geti dX2_give_8 fX2_104 (by assumption) rfl ?_
    rw [f3]
    refine T_aload_n dX2_give_11 rfl rfl ?_
    refine P_geti dX2_give_12 fX2_143 (by assumption) rfl ?_
    rw [f1]
    refine Q_callV dX2_give_15 kX1_knows lX2_146 (by assumption) rfl (p_Boxes_knows kb b3 ⟨by omega, by omega⟩ (fun i => hS.2.2.1.2 _ i) hg) rfl rfl (Nat.le_of_ble_eq_true rfl) (Nat.le_of_ble_eq_true rfl) (by decide) (by decide) ?_
    rw [b2p_t (hkn.mpr hw)]
    refine I_if_eq (tgt := 47) dX2_give_18 (by decide) ⟨by decide, by decide⟩ (fun h18 => ?_) (fun h18 => ?_)
    · exact absurd h18 (by decide)
    · refine T_aload_n dX2_give_21 rfl rfl ?_
      refine P_getr dX2_give_22 fX2_15 (by assumption) rfl ?_
      refine P_getr dX2_give_25 fX2_54 (by assumption) rfl ?_
      refine I_iconst dX2_give_28 ?_
      refine T_aload_n dX2_give_29 rfl rfl ?_
      refine P_getr dX2_give_30 fX2_15 (by assumption) rfl ?_
      refine P_geti dX2_give_33 fX2_47 (by assumption) rfl ?_
      rw [hcl]
      refine T_aload_n dX2_give_36 rfl rfl ?_
      refine T_aload_n dX2_give_37 rfl rfl ?_
      refine P_geti dX2_give_38 fX2_89 (by assumption) rfl ?_
      rw [f0]
      refine Q_callV dX2_give_41 kX0_write lX2_58 (by assumption) rfl (p_Book_write kk kq ⟨by omega, by omega⟩ hb2 ⟨by omega, by omega⟩) rfl rfl (Nat.le_of_ble_eq_true rfl) (Nat.le_of_ble_eq_true rfl) (by decide) (by decide) ?_
      rw [f1, f3]
      generalize bkE S (r + 128) 3 (eCl e) (x 1) (x 0) (x 3) = S1 at hS1 hO1 ⊢
      have hS2 := hS1.rem ⟨by omega, by omega⟩ hi
      refine T_goto (tgt := 92) dX2_give_44 (by decide) ?_
      refine T_aload_n dX2_give_92 rfl rfl ?_
      refine P_getr dX2_give_93 fX2_15 (by assumption) rfl ?_
      refine P_getr dX2_give_96 fX2_29 (by assumption) rfl ?_
      refine T_aload_n dX2_give_99 rfl rfl ?_
      refine Q_callV dX2_give_100 kX4_remove lX2_158 (by assumption) rfl (p_Mail_remove km kq (by omega)) rfl rfl (Nat.le_of_ble_eq_true rfl) (Nat.le_of_ble_eq_true rfl) (by decide) (by decide) ?_
      exact T_return dX2_give_103 rfl ⟨_, _, rfl, rfl, rfl, hS2.1, hO1.tr hS2.2⟩
  · have hG : giveM e x = logI (eBxS e (fset (eGv e) (x 3) (eGv e (x 3) + 1)) (fset (eBf e) (x 3) (x 2)) (fset (eWn e) (x 3) (pushN 8 (eWn e (x 3)) (x 1)))) 2 x (x 0) := if_neg hw
    rw [hG]
    obtain ⟨hS1, hO1⟩ := hS.put hE (a := x 3) (letter := x 1) (fr := x 2) b3 ⟨by omega, by omega⟩ ⟨by omega, by omega⟩
    rw [show LE mX2_give [.ref c, .ref (ad i)] = [some (.ref c), some (.ref (ad i))] from rfl]
    refine T_aload_n dX2_give_0 rfl rfl ?_
    refine P_getr dX2_give_1 fX2_15 (by assumption) rfl ?_
    refine P_getr dX2_give_4 fX2_139 (by assumption) rfl ?_
    refine T_aload_n dX2_give_7 rfl rfl ?_
    refine P_geti dX2_give_8 fX2_104 (by assumption) rfl ?_
    rw [f3]
    refine T_aload_n dX2_give_11 rfl rfl ?_
    refine P_geti dX2_give_12 fX2_143 (by assumption) rfl ?_
    rw [f1]
    refine Q_callV dX2_give_15 kX1_knows lX2_146 (by assumption) rfl (p_Boxes_knows kb b3 ⟨by omega, by omega⟩ (fun i => hS.2.2.1.2 _ i) hg) rfl rfl (Nat.le_of_ble_eq_true rfl) (Nat.le_of_ble_eq_true rfl) (by decide) (by decide) ?_
    rw [b2p_f (fun z => hw (hkn.mp z))]
    refine I_if_eq (tgt := 47) dX2_give_18 (by decide) ⟨by decide, by decide⟩ (fun h18 => ?_) (fun h18 => ?_)
    · refine T_aload_n dX2_give_47 rfl rfl ?_
      refine P_getr dX2_give_48 fX2_15 (by assumption) rfl ?_
      refine P_getr dX2_give_51 fX2_139 (by assumption) rfl ?_
      refine T_aload_n dX2_give_54 rfl rfl ?_
      refine P_geti dX2_give_55 fX2_104 (by assumption) rfl ?_
      rw [f3]
      refine T_aload_n dX2_give_58 rfl rfl ?_
      refine P_geti dX2_give_59 fX2_143 (by assumption) rfl ?_
      rw [f1]
      refine T_aload_n dX2_give_62 rfl rfl ?_
      refine P_geti dX2_give_63 fX2_151 (by assumption) rfl ?_
      rw [f2]
      refine Q_callV dX2_give_66 kX1_put lX2_154 (by assumption) rfl (p_Boxes_put kb b3 hg) rfl rfl (Nat.le_of_ble_eq_true rfl) (Nat.le_of_ble_eq_true rfl) (by decide) (by decide) ?_
      show T _ _ _ _ _ _ _ _ (HP K (putS S (r + 124) (x 3) (x 1) (x 2))) _
      have hty := hE.2.2.2.2.1 2 (by omega) (by omega)
      obtain ⟨hS2, hO2⟩ := hS1.writeW (deed := 2) (letter := x 1) (at_ := x 0) (to_ := x 3) ⟨by omega, by omega⟩ ⟨hec.1, by show eCl e < 1000000000; omega⟩ ⟨hty.1, by show eTy e 2 < 1000000000; omega⟩ ⟨by omega, by omega⟩ ⟨by omega, by omega⟩ ⟨by omega, by omega⟩
      have hR1 := hS1.2.2.2.2.1
      have g := (hS1.row hi).1
      have g1 := g 1 (by omega)
      have g3 := g 3 (by omega)
      have gcl : fI (putS S (r + 124) (x 3) (x 1) (x 2)) r 0 = eCl e := hR1.1.1
      have gb2 := hR1.2.2.2.2.1.2.2.2.1
      have gb3 := hR1.2.2.2.2.1.2.1
      have gb4 := hR1.2.2.2.2.1.2.2.1
      generalize putS S (r + 124) (x 3) (x 1) (x 2) = S1 at hS1 hO1 hS2 hO2 hR1 g g1 g3 gcl gb2 gb3 gb4 ⊢
      refine T_aload_n dX2_give_69 rfl rfl ?_
      refine P_getr dX2_give_70 fX2_15 (by assumption) rfl ?_
      refine P_getr dX2_give_73 fX2_54 (by assumption) rfl ?_
      refine I_iconst dX2_give_76 ?_
      refine T_aload_n dX2_give_77 rfl rfl ?_
      refine P_getr dX2_give_78 fX2_15 (by assumption) rfl ?_
      refine P_geti dX2_give_81 fX2_47 (by assumption) rfl ?_
      rw [gcl]
      refine T_aload_n dX2_give_84 rfl rfl ?_
      refine T_aload_n dX2_give_85 rfl rfl ?_
      refine P_geti dX2_give_86 fX2_89 (by assumption) rfl ?_
      rw [g 0 (by omega)]
      refine Q_callV dX2_give_89 kX0_write lX2_58 (by assumption) rfl (p_Book_write kk kq ⟨by omega, by omega⟩ gb2 ⟨by omega, by omega⟩) rfl rfl (Nat.le_of_ble_eq_true rfl) (Nat.le_of_ble_eq_true rfl) (by decide) (by decide) ?_
      rw [g1, g3]
      have hS3 := hS2.rem ⟨by omega, by omega⟩ hi
      refine T_aload_n dX2_give_92 rfl rfl ?_
      refine P_getr dX2_give_93 fX2_15 (by assumption) rfl ?_
      refine P_getr dX2_give_96 fX2_29 (by assumption) rfl ?_
      refine T_aload_n dX2_give_99 rfl rfl ?_
      refine Q_callV dX2_give_100 kX4_remove lX2_158 (by assumption) rfl (p_Mail_remove km kq (by omega)) rfl rfl (Nat.le_of_ble_eq_true rfl) (Nat.le_of_ble_eq_true rfl) (by decide) (by decide) ?_
      exact T_return dX2_give_103 rfl ⟨_, _, rfl, rfl, rfl, hS3.1, (hO1.tr hO2).tr hS3.2⟩
    · exact absurd rfl h18
theorem p_Car_alias (hS : CS K S c p r ad cr liv e pl) (hi : cr[i]? = some x) (hx : RowB N pl x) (hE : EnB N e) (hk : pKd pl (x 3) = 2) : P G 1 0 0 mX2_followAlias 0 (LE mX2_followAlias [.ref c, .ref (ad i)]) [] K S (HQ K S c p r ad (cr.set i (aliasM pl e x).2) liv (aliasM pl e x).1 pl) := by
  obtain ⟨⟨kc, kp, kr, hA⟩, hpr, -, hP, hR, -⟩ := id hS
  unfold CarAt at kc
  obtain ⟨kr0, kr1, km, kb, kk, -⟩ := id kr
  have kk0 := kk.1
  have km0 := km.1
  obtain ⟨hf, kq, hq⟩ := hS.row hi
  have f0 := hf 0 (by omega)
  have f1 := hf 1 (by omega)
  have f2 := hf 2 (by omega)
  have f3 := hf 3 (by omega)
  have hcl := hR.1.1
  obtain ⟨b0, b1, b2, b3, b4, b5, b6, b7⟩ := hx
  have hhs := hP.1.1
  have hb2 := hR.2.2.2.2.1.2.2.2.1
  have hb3 := hR.2.2.2.2.1.2.1
  have hb4 := hR.2.2.2.2.1.2.2.1
  have hN := hE.2.2.2.2.2.2
  have hle := hE.2.1
  have hec := hE.1
  have hO := hP.1.2.2.2.2.2 (x 3) b3.1 b3.2
  have hlc : 1 ≤ pLc pl (x 3) := hO.2.2.1 hk
  have hld := hO.2.2.2.2 0 (by omega) (by omega)
  obtain ⟨hS1, hO1⟩ := hS.write hE (deed := 4) (letter := x 1) (at_ := x 0) (to_ := x 3) ⟨by omega, by omega⟩ ⟨by omega, by omega⟩ ⟨by omega, by omega⟩ ⟨by omega, by omega⟩
  have kp0 := kp.1
  rw [show LE mX2_followAlias [.ref c, .ref (ad i)] = [some (.ref c), some (.ref (ad i))] from rfl]
  refine T_aload_n dX2_followAlias_0 rfl rfl ?_
  refine P_getr dX2_followAlias_1 fX2_15 (by assumption) rfl ?_
  refine P_getr dX2_followAlias_4 fX2_54 (by assumption) rfl ?_
  refine I_iconst dX2_followAlias_7 ?_
  refine T_aload_n dX2_followAlias_8 rfl rfl ?_
  refine P_getr dX2_followAlias_9 fX2_15 (by assumption) rfl ?_
  refine P_geti dX2_followAlias_12 fX2_47 (by assumption) rfl ?_
  rw [hcl]
  refine T_aload_n dX2_followAlias_15 rfl rfl ?_
  refine T_aload_n dX2_followAlias_16 rfl rfl ?_
  refine P_geti dX2_followAlias_17 fX2_89 (by assumption) rfl ?_
  rw [f0]
  refine Q_callV dX2_followAlias_20 kX0_write lX2_58 (by assumption) rfl (p_Book_write kk kq ⟨by omega, by omega⟩ hb2 ⟨by omega, by omega⟩) rfl rfl (Nat.le_of_ble_eq_true rfl) (Nat.le_of_ble_eq_true rfl) (by decide) (by decide) ?_
  rw [f1, f3]
  generalize bkE S (r + 128) 4 (eCl e) (x 1) (x 0) (x 3) = S1 at hS1 hO1 ⊢
  have g := (hS1.row hi).1
  have gld : aI S1 (p + 9) (x 3 * 4 + 0) = pLd pl (x 3) 0 := (hS1.2.2.2.1.2.2.2.2.1 (x 3) b3.1 b3.2).2.2 0 (by omega) (by omega)
  have hlt := (List.getElem?_eq_some_iff.mp hi).1
  obtain ⟨hS2, hO2⟩ := hS1.setF hi (k := 3) (v := pLd pl (x 3) 0) ⟨by omega, by omega⟩
  obtain ⟨hS3, hO3⟩ := hS2.setF (List.getElem?_set_self hlt) (k := 5) (v := x 5 + 1) ⟨by omega, by omega⟩
  obtain ⟨hS4, hO4⟩ := hS3.setF (List.getElem?_set_self (by rw [List.length_set]; exact hlt)) (k := 4) (v := 0) ⟨by omega, by omega⟩
  obtain ⟨hS5, hO5⟩ := hS4.setF (List.getElem?_set_self (by rw [List.length_set, List.length_set]; exact hlt)) (k := 6) (v := eCl e + 1) ⟨by omega, by omega⟩
  rw [List.set_set, List.set_set, List.set_set] at hS5
  have g5 := (hS2.row (List.getElem?_set_self hlt)).1 5 (by omega)
  have gcl : fI (sF (sF (sF S1 (ad i) 3 (pLd pl (x 3) 0)) (ad i) 5 (x 5 + 1)) (ad i) 4 0) r 0 = eCl e := hS4.2.2.2.2.1.1.1
  refine T_aload_n dX2_followAlias_23 rfl rfl ?_
  refine T_aload_n dX2_followAlias_24 rfl rfl ?_
  refine P_getr dX2_followAlias_25 fX2_9 (by assumption) rfl ?_
  refine T_aload_n dX2_followAlias_28 rfl rfl ?_
  refine P_geti dX2_followAlias_29 fX2_104 (by assumption) rfl ?_
  rw [g 3 (by omega)]
  refine I_iconst dX2_followAlias_32 ?_
  refine Q_callV dX2_followAlias_33 kX5_lead lX2_161 (by assumption) rfl (p_Plan_lead kp b3 ⟨by omega, by omega⟩) rfl rfl (Nat.le_of_ble_eq_true rfl) (Nat.le_of_ble_eq_true rfl) (by decide) (by decide) ?_
  rw [gld]
  refine P_puti dX2_followAlias_36 fX2_104 (by assumption) rfl rfl ?_
  refine T_aload_n dX2_followAlias_39 rfl rfl ?_
  refine T_dup dX2_followAlias_40 rfl ?_
  refine P_geti dX2_followAlias_41 fX2_107 (by assumption) rfl ?_
  rw [g5, show rset x 3 (pLd pl (x 3) 0) 5 = x 5 from rfl]
  refine I_iconst dX2_followAlias_44 ?_
  refine I_iadd dX2_followAlias_45 ?_
  refine P_puti dX2_followAlias_46 fX2_107 (by assumption) rfl rfl ?_
  refine T_aload_n dX2_followAlias_49 rfl rfl ?_
  refine I_iconst dX2_followAlias_50 ?_
  refine P_puti dX2_followAlias_51 fX2_165 (by assumption) rfl rfl ?_
  refine T_aload_n dX2_followAlias_54 rfl rfl ?_
  refine T_aload_n dX2_followAlias_55 rfl rfl ?_
  refine P_getr dX2_followAlias_56 fX2_15 (by assumption) rfl ?_
  refine P_geti dX2_followAlias_59 fX2_47 (by assumption) rfl ?_
  rw [gcl]
  refine I_iconst dX2_followAlias_62 ?_
  refine I_iadd dX2_followAlias_63 ?_
  refine P_puti dX2_followAlias_64 fX2_94 (by assumption) rfl rfl ?_
  exact T_return dX2_followAlias_67 rfl ⟨_, _, rfl, rfl, rfl, hS5, (((hO1.tr hO2).tr hO3).tr hO4).tr hO5⟩
end Car
