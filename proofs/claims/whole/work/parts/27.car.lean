/-! Carrier: an item bounces, is given, follows an alias, is tried later -/
section RC
variable {G : GT} {d mc ms : Nat} {j : MD} {pc : Nat} {L : List (Option Value)} {st : List Value} {K : List SH} {S : SV} {Q : Option Value → List SH → SV → Prop}
theorem R_callV {idx n b ci d' : Nat} {j' : MD} {As stk : List Value} {fds : List (Option Nat)} {Q' : Option Value → List SH → SV → Prop} {F : u_T} {N : Nat} (hd : decode j.2.1 pc = .ok (.invokevirtual idx, 3)) (hk : MOk j' ∧ MInst j' ∧ MPar j' n) (hl : MLk j.1.cls idx j') (hb : K[b]? = some (.inr (ci, fds))) (hc : vwCl[ci]? = some (j'.1.cls, F, N)) (hM : P G d' 0 0 j' 0 (LE j' (.ref b :: As)) [] K S Q') (hn : As.length = n) (hstk : stk = As.reverse ++ .ref b :: st) (h8 : (st.map fun v => v.category).sum ≤ 8) (hL : (LA (.ref b :: As)).length ≤ j'.2.2.1) (hdd : d' + 1 ≤ d) (hmx : j'.2.2.1 ≤ 16) (kk : ∀ r K' S', Q' r K' S' → P G d mc ms j (pc + 3) L (r.toList ++ st) K' S' Q) : P G d mc ms j pc L stk K S Q := by
  have h := P_callV (mc := mc) (ms := ms) (st := st) (L := L) (Q := Q) hd hk hl hb hc hM hn hstk h8 hL hdd hmx kk
  rw [Nat.zero_add, Nat.zero_add] at h
  exact h
theorem R_callS {idx n d' : Nat} {j' : MD} {As stk : List Value} {Q' : Option Value → List SH → SV → Prop} (hd : decode j.2.1 pc = .ok (.invokestatic idx, 3)) (hk : MOk j' ∧ MStat j' ∧ MPar j' n) (hl : MLk j.1.cls idx j') (hM : P G d' 0 0 j' 0 (LE j' As) [] K S Q') (hn : As.length = n) (hstk : stk = As.reverse ++ st) (h8 : (st.map fun v => v.category).sum ≤ 8) (hL : (LA As).length ≤ j'.2.2.1) (hdd : d' + 1 ≤ d) (hmx : j'.2.2.1 ≤ 16) (kk : ∀ r K' S', Q' r K' S' → P G d mc ms j (pc + 3) L (r.toList ++ st) K' S' Q) : P G d mc ms j pc L stk K S Q := by
  have h := P_callS (mc := mc) (ms := ms) (st := st) (L := L) (Q := Q) hd hk hl hM hn hstk h8 hL hdd hmx kk
  rw [Nat.zero_add, Nat.zero_add] at h
  exact h
end RC
def HQ (K : List SH) (S : SV) (c p r : Nat) (ad : Int → Nat) (cr : List Row) (liv : Int) (e : EN) (pl : PL) : Option Value → List SH → SV → Prop := fun rv K' S' => rv = none ∧ K' = K ∧ CS K S' c p r ad cr liv e pl ∧ Outs S S' r (r + 142)
section Car
variable {G : GT} {K : List SH} {S : SV} {c p r : Nat} {ad : Int → Nat} {cr : List Row} {liv N : Int} {e : EN} {pl : PL} {i : Nat} {x : Row}
theorem p_Car_bounce (hS : CS K S c p r ad cr liv e pl) (hi : cr[i]? = some x) (hx : RowB N pl x) (hE : EnB N e) (hl : cr.length ≤ 119) (hv : 0 ≤ liv ∧ liv ≤ 1000) : P G 2 0 0 mX2_bounce 0 (LE mX2_bounce [.ref c, .ref (ad i)]) [] K S (HQ K S c p r ad ((cr ++ (bounceM e x).2).set i (rset x 0 (-1))) (liv + (bounceM e x).2.length - 1) (bounceM e x).1 pl) := by
  obtain ⟨⟨kc, kp, kr, hA⟩, hpr, -, hP, hR, -⟩ := id hS
  unfold CarAt at kc
  obtain ⟨kr0, kr1, km, kb, kk, -⟩ := id kr
  have kk0 := kk.1
  have km0 := km.1
  obtain ⟨hf, kq, hq⟩ := hS.row hi
  have f0 := hf 0 (by omega)
  have f1 := hf 1 (by omega)
  have f2 := hf 2 (by omega)
  have f3 := hf 3 (by omega)
  have hcl := hR.1.1
  obtain ⟨b0, b1, b2, b3, b4, b5, b6, b7⟩ := hx
  have hhs := hP.1.1
  have hb2 := hR.2.2.2.2.1.2.2.2.1
  have hb3 := hR.2.2.2.2.1.2.1
  have hb4 := hR.2.2.2.2.1.2.2.1
  have hN := hE.2.2.2.2.2.2
  have hle := hE.2.1
  have hec := hE.1
  by_cases h2 : x 2 = -4
  · have hB : bounceM e x = (logI e 8 x (x 0), []) := if_pos h2
    rw [hB]
    obtain ⟨hS1, hO1⟩ := hS.write hE (deed := 8) (letter := x 1) (at_ := x 0) (to_ := x 3) ⟨by omega, by omega⟩ ⟨by omega, by omega⟩ ⟨by omega, by omega⟩ ⟨by omega, by omega⟩
    rw [show LE mX2_bounce [.ref c, .ref (ad i)] = [some (.ref c), some (.ref (ad i))] from rfl]
    refine T_aload_n dX2_bounce_0 rfl rfl ?_
    refine P_geti dX2_bounce_1 fX2_151 (by assumption) rfl ?_
    rw [f2]
    refine I_bipush dX2_bounce_4 (by decide) ?_
    refine I_icmp_ne (tgt := 36) dX2_bounce_6 (by decide) ⟨by omega, by omega⟩ ⟨by omega, by omega⟩ (fun h6 => ?_) (fun h6 => ?_)
    · exact absurd h2 h6
    · refine T_aload_n dX2_bounce_9 rfl rfl ?_
      refine P_getr dX2_bounce_10 fX2_15 (by assumption) rfl ?_
      refine P_getr dX2_bounce_13 fX2_54 (by assumption) rfl ?_
      refine I_bipush dX2_bounce_16 (by decide) ?_
      refine T_aload_n dX2_bounce_18 rfl rfl ?_
      refine P_getr dX2_bounce_19 fX2_15 (by assumption) rfl ?_
      refine P_geti dX2_bounce_22 fX2_47 (by assumption) rfl ?_
      rw [hcl]
      refine T_aload_n dX2_bounce_25 rfl rfl ?_
      refine T_aload_n dX2_bounce_26 rfl rfl ?_
      refine P_geti dX2_bounce_27 fX2_89 (by assumption) rfl ?_
      rw [f0]
      refine Q_callV dX2_bounce_30 kX0_write lX2_58 (by assumption) rfl (p_Book_write kk kq ⟨by omega, by omega⟩ hb2 ⟨by omega, by omega⟩) rfl rfl (Nat.le_of_ble_eq_true rfl) (Nat.le_of_ble_eq_true rfl) (by decide) (by decide) ?_
      rw [f1, f3]
      generalize bkE S (r + 128) 8 (eCl e) (x 1) (x 0) (x 3) = S1 at hS1 hO1 ⊢
      have hS2 := hS1.rem ⟨by omega, by omega⟩ hi
      refine T_goto (tgt := 110) dX2_bounce_33 (by decide) ?_
      refine T_aload_n dX2_bounce_110 rfl rfl ?_
      refine P_getr dX2_bounce_111 fX2_15 (by assumption) rfl ?_
      refine P_getr dX2_bounce_114 fX2_29 (by assumption) rfl ?_
      refine T_aload_n dX2_bounce_117 rfl rfl ?_
      refine Q_callV dX2_bounce_118 kX4_remove lX2_158 (by assumption) rfl (p_Mail_remove km kq (by omega)) rfl rfl (Nat.le_of_ble_eq_true rfl) (Nat.le_of_ble_eq_true rfl) (by decide) (by decide) ?_
      exact T_return dX2_bounce_121 rfl ⟨_, _, rfl, rfl, rfl, by rw [List.append_nil, show liv + (([] : List Row).length : Int) - 1 = liv - 1 by simp]; exact hS2.1, hO1.tr hS2.2⟩
  · have hB : bounceM e x = (eLeS (logI e 7 x (x 0)) (eLe e + 1), [row8 (x 0) (eLe e) (-4) (x 2) 0 0 (eCl e + 1) 0]) := if_neg h2
    rw [hB]
    have hi2 : (cr ++ [row8 (x 0) (eLe e) (-4) (x 2) 0 0 (eCl e + 1) 0])[i]? = some x := by rw [List.getElem?_append_left (List.getElem?_eq_some_iff.mp hi).1]; exact hi
    obtain ⟨hS1, hO1⟩ := hS.write hE (deed := 7) (letter := x 1) (at_ := x 0) (to_ := x 3) ⟨by omega, by omega⟩ ⟨by omega, by omega⟩ ⟨by omega, by omega⟩ ⟨by omega, by omega⟩
    rw [show LE mX2_bounce [.ref c, .ref (ad i)] = [some (.ref c), some (.ref (ad i))] from rfl]
    refine T_aload_n dX2_bounce_0 rfl rfl ?_
    refine P_geti dX2_bounce_1 fX2_151 (by assumption) rfl ?_
    rw [f2]
    refine I_bipush dX2_bounce_4 (by decide) ?_
    refine I_icmp_ne (tgt := 36) dX2_bounce_6 (by decide) ⟨by omega, by omega⟩ ⟨by omega, by omega⟩ (fun h6 => ?_) (fun h6 => ?_)
    · refine T_aload_n dX2_bounce_36 rfl rfl ?_
      refine P_getr dX2_bounce_37 fX2_15 (by assumption) rfl ?_
      refine P_getr dX2_bounce_40 fX2_54 (by assumption) rfl ?_
      refine I_bipush dX2_bounce_43 (by decide) ?_
      refine T_aload_n dX2_bounce_45 rfl rfl ?_
      refine P_getr dX2_bounce_46 fX2_15 (by assumption) rfl ?_
      refine P_geti dX2_bounce_49 fX2_47 (by assumption) rfl ?_
      rw [hcl]
      refine T_aload_n dX2_bounce_52 rfl rfl ?_
      refine T_aload_n dX2_bounce_53 rfl rfl ?_
      refine P_geti dX2_bounce_54 fX2_89 (by assumption) rfl ?_
      rw [f0]
      refine Q_callV dX2_bounce_57 kX0_write lX2_58 (by assumption) rfl (p_Book_write kk kq ⟨by omega, by omega⟩ hb2 ⟨by omega, by omega⟩) rfl rfl (Nat.le_of_ble_eq_true rfl) (Nat.le_of_ble_eq_true rfl) (by decide) (by decide) ?_
      rw [f1, f3]
      generalize bkE S (r + 128) 7 (eCl e) (x 1) (x 0) (x 3) = S1 at hS1 hO1 ⊢
      have g := (hS1.row hi).1
      have hR1 := hS1.2.2.2.2.1
      have gl : fI S1 r 1 = eLe e := hR1.1.2.1
      have gc : fI S1 r 0 = eCl e := hR1.1.1
      have gu := hR1.2.2.1.1
      obtain ⟨hS2, hO2⟩ := hS1.add (at_ := x 0) (letter := eLe e) (fr := -4) (to_ := x 2) (due := eCl e + 1) hl ⟨by omega, by omega⟩ ⟨by omega, by omega⟩ ⟨by omega, by omega⟩ ⟨by omega, by omega⟩ ⟨by omega, by omega⟩ ⟨by omega, by omega⟩
      refine T_aload_n dX2_bounce_60 rfl rfl ?_
      refine P_getr dX2_bounce_61 fX2_15 (by assumption) rfl ?_
      refine P_getr dX2_bounce_64 fX2_29 (by assumption) rfl ?_
      refine T_aload_n dX2_bounce_67 rfl rfl ?_
      refine P_geti dX2_bounce_68 fX2_89 (by assumption) rfl ?_
      rw [g 0 (by omega)]
      refine T_aload_n dX2_bounce_71 rfl rfl ?_
      refine P_getr dX2_bounce_72 fX2_15 (by assumption) rfl ?_
      refine P_geti dX2_bounce_75 fX2_44 (by assumption) rfl ?_
      rw [gl]
      refine I_bipush dX2_bounce_78 (by decide) ?_
      refine T_aload_n dX2_bounce_80 rfl rfl ?_
      refine P_geti dX2_bounce_81 fX2_151 (by assumption) rfl ?_
      rw [g 2 (by omega)]
      refine T_aload_n dX2_bounce_84 rfl rfl ?_
      refine P_getr dX2_bounce_85 fX2_15 (by assumption) rfl ?_
      refine P_geti dX2_bounce_88 fX2_47 (by assumption) rfl ?_
      rw [gc]
      refine I_iconst dX2_bounce_91 ?_
      refine I_iadd dX2_bounce_92 ?_
      refine Q_callV dX2_bounce_93 kX4_add lX2_50 (by assumption) rfl (p_Mail_add km (hR1.2.2.1.rows hA) ⟨by omega, by omega⟩) rfl rfl (Nat.le_of_ble_eq_true rfl) (Nat.le_of_ble_eq_true rfl) (by decide) (by decide) ?_
      generalize addS S1 (r + 2) (x 0) (eLe e) (-4) (x 2) (eCl e + 1) = S2 at hS2 hO2 ⊢
      have gl2 : fI S2 r 1 = eLe e := hS2.2.2.2.2.1.1.2.1
      obtain ⟨hS3, hO3⟩ := hS2.le (v := eLe e + 1) ⟨by omega, by omega⟩
      have hS4 := hS3.rem ⟨by omega, by omega⟩ hi2
      refine T_pop dX2_bounce_96 rfl ?_
      refine T_aload_n dX2_bounce_97 rfl rfl ?_
      refine P_getr dX2_bounce_98 fX2_15 (by assumption) rfl ?_
      refine T_dup dX2_bounce_101 rfl ?_
      refine P_geti dX2_bounce_102 fX2_44 (by assumption) rfl ?_
      rw [gl2]
      refine I_iconst dX2_bounce_105 ?_
      refine I_iadd dX2_bounce_106 ?_
      refine P_puti dX2_bounce_107 fX2_44 (by assumption) rfl rfl ?_
      refine T_aload_n dX2_bounce_110 rfl rfl ?_
      refine P_getr dX2_bounce_111 fX2_15 (by assumption) rfl ?_
      refine P_getr dX2_bounce_114 fX2_29 (by assumption) rfl ?_
      refine T_aload_n dX2_bounce_117 rfl rfl ?_
      refine Q_callV dX2_bounce_118 kX4_remove lX2_158 (by assumption) rfl (p_Mail_remove km kq (by omega)) rfl rfl (Nat.le_of_ble_eq_true rfl) (Nat.le_of_ble_eq_true rfl) (by decide) (by decide) ?_
      exact T_return dX2_bounce_121 rfl ⟨_, _, rfl, rfl, rfl, by rw [show liv + (([row8 (x 0) (eLe e) (-4) (x 2) 0 0 (eCl e + 1) 0] : List Row).length : Int) - 1 = liv + 1 - 1 by simp]; exact hS4.1, ((hO1.tr hO2).tr hO3).tr hS4.2⟩
    · exact absurd h6 h2
end Car
