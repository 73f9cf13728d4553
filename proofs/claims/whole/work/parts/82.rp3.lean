/-! the reference reads a text: numbers, addresses -/
section RPC
variable {G : GT} {K : List SH} {tp : Int → Int} {n : Int} {S S0 : SV} {t : TK} {pl : PL}
theorem f_num {most : Int} (hM : MoAt K) (hr : AllR S) (h : 0 < fI S 453 11) : P G 1 0 0 mX11_numberNow 0 (LE mX11_numberNow [.ref 453, IV most]) [] K S (Ret K (some (IV 0)) S) := by
  have m0 := hM.1
  rw [show LE mX11_numberNow [.ref 453, IV most] = [some (.ref 453), some (IV most)] from rfl]
  refine T_aload_n dX11_numberNow_0 rfl rfl ?_
  refine P_geti dX11_numberNow_1 fX11_60 (by assumption) rfl ?_
  refine I_if_ne (tgt := 25) dX11_numberNow_4 (by decide) (hr.1 _ _) (fun h4 => ?_) (fun h4 => ?_)
  · refine T_aload_n dX11_numberNow_25 rfl rfl ?_
    refine P_geti dX11_numberNow_26 fX11_60 (by assumption) rfl ?_
    refine I_if_ne (tgt := 50) dX11_numberNow_29 (by decide) (hr.1 _ _) (fun h29 => ?_) (fun h29 => ?_)
    · refine T_aload_n dX11_numberNow_50 rfl rfl ?_
      refine P_geti dX11_numberNow_51 fX11_60 (by assumption) rfl ?_
      refine I_if_ne (tgt := 64) dX11_numberNow_54 (by decide) (hr.1 _ _) (fun h54 => ?_) (fun h54 => ?_)
      · refine I_iconst dX11_numberNow_64 ?_
        exact I_ireturn dX11_numberNow_65 rfl ⟨_, _, rfl, rfl, rfl, rfl⟩
      · omega
    · omega
  · omega
theorem numM_er {most : Int} {e : ER} (h : numM t most = .error e) : (e.1 = 2 ∨ e.1 = 3) ∧ e.2 = t.2.1 := by
  unfold numM at h
  split at h
  · split at h
    · cases h
    · injection h with h; rw [← h]; exact ⟨Or.inr rfl, rfl⟩
  · injection h with h; rw [← h]; exact ⟨Or.inl rfl, rfl⟩
theorem p_num {most : Int} (hM : MoAt K) (hr : AllR S) (h11 : fI S 453 11 = 0) (hk : TkS S t) (hb : TkB n t) (hm : R32 most) : P G 1 0 0 mX11_numberNow 0 (LE mX11_numberNow [.ref 453, IV most]) [] K S (match numM t most with
    | .error e => Ret K (some (IV 0)) (errS S e.1)
    | .ok v => Ret K (some (IV v)) S) := by
  have m0 := hM.1
  obtain ⟨k9, k8, k7, k10⟩ := hk
  have rt : R32 t.1 := by rw [← k9]; exact hr.1 _ _
  by_cases h2 : t.1 = 2
  · have hv2 := hb.2.2.2.2 h2
    have k10 := k10 h2
    by_cases h3 : t.2.2.2 ≤ most
    · have hv : numM t most = .ok t.2.2.2 := by unfold numM; rw [if_pos h2, if_pos h3]
      rw [hv]
      rw [show LE mX11_numberNow [.ref 453, IV most] = [some (.ref 453), some (IV most)] from rfl]
      refine T_aload_n dX11_numberNow_0 rfl rfl ?_
      refine P_geti dX11_numberNow_1 fX11_60 (by assumption) rfl ?_
      rw [h11]
      refine I_if_ne (tgt := 25) dX11_numberNow_4 (by decide) ⟨by omega, by omega⟩ (fun h4 => ?_) (fun h4 => ?_)
      · omega
      · refine T_aload_n dX11_numberNow_7 rfl rfl ?_
        refine T_aload_n dX11_numberNow_8 rfl rfl ?_
        refine P_geti dX11_numberNow_9 fX11_69 (by assumption) rfl ?_
        rw [k9]
        refine I_iconst dX11_numberNow_12 ?_
        refine I_icmp_ne (tgt := 20) dX11_numberNow_13 (by decide) rt ⟨by omega, by omega⟩ (fun h13 => ?_) (fun h13 => ?_)
        · omega
        · refine I_iconst dX11_numberNow_16 ?_
          refine T_goto (tgt := 21) dX11_numberNow_17 (by decide) ?_
          refine I_iconst dX11_numberNow_21 ?_
          refine Q_callV dX11_numberNow_22 kX11_requires lX11_94 (by assumption) rfl (p_req1 hM) rfl rfl (Nat.le_of_ble_eq_true rfl) (Nat.le_of_ble_eq_true rfl) (by decide) (by decide) ?_
          refine T_aload_n dX11_numberNow_25 rfl rfl ?_
          refine P_geti dX11_numberNow_26 fX11_60 (by assumption) rfl ?_
          rw [h11]
          refine I_if_ne (tgt := 50) dX11_numberNow_29 (by decide) ⟨by omega, by omega⟩ (fun h29 => ?_) (fun h29 => ?_)
          · omega
          · refine T_aload_n dX11_numberNow_32 rfl rfl ?_
            refine T_aload_n dX11_numberNow_33 rfl rfl ?_
            refine P_geti dX11_numberNow_34 fX11_91 (by assumption) rfl ?_
            rw [k10]
            refine T_iload_n dX11_numberNow_37 rfl ?_
            refine I_icmp_gt (tgt := 45) dX11_numberNow_38 (by decide) ⟨by omega, by omega⟩ hm (fun h38 => ?_) (fun h38 => ?_)
            · omega
            · refine I_iconst dX11_numberNow_41 ?_
              refine T_goto (tgt := 46) dX11_numberNow_42 (by decide) ?_
              refine I_iconst dX11_numberNow_46 ?_
              refine Q_callV dX11_numberNow_47 kX11_requires lX11_94 (by assumption) rfl (p_req1 hM) rfl rfl (Nat.le_of_ble_eq_true rfl) (Nat.le_of_ble_eq_true rfl) (by decide) (by decide) ?_
              refine T_aload_n dX11_numberNow_50 rfl rfl ?_
              refine P_geti dX11_numberNow_51 fX11_60 (by assumption) rfl ?_
              rw [h11]
              refine I_if_ne (tgt := 64) dX11_numberNow_54 (by decide) ⟨by omega, by omega⟩ (fun h54 => ?_) (fun h54 => ?_)
              · omega
              · refine T_aload_n dX11_numberNow_57 rfl rfl ?_
                refine P_geti dX11_numberNow_58 fX11_91 (by assumption) rfl ?_
                rw [k10]
                refine T_goto (tgt := 65) dX11_numberNow_61 (by decide) ?_
                exact I_ireturn dX11_numberNow_65 rfl ⟨_, _, rfl, rfl, rfl, rfl⟩
    · have hv : numM t most = .error (3, t.2.1) := by unfold numM; rw [if_pos h2, if_neg h3]
      rw [hv]
      rw [show LE mX11_numberNow [.ref 453, IV most] = [some (.ref 453), some (IV most)] from rfl]
      refine T_aload_n dX11_numberNow_0 rfl rfl ?_
      refine P_geti dX11_numberNow_1 fX11_60 (by assumption) rfl ?_
      rw [h11]
      refine I_if_ne (tgt := 25) dX11_numberNow_4 (by decide) ⟨by omega, by omega⟩ (fun h4 => ?_) (fun h4 => ?_)
      · omega
      · refine T_aload_n dX11_numberNow_7 rfl rfl ?_
        refine T_aload_n dX11_numberNow_8 rfl rfl ?_
        refine P_geti dX11_numberNow_9 fX11_69 (by assumption) rfl ?_
        rw [k9]
        refine I_iconst dX11_numberNow_12 ?_
        refine I_icmp_ne (tgt := 20) dX11_numberNow_13 (by decide) rt ⟨by omega, by omega⟩ (fun h13 => ?_) (fun h13 => ?_)
        · omega
        · refine I_iconst dX11_numberNow_16 ?_
          refine T_goto (tgt := 21) dX11_numberNow_17 (by decide) ?_
          refine I_iconst dX11_numberNow_21 ?_
          refine Q_callV dX11_numberNow_22 kX11_requires lX11_94 (by assumption) rfl (p_req1 hM) rfl rfl (Nat.le_of_ble_eq_true rfl) (Nat.le_of_ble_eq_true rfl) (by decide) (by decide) ?_
          refine T_aload_n dX11_numberNow_25 rfl rfl ?_
          refine P_geti dX11_numberNow_26 fX11_60 (by assumption) rfl ?_
          rw [h11]
          refine I_if_ne (tgt := 50) dX11_numberNow_29 (by decide) ⟨by omega, by omega⟩ (fun h29 => ?_) (fun h29 => ?_)
          · omega
          · refine T_aload_n dX11_numberNow_32 rfl rfl ?_
            refine T_aload_n dX11_numberNow_33 rfl rfl ?_
            refine P_geti dX11_numberNow_34 fX11_91 (by assumption) rfl ?_
            rw [k10]
            refine T_iload_n dX11_numberNow_37 rfl ?_
            refine I_icmp_gt (tgt := 45) dX11_numberNow_38 (by decide) ⟨by omega, by omega⟩ hm (fun h38 => ?_) (fun h38 => ?_)
            · refine I_iconst dX11_numberNow_45 ?_
              refine I_iconst dX11_numberNow_46 ?_
              refine Q_callV dX11_numberNow_47 kX11_requires lX11_94 (by assumption) rfl (p_req0 hM h11) rfl rfl (Nat.le_of_ble_eq_true rfl) (Nat.le_of_ble_eq_true rfl) (by decide) (by decide) ?_
              refine T_aload_n dX11_numberNow_50 rfl rfl ?_
              refine P_geti dX11_numberNow_51 fX11_60 (by assumption) rfl ?_
              rw [errS_11]
              refine I_if_ne (tgt := 64) dX11_numberNow_54 (by decide) ⟨by omega, by omega⟩ (fun h54 => ?_) (fun h54 => ?_)
              · refine I_iconst dX11_numberNow_64 ?_
                exact I_ireturn dX11_numberNow_65 rfl ⟨_, _, rfl, rfl, rfl, rfl⟩
              · omega
            · omega
  · have hv : numM t most = .error (2, t.2.1) := by unfold numM; rw [if_neg h2]
    rw [hv]
    rw [show LE mX11_numberNow [.ref 453, IV most] = [some (.ref 453), some (IV most)] from rfl]
    refine T_aload_n dX11_numberNow_0 rfl rfl ?_
    refine P_geti dX11_numberNow_1 fX11_60 (by assumption) rfl ?_
    rw [h11]
    refine I_if_ne (tgt := 25) dX11_numberNow_4 (by decide) ⟨by omega, by omega⟩ (fun h4 => ?_) (fun h4 => ?_)
    · omega
    · refine T_aload_n dX11_numberNow_7 rfl rfl ?_
      refine T_aload_n dX11_numberNow_8 rfl rfl ?_
      refine P_geti dX11_numberNow_9 fX11_69 (by assumption) rfl ?_
      rw [k9]
      refine I_iconst dX11_numberNow_12 ?_
      refine I_icmp_ne (tgt := 20) dX11_numberNow_13 (by decide) rt ⟨by omega, by omega⟩ (fun h13 => ?_) (fun h13 => ?_)
      · refine I_iconst dX11_numberNow_20 ?_
        refine I_iconst dX11_numberNow_21 ?_
        refine Q_callV dX11_numberNow_22 kX11_requires lX11_94 (by assumption) rfl (p_req0 hM h11) rfl rfl (Nat.le_of_ble_eq_true rfl) (Nat.le_of_ble_eq_true rfl) (by decide) (by decide) ?_
        refine T_aload_n dX11_numberNow_25 rfl rfl ?_
        refine P_geti dX11_numberNow_26 fX11_60 (by assumption) rfl ?_
        rw [errS_11]
        refine I_if_ne (tgt := 50) dX11_numberNow_29 (by decide) ⟨by omega, by omega⟩ (fun h29 => ?_) (fun h29 => ?_)
        · refine T_aload_n dX11_numberNow_50 rfl rfl ?_
          refine P_geti dX11_numberNow_51 fX11_60 (by assumption) rfl ?_
          rw [errS_11]
          refine I_if_ne (tgt := 64) dX11_numberNow_54 (by decide) ⟨by omega, by omega⟩ (fun h54 => ?_) (fun h54 => ?_)
          · refine I_iconst dX11_numberNow_64 ?_
            exact I_ireturn dX11_numberNow_65 rfl ⟨_, _, rfl, rfl, rfl, rfl⟩
          · omega
        · omega
      · omega
theorem f_rnum {most : Int} (hM : MoAt K) (hr : AllR S) (h : 0 < fI S 453 11) : P G 2 0 0 mX11_readNumber 0 (LE mX11_readNumber [.ref 453, IV most]) [] K S (Ret K (some (IV 0)) S) := by
  have m0 := hM.1
  rw [show LE mX11_readNumber [.ref 453, IV most] = [some (.ref 453), some (IV most), none] from rfl]
  refine T_aload_n dX11_readNumber_0 rfl rfl ?_
  refine T_iload_n dX11_readNumber_1 rfl ?_
  refine Q_callV dX11_readNumber_2 kX11_numberNow lX11_98 (by assumption) rfl (f_num hM hr h) rfl rfl (Nat.le_of_ble_eq_true rfl) (Nat.le_of_ble_eq_true rfl) (by decide) (by decide) ?_
  refine T_istore_n dX11_readNumber_5 (by decide) rfl ?_
  refine T_aload_n dX11_readNumber_6 rfl rfl ?_
  refine Q_callV dX11_readNumber_7 kX11_reads lX11_101 (by assumption) rfl (f_reads hM hr h) rfl rfl (Nat.le_of_ble_eq_true rfl) (Nat.le_of_ble_eq_true rfl) (by decide) (by decide) ?_
  refine T_iload_n dX11_readNumber_10 rfl ?_
  exact I_ireturn dX11_readNumber_11 rfl ⟨_, _, rfl, rfl, rfl, rfl⟩
def NRQ (K : List SH) (S : SV) (X : Except ER Int) (Y : Except ER TK) : Option Value → List SH → SV → Prop := fun rv K' S' => K' = K ∧ Fq S S' ∧ match X with
  | .error e => rv = some (IV 0) ∧ fI S' 453 11 = e.1 ∧ fI S' 453 12 = e.2 ∧ 0 < e.1
  | .ok v => rv = some (IV v) ∧ rdR S' Y
theorem p_rnum {most : Int} (hM : MoAt K) (hr : AllR S) (hT : tpOk S tp n) (h11 : fI S 453 11 = 0) (hk : TkS S t) (hb : TkB n t) (hm : R32 most) : P G 2 0 0 mX11_readNumber 0 (LE mX11_readNumber [.ref 453, IV most]) [] K S (NRQ K S (numM t most) (tkM tp n t.2.2.1)) := by
  have m0 := hM.1
  have c := p_num (G := G) (most := most) hM hr h11 hk hb hm
  have hb1 := hb.1
  cases hX : numM t most with
  | error e =>
    rw [hX] at c
    obtain ⟨g1, g2⟩ := numM_er hX
    have hF := errS_q (c := e.1) hr (by rcases g1 with z | z <;> rw [z] <;> decide)
    have e11 : 0 < fI (errS S e.1) 453 11 := by rw [errS_11]; omega
    rw [show LE mX11_readNumber [.ref 453, IV most] = [some (.ref 453), some (IV most), none] from rfl]
    refine T_aload_n dX11_readNumber_0 rfl rfl ?_
    refine T_iload_n dX11_readNumber_1 rfl ?_
    refine Q_callV dX11_readNumber_2 kX11_numberNow lX11_98 (by assumption) rfl c rfl rfl (Nat.le_of_ble_eq_true rfl) (Nat.le_of_ble_eq_true rfl) (by decide) (by decide) ?_
    refine T_istore_n dX11_readNumber_5 (by decide) rfl ?_
    refine T_aload_n dX11_readNumber_6 rfl rfl ?_
    refine Q_callV dX11_readNumber_7 kX11_reads lX11_101 (by assumption) rfl (f_reads hM hF.1 e11) rfl rfl (Nat.le_of_ble_eq_true rfl) (Nat.le_of_ble_eq_true rfl) (by decide) (by decide) ?_
    refine T_iload_n dX11_readNumber_10 rfl ?_
    exact I_ireturn dX11_readNumber_11 rfl ⟨_, _, rfl, rfl, hF, rfl, errS_11, by rw [errS_12, g2]; exact hk.2.1, by omega⟩
  | ok v =>
    rw [hX] at c
    rw [show LE mX11_readNumber [.ref 453, IV most] = [some (.ref 453), some (IV most), none] from rfl]
    refine T_aload_n dX11_readNumber_0 rfl rfl ?_
    refine T_iload_n dX11_readNumber_1 rfl ?_
    refine Q_callV dX11_readNumber_2 kX11_numberNow lX11_98 (by assumption) rfl c rfl rfl (Nat.le_of_ble_eq_true rfl) (Nat.le_of_ble_eq_true rfl) (by decide) (by decide) ?_
    refine T_istore_n dX11_readNumber_5 (by decide) rfl ?_
    refine T_aload_n dX11_readNumber_6 rfl rfl ?_
    refine R_callV dX11_readNumber_7 kX11_reads lX11_101 (by assumption) rfl (p_reads hM hr hT h11 hk.2.2.1 ⟨by omega, by omega⟩) rfl rfl (Nat.le_of_ble_eq_true rfl) (Nat.le_of_ble_eq_true rfl) (by decide) (by decide) (fun r_ K_ S_ q_ => ?_)
    obtain ⟨rfl, hKe, hq⟩ := q_
    have hKe := hKe.symm
    subst hKe
    refine T_iload_n dX11_readNumber_10 rfl ?_
    exact I_ireturn dX11_readNumber_11 rfl ⟨_, _, rfl, rfl, hq.1, rfl, hq.2⟩
theorem f_addr (hM : MoAt K) (hr : AllR S) (h : 0 < fI S 453 11) : P G 3 0 0 mX11_addressNow 0 (LE mX11_addressNow [.ref 453]) [] K S (Ret K (some (IV 0)) S) := by
  have m0 := hM.1
  rw [show LE mX11_addressNow [.ref 453] = [some (.ref 453), none] from rfl]
  refine T_aload_n dX11_addressNow_0 rfl rfl ?_
  refine I_iconst dX11_addressNow_1 ?_
  refine Q_callV dX11_addressNow_2 kX11_readNumber lX11_108 (by assumption) rfl (f_rnum hM hr h) rfl rfl (Nat.le_of_ble_eq_true rfl) (Nat.le_of_ble_eq_true rfl) (by decide) (by decide) ?_
  refine T_istore_n dX11_addressNow_5 (by decide) rfl ?_
  refine I_bipush dX11_addressNow_6 (by decide) ?_
  refine T_iload_n dX11_addressNow_8 rfl ?_
  refine I_imul dX11_addressNow_9 ?_
  refine T_aload_n dX11_addressNow_10 rfl rfl ?_
  refine I_bipush dX11_addressNow_11 (by decide) ?_
  refine Q_callV dX11_addressNow_13 kX11_numberNow lX11_98 (by assumption) rfl (f_num hM hr h) rfl rfl (Nat.le_of_ble_eq_true rfl) (Nat.le_of_ble_eq_true rfl) (by decide) (by decide) ?_
  refine I_iadd dX11_addressNow_16 ?_
  exact I_ireturn dX11_addressNow_17 rfl ⟨_, _, rfl, rfl, rfl, rfl⟩
def ADQ (K : List SH) (S : SV) (X : Except ER (Int × TK)) : Option Value → List SH → SV → Prop := fun rv K' S' => K' = K ∧ Fq S S' ∧ match X with
  | .error e => (∃ z, rv = some (IV z) ∧ 0 ≤ z ∧ z < 32) ∧ fI S' 453 11 = e.1 ∧ fI S' 453 12 = e.2 ∧ 0 < e.1
  | .ok q => rv = some (IV q.1) ∧ fI S' 453 11 = 0 ∧ TkS S' q.2
theorem p_addr (hM : MoAt K) (hr : AllR S) (hT : tpOk S tp n) (h11 : fI S 453 11 = 0) (hk : TkS S t) (hb : TkB n t) : P G 3 0 0 mX11_addressNow 0 (LE mX11_addressNow [.ref 453]) [] K S (ADQ K S (addrM tp n t)) := by
  have m0 := hM.1
  have hb1 := hb.1
  have c := p_rnum (G := G) (most := 3) hM hr hT h11 hk hb (by decide)
  unfold addrM
  cases hX : numM t 3 with
  | error e =>
    rw [hX] at c
    show P G 3 0 0 mX11_addressNow 0 (LE mX11_addressNow [.ref 453]) [] K S (ADQ K S (.error e))
    rw [show LE mX11_addressNow [.ref 453] = [some (.ref 453), none] from rfl]
    refine T_aload_n dX11_addressNow_0 rfl rfl ?_
    refine I_iconst dX11_addressNow_1 ?_
    refine R_callV dX11_addressNow_2 kX11_readNumber lX11_108 (by assumption) rfl c rfl rfl (Nat.le_of_ble_eq_true rfl) (Nat.le_of_ble_eq_true rfl) (by decide) (by decide) (fun r_ K_ S_ q_ => ?_)
    obtain ⟨hKe, hF, rfl, q11, q12, q0⟩ := q_
    have hKe := hKe.symm
    subst hKe
    refine T_istore_n dX11_addressNow_5 (by decide) rfl ?_
    refine I_bipush dX11_addressNow_6 (by decide) ?_
    refine T_iload_n dX11_addressNow_8 rfl ?_
    refine I_imul dX11_addressNow_9 ?_
    refine T_aload_n dX11_addressNow_10 rfl rfl ?_
    refine I_bipush dX11_addressNow_11 (by decide) ?_
    refine Q_callV dX11_addressNow_13 kX11_numberNow lX11_98 (by assumption) rfl (f_num hM hF.1 (by omega)) rfl rfl (Nat.le_of_ble_eq_true rfl) (Nat.le_of_ble_eq_true rfl) (by decide) (by decide) ?_
    refine I_iadd dX11_addressNow_16 ?_
    exact I_ireturn dX11_addressNow_17 rfl ⟨_, _, rfl, rfl, hF, ⟨_, rfl, by omega, by omega⟩, q11, q12, q0⟩
  | ok d =>
    rw [hX] at c
    obtain ⟨-, -, d0, d1⟩ := numM_b hX hb
    show P G 3 0 0 mX11_addressNow 0 (LE mX11_addressNow [.ref 453]) [] K S (ADQ K S ((tkM tp n t.2.2.1).bind fun t2 => (numM t2 7).bind fun v => .ok (8 * d + v, t2)))
    cases hY : tkM tp n t.2.2.1 with
    | error e =>
      rw [hY] at c
      show P G 3 0 0 mX11_addressNow 0 (LE mX11_addressNow [.ref 453]) [] K S (ADQ K S (.error e))
      rw [show LE mX11_addressNow [.ref 453] = [some (.ref 453), none] from rfl]
      refine T_aload_n dX11_addressNow_0 rfl rfl ?_
      refine I_iconst dX11_addressNow_1 ?_
      refine R_callV dX11_addressNow_2 kX11_readNumber lX11_108 (by assumption) rfl c rfl rfl (Nat.le_of_ble_eq_true rfl) (Nat.le_of_ble_eq_true rfl) (by decide) (by decide) (fun r_ K_ S_ q_ => ?_)
      obtain ⟨hKe, hF, rfl, q11, q12, q0⟩ := q_
      have hKe := hKe.symm
      subst hKe
      refine T_istore_n dX11_addressNow_5 (by decide) rfl ?_
      refine I_bipush dX11_addressNow_6 (by decide) ?_
      refine T_iload_n dX11_addressNow_8 rfl ?_
      refine I_imul dX11_addressNow_9 ?_
      refine T_aload_n dX11_addressNow_10 rfl rfl ?_
      refine I_bipush dX11_addressNow_11 (by decide) ?_
      refine Q_callV dX11_addressNow_13 kX11_numberNow lX11_98 (by assumption) rfl (f_num hM hF.1 (by omega)) rfl rfl (Nat.le_of_ble_eq_true rfl) (Nat.le_of_ble_eq_true rfl) (by decide) (by decide) ?_
      refine I_iadd dX11_addressNow_16 ?_
      exact I_ireturn dX11_addressNow_17 rfl ⟨_, _, rfl, rfl, hF, ⟨_, rfl, by omega, by omega⟩, q11, q12, q0⟩
    | ok t2 =>
      rw [hY] at c
      have hb2 := (tkM_b ⟨by omega, by omega⟩ hY).1
      show P G 3 0 0 mX11_addressNow 0 (LE mX11_addressNow [.ref 453]) [] K S (ADQ K S ((numM t2 7).bind fun v => .ok (8 * d + v, t2)))
      rw [show LE mX11_addressNow [.ref 453] = [some (.ref 453), none] from rfl]
      refine T_aload_n dX11_addressNow_0 rfl rfl ?_
      refine I_iconst dX11_addressNow_1 ?_
      refine R_callV dX11_addressNow_2 kX11_readNumber lX11_108 (by assumption) rfl c rfl rfl (Nat.le_of_ble_eq_true rfl) (Nat.le_of_ble_eq_true rfl) (by decide) (by decide) (fun r_ K_ S_ q_ => ?_)
      obtain ⟨hKe, hF, rfl, q11, hk2⟩ := q_
      have hKe := hKe.symm
      subst hKe
      have c2 := p_num (G := G) (most := 7) hM hF.1 q11 hk2 hb2 (by decide)
      refine T_istore_n dX11_addressNow_5 (by decide) rfl ?_
      cases hZ : numM t2 7 with
      | error e =>
        rw [hZ] at c2
        obtain ⟨g1, g2⟩ := numM_er hZ
        have hF2 := errS_q (c := e.1) hF.1 (by rcases g1 with z | z <;> rw [z] <;> decide)
        refine I_bipush dX11_addressNow_6 (by decide) ?_
        refine T_iload_n dX11_addressNow_8 rfl ?_
        refine I_imul dX11_addressNow_9 ?_
        refine T_aload_n dX11_addressNow_10 rfl rfl ?_
        refine I_bipush dX11_addressNow_11 (by decide) ?_
        refine Q_callV dX11_addressNow_13 kX11_numberNow lX11_98 (by assumption) rfl c2 rfl rfl (Nat.le_of_ble_eq_true rfl) (Nat.le_of_ble_eq_true rfl) (by decide) (by decide) ?_
        refine I_iadd dX11_addressNow_16 ?_
        exact I_ireturn dX11_addressNow_17 rfl ⟨_, _, rfl, rfl, hF.tr hF2, ⟨_, rfl, by omega, by omega⟩, errS_11, by rw [errS_12, g2]; exact hk2.2.1, by omega⟩
      | ok v =>
        rw [hZ] at c2
        refine I_bipush dX11_addressNow_6 (by decide) ?_
        refine T_iload_n dX11_addressNow_8 rfl ?_
        refine I_imul dX11_addressNow_9 ?_
        refine T_aload_n dX11_addressNow_10 rfl rfl ?_
        refine I_bipush dX11_addressNow_11 (by decide) ?_
        refine Q_callV dX11_addressNow_13 kX11_numberNow lX11_98 (by assumption) rfl c2 rfl rfl (Nat.le_of_ble_eq_true rfl) (Nat.le_of_ble_eq_true rfl) (by decide) (by decide) ?_
        refine I_iadd dX11_addressNow_16 ?_
        exact I_ireturn dX11_addressNow_17 rfl ⟨_, _, rfl, rfl, hF, rfl, q11, hk2⟩
end RPC
