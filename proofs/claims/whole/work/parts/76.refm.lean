/-! the reference: more of what only looks -/
section RL2
variable {G : GT} {K : List SH} {S : SV} {M : MS} {N : Int}
theorem p_R_address {a w : Int} (h : RR K S M) (ha : R32 a) (hw : R32 w) : P G 2 0 0 mX11_address 0 (LE mX11_address [.ref 453, IV a, IV w]) [] K S (RQ K S (addrA M a w) M) := by
  have m0 := h.1.1.1
  have hM := h.1.1
  have hPo := h.1.2.2.1
  by_cases hb : addrB a ∧ 0 ≤ w ∧ w ≤ 3
  · have hv : addrA M a w = if w = 0 then pKd (mPl M) a else if pKd (mPl M) a = 3 ∧ w = 1 then pLc (mPl M) a else if pKd (mPl M) a = 1 then (if w = 1 then eGv (mE M) a else if eGv (mE M) a = 0 then -4 else if w = 2 then (eWn (mE M) a).getD ((eWn (mE M) a).length - 1) 0 else eBf (mE M) a) else -4 := if_pos hb
    rw [hv]
    obtain ⟨hb0, hb1, hb2⟩ := hb
    have hk := (hPo.2.2.2.2.2 a hb0.1 hb0.2).1
    obtain ⟨b1, b2, b3, b4, b5, b6⟩ := h.1.bx hb0
    have b1' : aI S 454 (246 + 11 * a + 0) = eGv (mE M) a := by rw [Int.add_zero]; exact b1
    have hgr : R32 (eGv (mE M) a) := by rw [← b1]; exact h.1.2.1.2 _ _
    have hin : inB w 0 3 := ⟨hb1, hb2⟩
    by_cases hw0 : w = 0
    · rw [if_pos hw0]
      rw [show LE mX11_address [.ref 453, IV a, IV w] = [some (.ref 453), some (IV a), some (IV w)] from rfl]
      refine T_iload_n dX11_address_0 rfl ?_
      refine Q_callS dX11_address_1 kX11_isAddress lX11_192 (p_R_isAddress ha) rfl rfl (Nat.le_of_ble_eq_true rfl) (Nat.le_of_ble_eq_true rfl) (by decide) (by decide) ?_
      rw [b2p_t hb0]
      refine I_if_eq (tgt := 19) dX11_address_4 (by decide) ⟨by omega, by omega⟩ (fun h4 => ?_) (fun h4 => ?_)
      · cases h4
      · refine T_iload_n dX11_address_7 rfl ?_
        refine I_i2l dX11_address_8 hw ?_
        refine I_lconst dX11_address_9 ?_
        refine I_ldc2 (n := 3) dX11_address_10 qX11_195 rfl ?_
        refine Q_callS dX11_address_13 kX11_in lX11_52 (p_in (lo := 0) ⟨by omega, by omega⟩ (by decide) (by decide)) rfl rfl (Nat.le_of_ble_eq_true rfl) (Nat.le_of_ble_eq_true rfl) (by decide) (by decide) ?_
        rw [b2p_t hin]
        refine I_if_ne (tgt := 21) dX11_address_16 (by decide) ⟨by omega, by omega⟩ (fun h16 => ?_) (fun h16 => ?_)
        · refine T_iload_n dX11_address_21 rfl ?_
          refine I_if_ne (tgt := 31) dX11_address_22 (by decide) hw (fun h22 => ?_) (fun h22 => ?_)
          · omega
          · refine T_aload_n dX11_address_25 rfl rfl ?_
            refine T_iload_n dX11_address_26 rfl ?_
            refine Q_callV dX11_address_27 kX11_kindOf lX11_156 (by assumption) rfl (p_R_kindOf h.1 hb0) rfl rfl (Nat.le_of_ble_eq_true rfl) (Nat.le_of_ble_eq_true rfl) (by decide) (by decide) ?_
            exact I_ireturn dX11_address_30 rfl ⟨_, _, rfl, RQ.here h⟩
        · cases h16
    · rw [if_neg hw0]
      by_cases hx : pKd (mPl M) a = 1
      · rw [if_neg (fun z => by omega), if_pos hx]
        by_cases hw1 : w = 1
        · rw [if_pos hw1]
          rw [show LE mX11_address [.ref 453, IV a, IV w] = [some (.ref 453), some (IV a), some (IV w)] from rfl]
          refine T_iload_n dX11_address_0 rfl ?_
          refine Q_callS dX11_address_1 kX11_isAddress lX11_192 (p_R_isAddress ha) rfl rfl (Nat.le_of_ble_eq_true rfl) (Nat.le_of_ble_eq_true rfl) (by decide) (by decide) ?_
          rw [b2p_t hb0]
          refine I_if_eq (tgt := 19) dX11_address_4 (by decide) ⟨by omega, by omega⟩ (fun h4 => ?_) (fun h4 => ?_)
          · cases h4
          · refine T_iload_n dX11_address_7 rfl ?_
            refine I_i2l dX11_address_8 hw ?_
            refine I_lconst dX11_address_9 ?_
            refine I_ldc2 (n := 3) dX11_address_10 qX11_195 rfl ?_
            refine Q_callS dX11_address_13 kX11_in lX11_52 (p_in (lo := 0) ⟨by omega, by omega⟩ (by decide) (by decide)) rfl rfl (Nat.le_of_ble_eq_true rfl) (Nat.le_of_ble_eq_true rfl) (by decide) (by decide) ?_
            rw [b2p_t hin]
            refine I_if_ne (tgt := 21) dX11_address_16 (by decide) ⟨by omega, by omega⟩ (fun h16 => ?_) (fun h16 => ?_)
            · refine T_iload_n dX11_address_21 rfl ?_
              refine I_if_ne (tgt := 31) dX11_address_22 (by decide) hw (fun h22 => ?_) (fun h22 => ?_)
              · refine T_aload_n dX11_address_31 rfl rfl ?_
                refine T_iload_n dX11_address_32 rfl ?_
                refine Q_callV dX11_address_33 kX11_kindOf lX11_156 (by assumption) rfl (p_R_kindOf h.1 hb0) rfl rfl (Nat.le_of_ble_eq_true rfl) (Nat.le_of_ble_eq_true rfl) (by decide) (by decide) ?_
                refine I_iconst dX11_address_36 ?_
                refine I_icmp_eq (tgt := 65) dX11_address_37 (by decide) ⟨by omega, by omega⟩ ⟨by omega, by omega⟩ (fun h37 => ?_) (fun h37 => ?_)
                · refine T_iload_n dX11_address_65 rfl ?_
                  refine I_iconst dX11_address_66 ?_
                  refine I_icmp_ne (tgt := 77) dX11_address_67 (by decide) hw ⟨by omega, by omega⟩ (fun h67 => ?_) (fun h67 => ?_)
                  · omega
                  · refine T_aload_n dX11_address_70 rfl rfl ?_
                    refine T_iload_n dX11_address_71 rfl ?_
                    refine I_iconst dX11_address_72 ?_
                    refine Q_callV dX11_address_73 kX11_ofBox lX11_200 (by assumption) rfl (p_R_ofBox hM hb0 ⟨by omega, by omega⟩ b1') rfl rfl (Nat.le_of_ble_eq_true rfl) (Nat.le_of_ble_eq_true rfl) (by decide) (by decide) ?_
                    exact I_ireturn dX11_address_76 rfl ⟨_, _, rfl, RQ.here h⟩
                · omega
              · omega
            · cases h16
        · rw [if_neg hw1]
          by_cases hg : eGv (mE M) a = 0
          · rw [if_pos hg]
            rw [show LE mX11_address [.ref 453, IV a, IV w] = [some (.ref 453), some (IV a), some (IV w)] from rfl]
            refine T_iload_n dX11_address_0 rfl ?_
            refine Q_callS dX11_address_1 kX11_isAddress lX11_192 (p_R_isAddress ha) rfl rfl (Nat.le_of_ble_eq_true rfl) (Nat.le_of_ble_eq_true rfl) (by decide) (by decide) ?_
            rw [b2p_t hb0]
            refine I_if_eq (tgt := 19) dX11_address_4 (by decide) ⟨by omega, by omega⟩ (fun h4 => ?_) (fun h4 => ?_)
            · cases h4
            · refine T_iload_n dX11_address_7 rfl ?_
              refine I_i2l dX11_address_8 hw ?_
              refine I_lconst dX11_address_9 ?_
              refine I_ldc2 (n := 3) dX11_address_10 qX11_195 rfl ?_
              refine Q_callS dX11_address_13 kX11_in lX11_52 (p_in (lo := 0) ⟨by omega, by omega⟩ (by decide) (by decide)) rfl rfl (Nat.le_of_ble_eq_true rfl) (Nat.le_of_ble_eq_true rfl) (by decide) (by decide) ?_
              rw [b2p_t hin]
              refine I_if_ne (tgt := 21) dX11_address_16 (by decide) ⟨by omega, by omega⟩ (fun h16 => ?_) (fun h16 => ?_)
              · refine T_iload_n dX11_address_21 rfl ?_
                refine I_if_ne (tgt := 31) dX11_address_22 (by decide) hw (fun h22 => ?_) (fun h22 => ?_)
                · refine T_aload_n dX11_address_31 rfl rfl ?_
                  refine T_iload_n dX11_address_32 rfl ?_
                  refine Q_callV dX11_address_33 kX11_kindOf lX11_156 (by assumption) rfl (p_R_kindOf h.1 hb0) rfl rfl (Nat.le_of_ble_eq_true rfl) (Nat.le_of_ble_eq_true rfl) (by decide) (by decide) ?_
                  refine I_iconst dX11_address_36 ?_
                  refine I_icmp_eq (tgt := 65) dX11_address_37 (by decide) ⟨by omega, by omega⟩ ⟨by omega, by omega⟩ (fun h37 => ?_) (fun h37 => ?_)
                  · refine T_iload_n dX11_address_65 rfl ?_
                    refine I_iconst dX11_address_66 ?_
                    refine I_icmp_ne (tgt := 77) dX11_address_67 (by decide) hw ⟨by omega, by omega⟩ (fun h67 => ?_) (fun h67 => ?_)
                    · refine T_aload_n dX11_address_77 rfl rfl ?_
                      refine T_iload_n dX11_address_78 rfl ?_
                      refine I_iconst dX11_address_79 ?_
                      refine Q_callV dX11_address_80 kX11_ofBox lX11_200 (by assumption) rfl (p_R_ofBox hM hb0 ⟨by omega, by omega⟩ b1') rfl rfl (Nat.le_of_ble_eq_true rfl) (Nat.le_of_ble_eq_true rfl) (by decide) (by decide) ?_
                      refine I_if_ne (tgt := 91) dX11_address_83 (by decide) ⟨by omega, by omega⟩ (fun h83 => ?_) (fun h83 => ?_)
                      · omega
                      · refine I_bipush dX11_address_86 (by decide) ?_
                        refine T_goto (tgt := 118) dX11_address_88 (by decide) ?_
                        exact I_ireturn dX11_address_118 rfl ⟨_, _, rfl, RQ.here h⟩
                    · omega
                  · omega
                · omega
              · cases h16
          · rw [if_neg hg]
            have hlen : 0 < (eWn (mE M) a).length := by
              have b52 := b5.2
              by_cases g8 : eGv (mE M) a < 8
              · rw [if_pos g8] at b52; omega
              · rw [if_neg g8] at b52; omega
            have x6 := b6 ((eWn (mE M) a).length - 1) ((eWn (mE M) a).getD ((eWn (mE M) a).length - 1) 0) (by
              rw [List.getD_eq_getElem?_getD, List.getElem?_eq_getElem (by omega)]
              rfl)
            have x7 : aI S 454 (246 + 11 * a + (2 + ((eWn (mE M) a).length : Int))) = (eWn (mE M) a).getD ((eWn (mE M) a).length - 1) 0 := by
              rw [← x6]
              congr 1
              omega
            by_cases hw2 : w = 2
            · rw [if_pos hw2]
              rw [show LE mX11_address [.ref 453, IV a, IV w] = [some (.ref 453), some (IV a), some (IV w)] from rfl]
              refine T_iload_n dX11_address_0 rfl ?_
              refine Q_callS dX11_address_1 kX11_isAddress lX11_192 (p_R_isAddress ha) rfl rfl (Nat.le_of_ble_eq_true rfl) (Nat.le_of_ble_eq_true rfl) (by decide) (by decide) ?_
              rw [b2p_t hb0]
              refine I_if_eq (tgt := 19) dX11_address_4 (by decide) ⟨by omega, by omega⟩ (fun h4 => ?_) (fun h4 => ?_)
              · cases h4
              · refine T_iload_n dX11_address_7 rfl ?_
                refine I_i2l dX11_address_8 hw ?_
                refine I_lconst dX11_address_9 ?_
                refine I_ldc2 (n := 3) dX11_address_10 qX11_195 rfl ?_
                refine Q_callS dX11_address_13 kX11_in lX11_52 (p_in (lo := 0) ⟨by omega, by omega⟩ (by decide) (by decide)) rfl rfl (Nat.le_of_ble_eq_true rfl) (Nat.le_of_ble_eq_true rfl) (by decide) (by decide) ?_
                rw [b2p_t hin]
                refine I_if_ne (tgt := 21) dX11_address_16 (by decide) ⟨by omega, by omega⟩ (fun h16 => ?_) (fun h16 => ?_)
                · refine T_iload_n dX11_address_21 rfl ?_
                  refine I_if_ne (tgt := 31) dX11_address_22 (by decide) hw (fun h22 => ?_) (fun h22 => ?_)
                  · refine T_aload_n dX11_address_31 rfl rfl ?_
                    refine T_iload_n dX11_address_32 rfl ?_
                    refine Q_callV dX11_address_33 kX11_kindOf lX11_156 (by assumption) rfl (p_R_kindOf h.1 hb0) rfl rfl (Nat.le_of_ble_eq_true rfl) (Nat.le_of_ble_eq_true rfl) (by decide) (by decide) ?_
                    refine I_iconst dX11_address_36 ?_
                    refine I_icmp_eq (tgt := 65) dX11_address_37 (by decide) ⟨by omega, by omega⟩ ⟨by omega, by omega⟩ (fun h37 => ?_) (fun h37 => ?_)
                    · refine T_iload_n dX11_address_65 rfl ?_
                      refine I_iconst dX11_address_66 ?_
                      refine I_icmp_ne (tgt := 77) dX11_address_67 (by decide) hw ⟨by omega, by omega⟩ (fun h67 => ?_) (fun h67 => ?_)
                      · refine T_aload_n dX11_address_77 rfl rfl ?_
                        refine T_iload_n dX11_address_78 rfl ?_
                        refine I_iconst dX11_address_79 ?_
                        refine Q_callV dX11_address_80 kX11_ofBox lX11_200 (by assumption) rfl (p_R_ofBox hM hb0 ⟨by omega, by omega⟩ b1') rfl rfl (Nat.le_of_ble_eq_true rfl) (Nat.le_of_ble_eq_true rfl) (by decide) (by decide) ?_
                        refine I_if_ne (tgt := 91) dX11_address_83 (by decide) hgr (fun h83 => ?_) (fun h83 => ?_)
                        · refine T_iload_n dX11_address_91 rfl ?_
                          refine I_iconst dX11_address_92 ?_
                          refine I_icmp_ne (tgt := 112) dX11_address_93 (by decide) hw ⟨by omega, by omega⟩ (fun h93 => ?_) (fun h93 => ?_)
                          · omega
                          · refine T_aload_n dX11_address_96 rfl rfl ?_
                            refine T_iload_n dX11_address_97 rfl ?_
                            refine I_iconst dX11_address_98 ?_
                            refine T_aload_n dX11_address_99 rfl rfl ?_
                            refine T_iload_n dX11_address_100 rfl ?_
                            refine I_iconst dX11_address_101 ?_
                            refine Q_callV dX11_address_102 kX11_ofBox lX11_200 (by assumption) rfl (p_R_ofBox hM hb0 ⟨by omega, by omega⟩ b3) rfl rfl (Nat.le_of_ble_eq_true rfl) (Nat.le_of_ble_eq_true rfl) (by decide) (by decide) ?_
                            refine I_iadd dX11_address_105 ?_
                            refine Q_callV dX11_address_106 kX11_ofBox lX11_200 (by assumption) rfl (p_R_ofBox hM hb0 ⟨by omega, by omega⟩ x7) rfl rfl (Nat.le_of_ble_eq_true rfl) (Nat.le_of_ble_eq_true rfl) (by decide) (by decide) ?_
                            refine T_goto (tgt := 118) dX11_address_109 (by decide) ?_
                            exact I_ireturn dX11_address_118 rfl ⟨_, _, rfl, RQ.here h⟩
                        · exact absurd h83 hg
                      · omega
                    · omega
                  · omega
                · cases h16
            · rw [if_neg hw2]
              rw [show LE mX11_address [.ref 453, IV a, IV w] = [some (.ref 453), some (IV a), some (IV w)] from rfl]
              refine T_iload_n dX11_address_0 rfl ?_
              refine Q_callS dX11_address_1 kX11_isAddress lX11_192 (p_R_isAddress ha) rfl rfl (Nat.le_of_ble_eq_true rfl) (Nat.le_of_ble_eq_true rfl) (by decide) (by decide) ?_
              rw [b2p_t hb0]
              refine I_if_eq (tgt := 19) dX11_address_4 (by decide) ⟨by omega, by omega⟩ (fun h4 => ?_) (fun h4 => ?_)
              · cases h4
              · refine T_iload_n dX11_address_7 rfl ?_
                refine I_i2l dX11_address_8 hw ?_
                refine I_lconst dX11_address_9 ?_
                refine I_ldc2 (n := 3) dX11_address_10 qX11_195 rfl ?_
                refine Q_callS dX11_address_13 kX11_in lX11_52 (p_in (lo := 0) ⟨by omega, by omega⟩ (by decide) (by decide)) rfl rfl (Nat.le_of_ble_eq_true rfl) (Nat.le_of_ble_eq_true rfl) (by decide) (by decide) ?_
                rw [b2p_t hin]
                refine I_if_ne (tgt := 21) dX11_address_16 (by decide) ⟨by omega, by omega⟩ (fun h16 => ?_) (fun h16 => ?_)
                · refine T_iload_n dX11_address_21 rfl ?_
                  refine I_if_ne (tgt := 31) dX11_address_22 (by decide) hw (fun h22 => ?_) (fun h22 => ?_)
                  · refine T_aload_n dX11_address_31 rfl rfl ?_
                    refine T_iload_n dX11_address_32 rfl ?_
                    refine Q_callV dX11_address_33 kX11_kindOf lX11_156 (by assumption) rfl (p_R_kindOf h.1 hb0) rfl rfl (Nat.le_of_ble_eq_true rfl) (Nat.le_of_ble_eq_true rfl) (by decide) (by decide) ?_
                    refine I_iconst dX11_address_36 ?_
                    refine I_icmp_eq (tgt := 65) dX11_address_37 (by decide) ⟨by omega, by omega⟩ ⟨by omega, by omega⟩ (fun h37 => ?_) (fun h37 => ?_)
                    · refine T_iload_n dX11_address_65 rfl ?_
                      refine I_iconst dX11_address_66 ?_
                      refine I_icmp_ne (tgt := 77) dX11_address_67 (by decide) hw ⟨by omega, by omega⟩ (fun h67 => ?_) (fun h67 => ?_)
                      · refine T_aload_n dX11_address_77 rfl rfl ?_
                        refine T_iload_n dX11_address_78 rfl ?_
                        refine I_iconst dX11_address_79 ?_
                        refine Q_callV dX11_address_80 kX11_ofBox lX11_200 (by assumption) rfl (p_R_ofBox hM hb0 ⟨by omega, by omega⟩ b1') rfl rfl (Nat.le_of_ble_eq_true rfl) (Nat.le_of_ble_eq_true rfl) (by decide) (by decide) ?_
                        refine I_if_ne (tgt := 91) dX11_address_83 (by decide) hgr (fun h83 => ?_) (fun h83 => ?_)
                        · refine T_iload_n dX11_address_91 rfl ?_
                          refine I_iconst dX11_address_92 ?_
                          refine I_icmp_ne (tgt := 112) dX11_address_93 (by decide) hw ⟨by omega, by omega⟩ (fun h93 => ?_) (fun h93 => ?_)
                          · refine T_aload_n dX11_address_112 rfl rfl ?_
                            refine T_iload_n dX11_address_113 rfl ?_
                            refine I_iconst dX11_address_114 ?_
                            refine Q_callV dX11_address_115 kX11_ofBox lX11_200 (by assumption) rfl (p_R_ofBox hM hb0 ⟨by omega, by omega⟩ (b2 hg)) rfl rfl (Nat.le_of_ble_eq_true rfl) (Nat.le_of_ble_eq_true rfl) (by decide) (by decide) ?_
                            exact I_ireturn dX11_address_118 rfl ⟨_, _, rfl, RQ.here h⟩
                          · omega
                        · exact absurd h83 hg
                      · omega
                    · omega
                  · omega
                · cases h16
      · by_cases hl : pKd (mPl M) a = 3 ∧ w = 1
        · rw [if_pos hl]
          obtain ⟨hl1, hl2⟩ := hl
          rw [show LE mX11_address [.ref 453, IV a, IV w] = [some (.ref 453), some (IV a), some (IV w)] from rfl]
          refine T_iload_n dX11_address_0 rfl ?_
          refine Q_callS dX11_address_1 kX11_isAddress lX11_192 (p_R_isAddress ha) rfl rfl (Nat.le_of_ble_eq_true rfl) (Nat.le_of_ble_eq_true rfl) (by decide) (by decide) ?_
          rw [b2p_t hb0]
          refine I_if_eq (tgt := 19) dX11_address_4 (by decide) ⟨by omega, by omega⟩ (fun h4 => ?_) (fun h4 => ?_)
          · cases h4
          · refine T_iload_n dX11_address_7 rfl ?_
            refine I_i2l dX11_address_8 hw ?_
            refine I_lconst dX11_address_9 ?_
            refine I_ldc2 (n := 3) dX11_address_10 qX11_195 rfl ?_
            refine Q_callS dX11_address_13 kX11_in lX11_52 (p_in (lo := 0) ⟨by omega, by omega⟩ (by decide) (by decide)) rfl rfl (Nat.le_of_ble_eq_true rfl) (Nat.le_of_ble_eq_true rfl) (by decide) (by decide) ?_
            rw [b2p_t hin]
            refine I_if_ne (tgt := 21) dX11_address_16 (by decide) ⟨by omega, by omega⟩ (fun h16 => ?_) (fun h16 => ?_)
            · refine T_iload_n dX11_address_21 rfl ?_
              refine I_if_ne (tgt := 31) dX11_address_22 (by decide) hw (fun h22 => ?_) (fun h22 => ?_)
              · refine T_aload_n dX11_address_31 rfl rfl ?_
                refine T_iload_n dX11_address_32 rfl ?_
                refine Q_callV dX11_address_33 kX11_kindOf lX11_156 (by assumption) rfl (p_R_kindOf h.1 hb0) rfl rfl (Nat.le_of_ble_eq_true rfl) (Nat.le_of_ble_eq_true rfl) (by decide) (by decide) ?_
                refine I_iconst dX11_address_36 ?_
                refine I_icmp_eq (tgt := 65) dX11_address_37 (by decide) ⟨by omega, by omega⟩ ⟨by omega, by omega⟩ (fun h37 => ?_) (fun h37 => ?_)
                · omega
                · refine T_iload_n dX11_address_40 rfl ?_
                  refine I_iconst dX11_address_41 ?_
                  refine I_icmp_ne (tgt := 62) dX11_address_42 (by decide) hw ⟨by omega, by omega⟩ (fun h42 => ?_) (fun h42 => ?_)
                  · omega
                  · refine T_aload_n dX11_address_45 rfl rfl ?_
                    refine T_iload_n dX11_address_46 rfl ?_
                    refine Q_callV dX11_address_47 kX11_kindOf lX11_156 (by assumption) rfl (p_R_kindOf h.1 hb0) rfl rfl (Nat.le_of_ble_eq_true rfl) (Nat.le_of_ble_eq_true rfl) (by decide) (by decide) ?_
                    refine I_iconst dX11_address_50 ?_
                    refine I_icmp_ne (tgt := 62) dX11_address_51 (by decide) ⟨by omega, by omega⟩ ⟨by omega, by omega⟩ (fun h51 => ?_) (fun h51 => ?_)
                    · omega
                    · refine T_aload_n dX11_address_54 rfl rfl ?_
                      refine T_iload_n dX11_address_55 rfl ?_
                      refine Q_callV dX11_address_56 kX11_targets lX11_197 (by assumption) rfl (p_R_targets h.1 hb0) rfl rfl (Nat.le_of_ble_eq_true rfl) (Nat.le_of_ble_eq_true rfl) (by decide) (by decide) ?_
                      refine T_goto (tgt := 64) dX11_address_59 (by decide) ?_
                      exact I_ireturn dX11_address_64 rfl ⟨_, _, rfl, RQ.here h⟩
              · omega
            · cases h16
        · rw [if_neg hl, if_neg hx]
          rw [show LE mX11_address [.ref 453, IV a, IV w] = [some (.ref 453), some (IV a), some (IV w)] from rfl]
          refine T_iload_n dX11_address_0 rfl ?_
          refine Q_callS dX11_address_1 kX11_isAddress lX11_192 (p_R_isAddress ha) rfl rfl (Nat.le_of_ble_eq_true rfl) (Nat.le_of_ble_eq_true rfl) (by decide) (by decide) ?_
          rw [b2p_t hb0]
          refine I_if_eq (tgt := 19) dX11_address_4 (by decide) ⟨by omega, by omega⟩ (fun h4 => ?_) (fun h4 => ?_)
          · cases h4
          · refine T_iload_n dX11_address_7 rfl ?_
            refine I_i2l dX11_address_8 hw ?_
            refine I_lconst dX11_address_9 ?_
            refine I_ldc2 (n := 3) dX11_address_10 qX11_195 rfl ?_
            refine Q_callS dX11_address_13 kX11_in lX11_52 (p_in (lo := 0) ⟨by omega, by omega⟩ (by decide) (by decide)) rfl rfl (Nat.le_of_ble_eq_true rfl) (Nat.le_of_ble_eq_true rfl) (by decide) (by decide) ?_
            rw [b2p_t hin]
            refine I_if_ne (tgt := 21) dX11_address_16 (by decide) ⟨by omega, by omega⟩ (fun h16 => ?_) (fun h16 => ?_)
            · refine T_iload_n dX11_address_21 rfl ?_
              refine I_if_ne (tgt := 31) dX11_address_22 (by decide) hw (fun h22 => ?_) (fun h22 => ?_)
              · refine T_aload_n dX11_address_31 rfl rfl ?_
                refine T_iload_n dX11_address_32 rfl ?_
                refine Q_callV dX11_address_33 kX11_kindOf lX11_156 (by assumption) rfl (p_R_kindOf h.1 hb0) rfl rfl (Nat.le_of_ble_eq_true rfl) (Nat.le_of_ble_eq_true rfl) (by decide) (by decide) ?_
                refine I_iconst dX11_address_36 ?_
                refine I_icmp_eq (tgt := 65) dX11_address_37 (by decide) ⟨by omega, by omega⟩ ⟨by omega, by omega⟩ (fun h37 => ?_) (fun h37 => ?_)
                · omega
                · refine T_iload_n dX11_address_40 rfl ?_
                  refine I_iconst dX11_address_41 ?_
                  refine I_icmp_ne (tgt := 62) dX11_address_42 (by decide) hw ⟨by omega, by omega⟩ (fun h42 => ?_) (fun h42 => ?_)
                  · refine I_bipush dX11_address_62 (by decide) ?_
                    exact I_ireturn dX11_address_64 rfl ⟨_, _, rfl, RQ.here h⟩
                  · refine T_aload_n dX11_address_45 rfl rfl ?_
                    refine T_iload_n dX11_address_46 rfl ?_
                    refine Q_callV dX11_address_47 kX11_kindOf lX11_156 (by assumption) rfl (p_R_kindOf h.1 hb0) rfl rfl (Nat.le_of_ble_eq_true rfl) (Nat.le_of_ble_eq_true rfl) (by decide) (by decide) ?_
                    refine I_iconst dX11_address_50 ?_
                    refine I_icmp_ne (tgt := 62) dX11_address_51 (by decide) ⟨by omega, by omega⟩ ⟨by omega, by omega⟩ (fun h51 => ?_) (fun h51 => ?_)
                    · refine I_bipush dX11_address_62 (by decide) ?_
                      exact I_ireturn dX11_address_64 rfl ⟨_, _, rfl, RQ.here h⟩
                    · exact absurd ⟨by omega, by omega⟩ hl
              · omega
            · cases h16
  · have hv : addrA M a w = -1 := if_neg hb
    rw [hv]
    by_cases hb0 : addrB a
    · have hin : ¬ inB w 0 3 := fun z => hb ⟨hb0, z⟩
      rw [show LE mX11_address [.ref 453, IV a, IV w] = [some (.ref 453), some (IV a), some (IV w)] from rfl]
      refine T_iload_n dX11_address_0 rfl ?_
      refine Q_callS dX11_address_1 kX11_isAddress lX11_192 (p_R_isAddress ha) rfl rfl (Nat.le_of_ble_eq_true rfl) (Nat.le_of_ble_eq_true rfl) (by decide) (by decide) ?_
      rw [b2p_t hb0]
      refine I_if_eq (tgt := 19) dX11_address_4 (by decide) ⟨by omega, by omega⟩ (fun h4 => ?_) (fun h4 => ?_)
      · cases h4
      · refine T_iload_n dX11_address_7 rfl ?_
        refine I_i2l dX11_address_8 hw ?_
        refine I_lconst dX11_address_9 ?_
        refine I_ldc2 (n := 3) dX11_address_10 qX11_195 rfl ?_
        refine Q_callS dX11_address_13 kX11_in lX11_52 (p_in (lo := 0) ⟨by omega, by omega⟩ (by decide) (by decide)) rfl rfl (Nat.le_of_ble_eq_true rfl) (Nat.le_of_ble_eq_true rfl) (by decide) (by decide) ?_
        rw [b2p_f hin]
        refine I_if_ne (tgt := 21) dX11_address_16 (by decide) ⟨by omega, by omega⟩ (fun h16 => ?_) (fun h16 => ?_)
        · exact absurd rfl h16
        · refine I_iconst dX11_address_19 ?_
          exact I_ireturn dX11_address_20 rfl ⟨_, _, rfl, RQ.here h⟩
    · rw [show LE mX11_address [.ref 453, IV a, IV w] = [some (.ref 453), some (IV a), some (IV w)] from rfl]
      refine T_iload_n dX11_address_0 rfl ?_
      refine Q_callS dX11_address_1 kX11_isAddress lX11_192 (p_R_isAddress ha) rfl rfl (Nat.le_of_ble_eq_true rfl) (Nat.le_of_ble_eq_true rfl) (by decide) (by decide) ?_
      rw [b2p_f hb0]
      refine I_if_eq (tgt := 19) dX11_address_4 (by decide) ⟨by omega, by omega⟩ (fun h4 => ?_) (fun h4 => ?_)
      · refine I_iconst dX11_address_19 ?_
        exact I_ireturn dX11_address_20 rfl ⟨_, _, rfl, RQ.here h⟩
      · exact absurd rfl h4
theorem p_R_leads {a i : Int} (h : RR K S M) (ha : R32 a) (hi : R32 i) : P G 2 0 0 mX11_leads 0 (LE mX11_leads [.ref 453, IV a, IV i]) [] K S (RQ K S (leadsA M a i) M) := by
  have m0 := h.1.1.1
  have hPo := h.1.2.2.1
  by_cases hb : addrB a ∧ 0 ≤ i
  · have hv : leadsA M a i = if i < pLc (mPl M) a then pLd (mPl M) a i else -4 := if_pos hb
    rw [hv]
    obtain ⟨hb0, hb1⟩ := hb
    have hk := (hPo.2.2.2.2.2 a hb0.1 hb0.2).2.1
    by_cases hl : i < pLc (mPl M) a
    · rw [if_pos hl]
      rw [show LE mX11_leads [.ref 453, IV a, IV i] = [some (.ref 453), some (IV a), some (IV i)] from rfl]
      refine T_iload_n dX11_leads_0 rfl ?_
      refine Q_callS dX11_leads_1 kX11_isAddress lX11_192 (p_R_isAddress ha) rfl rfl (Nat.le_of_ble_eq_true rfl) (Nat.le_of_ble_eq_true rfl) (by decide) (by decide) ?_
      rw [b2p_t hb0]
      refine I_if_eq (tgt := 11) dX11_leads_4 (by decide) ⟨by omega, by omega⟩ (fun h4 => ?_) (fun h4 => ?_)
      · cases h4
      · refine T_iload_n dX11_leads_7 rfl ?_
        refine I_if_ge (tgt := 13) dX11_leads_8 (by decide) hi (fun h8 => ?_) (fun h8 => ?_)
        · refine T_iload_n dX11_leads_13 rfl ?_
          refine T_aload_n dX11_leads_14 rfl rfl ?_
          refine T_iload_n dX11_leads_15 rfl ?_
          refine Q_callV dX11_leads_16 kX11_targets lX11_197 (by assumption) rfl (p_R_targets h.1 hb0) rfl rfl (Nat.le_of_ble_eq_true rfl) (Nat.le_of_ble_eq_true rfl) (by decide) (by decide) ?_
          refine I_icmp_ge (tgt := 31) dX11_leads_19 (by decide) hi ⟨by omega, by omega⟩ (fun h19 => ?_) (fun h19 => ?_)
          · omega
          · refine T_aload_n dX11_leads_22 rfl rfl ?_
            refine T_iload_n dX11_leads_23 rfl ?_
            refine T_iload_n dX11_leads_24 rfl ?_
            refine Q_callV dX11_leads_25 kX11_target lX11_203 (by assumption) rfl (p_R_target h.1 hb0 ⟨hb1, hl⟩) rfl rfl (Nat.le_of_ble_eq_true rfl) (Nat.le_of_ble_eq_true rfl) (by decide) (by decide) ?_
            refine T_goto (tgt := 33) dX11_leads_28 (by decide) ?_
            exact I_ireturn dX11_leads_33 rfl ⟨_, _, rfl, RQ.here h⟩
        · omega
    · rw [if_neg hl]
      rw [show LE mX11_leads [.ref 453, IV a, IV i] = [some (.ref 453), some (IV a), some (IV i)] from rfl]
      refine T_iload_n dX11_leads_0 rfl ?_
      refine Q_callS dX11_leads_1 kX11_isAddress lX11_192 (p_R_isAddress ha) rfl rfl (Nat.le_of_ble_eq_true rfl) (Nat.le_of_ble_eq_true rfl) (by decide) (by decide) ?_
      rw [b2p_t hb0]
      refine I_if_eq (tgt := 11) dX11_leads_4 (by decide) ⟨by omega, by omega⟩ (fun h4 => ?_) (fun h4 => ?_)
      · cases h4
      · refine T_iload_n dX11_leads_7 rfl ?_
        refine I_if_ge (tgt := 13) dX11_leads_8 (by decide) hi (fun h8 => ?_) (fun h8 => ?_)
        · refine T_iload_n dX11_leads_13 rfl ?_
          refine T_aload_n dX11_leads_14 rfl rfl ?_
          refine T_iload_n dX11_leads_15 rfl ?_
          refine Q_callV dX11_leads_16 kX11_targets lX11_197 (by assumption) rfl (p_R_targets h.1 hb0) rfl rfl (Nat.le_of_ble_eq_true rfl) (Nat.le_of_ble_eq_true rfl) (by decide) (by decide) ?_
          refine I_icmp_ge (tgt := 31) dX11_leads_19 (by decide) hi ⟨by omega, by omega⟩ (fun h19 => ?_) (fun h19 => ?_)
          · refine I_bipush dX11_leads_31 (by decide) ?_
            exact I_ireturn dX11_leads_33 rfl ⟨_, _, rfl, RQ.here h⟩
          · omega
        · omega
  · have hv : leadsA M a i = -1 := if_neg hb
    rw [hv]
    by_cases hb0 : addrB a
    · rw [show LE mX11_leads [.ref 453, IV a, IV i] = [some (.ref 453), some (IV a), some (IV i)] from rfl]
      refine T_iload_n dX11_leads_0 rfl ?_
      refine Q_callS dX11_leads_1 kX11_isAddress lX11_192 (p_R_isAddress ha) rfl rfl (Nat.le_of_ble_eq_true rfl) (Nat.le_of_ble_eq_true rfl) (by decide) (by decide) ?_
      rw [b2p_t hb0]
      refine I_if_eq (tgt := 11) dX11_leads_4 (by decide) ⟨by omega, by omega⟩ (fun h4 => ?_) (fun h4 => ?_)
      · cases h4
      · refine T_iload_n dX11_leads_7 rfl ?_
        refine I_if_ge (tgt := 13) dX11_leads_8 (by decide) hi (fun h8 => ?_) (fun h8 => ?_)
        · exact absurd ⟨hb0, by omega⟩ hb
        · refine I_iconst dX11_leads_11 ?_
          exact I_ireturn dX11_leads_12 rfl ⟨_, _, rfl, RQ.here h⟩
    · rw [show LE mX11_leads [.ref 453, IV a, IV i] = [some (.ref 453), some (IV a), some (IV i)] from rfl]
      refine T_iload_n dX11_leads_0 rfl ?_
      refine Q_callS dX11_leads_1 kX11_isAddress lX11_192 (p_R_isAddress ha) rfl rfl (Nat.le_of_ble_eq_true rfl) (Nat.le_of_ble_eq_true rfl) (by decide) (by decide) ?_
      rw [b2p_f hb0]
      refine I_if_eq (tgt := 11) dX11_leads_4 (by decide) ⟨by omega, by omega⟩ (fun h4 => ?_) (fun h4 => ?_)
      · refine I_iconst dX11_leads_11 ?_
        exact I_ireturn dX11_leads_12 rfl ⟨_, _, rfl, RQ.here h⟩
      · exact absurd rfl h4
theorem l_R_itemOf {pl : PL} {e : EN} {its : List Row} {x p0 : Int} (hR : RS K S pl e its) (hx : R32 x) (m : Nat) : ∀ (i : Nat) (left : Int), (its.length : Int) - i = m → R32 left → -2147483000 < left - m → P G 1 0 0 mX11_itemOf 5 [some (.ref 453), some (IV x), some (IV p0), some (IV left), some (IV i)] [] K S (Ret K (some (IV (nthF (inM its x) m i left))) S) := by
  have m0 := hR.1.1
  have m1 := hR.1.2.1
  have e4 := hR.n4
  have h60 := hR.n60
  induction m with
  | zero =>
    intro i left hm hl hl2
    refine T_iload dX11_itemOf_5 rfl ?_
    refine T_aload_n dX11_itemOf_7 rfl rfl ?_
    refine P_getr dX11_itemOf_8 fX11_7 (by assumption) rfl ?_
    refine I_iconst dX11_itemOf_11 ?_
    refine P_iald dX11_itemOf_12 (by assumption) ⟨by omega, by omega⟩ (by first | decide | omega) ?_
    rw [e4]
    refine I_icmp_ge (tgt := 43) dX11_itemOf_13 (by decide) ⟨by omega, by omega⟩ ⟨by omega, by omega⟩ (fun h13 => ?_) (fun h13 => ?_)
    · refine I_bipush dX11_itemOf_43 (by decide) ?_
      exact I_ireturn dX11_itemOf_45 rfl ⟨_, _, rfl, rfl, rfl, rfl⟩
    · omega
  | succ m ih =>
    intro i left hm hl hl2
    have hg := getD_at (l := its) (i := i) (by omega)
    have hr : R32 ((its.getD i z0R) 0) := by rw [← hR.item hg (k := 0) (by omega)]; exact hR.2.1.2 _ _
    have hd : inM its x i ↔ (its.getD i z0R) 0 = x := by unfold inM; rw [Int.toNat_natCast]
    by_cases hq : inM its x i
    · rw [nthF_t hq]
      by_cases hl0 : left = 0
      · rw [if_pos hl0]
        refine T_iload dX11_itemOf_5 rfl ?_
        refine T_aload_n dX11_itemOf_7 rfl rfl ?_
        refine P_getr dX11_itemOf_8 fX11_7 (by assumption) rfl ?_
        refine I_iconst dX11_itemOf_11 ?_
        refine P_iald dX11_itemOf_12 (by assumption) ⟨by omega, by omega⟩ (by first | decide | omega) ?_
        rw [e4]
        refine I_icmp_ge (tgt := 43) dX11_itemOf_13 (by decide) ⟨by omega, by omega⟩ ⟨by omega, by omega⟩ (fun h13 => ?_) (fun h13 => ?_)
        · omega
        · refine T_aload_n dX11_itemOf_16 rfl rfl ?_
          refine T_iload dX11_itemOf_17 rfl ?_
          refine I_iconst dX11_itemOf_19 ?_
          refine Q_callV dX11_itemOf_20 kX11_ofItem lX11_164 (by assumption) rfl (p_of0 hR hg) rfl rfl (Nat.le_of_ble_eq_true rfl) (Nat.le_of_ble_eq_true rfl) (by decide) (by decide) ?_
          refine T_iload_n dX11_itemOf_23 rfl ?_
          refine I_icmp_ne (tgt := 37) dX11_itemOf_24 (by decide) hr hx (fun h24 => ?_) (fun h24 => ?_)
          · exact absurd (hd.mp hq) h24
          · refine T_iload_n dX11_itemOf_27 rfl ?_
            refine I_if_ne (tgt := 34) dX11_itemOf_28 (by decide) hl (fun h28 => ?_) (fun h28 => ?_)
            · omega
            · refine T_iload dX11_itemOf_31 rfl ?_
              exact I_ireturn dX11_itemOf_33 rfl ⟨_, _, rfl, rfl, rfl, rfl⟩
      · rw [if_neg hl0]
        have w := ih (i + 1) (left - 1) (by omega) ⟨by omega, by omega⟩ (by omega)
        refine T_iload dX11_itemOf_5 rfl ?_
        refine T_aload_n dX11_itemOf_7 rfl rfl ?_
        refine P_getr dX11_itemOf_8 fX11_7 (by assumption) rfl ?_
        refine I_iconst dX11_itemOf_11 ?_
        refine P_iald dX11_itemOf_12 (by assumption) ⟨by omega, by omega⟩ (by first | decide | omega) ?_
        rw [e4]
        refine I_icmp_ge (tgt := 43) dX11_itemOf_13 (by decide) ⟨by omega, by omega⟩ ⟨by omega, by omega⟩ (fun h13 => ?_) (fun h13 => ?_)
        · omega
        · refine T_aload_n dX11_itemOf_16 rfl rfl ?_
          refine T_iload dX11_itemOf_17 rfl ?_
          refine I_iconst dX11_itemOf_19 ?_
          refine Q_callV dX11_itemOf_20 kX11_ofItem lX11_164 (by assumption) rfl (p_of0 hR hg) rfl rfl (Nat.le_of_ble_eq_true rfl) (Nat.le_of_ble_eq_true rfl) (by decide) (by decide) ?_
          refine T_iload_n dX11_itemOf_23 rfl ?_
          refine I_icmp_ne (tgt := 37) dX11_itemOf_24 (by decide) hr hx (fun h24 => ?_) (fun h24 => ?_)
          · exact absurd (hd.mp hq) h24
          · refine T_iload_n dX11_itemOf_27 rfl ?_
            refine I_if_ne (tgt := 34) dX11_itemOf_28 (by decide) hl (fun h28 => ?_) (fun h28 => ?_)
            · refine I_iinc dX11_itemOf_34 rfl (by decide) rfl ?_
              refine I_iinc dX11_itemOf_37 rfl (by decide) rfl ?_
              refine T_goto (tgt := 5) dX11_itemOf_40 (by decide) ?_
              exact w
            · omega
    · rw [nthF_f hq]
      have w := ih (i + 1) left (by omega) hl (by omega)
      refine T_iload dX11_itemOf_5 rfl ?_
      refine T_aload_n dX11_itemOf_7 rfl rfl ?_
      refine P_getr dX11_itemOf_8 fX11_7 (by assumption) rfl ?_
      refine I_iconst dX11_itemOf_11 ?_
      refine P_iald dX11_itemOf_12 (by assumption) ⟨by omega, by omega⟩ (by first | decide | omega) ?_
      rw [e4]
      refine I_icmp_ge (tgt := 43) dX11_itemOf_13 (by decide) ⟨by omega, by omega⟩ ⟨by omega, by omega⟩ (fun h13 => ?_) (fun h13 => ?_)
      · omega
      · refine T_aload_n dX11_itemOf_16 rfl rfl ?_
        refine T_iload dX11_itemOf_17 rfl ?_
        refine I_iconst dX11_itemOf_19 ?_
        refine Q_callV dX11_itemOf_20 kX11_ofItem lX11_164 (by assumption) rfl (p_of0 hR hg) rfl rfl (Nat.le_of_ble_eq_true rfl) (Nat.le_of_ble_eq_true rfl) (by decide) (by decide) ?_
        refine T_iload_n dX11_itemOf_23 rfl ?_
        refine I_icmp_ne (tgt := 37) dX11_itemOf_24 (by decide) hr hx (fun h24 => ?_) (fun h24 => ?_)
        · refine I_iinc dX11_itemOf_37 rfl (by decide) rfl ?_
          refine T_goto (tgt := 5) dX11_itemOf_40 (by decide) ?_
          exact w
        · exact absurd (hd.mpr h24) hq
theorem p_R_itemOf {pl : PL} {e : EN} {its : List Row} {x p0 : Int} (hR : RS K S pl e its) (hx : R32 x) (hp : 0 ≤ p0 ∧ p0 < 2147483648) : P G 1 0 0 mX11_itemOf 0 (LE mX11_itemOf [.ref 453, IV x, IV p0]) [] K S (Ret K (some (IV (nthF (inM its x) its.length 0 p0))) S) := by
  have h60 := hR.n60
  have w := l_R_itemOf (G := G) (p0 := p0) hR hx its.length 0 p0 (by omega) ⟨by omega, by omega⟩ (by omega)
  rw [show LE mX11_itemOf [.ref 453, IV x, IV p0] = [some (.ref 453), some (IV x), some (IV p0), none, none] from rfl]
  refine T_iload_n dX11_itemOf_0 rfl ?_
  refine T_istore_n dX11_itemOf_1 (by decide) rfl ?_
  refine I_iconst dX11_itemOf_2 ?_
  refine T_istore dX11_itemOf_3 (by decide) rfl ?_
  exact w
theorem l_R_marksOf {pl : PL} {e : EN} {its : List Row} {i : Nat} {x : Row} (hR : RS K S pl e its) (hi : its[i]? = some x) (m : Nat) : ∀ (a acc : Int), 0 ≤ a → 32 - a = m → P G 1 0 0 mX11_marksOf 4 [some (.ref 453), some (IV i), some (IV acc), some (IV a)] [] K S (Ret K (some (IV (acc + sumF (fun a => b2p (bitM (x 7) a)) m a))) S) := by
  have m0 := hR.1.1
  induction m with
  | zero =>
    intro a acc h0 hm
    refine T_iload_n dX11_marksOf_4 rfl ?_
    refine I_bipush dX11_marksOf_5 (by decide) ?_
    refine I_icmp_ge (tgt := 30) dX11_marksOf_7 (by decide) ⟨by omega, by omega⟩ ⟨by omega, by omega⟩ (fun h7 => ?_) (fun h7 => ?_)
    · refine T_iload_n dX11_marksOf_30 rfl ?_
      exact I_ireturn dX11_marksOf_31 rfl ⟨_, _, rfl, by show _ = some (IV (acc + 0)); rw [Int.add_zero], rfl, rfl⟩
    · omega
  | succ m ih =>
    intro a acc h0 hm
    have w := ih (a + 1) (acc + b2p (bitM (x 7) a)) (by omega) (by omega)
    rw [show acc + sumF (fun a => b2p (bitM (x 7) a)) (m + 1) a = acc + b2p (bitM (x 7) a) + sumF (fun a => b2p (bitM (x 7) a)) m (a + 1) by rw [sumF, Int.add_assoc]]
    refine T_iload_n dX11_marksOf_4 rfl ?_
    refine I_bipush dX11_marksOf_5 (by decide) ?_
    refine I_icmp_ge (tgt := 30) dX11_marksOf_7 (by decide) ⟨by omega, by omega⟩ ⟨by omega, by omega⟩ (fun h7 => ?_) (fun h7 => ?_)
    · omega
    · refine T_iload_n dX11_marksOf_10 rfl ?_
      refine T_aload_n dX11_marksOf_11 rfl rfl ?_
      refine T_iload_n dX11_marksOf_12 rfl ?_
      refine I_bipush dX11_marksOf_13 (by decide) ?_
      refine Q_callV dX11_marksOf_15 kX11_ofItem lX11_164 (by assumption) rfl (p_of7 hR hi) rfl rfl (Nat.le_of_ble_eq_true rfl) (Nat.le_of_ble_eq_true rfl) (by decide) (by decide) ?_
      refine T_iload_n dX11_marksOf_18 rfl ?_
      refine T_ishr dX11_marksOf_19 ?_
      refine I_iconst dX11_marksOf_20 ?_
      refine T_iand dX11_marksOf_21 ?_
      rw [bit_shr ⟨by omega, by omega⟩]
      refine I_iadd dX11_marksOf_22 ?_
      refine T_istore_n dX11_marksOf_23 (by decide) rfl ?_
      refine I_iinc dX11_marksOf_24 rfl (by decide) rfl ?_
      refine T_goto (tgt := 4) dX11_marksOf_27 (by decide) ?_
      exact w
theorem p_R_marksOf {pl : PL} {e : EN} {its : List Row} {i : Nat} {x : Row} (hR : RS K S pl e its) (hi : its[i]? = some x) : P G 1 0 0 mX11_marksOf 0 (LE mX11_marksOf [.ref 453, IV i]) [] K S (Ret K (some (IV (popM (x 7)))) S) := by
  have w := l_R_marksOf (G := G) hR hi 32 0 0 (by omega) (by omega)
  rw [Int.zero_add] at w
  rw [show LE mX11_marksOf [.ref 453, IV i] = [some (.ref 453), some (IV i), none, none] from rfl]
  refine I_iconst dX11_marksOf_0 ?_
  refine T_istore_n dX11_marksOf_1 (by decide) rfl ?_
  refine I_iconst dX11_marksOf_2 ?_
  refine T_istore_n dX11_marksOf_3 (by decide) rfl ?_
  exact w
theorem p_R_item {x i w : Int} (h : RR K S M) (hx : R32 x) (hi : R32 i) (hw : R32 w) : P G 2 0 0 mX11_item 0 (LE mX11_item [.ref 453, IV x, IV i, IV w]) [] K S (RQ K S (itemQ M x i w) M) := by
  have m0 := h.1.1.1
  have h60 := h.1.n60
  by_cases hb : houseB (mPl M) x ∧ 0 ≤ i ∧ 0 ≤ w ∧ w ≤ 6
  · have hv : itemQ M x i w = if nthF (inM (mIt M) x) (mIt M).length 0 i = -4 then -4 else itemA ((mIt M).getD (nthF (inM (mIt M) x) (mIt M).length 0 i).toNat z0R) w := if_pos hb
    rw [hv]
    obtain ⟨hb0, hb1, hb2, hb3⟩ := hb
    have hin : inB w 0 6 := ⟨hb2, hb3⟩
    have c := p_R_itemOf (G := G) (p0 := i) h.1 hx ⟨hb1, by omega⟩
    have hbd := nthF_b (inM (mIt M) x) (mIt M).length 0 i
    generalize nthF (inM (mIt M) x) (mIt M).length 0 i = z at c hbd ⊢
    by_cases hz4 : z = -4
    · rw [if_pos hz4]
      rw [show LE mX11_item [.ref 453, IV x, IV i, IV w] = [some (.ref 453), some (IV x), some (IV i), some (IV w), none] from rfl]
      refine T_aload_n dX11_item_0 rfl rfl ?_
      refine T_iload_n dX11_item_1 rfl ?_
      refine Q_callV dX11_item_2 kX11_isHouse lX11_177 (by assumption) rfl (p_R_isHouse h.1 hx) rfl rfl (Nat.le_of_ble_eq_true rfl) (Nat.le_of_ble_eq_true rfl) (by decide) (by decide) ?_
      rw [b2p_t hb0]
      refine I_if_eq (tgt := 24) dX11_item_5 (by decide) ⟨by omega, by omega⟩ (fun h5 => ?_) (fun h5 => ?_)
      · cases h5
      · refine T_iload_n dX11_item_8 rfl ?_
        refine I_if_lt (tgt := 24) dX11_item_9 (by decide) hi (fun h9 => ?_) (fun h9 => ?_)
        · omega
        · refine T_iload_n dX11_item_12 rfl ?_
          refine I_i2l dX11_item_13 hw ?_
          refine I_lconst dX11_item_14 ?_
          refine I_ldc2 (n := 6) dX11_item_15 qX11_276 rfl ?_
          refine Q_callS dX11_item_18 kX11_in lX11_52 (p_in (lo := 0) ⟨by omega, by omega⟩ (by decide) (by decide)) rfl rfl (Nat.le_of_ble_eq_true rfl) (Nat.le_of_ble_eq_true rfl) (by decide) (by decide) ?_
          rw [b2p_t hin]
          refine I_if_ne (tgt := 26) dX11_item_21 (by decide) ⟨by omega, by omega⟩ (fun h21 => ?_) (fun h21 => ?_)
          · refine T_aload_n dX11_item_26 rfl rfl ?_
            refine T_iload_n dX11_item_27 rfl ?_
            refine T_iload_n dX11_item_28 rfl ?_
            refine Q_callV dX11_item_29 kX11_itemOf lX11_278 (by assumption) rfl c rfl rfl (Nat.le_of_ble_eq_true rfl) (Nat.le_of_ble_eq_true rfl) (by decide) (by decide) ?_
            refine T_istore dX11_item_32 (by decide) rfl ?_
            refine T_iload dX11_item_34 rfl ?_
            refine I_bipush dX11_item_36 (by decide) ?_
            refine I_icmp_ne (tgt := 44) dX11_item_38 (by decide) ⟨by omega, by omega⟩ ⟨by omega, by omega⟩ (fun h38 => ?_) (fun h38 => ?_)
            · omega
            · refine I_bipush dX11_item_41 (by decide) ?_
              exact I_ireturn dX11_item_43 rfl ⟨_, _, rfl, RQ.here h⟩
          · cases h21
    · rw [if_neg hz4]
      obtain ⟨z1, z2, -⟩ := hbd.resolve_left hz4
      obtain ⟨n, rfl⟩ : ∃ n : Nat, z = n := ⟨z.toNat, by omega⟩
      rw [Int.toNat_natCast]
      have hg := getD_at (l := mIt M) (i := n) (by omega)
      by_cases hw6 : w = 6
      · rw [show LE mX11_item [.ref 453, IV x, IV i, IV w] = [some (.ref 453), some (IV x), some (IV i), some (IV w), none] from rfl]
        refine T_aload_n dX11_item_0 rfl rfl ?_
        refine T_iload_n dX11_item_1 rfl ?_
        refine Q_callV dX11_item_2 kX11_isHouse lX11_177 (by assumption) rfl (p_R_isHouse h.1 hx) rfl rfl (Nat.le_of_ble_eq_true rfl) (Nat.le_of_ble_eq_true rfl) (by decide) (by decide) ?_
        rw [b2p_t hb0]
        refine I_if_eq (tgt := 24) dX11_item_5 (by decide) ⟨by omega, by omega⟩ (fun h5 => ?_) (fun h5 => ?_)
        · cases h5
        · refine T_iload_n dX11_item_8 rfl ?_
          refine I_if_lt (tgt := 24) dX11_item_9 (by decide) hi (fun h9 => ?_) (fun h9 => ?_)
          · omega
          · refine T_iload_n dX11_item_12 rfl ?_
            refine I_i2l dX11_item_13 hw ?_
            refine I_lconst dX11_item_14 ?_
            refine I_ldc2 (n := 6) dX11_item_15 qX11_276 rfl ?_
            refine Q_callS dX11_item_18 kX11_in lX11_52 (p_in (lo := 0) ⟨by omega, by omega⟩ (by decide) (by decide)) rfl rfl (Nat.le_of_ble_eq_true rfl) (Nat.le_of_ble_eq_true rfl) (by decide) (by decide) ?_
            rw [b2p_t hin]
            refine I_if_ne (tgt := 26) dX11_item_21 (by decide) ⟨by omega, by omega⟩ (fun h21 => ?_) (fun h21 => ?_)
            · refine T_aload_n dX11_item_26 rfl rfl ?_
              refine T_iload_n dX11_item_27 rfl ?_
              refine T_iload_n dX11_item_28 rfl ?_
              refine Q_callV dX11_item_29 kX11_itemOf lX11_278 (by assumption) rfl c rfl rfl (Nat.le_of_ble_eq_true rfl) (Nat.le_of_ble_eq_true rfl) (by decide) (by decide) ?_
              refine T_istore dX11_item_32 (by decide) rfl ?_
              refine T_iload dX11_item_34 rfl ?_
              refine I_bipush dX11_item_36 (by decide) ?_
              refine I_icmp_ne (tgt := 44) dX11_item_38 (by decide) ⟨by omega, by omega⟩ ⟨by omega, by omega⟩ (fun h38 => ?_) (fun h38 => ?_)
              · refine T_iload_n dX11_item_44 rfl ?_
                refine I_bipush dX11_item_45 (by decide) ?_
                refine I_icmp_ne (tgt := 59) dX11_item_47 (by decide) hw ⟨by omega, by omega⟩ (fun h47 => ?_) (fun h47 => ?_)
                · omega
                · refine T_aload_n dX11_item_50 rfl rfl ?_
                  refine T_iload dX11_item_51 rfl ?_
                  refine Q_callV dX11_item_53 kX11_marksOf lX11_281 (by assumption) rfl (p_R_marksOf h.1 hg) rfl rfl (Nat.le_of_ble_eq_true rfl) (Nat.le_of_ble_eq_true rfl) (by decide) (by decide) ?_
                  refine T_goto (tgt := 68) dX11_item_56 (by decide) ?_
                  exact I_ireturn dX11_item_68 rfl ⟨_, _, rfl, RQ.eq h (by unfold itemA; rw [if_pos hw6])⟩
              · omega
            · cases h21
      · have c2 := p_R_ofItem (G := G) (k := 1 + w) h.1 hg ⟨by omega, by omega⟩
        rw [show LE mX11_item [.ref 453, IV x, IV i, IV w] = [some (.ref 453), some (IV x), some (IV i), some (IV w), none] from rfl]
        refine T_aload_n dX11_item_0 rfl rfl ?_
        refine T_iload_n dX11_item_1 rfl ?_
        refine Q_callV dX11_item_2 kX11_isHouse lX11_177 (by assumption) rfl (p_R_isHouse h.1 hx) rfl rfl (Nat.le_of_ble_eq_true rfl) (Nat.le_of_ble_eq_true rfl) (by decide) (by decide) ?_
        rw [b2p_t hb0]
        refine I_if_eq (tgt := 24) dX11_item_5 (by decide) ⟨by omega, by omega⟩ (fun h5 => ?_) (fun h5 => ?_)
        · cases h5
        · refine T_iload_n dX11_item_8 rfl ?_
          refine I_if_lt (tgt := 24) dX11_item_9 (by decide) hi (fun h9 => ?_) (fun h9 => ?_)
          · omega
          · refine T_iload_n dX11_item_12 rfl ?_
            refine I_i2l dX11_item_13 hw ?_
            refine I_lconst dX11_item_14 ?_
            refine I_ldc2 (n := 6) dX11_item_15 qX11_276 rfl ?_
            refine Q_callS dX11_item_18 kX11_in lX11_52 (p_in (lo := 0) ⟨by omega, by omega⟩ (by decide) (by decide)) rfl rfl (Nat.le_of_ble_eq_true rfl) (Nat.le_of_ble_eq_true rfl) (by decide) (by decide) ?_
            rw [b2p_t hin]
            refine I_if_ne (tgt := 26) dX11_item_21 (by decide) ⟨by omega, by omega⟩ (fun h21 => ?_) (fun h21 => ?_)
            · refine T_aload_n dX11_item_26 rfl rfl ?_
              refine T_iload_n dX11_item_27 rfl ?_
              refine T_iload_n dX11_item_28 rfl ?_
              refine Q_callV dX11_item_29 kX11_itemOf lX11_278 (by assumption) rfl c rfl rfl (Nat.le_of_ble_eq_true rfl) (Nat.le_of_ble_eq_true rfl) (by decide) (by decide) ?_
              refine T_istore dX11_item_32 (by decide) rfl ?_
              refine T_iload dX11_item_34 rfl ?_
              refine I_bipush dX11_item_36 (by decide) ?_
              refine I_icmp_ne (tgt := 44) dX11_item_38 (by decide) ⟨by omega, by omega⟩ ⟨by omega, by omega⟩ (fun h38 => ?_) (fun h38 => ?_)
              · refine T_iload_n dX11_item_44 rfl ?_
                refine I_bipush dX11_item_45 (by decide) ?_
                refine I_icmp_ne (tgt := 59) dX11_item_47 (by decide) hw ⟨by omega, by omega⟩ (fun h47 => ?_) (fun h47 => ?_)
                · refine T_aload_n dX11_item_59 rfl rfl ?_
                  refine T_iload dX11_item_60 rfl ?_
                  refine I_iconst dX11_item_62 ?_
                  refine T_iload_n dX11_item_63 rfl ?_
                  refine I_iadd dX11_item_64 ?_
                  refine Q_callV dX11_item_65 kX11_ofItem lX11_164 (by assumption) rfl c2 rfl rfl (Nat.le_of_ble_eq_true rfl) (Nat.le_of_ble_eq_true rfl) (by decide) (by decide) ?_
                  exact I_ireturn dX11_item_68 rfl ⟨_, _, rfl, RQ.eq h (by unfold itemA; rw [if_neg hw6, show (1 + w).toNat = w.toNat + 1 by omega])⟩
                · omega
              · omega
            · cases h21
  · have hv : itemQ M x i w = -1 := if_neg hb
    rw [hv]
    by_cases hb0 : houseB (mPl M) x
    · by_cases hin : inB w 0 6
      · rw [show LE mX11_item [.ref 453, IV x, IV i, IV w] = [some (.ref 453), some (IV x), some (IV i), some (IV w), none] from rfl]
        refine T_aload_n dX11_item_0 rfl rfl ?_
        refine T_iload_n dX11_item_1 rfl ?_
        refine Q_callV dX11_item_2 kX11_isHouse lX11_177 (by assumption) rfl (p_R_isHouse h.1 hx) rfl rfl (Nat.le_of_ble_eq_true rfl) (Nat.le_of_ble_eq_true rfl) (by decide) (by decide) ?_
        rw [b2p_t hb0]
        refine I_if_eq (tgt := 24) dX11_item_5 (by decide) ⟨by omega, by omega⟩ (fun h5 => ?_) (fun h5 => ?_)
        · cases h5
        · refine T_iload_n dX11_item_8 rfl ?_
          refine I_if_lt (tgt := 24) dX11_item_9 (by decide) hi (fun h9 => ?_) (fun h9 => ?_)
          · refine I_iconst dX11_item_24 ?_
            exact I_ireturn dX11_item_25 rfl ⟨_, _, rfl, RQ.here h⟩
          · exact absurd ⟨hb0, by omega, hin⟩ hb
      · rw [show LE mX11_item [.ref 453, IV x, IV i, IV w] = [some (.ref 453), some (IV x), some (IV i), some (IV w), none] from rfl]
        refine T_aload_n dX11_item_0 rfl rfl ?_
        refine T_iload_n dX11_item_1 rfl ?_
        refine Q_callV dX11_item_2 kX11_isHouse lX11_177 (by assumption) rfl (p_R_isHouse h.1 hx) rfl rfl (Nat.le_of_ble_eq_true rfl) (Nat.le_of_ble_eq_true rfl) (by decide) (by decide) ?_
        rw [b2p_t hb0]
        refine I_if_eq (tgt := 24) dX11_item_5 (by decide) ⟨by omega, by omega⟩ (fun h5 => ?_) (fun h5 => ?_)
        · cases h5
        · refine T_iload_n dX11_item_8 rfl ?_
          refine I_if_lt (tgt := 24) dX11_item_9 (by decide) hi (fun h9 => ?_) (fun h9 => ?_)
          · refine I_iconst dX11_item_24 ?_
            exact I_ireturn dX11_item_25 rfl ⟨_, _, rfl, RQ.here h⟩
          · refine T_iload_n dX11_item_12 rfl ?_
            refine I_i2l dX11_item_13 hw ?_
            refine I_lconst dX11_item_14 ?_
            refine I_ldc2 (n := 6) dX11_item_15 qX11_276 rfl ?_
            refine Q_callS dX11_item_18 kX11_in lX11_52 (p_in (lo := 0) ⟨by omega, by omega⟩ (by decide) (by decide)) rfl rfl (Nat.le_of_ble_eq_true rfl) (Nat.le_of_ble_eq_true rfl) (by decide) (by decide) ?_
            rw [b2p_f hin]
            refine I_if_ne (tgt := 26) dX11_item_21 (by decide) ⟨by omega, by omega⟩ (fun h21 => ?_) (fun h21 => ?_)
            · exact absurd rfl h21
            · refine I_iconst dX11_item_24 ?_
              exact I_ireturn dX11_item_25 rfl ⟨_, _, rfl, RQ.here h⟩
    · rw [show LE mX11_item [.ref 453, IV x, IV i, IV w] = [some (.ref 453), some (IV x), some (IV i), some (IV w), none] from rfl]
      refine T_aload_n dX11_item_0 rfl rfl ?_
      refine T_iload_n dX11_item_1 rfl ?_
      refine Q_callV dX11_item_2 kX11_isHouse lX11_177 (by assumption) rfl (p_R_isHouse h.1 hx) rfl rfl (Nat.le_of_ble_eq_true rfl) (Nat.le_of_ble_eq_true rfl) (by decide) (by decide) ?_
      rw [b2p_f hb0]
      refine I_if_eq (tgt := 24) dX11_item_5 (by decide) ⟨by omega, by omega⟩ (fun h5 => ?_) (fun h5 => ?_)
      · refine I_iconst dX11_item_24 ?_
        exact I_ireturn dX11_item_25 rfl ⟨_, _, rfl, RQ.here h⟩
      · exact absurd rfl h5
theorem p_R_asks {x d i : Int} (h : RR K S M) (hx : R32 x) (hd : R32 d) (hi : R32 i) : P G 3 0 0 mX11_asks 0 (LE mX11_asks [.ref 453, IV x, IV d, IV i]) [] K S (RQ K S (asksA M x d i) M) := by
  have m0 := h.1.1.1
  have m1 := h.1.1.2.1
  have hPo := h.1.2.2.1
  have e1 : aI S 454 1 = pDm (mPl M) := h.1.2.2.2.1.1.2
  have hb4 := hPo.2.1
  by_cases hb : houseB (mPl M) x ∧ domB (mPl M) d ∧ 0 ≤ i
  · have hv : asksA M x d i = ((asksM (mPl M) x d)[i.toNat]?).getD (-4) := if_pos hb
    rw [hv]
    obtain ⟨hb0, hb1, hb2⟩ := hb
    have hin := dom_in.mpr hb1
    have hd0 : 0 ≤ d ∧ d < 4 := ⟨hb1.1, by have := hb1.2; omega⟩
    by_cases hl : lastM (mPl M) x d
    · rw [asks_last hPo hd0 hl]
      rw [show LE mX11_asks [.ref 453, IV x, IV d, IV i] = [some (.ref 453), some (IV x), some (IV d), some (IV i)] from rfl]
      refine T_aload_n dX11_asks_0 rfl rfl ?_
      refine T_iload_n dX11_asks_1 rfl ?_
      refine Q_callV dX11_asks_2 kX11_isHouse lX11_177 (by assumption) rfl (p_R_isHouse h.1 hx) rfl rfl (Nat.le_of_ble_eq_true rfl) (Nat.le_of_ble_eq_true rfl) (by decide) (by decide) ?_
      rw [b2p_t hb0]
      refine I_if_eq (tgt := 30) dX11_asks_5 (by decide) ⟨by omega, by omega⟩ (fun h5 => ?_) (fun h5 => ?_)
      · cases h5
      · refine T_iload_n dX11_asks_8 rfl ?_
        refine I_i2l dX11_asks_9 hd ?_
        refine I_lconst dX11_asks_10 ?_
        refine T_aload_n dX11_asks_11 rfl rfl ?_
        refine P_getr dX11_asks_12 fX11_7 (by assumption) rfl ?_
        refine I_iconst dX11_asks_15 ?_
        refine P_iald dX11_asks_16 (by assumption) ⟨by omega, by omega⟩ (by first | decide | omega) ?_
        rw [e1]
        refine I_iconst dX11_asks_17 ?_
        refine I_isub dX11_asks_18 ?_
        refine I_i2l dX11_asks_19 ⟨by omega, by omega⟩ ?_
        refine Q_callS dX11_asks_20 kX11_in lX11_52 (p_in (lo := 0) ⟨by omega, by omega⟩ (by decide) ⟨by omega, by omega⟩) rfl rfl (Nat.le_of_ble_eq_true rfl) (Nat.le_of_ble_eq_true rfl) (by decide) (by decide) ?_
        rw [b2p_t hin]
        refine I_if_eq (tgt := 30) dX11_asks_23 (by decide) ⟨by omega, by omega⟩ (fun h23 => ?_) (fun h23 => ?_)
        · cases h23
        · refine T_iload_n dX11_asks_26 rfl ?_
          refine I_if_ge (tgt := 32) dX11_asks_27 (by decide) hi (fun h27 => ?_) (fun h27 => ?_)
          · refine T_aload_n dX11_asks_32 rfl rfl ?_
            refine T_iload_n dX11_asks_33 rfl ?_
            refine T_iload_n dX11_asks_34 rfl ?_
            refine Q_callV dX11_asks_35 kX11_isLast lX11_173 (by assumption) rfl (p_R_last h.1 hd0 hx) rfl rfl (Nat.le_of_ble_eq_true rfl) (Nat.le_of_ble_eq_true rfl) (by decide) (by decide) ?_
            rw [b2p_t hl]
            refine I_if_eq (tgt := 46) dX11_asks_38 (by decide) ⟨by omega, by omega⟩ (fun h38 => ?_) (fun h38 => ?_)
            · cases h38
            · refine I_bipush dX11_asks_41 (by decide) ?_
              refine T_goto (tgt := 53) dX11_asks_43 (by decide) ?_
              exact I_ireturn dX11_asks_53 rfl ⟨_, _, rfl, RQ.eq h (by rfl)⟩
          · omega
    · rw [show LE mX11_asks [.ref 453, IV x, IV d, IV i] = [some (.ref 453), some (IV x), some (IV d), some (IV i)] from rfl]
      refine T_aload_n dX11_asks_0 rfl rfl ?_
      refine T_iload_n dX11_asks_1 rfl ?_
      refine Q_callV dX11_asks_2 kX11_isHouse lX11_177 (by assumption) rfl (p_R_isHouse h.1 hx) rfl rfl (Nat.le_of_ble_eq_true rfl) (Nat.le_of_ble_eq_true rfl) (by decide) (by decide) ?_
      rw [b2p_t hb0]
      refine I_if_eq (tgt := 30) dX11_asks_5 (by decide) ⟨by omega, by omega⟩ (fun h5 => ?_) (fun h5 => ?_)
      · cases h5
      · refine T_iload_n dX11_asks_8 rfl ?_
        refine I_i2l dX11_asks_9 hd ?_
        refine I_lconst dX11_asks_10 ?_
        refine T_aload_n dX11_asks_11 rfl rfl ?_
        refine P_getr dX11_asks_12 fX11_7 (by assumption) rfl ?_
        refine I_iconst dX11_asks_15 ?_
        refine P_iald dX11_asks_16 (by assumption) ⟨by omega, by omega⟩ (by first | decide | omega) ?_
        rw [e1]
        refine I_iconst dX11_asks_17 ?_
        refine I_isub dX11_asks_18 ?_
        refine I_i2l dX11_asks_19 ⟨by omega, by omega⟩ ?_
        refine Q_callS dX11_asks_20 kX11_in lX11_52 (p_in (lo := 0) ⟨by omega, by omega⟩ (by decide) ⟨by omega, by omega⟩) rfl rfl (Nat.le_of_ble_eq_true rfl) (Nat.le_of_ble_eq_true rfl) (by decide) (by decide) ?_
        rw [b2p_t hin]
        refine I_if_eq (tgt := 30) dX11_asks_23 (by decide) ⟨by omega, by omega⟩ (fun h23 => ?_) (fun h23 => ?_)
        · cases h23
        · refine T_iload_n dX11_asks_26 rfl ?_
          refine I_if_ge (tgt := 32) dX11_asks_27 (by decide) hi (fun h27 => ?_) (fun h27 => ?_)
          · refine T_aload_n dX11_asks_32 rfl rfl ?_
            refine T_iload_n dX11_asks_33 rfl ?_
            refine T_iload_n dX11_asks_34 rfl ?_
            refine Q_callV dX11_asks_35 kX11_isLast lX11_173 (by assumption) rfl (p_R_last h.1 hd0 hx) rfl rfl (Nat.le_of_ble_eq_true rfl) (Nat.le_of_ble_eq_true rfl) (by decide) (by decide) ?_
            rw [b2p_f hl]
            refine I_if_eq (tgt := 46) dX11_asks_38 (by decide) ⟨by omega, by omega⟩ (fun h38 => ?_) (fun h38 => ?_)
            · refine T_aload_n dX11_asks_46 rfl rfl ?_
              refine T_iload_n dX11_asks_47 rfl ?_
              refine T_iload_n dX11_asks_48 rfl ?_
              refine T_iload_n dX11_asks_49 rfl ?_
              refine Q_callV dX11_asks_50 kX11_asked lX11_255 (by assumption) rfl (p_R_asked h.1 hd0 hx ⟨hb2, by omega⟩) rfl rfl (Nat.le_of_ble_eq_true rfl) (Nat.le_of_ble_eq_true rfl) (by decide) (by decide) ?_
              exact I_ireturn dX11_asks_53 rfl ⟨_, _, rfl, RQ.here h⟩
            · exact absurd rfl h38
          · omega
  · have hv : asksA M x d i = -1 := if_neg hb
    rw [hv]
    by_cases hb0 : houseB (mPl M) x
    · by_cases hb1 : domB (mPl M) d
      · have hin := dom_in.mpr hb1
        rw [show LE mX11_asks [.ref 453, IV x, IV d, IV i] = [some (.ref 453), some (IV x), some (IV d), some (IV i)] from rfl]
        refine T_aload_n dX11_asks_0 rfl rfl ?_
        refine T_iload_n dX11_asks_1 rfl ?_
        refine Q_callV dX11_asks_2 kX11_isHouse lX11_177 (by assumption) rfl (p_R_isHouse h.1 hx) rfl rfl (Nat.le_of_ble_eq_true rfl) (Nat.le_of_ble_eq_true rfl) (by decide) (by decide) ?_
        rw [b2p_t hb0]
        refine I_if_eq (tgt := 30) dX11_asks_5 (by decide) ⟨by omega, by omega⟩ (fun h5 => ?_) (fun h5 => ?_)
        · cases h5
        · refine T_iload_n dX11_asks_8 rfl ?_
          refine I_i2l dX11_asks_9 hd ?_
          refine I_lconst dX11_asks_10 ?_
          refine T_aload_n dX11_asks_11 rfl rfl ?_
          refine P_getr dX11_asks_12 fX11_7 (by assumption) rfl ?_
          refine I_iconst dX11_asks_15 ?_
          refine P_iald dX11_asks_16 (by assumption) ⟨by omega, by omega⟩ (by first | decide | omega) ?_
          rw [e1]
          refine I_iconst dX11_asks_17 ?_
          refine I_isub dX11_asks_18 ?_
          refine I_i2l dX11_asks_19 ⟨by omega, by omega⟩ ?_
          refine Q_callS dX11_asks_20 kX11_in lX11_52 (p_in (lo := 0) ⟨by omega, by omega⟩ (by decide) ⟨by omega, by omega⟩) rfl rfl (Nat.le_of_ble_eq_true rfl) (Nat.le_of_ble_eq_true rfl) (by decide) (by decide) ?_
          rw [b2p_t hin]
          refine I_if_eq (tgt := 30) dX11_asks_23 (by decide) ⟨by omega, by omega⟩ (fun h23 => ?_) (fun h23 => ?_)
          · cases h23
          · refine T_iload_n dX11_asks_26 rfl ?_
            refine I_if_ge (tgt := 32) dX11_asks_27 (by decide) hi (fun h27 => ?_) (fun h27 => ?_)
            · exact absurd ⟨hb0, hb1, by omega⟩ hb
            · refine I_iconst dX11_asks_30 ?_
              exact I_ireturn dX11_asks_31 rfl ⟨_, _, rfl, RQ.here h⟩
      · have hin : ¬ inB d 0 (pDm (mPl M) - 1) := fun z => hb1 (dom_in.mp z)
        rw [show LE mX11_asks [.ref 453, IV x, IV d, IV i] = [some (.ref 453), some (IV x), some (IV d), some (IV i)] from rfl]
        refine T_aload_n dX11_asks_0 rfl rfl ?_
        refine T_iload_n dX11_asks_1 rfl ?_
        refine Q_callV dX11_asks_2 kX11_isHouse lX11_177 (by assumption) rfl (p_R_isHouse h.1 hx) rfl rfl (Nat.le_of_ble_eq_true rfl) (Nat.le_of_ble_eq_true rfl) (by decide) (by decide) ?_
        rw [b2p_t hb0]
        refine I_if_eq (tgt := 30) dX11_asks_5 (by decide) ⟨by omega, by omega⟩ (fun h5 => ?_) (fun h5 => ?_)
        · cases h5
        · refine T_iload_n dX11_asks_8 rfl ?_
          refine I_i2l dX11_asks_9 hd ?_
          refine I_lconst dX11_asks_10 ?_
          refine T_aload_n dX11_asks_11 rfl rfl ?_
          refine P_getr dX11_asks_12 fX11_7 (by assumption) rfl ?_
          refine I_iconst dX11_asks_15 ?_
          refine P_iald dX11_asks_16 (by assumption) ⟨by omega, by omega⟩ (by first | decide | omega) ?_
          rw [e1]
          refine I_iconst dX11_asks_17 ?_
          refine I_isub dX11_asks_18 ?_
          refine I_i2l dX11_asks_19 ⟨by omega, by omega⟩ ?_
          refine Q_callS dX11_asks_20 kX11_in lX11_52 (p_in (lo := 0) ⟨by omega, by omega⟩ (by decide) ⟨by omega, by omega⟩) rfl rfl (Nat.le_of_ble_eq_true rfl) (Nat.le_of_ble_eq_true rfl) (by decide) (by decide) ?_
          rw [b2p_f hin]
          refine I_if_eq (tgt := 30) dX11_asks_23 (by decide) ⟨by omega, by omega⟩ (fun h23 => ?_) (fun h23 => ?_)
          · refine I_iconst dX11_asks_30 ?_
            exact I_ireturn dX11_asks_31 rfl ⟨_, _, rfl, RQ.here h⟩
          · exact absurd rfl h23
    · rw [show LE mX11_asks [.ref 453, IV x, IV d, IV i] = [some (.ref 453), some (IV x), some (IV d), some (IV i)] from rfl]
      refine T_aload_n dX11_asks_0 rfl rfl ?_
      refine T_iload_n dX11_asks_1 rfl ?_
      refine Q_callV dX11_asks_2 kX11_isHouse lX11_177 (by assumption) rfl (p_R_isHouse h.1 hx) rfl rfl (Nat.le_of_ble_eq_true rfl) (Nat.le_of_ble_eq_true rfl) (by decide) (by decide) ?_
      rw [b2p_f hb0]
      refine I_if_eq (tgt := 30) dX11_asks_5 (by decide) ⟨by omega, by omega⟩ (fun h5 => ?_) (fun h5 => ?_)
      · refine I_iconst dX11_asks_30 ?_
        exact I_ireturn dX11_asks_31 rfl ⟨_, _, rfl, RQ.here h⟩
      · exact absurd rfl h5
theorem p_R_stranger {x i w : Int} (h : RR K S M) (hx : R32 x) (hi : R32 i) (hw : R32 w) : P G 2 0 0 mX11_stranger 0 (LE mX11_stranger [.ref 453, IV x, IV i, IV w]) [] K S (RQ K S (strgA M x i w) M) := by
  have m0 := h.1.1.1
  have hb5 := h.1.2.2.1.1
  by_cases hb : houseB (mPl M) x ∧ 0 ≤ i ∧ 0 ≤ w ∧ w < 5
  · have hv : strgA M x i w = if i < (eSg (mE M) x).length then ((eSg (mE M) x).getD i.toNat z0R) w.toNat else -4 := if_pos hb
    rw [hv]
    obtain ⟨hb0, hb1, hb2, hb3⟩ := hb
    have hin : inB w 0 4 := ⟨hb2, by omega⟩
    have hx0 : 0 ≤ x ∧ x < 5 := ⟨hb0.1, by have := hb0.2; omega⟩
    have g2 := (h.1.sg hx0).2.1
    by_cases hl : i < (eSg (mE M) x).length
    · rw [if_pos hl]
      obtain ⟨n, rfl⟩ : ∃ n : Nat, i = n := ⟨i.toNat, by omega⟩
      rw [Int.toNat_natCast]
      have hg := getD_at (l := eSg (mE M) x) (i := n) (by omega)
      rw [show LE mX11_stranger [.ref 453, IV x, IV n, IV w] = [some (.ref 453), some (IV x), some (IV n), some (IV w)] from rfl]
      refine T_aload_n dX11_stranger_0 rfl rfl ?_
      refine T_iload_n dX11_stranger_1 rfl ?_
      refine Q_callV dX11_stranger_2 kX11_isHouse lX11_177 (by assumption) rfl (p_R_isHouse h.1 hx) rfl rfl (Nat.le_of_ble_eq_true rfl) (Nat.le_of_ble_eq_true rfl) (by decide) (by decide) ?_
      rw [b2p_t hb0]
      refine I_if_eq (tgt := 24) dX11_stranger_5 (by decide) ⟨by omega, by omega⟩ (fun h5 => ?_) (fun h5 => ?_)
      · cases h5
      · refine T_iload_n dX11_stranger_8 rfl ?_
        refine I_if_lt (tgt := 24) dX11_stranger_9 (by decide) hi (fun h9 => ?_) (fun h9 => ?_)
        · omega
        · refine T_iload_n dX11_stranger_12 rfl ?_
          refine I_i2l dX11_stranger_13 hw ?_
          refine I_lconst dX11_stranger_14 ?_
          refine I_ldc2 (n := 4) dX11_stranger_15 qX11_284 rfl ?_
          refine Q_callS dX11_stranger_18 kX11_in lX11_52 (p_in (lo := 0) ⟨by omega, by omega⟩ (by decide) (by decide)) rfl rfl (Nat.le_of_ble_eq_true rfl) (Nat.le_of_ble_eq_true rfl) (by decide) (by decide) ?_
          rw [b2p_t hin]
          refine I_if_ne (tgt := 26) dX11_stranger_21 (by decide) ⟨by omega, by omega⟩ (fun h21 => ?_) (fun h21 => ?_)
          · refine T_iload_n dX11_stranger_26 rfl ?_
            refine T_aload_n dX11_stranger_27 rfl rfl ?_
            refine T_iload_n dX11_stranger_28 rfl ?_
            refine Q_callV dX11_stranger_29 kX11_known lX11_167 (by assumption) rfl (p_R_known h.1 hx0) rfl rfl (Nat.le_of_ble_eq_true rfl) (Nat.le_of_ble_eq_true rfl) (by decide) (by decide) ?_
            refine I_icmp_ge (tgt := 45) dX11_stranger_32 (by decide) ⟨by omega, by omega⟩ ⟨by omega, by omega⟩ (fun h32 => ?_) (fun h32 => ?_)
            · omega
            · refine T_aload_n dX11_stranger_35 rfl rfl ?_
              refine T_iload_n dX11_stranger_36 rfl ?_
              refine T_iload_n dX11_stranger_37 rfl ?_
              refine T_iload_n dX11_stranger_38 rfl ?_
              refine Q_callV dX11_stranger_39 kX11_ofStranger lX11_170 (by assumption) rfl (p_R_ofStranger h.1 hx0 hg ⟨hb2, hb3⟩) rfl rfl (Nat.le_of_ble_eq_true rfl) (Nat.le_of_ble_eq_true rfl) (by decide) (by decide) ?_
              refine T_goto (tgt := 47) dX11_stranger_42 (by decide) ?_
              exact I_ireturn dX11_stranger_47 rfl ⟨_, _, rfl, RQ.here h⟩
          · cases h21
    · rw [if_neg hl]
      rw [show LE mX11_stranger [.ref 453, IV x, IV i, IV w] = [some (.ref 453), some (IV x), some (IV i), some (IV w)] from rfl]
      refine T_aload_n dX11_stranger_0 rfl rfl ?_
      refine T_iload_n dX11_stranger_1 rfl ?_
      refine Q_callV dX11_stranger_2 kX11_isHouse lX11_177 (by assumption) rfl (p_R_isHouse h.1 hx) rfl rfl (Nat.le_of_ble_eq_true rfl) (Nat.le_of_ble_eq_true rfl) (by decide) (by decide) ?_
      rw [b2p_t hb0]
      refine I_if_eq (tgt := 24) dX11_stranger_5 (by decide) ⟨by omega, by omega⟩ (fun h5 => ?_) (fun h5 => ?_)
      · cases h5
      · refine T_iload_n dX11_stranger_8 rfl ?_
        refine I_if_lt (tgt := 24) dX11_stranger_9 (by decide) hi (fun h9 => ?_) (fun h9 => ?_)
        · omega
        · refine T_iload_n dX11_stranger_12 rfl ?_
          refine I_i2l dX11_stranger_13 hw ?_
          refine I_lconst dX11_stranger_14 ?_
          refine I_ldc2 (n := 4) dX11_stranger_15 qX11_284 rfl ?_
          refine Q_callS dX11_stranger_18 kX11_in lX11_52 (p_in (lo := 0) ⟨by omega, by omega⟩ (by decide) (by decide)) rfl rfl (Nat.le_of_ble_eq_true rfl) (Nat.le_of_ble_eq_true rfl) (by decide) (by decide) ?_
          rw [b2p_t hin]
          refine I_if_ne (tgt := 26) dX11_stranger_21 (by decide) ⟨by omega, by omega⟩ (fun h21 => ?_) (fun h21 => ?_)
          · refine T_iload_n dX11_stranger_26 rfl ?_
            refine T_aload_n dX11_stranger_27 rfl rfl ?_
            refine T_iload_n dX11_stranger_28 rfl ?_
            refine Q_callV dX11_stranger_29 kX11_known lX11_167 (by assumption) rfl (p_R_known h.1 hx0) rfl rfl (Nat.le_of_ble_eq_true rfl) (Nat.le_of_ble_eq_true rfl) (by decide) (by decide) ?_
            refine I_icmp_ge (tgt := 45) dX11_stranger_32 (by decide) hi ⟨by omega, by omega⟩ (fun h32 => ?_) (fun h32 => ?_)
            · refine I_bipush dX11_stranger_45 (by decide) ?_
              exact I_ireturn dX11_stranger_47 rfl ⟨_, _, rfl, RQ.here h⟩
            · omega
          · cases h21
  · have hv : strgA M x i w = -1 := if_neg hb
    rw [hv]
    by_cases hb0 : houseB (mPl M) x
    · by_cases hin : inB w 0 4
      · rw [show LE mX11_stranger [.ref 453, IV x, IV i, IV w] = [some (.ref 453), some (IV x), some (IV i), some (IV w)] from rfl]
        refine T_aload_n dX11_stranger_0 rfl rfl ?_
        refine T_iload_n dX11_stranger_1 rfl ?_
        refine Q_callV dX11_stranger_2 kX11_isHouse lX11_177 (by assumption) rfl (p_R_isHouse h.1 hx) rfl rfl (Nat.le_of_ble_eq_true rfl) (Nat.le_of_ble_eq_true rfl) (by decide) (by decide) ?_
        rw [b2p_t hb0]
        refine I_if_eq (tgt := 24) dX11_stranger_5 (by decide) ⟨by omega, by omega⟩ (fun h5 => ?_) (fun h5 => ?_)
        · cases h5
        · refine T_iload_n dX11_stranger_8 rfl ?_
          refine I_if_lt (tgt := 24) dX11_stranger_9 (by decide) hi (fun h9 => ?_) (fun h9 => ?_)
          · refine I_iconst dX11_stranger_24 ?_
            exact I_ireturn dX11_stranger_25 rfl ⟨_, _, rfl, RQ.here h⟩
          · exact absurd ⟨hb0, by omega, hin.1, by have := hin.2; omega⟩ hb
      · rw [show LE mX11_stranger [.ref 453, IV x, IV i, IV w] = [some (.ref 453), some (IV x), some (IV i), some (IV w)] from rfl]
        refine T_aload_n dX11_stranger_0 rfl rfl ?_
        refine T_iload_n dX11_stranger_1 rfl ?_
        refine Q_callV dX11_stranger_2 kX11_isHouse lX11_177 (by assumption) rfl (p_R_isHouse h.1 hx) rfl rfl (Nat.le_of_ble_eq_true rfl) (Nat.le_of_ble_eq_true rfl) (by decide) (by decide) ?_
        rw [b2p_t hb0]
        refine I_if_eq (tgt := 24) dX11_stranger_5 (by decide) ⟨by omega, by omega⟩ (fun h5 => ?_) (fun h5 => ?_)
        · cases h5
        · refine T_iload_n dX11_stranger_8 rfl ?_
          refine I_if_lt (tgt := 24) dX11_stranger_9 (by decide) hi (fun h9 => ?_) (fun h9 => ?_)
          · refine I_iconst dX11_stranger_24 ?_
            exact I_ireturn dX11_stranger_25 rfl ⟨_, _, rfl, RQ.here h⟩
          · refine T_iload_n dX11_stranger_12 rfl ?_
            refine I_i2l dX11_stranger_13 hw ?_
            refine I_lconst dX11_stranger_14 ?_
            refine I_ldc2 (n := 4) dX11_stranger_15 qX11_284 rfl ?_
            refine Q_callS dX11_stranger_18 kX11_in lX11_52 (p_in (lo := 0) ⟨by omega, by omega⟩ (by decide) (by decide)) rfl rfl (Nat.le_of_ble_eq_true rfl) (Nat.le_of_ble_eq_true rfl) (by decide) (by decide) ?_
            rw [b2p_f hin]
            refine I_if_ne (tgt := 26) dX11_stranger_21 (by decide) ⟨by omega, by omega⟩ (fun h21 => ?_) (fun h21 => ?_)
            · exact absurd rfl h21
            · refine I_iconst dX11_stranger_24 ?_
              exact I_ireturn dX11_stranger_25 rfl ⟨_, _, rfl, RQ.here h⟩
    · rw [show LE mX11_stranger [.ref 453, IV x, IV i, IV w] = [some (.ref 453), some (IV x), some (IV i), some (IV w)] from rfl]
      refine T_aload_n dX11_stranger_0 rfl rfl ?_
      refine T_iload_n dX11_stranger_1 rfl ?_
      refine Q_callV dX11_stranger_2 kX11_isHouse lX11_177 (by assumption) rfl (p_R_isHouse h.1 hx) rfl rfl (Nat.le_of_ble_eq_true rfl) (Nat.le_of_ble_eq_true rfl) (by decide) (by decide) ?_
      rw [b2p_f hb0]
      refine I_if_eq (tgt := 24) dX11_stranger_5 (by decide) ⟨by omega, by omega⟩ (fun h5 => ?_) (fun h5 => ?_)
      · refine I_iconst dX11_stranger_24 ?_
        exact I_ireturn dX11_stranger_25 rfl ⟨_, _, rfl, RQ.here h⟩
      · exact absurd rfl h5
theorem p_R_log {i w : Int} (h : RR K S M) (hi : R32 i) (hw : R32 w) : P G 1 0 0 mX11_log 0 (LE mX11_log [.ref 453, IV i, IV w]) [] K S (RQ K S (logA M i w) M) := by
  have m0 := h.1.1.1
  have m1 := h.1.1.2.1
  obtain ⟨g1, g2, -, g4⟩ := h.1.2.2.2.2.2.2.1
  by_cases hb : 0 ≤ i ∧ 0 ≤ w ∧ w < 5
  · have hv : logA M i w = if i < (eLg (mE M)).length then ((eLg (mE M)).getD i.toNat z0R) w.toNat else -4 := if_pos hb
    rw [hv]
    obtain ⟨hb1, hb2, hb3⟩ := hb
    have hin : inB w 0 4 := ⟨hb2, by omega⟩
    by_cases hl : i < (eLg (mE M)).length
    · rw [if_pos hl]
      have e := g4 i.toNat _ (getD_at (by omega)) w.toNat (by omega)
      rw [Int.toNat_of_nonneg hb1, Int.toNat_of_nonneg hb2] at e
      rw [show LE mX11_log [.ref 453, IV i, IV w] = [some (.ref 453), some (IV i), some (IV w)] from rfl]
      refine T_iload_n dX11_log_0 rfl ?_
      refine I_if_lt (tgt := 16) dX11_log_1 (by decide) hi (fun h1 => ?_) (fun h1 => ?_)
      · omega
      · refine T_iload_n dX11_log_4 rfl ?_
        refine I_i2l dX11_log_5 hw ?_
        refine I_lconst dX11_log_6 ?_
        refine I_ldc2 (n := 4) dX11_log_7 qX11_284 rfl ?_
        refine Q_callS dX11_log_10 kX11_in lX11_52 (p_in (lo := 0) ⟨by omega, by omega⟩ (by decide) (by decide)) rfl rfl (Nat.le_of_ble_eq_true rfl) (Nat.le_of_ble_eq_true rfl) (by decide) (by decide) ?_
        rw [b2p_t hin]
        refine I_if_ne (tgt := 18) dX11_log_13 (by decide) ⟨by omega, by omega⟩ (fun h13 => ?_) (fun h13 => ?_)
        · refine T_iload_n dX11_log_18 rfl ?_
          refine T_aload_n dX11_log_19 rfl rfl ?_
          refine P_getr dX11_log_20 fX11_7 (by assumption) rfl ?_
          refine I_iconst dX11_log_23 ?_
          refine P_iald dX11_log_24 (by assumption) ⟨by omega, by omega⟩ (by first | decide | omega) ?_
          rw [g1]
          refine I_icmp_ge (tgt := 45) dX11_log_25 (by decide) hi ⟨by omega, by omega⟩ (fun h25 => ?_) (fun h25 => ?_)
          · omega
          · refine T_aload_n dX11_log_28 rfl rfl ?_
            refine P_getr dX11_log_29 fX11_7 (by assumption) rfl ?_
            refine I_sipush dX11_log_32 (by decide) ?_
            refine I_iconst dX11_log_35 ?_
            refine T_iload_n dX11_log_36 rfl ?_
            refine I_imul dX11_log_37 ?_
            refine I_iadd dX11_log_38 ?_
            refine T_iload_n dX11_log_39 rfl ?_
            refine I_iadd dX11_log_40 ?_
            refine P_iald dX11_log_41 (by assumption) ⟨by omega, by omega⟩ (by first | decide | omega) ?_
            refine T_goto (tgt := 47) dX11_log_42 (by decide) ?_
            exact I_ireturn dX11_log_47 rfl ⟨_, _, rfl, RQ.eq h e⟩
        · cases h13
    · rw [if_neg hl]
      rw [show LE mX11_log [.ref 453, IV i, IV w] = [some (.ref 453), some (IV i), some (IV w)] from rfl]
      refine T_iload_n dX11_log_0 rfl ?_
      refine I_if_lt (tgt := 16) dX11_log_1 (by decide) hi (fun h1 => ?_) (fun h1 => ?_)
      · omega
      · refine T_iload_n dX11_log_4 rfl ?_
        refine I_i2l dX11_log_5 hw ?_
        refine I_lconst dX11_log_6 ?_
        refine I_ldc2 (n := 4) dX11_log_7 qX11_284 rfl ?_
        refine Q_callS dX11_log_10 kX11_in lX11_52 (p_in (lo := 0) ⟨by omega, by omega⟩ (by decide) (by decide)) rfl rfl (Nat.le_of_ble_eq_true rfl) (Nat.le_of_ble_eq_true rfl) (by decide) (by decide) ?_
        rw [b2p_t hin]
        refine I_if_ne (tgt := 18) dX11_log_13 (by decide) ⟨by omega, by omega⟩ (fun h13 => ?_) (fun h13 => ?_)
        · refine T_iload_n dX11_log_18 rfl ?_
          refine T_aload_n dX11_log_19 rfl rfl ?_
          refine P_getr dX11_log_20 fX11_7 (by assumption) rfl ?_
          refine I_iconst dX11_log_23 ?_
          refine P_iald dX11_log_24 (by assumption) ⟨by omega, by omega⟩ (by first | decide | omega) ?_
          rw [g1]
          refine I_icmp_ge (tgt := 45) dX11_log_25 (by decide) hi ⟨by omega, by omega⟩ (fun h25 => ?_) (fun h25 => ?_)
          · refine I_bipush dX11_log_45 (by decide) ?_
            exact I_ireturn dX11_log_47 rfl ⟨_, _, rfl, RQ.here h⟩
          · omega
        · cases h13
  · have hv : logA M i w = -1 := if_neg hb
    rw [hv]
    by_cases hin : inB w 0 4
    · rw [show LE mX11_log [.ref 453, IV i, IV w] = [some (.ref 453), some (IV i), some (IV w)] from rfl]
      refine T_iload_n dX11_log_0 rfl ?_
      refine I_if_lt (tgt := 16) dX11_log_1 (by decide) hi (fun h1 => ?_) (fun h1 => ?_)
      · refine I_iconst dX11_log_16 ?_
        exact I_ireturn dX11_log_17 rfl ⟨_, _, rfl, RQ.here h⟩
      · exact absurd ⟨by omega, hin.1, by have := hin.2; omega⟩ hb
    · rw [show LE mX11_log [.ref 453, IV i, IV w] = [some (.ref 453), some (IV i), some (IV w)] from rfl]
      refine T_iload_n dX11_log_0 rfl ?_
      refine I_if_lt (tgt := 16) dX11_log_1 (by decide) hi (fun h1 => ?_) (fun h1 => ?_)
      · refine I_iconst dX11_log_16 ?_
        exact I_ireturn dX11_log_17 rfl ⟨_, _, rfl, RQ.here h⟩
      · refine T_iload_n dX11_log_4 rfl ?_
        refine I_i2l dX11_log_5 hw ?_
        refine I_lconst dX11_log_6 ?_
        refine I_ldc2 (n := 4) dX11_log_7 qX11_284 rfl ?_
        refine Q_callS dX11_log_10 kX11_in lX11_52 (p_in (lo := 0) ⟨by omega, by omega⟩ (by decide) (by decide)) rfl rfl (Nat.le_of_ble_eq_true rfl) (Nat.le_of_ble_eq_true rfl) (by decide) (by decide) ?_
        rw [b2p_f hin]
        refine I_if_ne (tgt := 18) dX11_log_13 (by decide) ⟨by omega, by omega⟩ (fun h13 => ?_) (fun h13 => ?_)
        · exact absurd rfl h13
        · refine I_iconst dX11_log_16 ?_
          exact I_ireturn dX11_log_17 rfl ⟨_, _, rfl, RQ.here h⟩
theorem keptR {k : Int} (h : RR K S M) (hk : 0 ≤ k ∧ k < 2) : aI S 457 k = if (mIm M k).isSome then 1 else 0 := by
  rcases h.2.2.2.2.1 k hk.1 hk.2 with ⟨z1, z2⟩ | ⟨x, z1, z2, -⟩
  · rw [z1, z2]; rfl
  · rw [z1, z2]; rfl
theorem p_R_count {w : Int} (h : RR K S M) (hw : R32 w) : P G 1 0 0 mX11_count 0 (LE mX11_count [.ref 453, IV w]) [] K S (RQ K S (cntA M w) M) := by
  have hM := h.1.1
  have m0 := hM.1
  have m4 := hM.2.2.2.2.1
  have m10 := hM.2.2.2.2.2.2.2.2.2.2.1
  have m11 := hM.2.2.2.2.2.2.2.2.2.2.2.1
  have e0 := keptR h (k := 0) ⟨by omega, by omega⟩
  have e1 := keptR h (k := 1) ⟨by omega, by omega⟩
  have en : fI S 453 6 = mN M := h.2.1.1
  by_cases ho : w < 0 ∨ 2 < w
  · have hv : cntA M w = -1 := by unfold cntA; rw [if_neg (by omega), if_neg (by omega), if_neg (by omega)]
    rw [hv]
    rw [show LE mX11_count [.ref 453, IV w] = [some (.ref 453), some (IV w)] from rfl]
    refine T_iload_n dX11_count_0 rfl ?_
    refine I_tblOut (tgt := 76) dX11_count_1 hw (by omega) (by decide) ?_
    refine I_iconst dX11_count_76 ?_
    exact I_ireturn dX11_count_77 rfl ⟨_, _, rfl, RQ.here h⟩
  · rcases (show w = 0 ∨ w = 1 ∨ w = 2 by omega) with rfl | rfl | rfl
    · have hv : cntA M 0 = (if (mIm M 0).isSome then 1 else 0) + (if (mIm M 1).isSome then 1 else 0) := if_pos rfl
      rw [hv]
      have q0 : (if (mIm M 0).isSome then (1 : Int) else 0) = 0 ∨ (if (mIm M 0).isSome then (1 : Int) else 0) = 1 := by split; exact Or.inr rfl; exact Or.inl rfl
      have q1 : (if (mIm M 1).isSome then (1 : Int) else 0) = 0 ∨ (if (mIm M 1).isSome then (1 : Int) else 0) = 1 := by split; exact Or.inr rfl; exact Or.inl rfl
      rw [show LE mX11_count [.ref 453, IV 0] = [some (.ref 453), some (IV 0)] from rfl]
      refine T_iload_n dX11_count_0 rfl ?_
      refine I_tblIn (tgt := 28) dX11_count_1 hw (by omega) (by omega) rfl (by decide) ?_
      refine T_aload_n dX11_count_28 rfl rfl ?_
      refine P_getr dX11_count_29 fX11_19 (by assumption) rfl ?_
      refine I_iconst dX11_count_32 ?_
      refine P_zald dX11_count_33 (by assumption) ⟨by omega, by omega⟩ (by first | decide | omega) ?_
      rw [e0]
      refine Q_callS dX11_count_34 kX11_flag lX11_104 (p_flag q0) rfl rfl (Nat.le_of_ble_eq_true rfl) (Nat.le_of_ble_eq_true rfl) (by decide) (by decide) ?_
      refine T_aload_n dX11_count_37 rfl rfl ?_
      refine P_getr dX11_count_38 fX11_19 (by assumption) rfl ?_
      refine I_iconst dX11_count_41 ?_
      refine P_zald dX11_count_42 (by assumption) ⟨by omega, by omega⟩ (by first | decide | omega) ?_
      rw [e1]
      refine Q_callS dX11_count_43 kX11_flag lX11_104 (p_flag q1) rfl rfl (Nat.le_of_ble_eq_true rfl) (Nat.le_of_ble_eq_true rfl) (by decide) (by decide) ?_
      refine I_iadd dX11_count_46 ?_
      exact I_ireturn dX11_count_47 rfl ⟨_, _, rfl, RQ.here h⟩
    · have hv : cntA M 1 = mN M := by simp [cntA]
      rw [hv]
      rw [show LE mX11_count [.ref 453, IV 1] = [some (.ref 453), some (IV 1)] from rfl]
      refine T_iload_n dX11_count_0 rfl ?_
      refine I_tblIn (tgt := 48) dX11_count_1 hw (by omega) (by omega) rfl (by decide) ?_
      refine T_aload_n dX11_count_48 rfl rfl ?_
      refine P_geti dX11_count_49 fX11_56 (by assumption) rfl ?_
      exact I_ireturn dX11_count_52 rfl ⟨_, _, rfl, RQ.eq h en⟩
    · rcases h.2.2.2.2.2 0 (by omega) (by omega) with ⟨z1, z2⟩ | ⟨q, z1, z2, z3, z4, z5, z6⟩
      · have hv : cntA M 2 = -4 := by simp [cntA, z1]
        rw [hv]
        rw [show LE mX11_count [.ref 453, IV 2] = [some (.ref 453), some (IV 2)] from rfl]
        refine T_iload_n dX11_count_0 rfl ?_
        refine I_tblIn (tgt := 53) dX11_count_1 hw (by omega) (by omega) rfl (by decide) ?_
        refine T_aload_n dX11_count_53 rfl rfl ?_
        refine P_getr dX11_count_54 fX11_38 (by assumption) rfl ?_
        refine I_iconst dX11_count_57 ?_
        refine P_iald dX11_count_58 (by assumption) ⟨by omega, by omega⟩ (by first | decide | omega) ?_
        rw [z2]
        refine I_bipush dX11_count_59 (by decide) ?_
        refine I_icmp_ne (tgt := 69) dX11_count_61 (by decide) ⟨by omega, by omega⟩ ⟨by omega, by omega⟩ (fun h61 => ?_) (fun h61 => ?_)
        · exact absurd rfl h61
        · refine I_bipush dX11_count_64 (by decide) ?_
          refine T_goto (tgt := 75) dX11_count_66 (by decide) ?_
          exact I_ireturn dX11_count_75 rfl ⟨_, _, rfl, RQ.here h⟩
      · have hv : cntA M 2 = q.2.1 := by simp [cntA, z1]
        rw [hv]
        rw [show LE mX11_count [.ref 453, IV 2] = [some (.ref 453), some (IV 2)] from rfl]
        refine T_iload_n dX11_count_0 rfl ?_
        refine I_tblIn (tgt := 53) dX11_count_1 hw (by omega) (by omega) rfl (by decide) ?_
        refine T_aload_n dX11_count_53 rfl rfl ?_
        refine P_getr dX11_count_54 fX11_38 (by assumption) rfl ?_
        refine I_iconst dX11_count_57 ?_
        refine P_iald dX11_count_58 (by assumption) ⟨by omega, by omega⟩ (by first | decide | omega) ?_
        rw [z2]
        refine I_bipush dX11_count_59 (by decide) ?_
        refine I_icmp_ne (tgt := 69) dX11_count_61 (by decide) ⟨by omega, by omega⟩ ⟨by omega, by omega⟩ (fun h61 => ?_) (fun h61 => ?_)
        · refine T_aload_n dX11_count_69 rfl rfl ?_
          refine P_getr dX11_count_70 fX11_41 (by assumption) rfl ?_
          refine I_iconst dX11_count_73 ?_
          refine P_iald dX11_count_74 (by assumption) ⟨by omega, by omega⟩ (by first | decide | omega) ?_
          exact I_ireturn dX11_count_75 rfl ⟨_, _, rfl, RQ.eq h z4⟩
        · omega
end RL2
