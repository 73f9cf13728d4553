/-! the reference: what only looks -/
section RL1
variable {G : GT} {K : List SH} {S : SV} {M : MS} {N : Int}
theorem p_R_rule {w : Int} (h : RR K S M) (hw : R32 w) : P G 2 0 0 mX11_rule 0 (LE mX11_rule [.ref 453, IV w]) [] K S (RQ K S (ruleM M w) M) := by
  have m0 := h.1.1.1
  have m1 := h.1.1.2.1
  have hnu := h.1.2.2.2.2.1
  have e4 := h.1.n4
  have hpl := h.1.2.2.2.1.1
  have hty := h.1.2.2.2.2.2.2.1.2.2.1
  by_cases ho : w < 0 ∨ 17 < w
  · have hv : ruleM M w = -1 := if_pos ho
    rw [hv]
    rw [show LE mX11_rule [.ref 453, IV w] = [some (.ref 453), some (IV w)] from rfl]
    refine T_iload_n dX11_rule_0 rfl ?_
    refine I_i2l dX11_rule_1 hw ?_
    refine I_lconst dX11_rule_2 ?_
    refine I_ldc2 (n := 17) dX11_rule_3 qX11_159 rfl ?_
    refine Q_callS dX11_rule_6 kX11_in lX11_52 (p_in (lo := 0) ⟨by omega, by omega⟩ (by decide) (by decide)) rfl rfl (Nat.le_of_ble_eq_true rfl) (Nat.le_of_ble_eq_true rfl) (by decide) (by decide) ?_
    rw [b2p_f (show ¬ inB w 0 17 from fun z => by have := z.1; have := z.2; omega)]
    refine I_if_ne (tgt := 14) dX11_rule_9 (by decide) ⟨by omega, by omega⟩ (fun h9 => ?_) (fun h9 => ?_)
    · exact absurd rfl h9
    · refine I_iconst dX11_rule_12 ?_
      exact I_ireturn dX11_rule_13 rfl ⟨_, _, rfl, RQ.here h⟩
  · have hin : inB w 0 17 := ⟨by omega, by omega⟩
    rcases (show w = 0 ∨ w = 1 ∨ (2 ≤ w ∧ w < 5) ∨ w = 5 ∨ w = 6 ∨ w = 7 ∨ (8 ≤ w ∧ w < 17) ∨ w = 17 by omega) with rfl | rfl | hr | rfl | rfl | rfl | hr | rfl
    · rw [show LE mX11_rule [.ref 453, IV 0] = [some (.ref 453), some (IV 0)] from rfl]
      refine T_iload_n dX11_rule_0 rfl ?_
      refine I_i2l dX11_rule_1 hw ?_
      refine I_lconst dX11_rule_2 ?_
      refine I_ldc2 (n := 17) dX11_rule_3 qX11_159 rfl ?_
      refine Q_callS dX11_rule_6 kX11_in lX11_52 (p_in (lo := 0) ⟨by omega, by omega⟩ (by decide) (by decide)) rfl rfl (Nat.le_of_ble_eq_true rfl) (Nat.le_of_ble_eq_true rfl) (by decide) (by decide) ?_
      rw [b2p_t hin]
      refine I_if_ne (tgt := 14) dX11_rule_9 (by decide) ⟨by omega, by omega⟩ (fun h9 => ?_) (fun h9 => ?_)
      · refine T_iload_n dX11_rule_14 rfl ?_
        refine I_iconst dX11_rule_15 ?_
        refine I_icmp_ge (tgt := 26) dX11_rule_16 (by decide) ⟨by omega, by omega⟩ ⟨by omega, by omega⟩ (fun h16 => ?_) (fun h16 => ?_)
        · omega
        · refine T_aload_n dX11_rule_19 rfl rfl ?_
          refine P_getr dX11_rule_20 fX11_7 (by assumption) rfl ?_
          refine T_iload_n dX11_rule_23 rfl ?_
          refine P_iald dX11_rule_24 (by assumption) ⟨by omega, by omega⟩ (by first | decide | omega) ?_
          exact I_ireturn dX11_rule_25 rfl ⟨_, _, rfl, RQ.eq h (by rw [show ruleM M 0 = pHs (mPl M) by simp [ruleM]]; exact hpl.1)⟩
      · cases h9
    · rw [show LE mX11_rule [.ref 453, IV 1] = [some (.ref 453), some (IV 1)] from rfl]
      refine T_iload_n dX11_rule_0 rfl ?_
      refine I_i2l dX11_rule_1 hw ?_
      refine I_lconst dX11_rule_2 ?_
      refine I_ldc2 (n := 17) dX11_rule_3 qX11_159 rfl ?_
      refine Q_callS dX11_rule_6 kX11_in lX11_52 (p_in (lo := 0) ⟨by omega, by omega⟩ (by decide) (by decide)) rfl rfl (Nat.le_of_ble_eq_true rfl) (Nat.le_of_ble_eq_true rfl) (by decide) (by decide) ?_
      rw [b2p_t hin]
      refine I_if_ne (tgt := 14) dX11_rule_9 (by decide) ⟨by omega, by omega⟩ (fun h9 => ?_) (fun h9 => ?_)
      · refine T_iload_n dX11_rule_14 rfl ?_
        refine I_iconst dX11_rule_15 ?_
        refine I_icmp_ge (tgt := 26) dX11_rule_16 (by decide) ⟨by omega, by omega⟩ ⟨by omega, by omega⟩ (fun h16 => ?_) (fun h16 => ?_)
        · omega
        · refine T_aload_n dX11_rule_19 rfl rfl ?_
          refine P_getr dX11_rule_20 fX11_7 (by assumption) rfl ?_
          refine T_iload_n dX11_rule_23 rfl ?_
          refine P_iald dX11_rule_24 (by assumption) ⟨by omega, by omega⟩ (by first | decide | omega) ?_
          exact I_ireturn dX11_rule_25 rfl ⟨_, _, rfl, RQ.eq h (by rw [show ruleM M 1 = pDm (mPl M) by simp [ruleM]]; exact hpl.2)⟩
      · cases h9
    · have hv : ruleM M w = kdC (mPl M) (w - 1) := by unfold ruleM; rw [if_neg ho, if_neg (by omega), if_neg (by omega), if_pos (by omega)]
      rw [hv]
      rw [show LE mX11_rule [.ref 453, IV w] = [some (.ref 453), some (IV w)] from rfl]
      refine T_iload_n dX11_rule_0 rfl ?_
      refine I_i2l dX11_rule_1 hw ?_
      refine I_lconst dX11_rule_2 ?_
      refine I_ldc2 (n := 17) dX11_rule_3 qX11_159 rfl ?_
      refine Q_callS dX11_rule_6 kX11_in lX11_52 (p_in (lo := 0) ⟨by omega, by omega⟩ (by decide) (by decide)) rfl rfl (Nat.le_of_ble_eq_true rfl) (Nat.le_of_ble_eq_true rfl) (by decide) (by decide) ?_
      rw [b2p_t hin]
      refine I_if_ne (tgt := 14) dX11_rule_9 (by decide) ⟨by omega, by omega⟩ (fun h9 => ?_) (fun h9 => ?_)
      · refine T_iload_n dX11_rule_14 rfl ?_
        refine I_iconst dX11_rule_15 ?_
        refine I_icmp_ge (tgt := 26) dX11_rule_16 (by decide) ⟨by omega, by omega⟩ ⟨by omega, by omega⟩ (fun h16 => ?_) (fun h16 => ?_)
        · refine T_iload_n dX11_rule_26 rfl ?_
          refine I_iconst dX11_rule_27 ?_
          refine I_icmp_ge (tgt := 39) dX11_rule_28 (by decide) ⟨by omega, by omega⟩ ⟨by omega, by omega⟩ (fun h28 => ?_) (fun h28 => ?_)
          · omega
          · refine T_aload_n dX11_rule_31 rfl rfl ?_
            refine T_iload_n dX11_rule_32 rfl ?_
            refine I_iconst dX11_rule_33 ?_
            refine I_isub dX11_rule_34 ?_
            refine Q_callV dX11_rule_35 kX11_ofKind lX11_161 (by assumption) rfl (p_R_ofKind h.1 ⟨by omega, by omega⟩) rfl rfl (Nat.le_of_ble_eq_true rfl) (Nat.le_of_ble_eq_true rfl) (by decide) (by decide) ?_
            exact I_ireturn dX11_rule_38 rfl ⟨_, _, rfl, RQ.here h⟩
        · omega
      · cases h9
    · rw [show LE mX11_rule [.ref 453, IV 5] = [some (.ref 453), some (IV 5)] from rfl]
      refine T_iload_n dX11_rule_0 rfl ?_
      refine I_i2l dX11_rule_1 hw ?_
      refine I_lconst dX11_rule_2 ?_
      refine I_ldc2 (n := 17) dX11_rule_3 qX11_159 rfl ?_
      refine Q_callS dX11_rule_6 kX11_in lX11_52 (p_in (lo := 0) ⟨by omega, by omega⟩ (by decide) (by decide)) rfl rfl (Nat.le_of_ble_eq_true rfl) (Nat.le_of_ble_eq_true rfl) (by decide) (by decide) ?_
      rw [b2p_t hin]
      refine I_if_ne (tgt := 14) dX11_rule_9 (by decide) ⟨by omega, by omega⟩ (fun h9 => ?_) (fun h9 => ?_)
      · refine T_iload_n dX11_rule_14 rfl ?_
        refine I_iconst dX11_rule_15 ?_
        refine I_icmp_ge (tgt := 26) dX11_rule_16 (by decide) ⟨by omega, by omega⟩ ⟨by omega, by omega⟩ (fun h16 => ?_) (fun h16 => ?_)
        · refine T_iload_n dX11_rule_26 rfl ?_
          refine I_iconst dX11_rule_27 ?_
          refine I_icmp_ge (tgt := 39) dX11_rule_28 (by decide) ⟨by omega, by omega⟩ ⟨by omega, by omega⟩ (fun h28 => ?_) (fun h28 => ?_)
          · refine T_iload_n dX11_rule_39 rfl ?_
            refine I_bipush dX11_rule_40 (by decide) ?_
            refine I_icmp_ge (tgt := 56) dX11_rule_42 (by decide) ⟨by omega, by omega⟩ ⟨by omega, by omega⟩ (fun h42 => ?_) (fun h42 => ?_)
            · omega
            · refine T_aload_n dX11_rule_45 rfl rfl ?_
              refine P_getr dX11_rule_46 fX11_7 (by assumption) rfl ?_
              refine I_iconst dX11_rule_49 ?_
              refine T_iload_n dX11_rule_50 rfl ?_
              refine I_iadd dX11_rule_51 ?_
              refine I_iconst dX11_rule_52 ?_
              refine I_isub dX11_rule_53 ?_
              refine P_iald dX11_rule_54 (by assumption) ⟨by omega, by omega⟩ (by first | decide | omega) ?_
              exact I_ireturn dX11_rule_55 rfl ⟨_, _, rfl, RQ.eq h (by rw [show ruleM M 5 = eCl (mE M) by simp [ruleM]]; exact hnu.1)⟩
          · omega
        · omega
      · cases h9
    · rw [show LE mX11_rule [.ref 453, IV 6] = [some (.ref 453), some (IV 6)] from rfl]
      refine T_iload_n dX11_rule_0 rfl ?_
      refine I_i2l dX11_rule_1 hw ?_
      refine I_lconst dX11_rule_2 ?_
      refine I_ldc2 (n := 17) dX11_rule_3 qX11_159 rfl ?_
      refine Q_callS dX11_rule_6 kX11_in lX11_52 (p_in (lo := 0) ⟨by omega, by omega⟩ (by decide) (by decide)) rfl rfl (Nat.le_of_ble_eq_true rfl) (Nat.le_of_ble_eq_true rfl) (by decide) (by decide) ?_
      rw [b2p_t hin]
      refine I_if_ne (tgt := 14) dX11_rule_9 (by decide) ⟨by omega, by omega⟩ (fun h9 => ?_) (fun h9 => ?_)
      · refine T_iload_n dX11_rule_14 rfl ?_
        refine I_iconst dX11_rule_15 ?_
        refine I_icmp_ge (tgt := 26) dX11_rule_16 (by decide) ⟨by omega, by omega⟩ ⟨by omega, by omega⟩ (fun h16 => ?_) (fun h16 => ?_)
        · refine T_iload_n dX11_rule_26 rfl ?_
          refine I_iconst dX11_rule_27 ?_
          refine I_icmp_ge (tgt := 39) dX11_rule_28 (by decide) ⟨by omega, by omega⟩ ⟨by omega, by omega⟩ (fun h28 => ?_) (fun h28 => ?_)
          · refine T_iload_n dX11_rule_39 rfl ?_
            refine I_bipush dX11_rule_40 (by decide) ?_
            refine I_icmp_ge (tgt := 56) dX11_rule_42 (by decide) ⟨by omega, by omega⟩ ⟨by omega, by omega⟩ (fun h42 => ?_) (fun h42 => ?_)
            · omega
            · refine T_aload_n dX11_rule_45 rfl rfl ?_
              refine P_getr dX11_rule_46 fX11_7 (by assumption) rfl ?_
              refine I_iconst dX11_rule_49 ?_
              refine T_iload_n dX11_rule_50 rfl ?_
              refine I_iadd dX11_rule_51 ?_
              refine I_iconst dX11_rule_52 ?_
              refine I_isub dX11_rule_53 ?_
              refine P_iald dX11_rule_54 (by assumption) ⟨by omega, by omega⟩ (by first | decide | omega) ?_
              exact I_ireturn dX11_rule_55 rfl ⟨_, _, rfl, RQ.eq h (by rw [show ruleM M 6 = eLe (mE M) by simp [ruleM]]; exact hnu.2.1)⟩
          · omega
        · omega
      · cases h9
    · rw [show LE mX11_rule [.ref 453, IV 7] = [some (.ref 453), some (IV 7)] from rfl]
      refine T_iload_n dX11_rule_0 rfl ?_
      refine I_i2l dX11_rule_1 hw ?_
      refine I_lconst dX11_rule_2 ?_
      refine I_ldc2 (n := 17) dX11_rule_3 qX11_159 rfl ?_
      refine Q_callS dX11_rule_6 kX11_in lX11_52 (p_in (lo := 0) ⟨by omega, by omega⟩ (by decide) (by decide)) rfl rfl (Nat.le_of_ble_eq_true rfl) (Nat.le_of_ble_eq_true rfl) (by decide) (by decide) ?_
      rw [b2p_t hin]
      refine I_if_ne (tgt := 14) dX11_rule_9 (by decide) ⟨by omega, by omega⟩ (fun h9 => ?_) (fun h9 => ?_)
      · refine T_iload_n dX11_rule_14 rfl ?_
        refine I_iconst dX11_rule_15 ?_
        refine I_icmp_ge (tgt := 26) dX11_rule_16 (by decide) ⟨by omega, by omega⟩ ⟨by omega, by omega⟩ (fun h16 => ?_) (fun h16 => ?_)
        · refine T_iload_n dX11_rule_26 rfl ?_
          refine I_iconst dX11_rule_27 ?_
          refine I_icmp_ge (tgt := 39) dX11_rule_28 (by decide) ⟨by omega, by omega⟩ ⟨by omega, by omega⟩ (fun h28 => ?_) (fun h28 => ?_)
          · refine T_iload_n dX11_rule_39 rfl ?_
            refine I_bipush dX11_rule_40 (by decide) ?_
            refine I_icmp_ge (tgt := 56) dX11_rule_42 (by decide) ⟨by omega, by omega⟩ ⟨by omega, by omega⟩ (fun h42 => ?_) (fun h42 => ?_)
            · omega
            · refine T_aload_n dX11_rule_45 rfl rfl ?_
              refine P_getr dX11_rule_46 fX11_7 (by assumption) rfl ?_
              refine I_iconst dX11_rule_49 ?_
              refine T_iload_n dX11_rule_50 rfl ?_
              refine I_iadd dX11_rule_51 ?_
              refine I_iconst dX11_rule_52 ?_
              refine I_isub dX11_rule_53 ?_
              refine P_iald dX11_rule_54 (by assumption) ⟨by omega, by omega⟩ (by first | decide | omega) ?_
              exact I_ireturn dX11_rule_55 rfl ⟨_, _, rfl, RQ.eq h (by rw [show ruleM M 7 = ((mIt M).length : Int) by simp [ruleM]]; exact e4)⟩
          · omega
        · omega
      · cases h9
    · have hv : ruleM M w = eTy (mE M) (w - 8) := by unfold ruleM; rw [if_neg ho, if_neg (by omega), if_neg (by omega), if_neg (by omega), if_neg (by omega), if_neg (by omega), if_neg (by omega), if_neg (by omega)]
      rw [hv]
      have ev : aI S 454 (7 + w - 8) = eTy (mE M) (w - 8) := by rw [show 7 + w - 8 = 7 + (w - 8) by omega]; exact hty (w - 8) (by omega) (by omega)
      rw [show LE mX11_rule [.ref 453, IV w] = [some (.ref 453), some (IV w)] from rfl]
      refine T_iload_n dX11_rule_0 rfl ?_
      refine I_i2l dX11_rule_1 hw ?_
      refine I_lconst dX11_rule_2 ?_
      refine I_ldc2 (n := 17) dX11_rule_3 qX11_159 rfl ?_
      refine Q_callS dX11_rule_6 kX11_in lX11_52 (p_in (lo := 0) ⟨by omega, by omega⟩ (by decide) (by decide)) rfl rfl (Nat.le_of_ble_eq_true rfl) (Nat.le_of_ble_eq_true rfl) (by decide) (by decide) ?_
      rw [b2p_t hin]
      refine I_if_ne (tgt := 14) dX11_rule_9 (by decide) ⟨by omega, by omega⟩ (fun h9 => ?_) (fun h9 => ?_)
      · refine T_iload_n dX11_rule_14 rfl ?_
        refine I_iconst dX11_rule_15 ?_
        refine I_icmp_ge (tgt := 26) dX11_rule_16 (by decide) ⟨by omega, by omega⟩ ⟨by omega, by omega⟩ (fun h16 => ?_) (fun h16 => ?_)
        · refine T_iload_n dX11_rule_26 rfl ?_
          refine I_iconst dX11_rule_27 ?_
          refine I_icmp_ge (tgt := 39) dX11_rule_28 (by decide) ⟨by omega, by omega⟩ ⟨by omega, by omega⟩ (fun h28 => ?_) (fun h28 => ?_)
          · refine T_iload_n dX11_rule_39 rfl ?_
            refine I_bipush dX11_rule_40 (by decide) ?_
            refine I_icmp_ge (tgt := 56) dX11_rule_42 (by decide) ⟨by omega, by omega⟩ ⟨by omega, by omega⟩ (fun h42 => ?_) (fun h42 => ?_)
            · refine T_iload_n dX11_rule_56 rfl ?_
              refine I_bipush dX11_rule_57 (by decide) ?_
              refine I_icmp_ne (tgt := 72) dX11_rule_59 (by decide) ⟨by omega, by omega⟩ ⟨by omega, by omega⟩ (fun h59 => ?_) (fun h59 => ?_)
              · refine T_aload_n dX11_rule_72 rfl rfl ?_
                refine P_getr dX11_rule_73 fX11_7 (by assumption) rfl ?_
                refine I_bipush dX11_rule_76 (by decide) ?_
                refine T_iload_n dX11_rule_78 rfl ?_
                refine I_iadd dX11_rule_79 ?_
                refine I_bipush dX11_rule_80 (by decide) ?_
                refine I_isub dX11_rule_82 ?_
                refine P_iald dX11_rule_83 (by assumption) ⟨by omega, by omega⟩ (by first | decide | omega) ?_
                exact I_ireturn dX11_rule_84 rfl ⟨_, _, rfl, RQ.eq h ev⟩
              · omega
            · omega
          · omega
        · omega
      · cases h9
    · rw [show LE mX11_rule [.ref 453, IV 17] = [some (.ref 453), some (IV 17)] from rfl]
      refine T_iload_n dX11_rule_0 rfl ?_
      refine I_i2l dX11_rule_1 hw ?_
      refine I_lconst dX11_rule_2 ?_
      refine I_ldc2 (n := 17) dX11_rule_3 qX11_159 rfl ?_
      refine Q_callS dX11_rule_6 kX11_in lX11_52 (p_in (lo := 0) ⟨by omega, by omega⟩ (by decide) (by decide)) rfl rfl (Nat.le_of_ble_eq_true rfl) (Nat.le_of_ble_eq_true rfl) (by decide) (by decide) ?_
      rw [b2p_t hin]
      refine I_if_ne (tgt := 14) dX11_rule_9 (by decide) ⟨by omega, by omega⟩ (fun h9 => ?_) (fun h9 => ?_)
      · refine T_iload_n dX11_rule_14 rfl ?_
        refine I_iconst dX11_rule_15 ?_
        refine I_icmp_ge (tgt := 26) dX11_rule_16 (by decide) ⟨by omega, by omega⟩ ⟨by omega, by omega⟩ (fun h16 => ?_) (fun h16 => ?_)
        · refine T_iload_n dX11_rule_26 rfl ?_
          refine I_iconst dX11_rule_27 ?_
          refine I_icmp_ge (tgt := 39) dX11_rule_28 (by decide) ⟨by omega, by omega⟩ ⟨by omega, by omega⟩ (fun h28 => ?_) (fun h28 => ?_)
          · refine T_iload_n dX11_rule_39 rfl ?_
            refine I_bipush dX11_rule_40 (by decide) ?_
            refine I_icmp_ge (tgt := 56) dX11_rule_42 (by decide) ⟨by omega, by omega⟩ ⟨by omega, by omega⟩ (fun h42 => ?_) (fun h42 => ?_)
            · refine T_iload_n dX11_rule_56 rfl ?_
              refine I_bipush dX11_rule_57 (by decide) ?_
              refine I_icmp_ne (tgt := 72) dX11_rule_59 (by decide) ⟨by omega, by omega⟩ ⟨by omega, by omega⟩ (fun h59 => ?_) (fun h59 => ?_)
              · omega
              · refine T_aload_n dX11_rule_62 rfl rfl ?_
                refine P_getr dX11_rule_63 fX11_7 (by assumption) rfl ?_
                refine I_bipush dX11_rule_66 (by decide) ?_
                refine P_iald dX11_rule_68 (by assumption) ⟨by omega, by omega⟩ (by first | decide | omega) ?_
                refine T_goto (tgt := 84) dX11_rule_69 (by decide) ?_
                exact I_ireturn dX11_rule_84 rfl ⟨_, _, rfl, RQ.eq h (by rw [show ruleM M 17 = eOl (mE M) by simp [ruleM]]; exact hnu.2.2)⟩
            · omega
          · omega
        · omega
      · cases h9
theorem l_R_itemsIn {pl : PL} {e : EN} {its : List Row} {x : Int} (hR : RS K S pl e its) (hx : R32 x) (m : Nat) : ∀ (i : Nat) (acc : Int), (its.length : Int) - i = m → P G 1 0 0 mX11_itemsIn 4 [some (.ref 453), some (IV x), some (IV acc), some (IV i)] [] K S (Ret K (some (IV (acc + sumF (fun t => b2p (inM its x t)) m i))) S) := by
  have m0 := hR.1.1
  have m1 := hR.1.2.1
  have e4 := hR.n4
  have h60 := hR.n60
  induction m with
  | zero =>
    intro i acc hm
    refine T_iload_n dX11_itemsIn_4 rfl ?_
    refine T_aload_n dX11_itemsIn_5 rfl rfl ?_
    refine P_getr dX11_itemsIn_6 fX11_7 (by assumption) rfl ?_
    refine I_iconst dX11_itemsIn_9 ?_
    refine P_iald dX11_itemsIn_10 (by assumption) ⟨by omega, by omega⟩ (by first | decide | omega) ?_
    rw [e4]
    refine I_icmp_ge (tgt := 41) dX11_itemsIn_11 (by decide) ⟨by omega, by omega⟩ ⟨by omega, by omega⟩ (fun h11 => ?_) (fun h11 => ?_)
    · refine T_iload_n dX11_itemsIn_41 rfl ?_
      exact I_ireturn dX11_itemsIn_42 rfl ⟨_, _, rfl, by show _ = some (IV (acc + 0)); rw [Int.add_zero], rfl, rfl⟩
    · omega
  | succ m ih =>
    intro i acc hm
    have hg := getD_at (l := its) (i := i) (by omega)
    have hr : R32 ((its.getD i z0R) 0) := by rw [← hR.item hg (k := 0) (by omega)]; exact hR.2.1.2 _ _
    have w := ih (i + 1) (acc + b2p (inM its x i)) (by omega)
    rw [show acc + sumF (fun t => b2p (inM its x t)) (m + 1) i = acc + b2p (inM its x i) + sumF (fun t => b2p (inM its x t)) m (i + 1) by rw [sumF, Int.add_assoc]]
    have hd : inM its x i ↔ (its.getD i z0R) 0 = x := by unfold inM; rw [Int.toNat_natCast]
    refine T_iload_n dX11_itemsIn_4 rfl ?_
    refine T_aload_n dX11_itemsIn_5 rfl rfl ?_
    refine P_getr dX11_itemsIn_6 fX11_7 (by assumption) rfl ?_
    refine I_iconst dX11_itemsIn_9 ?_
    refine P_iald dX11_itemsIn_10 (by assumption) ⟨by omega, by omega⟩ (by first | decide | omega) ?_
    rw [e4]
    refine I_icmp_ge (tgt := 41) dX11_itemsIn_11 (by decide) ⟨by omega, by omega⟩ ⟨by omega, by omega⟩ (fun h11 => ?_) (fun h11 => ?_)
    · omega
    · refine T_iload_n dX11_itemsIn_14 rfl ?_
      refine T_aload_n dX11_itemsIn_15 rfl rfl ?_
      refine T_iload_n dX11_itemsIn_16 rfl ?_
      refine I_iconst dX11_itemsIn_17 ?_
      refine Q_callV dX11_itemsIn_18 kX11_ofItem lX11_164 (by assumption) rfl (p_of0 hR hg) rfl rfl (Nat.le_of_ble_eq_true rfl) (Nat.le_of_ble_eq_true rfl) (by decide) (by decide) ?_
      refine T_iload_n dX11_itemsIn_21 rfl ?_
      refine I_icmp_ne (tgt := 29) dX11_itemsIn_22 (by decide) hr hx (fun h22 => ?_) (fun h22 => ?_)
      · rw [b2p_f (fun z => h22 (hd.mp z))] at w ⊢
        refine I_iconst dX11_itemsIn_29 ?_
        refine Q_callS dX11_itemsIn_30 kX11_flag lX11_104 (p_flag (by omega)) rfl rfl (Nat.le_of_ble_eq_true rfl) (Nat.le_of_ble_eq_true rfl) (by decide) (by decide) ?_
        refine I_iadd dX11_itemsIn_33 ?_
        refine T_istore_n dX11_itemsIn_34 (by decide) rfl ?_
        refine I_iinc dX11_itemsIn_35 rfl (by decide) rfl ?_
        refine T_goto (tgt := 4) dX11_itemsIn_38 (by decide) ?_
        exact w
      · rw [b2p_t (hd.mpr (by omega))] at w ⊢
        refine I_iconst dX11_itemsIn_25 ?_
        refine T_goto (tgt := 30) dX11_itemsIn_26 (by decide) ?_
        refine Q_callS dX11_itemsIn_30 kX11_flag lX11_104 (p_flag (by omega)) rfl rfl (Nat.le_of_ble_eq_true rfl) (Nat.le_of_ble_eq_true rfl) (by decide) (by decide) ?_
        refine I_iadd dX11_itemsIn_33 ?_
        refine T_istore_n dX11_itemsIn_34 (by decide) rfl ?_
        refine I_iinc dX11_itemsIn_35 rfl (by decide) rfl ?_
        refine T_goto (tgt := 4) dX11_itemsIn_38 (by decide) ?_
        exact w
theorem p_R_itemsIn {pl : PL} {e : EN} {its : List Row} {x : Int} (hR : RS K S pl e its) (hx : R32 x) : P G 1 0 0 mX11_itemsIn 0 (LE mX11_itemsIn [.ref 453, IV x]) [] K S (Ret K (some (IV (sumF (fun t => b2p (inM its x t)) its.length 0))) S) := by
  have w := l_R_itemsIn (G := G) hR hx its.length 0 0 (by omega)
  rw [Int.zero_add] at w
  rw [show LE mX11_itemsIn [.ref 453, IV x] = [some (.ref 453), some (IV x), none, none] from rfl]
  refine I_iconst dX11_itemsIn_0 ?_
  refine T_istore_n dX11_itemsIn_1 (by decide) rfl ?_
  refine I_iconst dX11_itemsIn_2 ?_
  refine T_istore_n dX11_itemsIn_3 (by decide) rfl ?_
  exact w
theorem l_R_passedIn {pl : PL} {e : EN} {its : List Row} {x : Int} (hR : RS K S pl e its) (hx : 0 ≤ x ∧ x < 5) (m : Nat) : ∀ (i : Nat) (acc : Int), ((eSg e x).length : Int) - i = m → P G 2 0 0 mX11_passedIn 4 [some (.ref 453), some (IV x), some (IV acc), some (IV i)] [] K S (Ret K (some (IV (acc + sumF (fun t => ((eSg e x).getD t.toNat z0R) 4) m i))) S) := by
  have m0 := hR.1.1
  have g2 := (hR.sg hx).2.1
  induction m with
  | zero =>
    intro i acc hm
    refine T_iload_n dX11_passedIn_4 rfl ?_
    refine T_aload_n dX11_passedIn_5 rfl rfl ?_
    refine T_iload_n dX11_passedIn_6 rfl ?_
    refine Q_callV dX11_passedIn_7 kX11_known lX11_167 (by assumption) rfl (p_R_known hR hx) rfl rfl (Nat.le_of_ble_eq_true rfl) (Nat.le_of_ble_eq_true rfl) (by decide) (by decide) ?_
    refine I_icmp_ge (tgt := 29) dX11_passedIn_10 (by decide) ⟨by omega, by omega⟩ ⟨by omega, by omega⟩ (fun h10 => ?_) (fun h10 => ?_)
    · refine T_iload_n dX11_passedIn_29 rfl ?_
      exact I_ireturn dX11_passedIn_30 rfl ⟨_, _, rfl, by show _ = some (IV (acc + 0)); rw [Int.add_zero], rfl, rfl⟩
    · omega
  | succ m ih =>
    intro i acc hm
    have hg := getD_at (l := eSg e x) (i := i) (by omega)
    have w := ih (i + 1) (acc + ((eSg e x).getD i z0R) 4) (by omega)
    rw [show acc + sumF (fun t => ((eSg e x).getD t.toNat z0R) 4) (m + 1) i = acc + ((eSg e x).getD i z0R) 4 + sumF (fun t => ((eSg e x).getD t.toNat z0R) 4) m (i + 1) by rw [sumF, Int.add_assoc, Int.toNat_natCast]]
    have c := p_R_ofStranger (G := G) (k := 4) hR hx hg ⟨by omega, by omega⟩
    refine T_iload_n dX11_passedIn_4 rfl ?_
    refine T_aload_n dX11_passedIn_5 rfl rfl ?_
    refine T_iload_n dX11_passedIn_6 rfl ?_
    refine Q_callV dX11_passedIn_7 kX11_known lX11_167 (by assumption) rfl (p_R_known hR hx) rfl rfl (Nat.le_of_ble_eq_true rfl) (Nat.le_of_ble_eq_true rfl) (by decide) (by decide) ?_
    refine I_icmp_ge (tgt := 29) dX11_passedIn_10 (by decide) ⟨by omega, by omega⟩ ⟨by omega, by omega⟩ (fun h10 => ?_) (fun h10 => ?_)
    · omega
    · refine T_iload_n dX11_passedIn_13 rfl ?_
      refine T_aload_n dX11_passedIn_14 rfl rfl ?_
      refine T_iload_n dX11_passedIn_15 rfl ?_
      refine T_iload_n dX11_passedIn_16 rfl ?_
      refine I_iconst dX11_passedIn_17 ?_
      refine Q_callV dX11_passedIn_18 kX11_ofStranger lX11_170 (by assumption) rfl c rfl rfl (Nat.le_of_ble_eq_true rfl) (Nat.le_of_ble_eq_true rfl) (by decide) (by decide) ?_
      refine I_iadd dX11_passedIn_21 ?_
      refine T_istore_n dX11_passedIn_22 (by decide) rfl ?_
      refine I_iinc dX11_passedIn_23 rfl (by decide) rfl ?_
      refine T_goto (tgt := 4) dX11_passedIn_26 (by decide) ?_
      exact w
theorem p_R_passedIn {pl : PL} {e : EN} {its : List Row} {x : Int} (hR : RS K S pl e its) (hx : 0 ≤ x ∧ x < 5) : P G 2 0 0 mX11_passedIn 0 (LE mX11_passedIn [.ref 453, IV x]) [] K S (Ret K (some (IV (sumF (fun t => ((eSg e x).getD t.toNat z0R) 4) (eSg e x).length 0))) S) := by
  have w := l_R_passedIn (G := G) hR hx (eSg e x).length 0 0 (by omega)
  rw [Int.zero_add] at w
  rw [show LE mX11_passedIn [.ref 453, IV x] = [some (.ref 453), some (IV x), none, none] from rfl]
  refine I_iconst dX11_passedIn_0 ?_
  refine T_istore_n dX11_passedIn_1 (by decide) rfl ?_
  refine I_iconst dX11_passedIn_2 ?_
  refine T_istore_n dX11_passedIn_3 (by decide) rfl ?_
  exact w
theorem l_R_lastsOf {pl : PL} {e : EN} {its : List Row} {x : Int} (hR : RS K S pl e its) (hx : R32 x) (m : Nat) : ∀ (i acc : Int), 0 ≤ i → pDm pl - i = m → P G 3 0 0 mX11_lastsOf 4 [some (.ref 453), some (IV x), some (IV acc), some (IV i)] [] K S (Ret K (some (IV (acc + sumF (fun d => b2p (lastM pl x d)) m i))) S) := by
  have m0 := hR.1.1
  have m1 := hR.1.2.1
  have e1 : aI S 454 1 = pDm pl := hR.2.2.2.1.1.2
  have hb4 := hR.2.2.1.2.1
  induction m with
  | zero =>
    intro i acc h0 hm
    refine T_iload_n dX11_lastsOf_4 rfl ?_
    refine T_aload_n dX11_lastsOf_5 rfl rfl ?_
    refine P_getr dX11_lastsOf_6 fX11_7 (by assumption) rfl ?_
    refine I_iconst dX11_lastsOf_9 ?_
    refine P_iald dX11_lastsOf_10 (by assumption) ⟨by omega, by omega⟩ (by first | decide | omega) ?_
    rw [e1]
    refine I_icmp_ge (tgt := 32) dX11_lastsOf_11 (by decide) ⟨by omega, by omega⟩ ⟨by omega, by omega⟩ (fun h11 => ?_) (fun h11 => ?_)
    · refine T_iload_n dX11_lastsOf_32 rfl ?_
      exact I_ireturn dX11_lastsOf_33 rfl ⟨_, _, rfl, by show _ = some (IV (acc + 0)); rw [Int.add_zero], rfl, rfl⟩
    · omega
  | succ m ih =>
    intro i acc h0 hm
    have w := ih (i + 1) (acc + b2p (lastM pl x i)) (by omega) (by omega)
    rw [show acc + sumF (fun d => b2p (lastM pl x d)) (m + 1) i = acc + b2p (lastM pl x i) + sumF (fun d => b2p (lastM pl x d)) m (i + 1) by rw [sumF, Int.add_assoc]]
    refine T_iload_n dX11_lastsOf_4 rfl ?_
    refine T_aload_n dX11_lastsOf_5 rfl rfl ?_
    refine P_getr dX11_lastsOf_6 fX11_7 (by assumption) rfl ?_
    refine I_iconst dX11_lastsOf_9 ?_
    refine P_iald dX11_lastsOf_10 (by assumption) ⟨by omega, by omega⟩ (by first | decide | omega) ?_
    rw [e1]
    refine I_icmp_ge (tgt := 32) dX11_lastsOf_11 (by decide) ⟨by omega, by omega⟩ ⟨by omega, by omega⟩ (fun h11 => ?_) (fun h11 => ?_)
    · omega
    · refine T_iload_n dX11_lastsOf_14 rfl ?_
      refine T_aload_n dX11_lastsOf_15 rfl rfl ?_
      refine T_iload_n dX11_lastsOf_16 rfl ?_
      refine T_iload_n dX11_lastsOf_17 rfl ?_
      refine Q_callV dX11_lastsOf_18 kX11_isLast lX11_173 (by assumption) rfl (p_R_last hR ⟨by omega, by omega⟩ hx) rfl rfl (Nat.le_of_ble_eq_true rfl) (Nat.le_of_ble_eq_true rfl) (by decide) (by decide) ?_
      refine Q_callS dX11_lastsOf_21 kX11_flag lX11_104 (p_flag (b2p_01 _)) rfl rfl (Nat.le_of_ble_eq_true rfl) (Nat.le_of_ble_eq_true rfl) (by decide) (by decide) ?_
      refine I_iadd dX11_lastsOf_24 ?_
      refine T_istore_n dX11_lastsOf_25 (by decide) rfl ?_
      refine I_iinc dX11_lastsOf_26 rfl (by decide) rfl ?_
      refine T_goto (tgt := 4) dX11_lastsOf_29 (by decide) ?_
      exact w
theorem p_R_lastsOf {pl : PL} {e : EN} {its : List Row} {x : Int} (hR : RS K S pl e its) (hx : R32 x) : P G 3 0 0 mX11_lastsOf 0 (LE mX11_lastsOf [.ref 453, IV x]) [] K S (Ret K (some (IV (sumF (fun d => b2p (lastM pl x d)) (pDm pl).toNat 0))) S) := by
  have hb4 := hR.2.2.1.2.1
  have w := l_R_lastsOf (G := G) hR hx (pDm pl).toNat 0 0 (by omega) (by omega)
  rw [Int.zero_add] at w
  rw [show LE mX11_lastsOf [.ref 453, IV x] = [some (.ref 453), some (IV x), none, none] from rfl]
  refine I_iconst dX11_lastsOf_0 ?_
  refine T_istore_n dX11_lastsOf_1 (by decide) rfl ?_
  refine I_iconst dX11_lastsOf_2 ?_
  refine T_istore_n dX11_lastsOf_3 (by decide) rfl ?_
  exact w
theorem p_R_house {x w : Int} (h : RR K S M) (hx : R32 x) (hw : R32 w) : P G 4 0 0 mX11_house 0 (LE mX11_house [.ref 453, IV x, IV w]) [] K S (RQ K S (houseA M x w) M) := by
  have m0 := h.1.1.1
  have m1 := h.1.1.2.1
  have hb5 := h.1.2.2.1.1
  by_cases hb : houseB (mPl M) x
  · have hv : houseA M x w = if w = 0 then pWa (mPl M) x else if w = 1 then eUp (mE M) x else if w = 2 then sumF (fun t => b2p (inM (mIt M) x t)) (mIt M).length 0 else if w = 3 then ((eSg (mE M) x).length : Int) else if w = 4 then sumF (fun t => ((eSg (mE M) x).getD t.toNat z0R) 4) (eSg (mE M) x).length 0 else if w = 5 then sumF (fun d => b2p (lastM (mPl M) x d)) (pDm (mPl M)).toNat 0 else -1 := if_pos hb
    rw [hv]
    have hb1 := hb.1
    have hb2 := hb.2
    have ea : aI S 454 (16 + 2 * x + 0) = pWa (mPl M) x := by rw [Int.add_zero]; exact h.1.2.2.2.1.2.1 x hb1 (by omega)
    have eb : aI S 454 (16 + 2 * x + 1) = eUp (mE M) x := h.1.2.2.2.2.2.2.2.1 x hb1 (by omega) (by rw [h.1.2.2.2.1.1.1]; exact hb2)
    by_cases ho : w < 0 ∨ 5 < w
    · rw [if_neg (by omega), if_neg (by omega), if_neg (by omega), if_neg (by omega), if_neg (by omega), if_neg (by omega)]
      rw [show LE mX11_house [.ref 453, IV x, IV w] = [some (.ref 453), some (IV x), some (IV w)] from rfl]
      refine T_aload_n dX11_house_0 rfl rfl ?_
      refine T_iload_n dX11_house_1 rfl ?_
      refine Q_callV dX11_house_2 kX11_isHouse lX11_177 (by assumption) rfl (p_R_isHouse h.1 hx) rfl rfl (Nat.le_of_ble_eq_true rfl) (Nat.le_of_ble_eq_true rfl) (by decide) (by decide) ?_
      rw [b2p_t hb]
      refine I_if_ne (tgt := 10) dX11_house_5 (by decide) ⟨by omega, by omega⟩ (fun h5 => ?_) (fun h5 => ?_)
      · refine T_iload_n dX11_house_10 rfl ?_
        refine I_tblOut (tgt := 86) dX11_house_11 hw (by omega) (by decide) ?_
        refine I_iconst dX11_house_86 ?_
        exact I_ireturn dX11_house_87 rfl ⟨_, _, rfl, RQ.here h⟩
      · cases h5
    · rcases (show w = 0 ∨ w = 1 ∨ w = 2 ∨ w = 3 ∨ w = 4 ∨ w = 5 by omega) with rfl | rfl | rfl | rfl | rfl | rfl
      · rw [show LE mX11_house [.ref 453, IV x, IV 0] = [some (.ref 453), some (IV x), some (IV 0)] from rfl]
        refine T_aload_n dX11_house_0 rfl rfl ?_
        refine T_iload_n dX11_house_1 rfl ?_
        refine Q_callV dX11_house_2 kX11_isHouse lX11_177 (by assumption) rfl (p_R_isHouse h.1 hx) rfl rfl (Nat.le_of_ble_eq_true rfl) (Nat.le_of_ble_eq_true rfl) (by decide) (by decide) ?_
        rw [b2p_t hb]
        refine I_if_ne (tgt := 10) dX11_house_5 (by decide) ⟨by omega, by omega⟩ (fun h5 => ?_) (fun h5 => ?_)
        · refine T_iload_n dX11_house_10 rfl ?_
          refine I_tblIn (tgt := 48) dX11_house_11 hw (by omega) (by omega) rfl (by decide) ?_
          refine T_aload_n dX11_house_48 rfl rfl ?_
          refine P_getr dX11_house_49 fX11_7 (by assumption) rfl ?_
          refine I_bipush dX11_house_52 (by decide) ?_
          refine I_iconst dX11_house_54 ?_
          refine T_iload_n dX11_house_55 rfl ?_
          refine I_imul dX11_house_56 ?_
          refine I_iadd dX11_house_57 ?_
          refine T_iload_n dX11_house_58 rfl ?_
          refine I_iadd dX11_house_59 ?_
          refine P_iald dX11_house_60 (by assumption) ⟨by omega, by omega⟩ (by first | decide | omega) ?_
          exact I_ireturn dX11_house_61 rfl ⟨_, _, rfl, RQ.eq h (by rw [if_pos rfl]; exact ea)⟩
        · cases h5
      · rw [show LE mX11_house [.ref 453, IV x, IV 1] = [some (.ref 453), some (IV x), some (IV 1)] from rfl]
        refine T_aload_n dX11_house_0 rfl rfl ?_
        refine T_iload_n dX11_house_1 rfl ?_
        refine Q_callV dX11_house_2 kX11_isHouse lX11_177 (by assumption) rfl (p_R_isHouse h.1 hx) rfl rfl (Nat.le_of_ble_eq_true rfl) (Nat.le_of_ble_eq_true rfl) (by decide) (by decide) ?_
        rw [b2p_t hb]
        refine I_if_ne (tgt := 10) dX11_house_5 (by decide) ⟨by omega, by omega⟩ (fun h5 => ?_) (fun h5 => ?_)
        · refine T_iload_n dX11_house_10 rfl ?_
          refine I_tblIn (tgt := 48) dX11_house_11 hw (by omega) (by omega) rfl (by decide) ?_
          refine T_aload_n dX11_house_48 rfl rfl ?_
          refine P_getr dX11_house_49 fX11_7 (by assumption) rfl ?_
          refine I_bipush dX11_house_52 (by decide) ?_
          refine I_iconst dX11_house_54 ?_
          refine T_iload_n dX11_house_55 rfl ?_
          refine I_imul dX11_house_56 ?_
          refine I_iadd dX11_house_57 ?_
          refine T_iload_n dX11_house_58 rfl ?_
          refine I_iadd dX11_house_59 ?_
          refine P_iald dX11_house_60 (by assumption) ⟨by omega, by omega⟩ (by first | decide | omega) ?_
          exact I_ireturn dX11_house_61 rfl ⟨_, _, rfl, RQ.eq h (by rw [if_neg (by omega), if_pos rfl]; exact eb)⟩
        · cases h5
      · rw [show LE mX11_house [.ref 453, IV x, IV 2] = [some (.ref 453), some (IV x), some (IV 2)] from rfl]
        refine T_aload_n dX11_house_0 rfl rfl ?_
        refine T_iload_n dX11_house_1 rfl ?_
        refine Q_callV dX11_house_2 kX11_isHouse lX11_177 (by assumption) rfl (p_R_isHouse h.1 hx) rfl rfl (Nat.le_of_ble_eq_true rfl) (Nat.le_of_ble_eq_true rfl) (by decide) (by decide) ?_
        rw [b2p_t hb]
        refine I_if_ne (tgt := 10) dX11_house_5 (by decide) ⟨by omega, by omega⟩ (fun h5 => ?_) (fun h5 => ?_)
        · refine T_iload_n dX11_house_10 rfl ?_
          refine I_tblIn (tgt := 62) dX11_house_11 hw (by omega) (by omega) rfl (by decide) ?_
          refine T_aload_n dX11_house_62 rfl rfl ?_
          refine T_iload_n dX11_house_63 rfl ?_
          refine Q_callV dX11_house_64 kX11_itemsIn lX11_181 (by assumption) rfl (p_R_itemsIn h.1 hx) rfl rfl (Nat.le_of_ble_eq_true rfl) (Nat.le_of_ble_eq_true rfl) (by decide) (by decide) ?_
          exact I_ireturn dX11_house_67 rfl ⟨_, _, rfl, RQ.eq h (by rw [if_neg (by omega), if_neg (by omega), if_pos rfl])⟩
        · cases h5
      · rw [show LE mX11_house [.ref 453, IV x, IV 3] = [some (.ref 453), some (IV x), some (IV 3)] from rfl]
        refine T_aload_n dX11_house_0 rfl rfl ?_
        refine T_iload_n dX11_house_1 rfl ?_
        refine Q_callV dX11_house_2 kX11_isHouse lX11_177 (by assumption) rfl (p_R_isHouse h.1 hx) rfl rfl (Nat.le_of_ble_eq_true rfl) (Nat.le_of_ble_eq_true rfl) (by decide) (by decide) ?_
        rw [b2p_t hb]
        refine I_if_ne (tgt := 10) dX11_house_5 (by decide) ⟨by omega, by omega⟩ (fun h5 => ?_) (fun h5 => ?_)
        · refine T_iload_n dX11_house_10 rfl ?_
          refine I_tblIn (tgt := 68) dX11_house_11 hw (by omega) (by omega) rfl (by decide) ?_
          refine T_aload_n dX11_house_68 rfl rfl ?_
          refine T_iload_n dX11_house_69 rfl ?_
          refine Q_callV dX11_house_70 kX11_known lX11_167 (by assumption) rfl (p_R_known h.1 ⟨hb1, by omega⟩) rfl rfl (Nat.le_of_ble_eq_true rfl) (Nat.le_of_ble_eq_true rfl) (by decide) (by decide) ?_
          exact I_ireturn dX11_house_73 rfl ⟨_, _, rfl, RQ.eq h (by rw [if_neg (by omega), if_neg (by omega), if_neg (by omega), if_pos rfl])⟩
        · cases h5
      · rw [show LE mX11_house [.ref 453, IV x, IV 4] = [some (.ref 453), some (IV x), some (IV 4)] from rfl]
        refine T_aload_n dX11_house_0 rfl rfl ?_
        refine T_iload_n dX11_house_1 rfl ?_
        refine Q_callV dX11_house_2 kX11_isHouse lX11_177 (by assumption) rfl (p_R_isHouse h.1 hx) rfl rfl (Nat.le_of_ble_eq_true rfl) (Nat.le_of_ble_eq_true rfl) (by decide) (by decide) ?_
        rw [b2p_t hb]
        refine I_if_ne (tgt := 10) dX11_house_5 (by decide) ⟨by omega, by omega⟩ (fun h5 => ?_) (fun h5 => ?_)
        · refine T_iload_n dX11_house_10 rfl ?_
          refine I_tblIn (tgt := 74) dX11_house_11 hw (by omega) (by omega) rfl (by decide) ?_
          refine T_aload_n dX11_house_74 rfl rfl ?_
          refine T_iload_n dX11_house_75 rfl ?_
          refine Q_callV dX11_house_76 kX11_passedIn lX11_184 (by assumption) rfl (p_R_passedIn h.1 ⟨hb1, by omega⟩) rfl rfl (Nat.le_of_ble_eq_true rfl) (Nat.le_of_ble_eq_true rfl) (by decide) (by decide) ?_
          exact I_ireturn dX11_house_79 rfl ⟨_, _, rfl, RQ.eq h (by rw [if_neg (by omega), if_neg (by omega), if_neg (by omega), if_neg (by omega), if_pos rfl])⟩
        · cases h5
      · rw [show LE mX11_house [.ref 453, IV x, IV 5] = [some (.ref 453), some (IV x), some (IV 5)] from rfl]
        refine T_aload_n dX11_house_0 rfl rfl ?_
        refine T_iload_n dX11_house_1 rfl ?_
        refine Q_callV dX11_house_2 kX11_isHouse lX11_177 (by assumption) rfl (p_R_isHouse h.1 hx) rfl rfl (Nat.le_of_ble_eq_true rfl) (Nat.le_of_ble_eq_true rfl) (by decide) (by decide) ?_
        rw [b2p_t hb]
        refine I_if_ne (tgt := 10) dX11_house_5 (by decide) ⟨by omega, by omega⟩ (fun h5 => ?_) (fun h5 => ?_)
        · refine T_iload_n dX11_house_10 rfl ?_
          refine I_tblIn (tgt := 80) dX11_house_11 hw (by omega) (by omega) rfl (by decide) ?_
          refine T_aload_n dX11_house_80 rfl rfl ?_
          refine T_iload_n dX11_house_81 rfl ?_
          refine Q_callV dX11_house_82 kX11_lastsOf lX11_187 (by assumption) rfl (p_R_lastsOf h.1 hx) rfl rfl (Nat.le_of_ble_eq_true rfl) (Nat.le_of_ble_eq_true rfl) (by decide) (by decide) ?_
          exact I_ireturn dX11_house_85 rfl ⟨_, _, rfl, RQ.eq h (by rw [if_neg (by omega), if_neg (by omega), if_neg (by omega), if_neg (by omega), if_neg (by omega), if_pos rfl])⟩
        · cases h5
  · have hv : houseA M x w = -1 := if_neg hb
    rw [hv]
    rw [show LE mX11_house [.ref 453, IV x, IV w] = [some (.ref 453), some (IV x), some (IV w)] from rfl]
    refine T_aload_n dX11_house_0 rfl rfl ?_
    refine T_iload_n dX11_house_1 rfl ?_
    refine Q_callV dX11_house_2 kX11_isHouse lX11_177 (by assumption) rfl (p_R_isHouse h.1 hx) rfl rfl (Nat.le_of_ble_eq_true rfl) (Nat.le_of_ble_eq_true rfl) (by decide) (by decide) ?_
    rw [b2p_f hb]
    refine I_if_ne (tgt := 10) dX11_house_5 (by decide) ⟨by omega, by omega⟩ (fun h5 => ?_) (fun h5 => ?_)
    · exact absurd rfl h5
    · refine I_iconst dX11_house_8 ?_
      exact I_ireturn dX11_house_9 rfl ⟨_, _, rfl, RQ.here h⟩
theorem dom_in {d : Int} : inB d 0 (pDm (mPl M) - 1) ↔ domB (mPl M) d := ⟨fun z => ⟨z.1, by have := z.2; omega⟩, fun z => ⟨z.1, by have := z.2; omega⟩⟩
theorem p_R_receiver {d i w : Int} (h : RR K S M) (hd : R32 d) (hi : R32 i) (hw : R32 w) : P G 3 0 0 mX11_receiver 0 (LE mX11_receiver [.ref 453, IV d, IV i, IV w]) [] K S (RQ K S (recA M d i w) M) := by
  have m0 := h.1.1.1
  have m1 := h.1.1.2.1
  have hPo := h.1.2.2.1
  have e1 : aI S 454 1 = pDm (mPl M) := h.1.2.2.2.1.1.2
  have hb4 := hPo.2.1
  have hb5 := hPo.1
  by_cases hb : domB (mPl M) d ∧ 0 ≤ i ∧ 0 ≤ w ∧ w ≤ 2
  · have hv : recA M d i w = if pRc (mPl M) d ≤ i then -4 else if w = 2 then b2p (lastM (mPl M) (pRh (mPl M) d i) d) else if w = 0 then pRh (mPl M) d i else pRp (mPl M) d i := if_pos hb
    rw [hv]
    obtain ⟨hb0, hb1, hb2, hb3⟩ := hb
    have hb0' := hb0
    obtain ⟨hd0, hd1⟩ := hb0'
    have hrc := hPo.2.2.1 d hd0 (by omega)
    have hin := dom_in.mpr hb0
    by_cases hl : pRc (mPl M) d ≤ i
    · rw [if_pos hl]
      rw [show LE mX11_receiver [.ref 453, IV d, IV i, IV w] = [some (.ref 453), some (IV d), some (IV i), some (IV w)] from rfl]
      refine T_iload_n dX11_receiver_0 rfl ?_
      refine I_i2l dX11_receiver_1 hd ?_
      refine I_lconst dX11_receiver_2 ?_
      refine T_aload_n dX11_receiver_3 rfl rfl ?_
      refine P_getr dX11_receiver_4 fX11_7 (by assumption) rfl ?_
      refine I_iconst dX11_receiver_7 ?_
      refine P_iald dX11_receiver_8 (by assumption) ⟨by omega, by omega⟩ (by first | decide | omega) ?_
      rw [e1]
      refine I_iconst dX11_receiver_9 ?_
      refine I_isub dX11_receiver_10 ?_
      refine I_i2l dX11_receiver_11 ⟨by omega, by omega⟩ ?_
      refine Q_callS dX11_receiver_12 kX11_in lX11_52 (p_in (lo := 0) ⟨by omega, by omega⟩ (by decide) ⟨by omega, by omega⟩) rfl rfl (Nat.le_of_ble_eq_true rfl) (Nat.le_of_ble_eq_true rfl) (by decide) (by decide) ?_
      rw [b2p_t hin]
      refine I_if_eq (tgt := 34) dX11_receiver_15 (by decide) ⟨by omega, by omega⟩ (fun h15 => ?_) (fun h15 => ?_)
      · cases h15
      · refine T_iload_n dX11_receiver_18 rfl ?_
        refine I_if_lt (tgt := 34) dX11_receiver_19 (by decide) hi (fun h19 => ?_) (fun h19 => ?_)
        · omega
        · refine T_iload_n dX11_receiver_22 rfl ?_
          refine I_i2l dX11_receiver_23 hw ?_
          refine I_lconst dX11_receiver_24 ?_
          refine I_ldc2 (n := 2) dX11_receiver_25 qX11_190 rfl ?_
          refine Q_callS dX11_receiver_28 kX11_in lX11_52 (p_in (lo := 0) ⟨by omega, by omega⟩ (by decide) (by decide)) rfl rfl (Nat.le_of_ble_eq_true rfl) (Nat.le_of_ble_eq_true rfl) (by decide) (by decide) ?_
          rw [b2p_t (show inB w 0 2 from ⟨hb2, hb3⟩)]
          refine I_if_ne (tgt := 36) dX11_receiver_31 (by decide) ⟨by omega, by omega⟩ (fun h31 => ?_) (fun h31 => ?_)
          · refine T_iload_n dX11_receiver_36 rfl ?_
            refine T_aload_n dX11_receiver_37 rfl rfl ?_
            refine T_iload_n dX11_receiver_38 rfl ?_
            refine Q_callV dX11_receiver_39 kX11_receivers lX11_145 (by assumption) rfl (p_R_receivers h.1 ⟨hd0, by omega⟩) rfl rfl (Nat.le_of_ble_eq_true rfl) (Nat.le_of_ble_eq_true rfl) (by decide) (by decide) ?_
            refine I_icmp_lt (tgt := 48) dX11_receiver_42 (by decide) hi ⟨by omega, by omega⟩ (fun h42 => ?_) (fun h42 => ?_)
            · omega
            · refine I_bipush dX11_receiver_45 (by decide) ?_
              exact I_ireturn dX11_receiver_47 rfl ⟨_, _, rfl, RQ.here h⟩
          · cases h31
    · rw [if_neg hl]
      have hrh := (hPo.2.2.2.1 d i hd0 (by omega) hb1 (by omega)).1
      have c0 := p_R_receiverOf (G := G) (w := 0) h.1 ⟨hd0, by omega⟩ ⟨hb1, by omega⟩ (Or.inl rfl)
      rw [if_pos rfl] at c0
      by_cases hw2 : w = 2
      · rw [if_pos hw2]
        rw [show LE mX11_receiver [.ref 453, IV d, IV i, IV w] = [some (.ref 453), some (IV d), some (IV i), some (IV w)] from rfl]
        refine T_iload_n dX11_receiver_0 rfl ?_
        refine I_i2l dX11_receiver_1 hd ?_
        refine I_lconst dX11_receiver_2 ?_
        refine T_aload_n dX11_receiver_3 rfl rfl ?_
        refine P_getr dX11_receiver_4 fX11_7 (by assumption) rfl ?_
        refine I_iconst dX11_receiver_7 ?_
        refine P_iald dX11_receiver_8 (by assumption) ⟨by omega, by omega⟩ (by first | decide | omega) ?_
        rw [e1]
        refine I_iconst dX11_receiver_9 ?_
        refine I_isub dX11_receiver_10 ?_
        refine I_i2l dX11_receiver_11 ⟨by omega, by omega⟩ ?_
        refine Q_callS dX11_receiver_12 kX11_in lX11_52 (p_in (lo := 0) ⟨by omega, by omega⟩ (by decide) ⟨by omega, by omega⟩) rfl rfl (Nat.le_of_ble_eq_true rfl) (Nat.le_of_ble_eq_true rfl) (by decide) (by decide) ?_
        rw [b2p_t hin]
        refine I_if_eq (tgt := 34) dX11_receiver_15 (by decide) ⟨by omega, by omega⟩ (fun h15 => ?_) (fun h15 => ?_)
        · cases h15
        · refine T_iload_n dX11_receiver_18 rfl ?_
          refine I_if_lt (tgt := 34) dX11_receiver_19 (by decide) hi (fun h19 => ?_) (fun h19 => ?_)
          · omega
          · refine T_iload_n dX11_receiver_22 rfl ?_
            refine I_i2l dX11_receiver_23 hw ?_
            refine I_lconst dX11_receiver_24 ?_
            refine I_ldc2 (n := 2) dX11_receiver_25 qX11_190 rfl ?_
            refine Q_callS dX11_receiver_28 kX11_in lX11_52 (p_in (lo := 0) ⟨by omega, by omega⟩ (by decide) (by decide)) rfl rfl (Nat.le_of_ble_eq_true rfl) (Nat.le_of_ble_eq_true rfl) (by decide) (by decide) ?_
            rw [b2p_t (show inB w 0 2 from ⟨hb2, hb3⟩)]
            refine I_if_ne (tgt := 36) dX11_receiver_31 (by decide) ⟨by omega, by omega⟩ (fun h31 => ?_) (fun h31 => ?_)
            · refine T_iload_n dX11_receiver_36 rfl ?_
              refine T_aload_n dX11_receiver_37 rfl rfl ?_
              refine T_iload_n dX11_receiver_38 rfl ?_
              refine Q_callV dX11_receiver_39 kX11_receivers lX11_145 (by assumption) rfl (p_R_receivers h.1 ⟨hd0, by omega⟩) rfl rfl (Nat.le_of_ble_eq_true rfl) (Nat.le_of_ble_eq_true rfl) (by decide) (by decide) ?_
              refine I_icmp_lt (tgt := 48) dX11_receiver_42 (by decide) hi ⟨by omega, by omega⟩ (fun h42 => ?_) (fun h42 => ?_)
              · refine T_iload_n dX11_receiver_48 rfl ?_
                refine I_iconst dX11_receiver_49 ?_
                refine I_icmp_ge (tgt := 63) dX11_receiver_50 (by decide) hw ⟨by omega, by omega⟩ (fun h50 => ?_) (fun h50 => ?_)
                · refine T_aload_n dX11_receiver_63 rfl rfl ?_
                  refine T_aload_n dX11_receiver_64 rfl rfl ?_
                  refine T_iload_n dX11_receiver_65 rfl ?_
                  refine T_iload_n dX11_receiver_66 rfl ?_
                  refine I_iconst dX11_receiver_67 ?_
                  refine Q_callV dX11_receiver_68 kX11_receiverOf lX11_148 (by assumption) rfl c0 rfl rfl (Nat.le_of_ble_eq_true rfl) (Nat.le_of_ble_eq_true rfl) (by decide) (by decide) ?_
                  refine T_iload_n dX11_receiver_71 rfl ?_
                  refine Q_callV dX11_receiver_72 kX11_isLast lX11_173 (by assumption) rfl (p_R_last h.1 ⟨hd0, by omega⟩ ⟨by omega, by omega⟩) rfl rfl (Nat.le_of_ble_eq_true rfl) (Nat.le_of_ble_eq_true rfl) (by decide) (by decide) ?_
                  refine Q_callS dX11_receiver_75 kX11_flag lX11_104 (p_flag (b2p_01 _)) rfl rfl (Nat.le_of_ble_eq_true rfl) (Nat.le_of_ble_eq_true rfl) (by decide) (by decide) ?_
                  exact I_ireturn dX11_receiver_78 rfl ⟨_, _, rfl, RQ.here h⟩
                · omega
              · omega
            · cases h31
      · rw [if_neg hw2]
        have c1 := p_R_receiverOf (G := G) (w := w) h.1 ⟨hd0, by omega⟩ ⟨hb1, by omega⟩ (by omega)
        rw [show LE mX11_receiver [.ref 453, IV d, IV i, IV w] = [some (.ref 453), some (IV d), some (IV i), some (IV w)] from rfl]
        refine T_iload_n dX11_receiver_0 rfl ?_
        refine I_i2l dX11_receiver_1 hd ?_
        refine I_lconst dX11_receiver_2 ?_
        refine T_aload_n dX11_receiver_3 rfl rfl ?_
        refine P_getr dX11_receiver_4 fX11_7 (by assumption) rfl ?_
        refine I_iconst dX11_receiver_7 ?_
        refine P_iald dX11_receiver_8 (by assumption) ⟨by omega, by omega⟩ (by first | decide | omega) ?_
        rw [e1]
        refine I_iconst dX11_receiver_9 ?_
        refine I_isub dX11_receiver_10 ?_
        refine I_i2l dX11_receiver_11 ⟨by omega, by omega⟩ ?_
        refine Q_callS dX11_receiver_12 kX11_in lX11_52 (p_in (lo := 0) ⟨by omega, by omega⟩ (by decide) ⟨by omega, by omega⟩) rfl rfl (Nat.le_of_ble_eq_true rfl) (Nat.le_of_ble_eq_true rfl) (by decide) (by decide) ?_
        rw [b2p_t hin]
        refine I_if_eq (tgt := 34) dX11_receiver_15 (by decide) ⟨by omega, by omega⟩ (fun h15 => ?_) (fun h15 => ?_)
        · cases h15
        · refine T_iload_n dX11_receiver_18 rfl ?_
          refine I_if_lt (tgt := 34) dX11_receiver_19 (by decide) hi (fun h19 => ?_) (fun h19 => ?_)
          · omega
          · refine T_iload_n dX11_receiver_22 rfl ?_
            refine I_i2l dX11_receiver_23 hw ?_
            refine I_lconst dX11_receiver_24 ?_
            refine I_ldc2 (n := 2) dX11_receiver_25 qX11_190 rfl ?_
            refine Q_callS dX11_receiver_28 kX11_in lX11_52 (p_in (lo := 0) ⟨by omega, by omega⟩ (by decide) (by decide)) rfl rfl (Nat.le_of_ble_eq_true rfl) (Nat.le_of_ble_eq_true rfl) (by decide) (by decide) ?_
            rw [b2p_t (show inB w 0 2 from ⟨hb2, hb3⟩)]
            refine I_if_ne (tgt := 36) dX11_receiver_31 (by decide) ⟨by omega, by omega⟩ (fun h31 => ?_) (fun h31 => ?_)
            · refine T_iload_n dX11_receiver_36 rfl ?_
              refine T_aload_n dX11_receiver_37 rfl rfl ?_
              refine T_iload_n dX11_receiver_38 rfl ?_
              refine Q_callV dX11_receiver_39 kX11_receivers lX11_145 (by assumption) rfl (p_R_receivers h.1 ⟨hd0, by omega⟩) rfl rfl (Nat.le_of_ble_eq_true rfl) (Nat.le_of_ble_eq_true rfl) (by decide) (by decide) ?_
              refine I_icmp_lt (tgt := 48) dX11_receiver_42 (by decide) hi ⟨by omega, by omega⟩ (fun h42 => ?_) (fun h42 => ?_)
              · refine T_iload_n dX11_receiver_48 rfl ?_
                refine I_iconst dX11_receiver_49 ?_
                refine I_icmp_ge (tgt := 63) dX11_receiver_50 (by decide) hw ⟨by omega, by omega⟩ (fun h50 => ?_) (fun h50 => ?_)
                · omega
                · refine T_aload_n dX11_receiver_53 rfl rfl ?_
                  refine T_iload_n dX11_receiver_54 rfl ?_
                  refine T_iload_n dX11_receiver_55 rfl ?_
                  refine T_iload_n dX11_receiver_56 rfl ?_
                  refine Q_callV dX11_receiver_57 kX11_receiverOf lX11_148 (by assumption) rfl c1 rfl rfl (Nat.le_of_ble_eq_true rfl) (Nat.le_of_ble_eq_true rfl) (by decide) (by decide) ?_
                  refine T_goto (tgt := 78) dX11_receiver_60 (by decide) ?_
                  exact I_ireturn dX11_receiver_78 rfl ⟨_, _, rfl, RQ.here h⟩
              · omega
            · cases h31
  · have hv : recA M d i w = -1 := if_neg hb
    rw [hv]
    by_cases hb0 : domB (mPl M) d
    · have hin := dom_in.mpr hb0
      by_cases hw2 : inB w 0 2
      · rw [show LE mX11_receiver [.ref 453, IV d, IV i, IV w] = [some (.ref 453), some (IV d), some (IV i), some (IV w)] from rfl]
        refine T_iload_n dX11_receiver_0 rfl ?_
        refine I_i2l dX11_receiver_1 hd ?_
        refine I_lconst dX11_receiver_2 ?_
        refine T_aload_n dX11_receiver_3 rfl rfl ?_
        refine P_getr dX11_receiver_4 fX11_7 (by assumption) rfl ?_
        refine I_iconst dX11_receiver_7 ?_
        refine P_iald dX11_receiver_8 (by assumption) ⟨by omega, by omega⟩ (by first | decide | omega) ?_
        rw [e1]
        refine I_iconst dX11_receiver_9 ?_
        refine I_isub dX11_receiver_10 ?_
        refine I_i2l dX11_receiver_11 ⟨by omega, by omega⟩ ?_
        refine Q_callS dX11_receiver_12 kX11_in lX11_52 (p_in (lo := 0) ⟨by omega, by omega⟩ (by decide) ⟨by omega, by omega⟩) rfl rfl (Nat.le_of_ble_eq_true rfl) (Nat.le_of_ble_eq_true rfl) (by decide) (by decide) ?_
        rw [b2p_t hin]
        refine I_if_eq (tgt := 34) dX11_receiver_15 (by decide) ⟨by omega, by omega⟩ (fun h15 => ?_) (fun h15 => ?_)
        · cases h15
        · refine T_iload_n dX11_receiver_18 rfl ?_
          refine I_if_lt (tgt := 34) dX11_receiver_19 (by decide) hi (fun h19 => ?_) (fun h19 => ?_)
          · refine I_iconst dX11_receiver_34 ?_
            exact I_ireturn dX11_receiver_35 rfl ⟨_, _, rfl, RQ.here h⟩
          · exact absurd ⟨hb0, by omega, hw2⟩ hb
      · rw [show LE mX11_receiver [.ref 453, IV d, IV i, IV w] = [some (.ref 453), some (IV d), some (IV i), some (IV w)] from rfl]
        refine T_iload_n dX11_receiver_0 rfl ?_
        refine I_i2l dX11_receiver_1 hd ?_
        refine I_lconst dX11_receiver_2 ?_
        refine T_aload_n dX11_receiver_3 rfl rfl ?_
        refine P_getr dX11_receiver_4 fX11_7 (by assumption) rfl ?_
        refine I_iconst dX11_receiver_7 ?_
        refine P_iald dX11_receiver_8 (by assumption) ⟨by omega, by omega⟩ (by first | decide | omega) ?_
        rw [e1]
        refine I_iconst dX11_receiver_9 ?_
        refine I_isub dX11_receiver_10 ?_
        refine I_i2l dX11_receiver_11 ⟨by omega, by omega⟩ ?_
        refine Q_callS dX11_receiver_12 kX11_in lX11_52 (p_in (lo := 0) ⟨by omega, by omega⟩ (by decide) ⟨by omega, by omega⟩) rfl rfl (Nat.le_of_ble_eq_true rfl) (Nat.le_of_ble_eq_true rfl) (by decide) (by decide) ?_
        rw [b2p_t hin]
        refine I_if_eq (tgt := 34) dX11_receiver_15 (by decide) ⟨by omega, by omega⟩ (fun h15 => ?_) (fun h15 => ?_)
        · cases h15
        · refine T_iload_n dX11_receiver_18 rfl ?_
          refine I_if_lt (tgt := 34) dX11_receiver_19 (by decide) hi (fun h19 => ?_) (fun h19 => ?_)
          · refine I_iconst dX11_receiver_34 ?_
            exact I_ireturn dX11_receiver_35 rfl ⟨_, _, rfl, RQ.here h⟩
          · refine T_iload_n dX11_receiver_22 rfl ?_
            refine I_i2l dX11_receiver_23 hw ?_
            refine I_lconst dX11_receiver_24 ?_
            refine I_ldc2 (n := 2) dX11_receiver_25 qX11_190 rfl ?_
            refine Q_callS dX11_receiver_28 kX11_in lX11_52 (p_in (lo := 0) ⟨by omega, by omega⟩ (by decide) (by decide)) rfl rfl (Nat.le_of_ble_eq_true rfl) (Nat.le_of_ble_eq_true rfl) (by decide) (by decide) ?_
            rw [b2p_f hw2]
            refine I_if_ne (tgt := 36) dX11_receiver_31 (by decide) ⟨by omega, by omega⟩ (fun h31 => ?_) (fun h31 => ?_)
            · exact absurd rfl h31
            · refine I_iconst dX11_receiver_34 ?_
              exact I_ireturn dX11_receiver_35 rfl ⟨_, _, rfl, RQ.here h⟩
    · have hin : ¬ inB d 0 (pDm (mPl M) - 1) := fun z => hb0 (dom_in.mp z)
      rw [show LE mX11_receiver [.ref 453, IV d, IV i, IV w] = [some (.ref 453), some (IV d), some (IV i), some (IV w)] from rfl]
      refine T_iload_n dX11_receiver_0 rfl ?_
      refine I_i2l dX11_receiver_1 hd ?_
      refine I_lconst dX11_receiver_2 ?_
      refine T_aload_n dX11_receiver_3 rfl rfl ?_
      refine P_getr dX11_receiver_4 fX11_7 (by assumption) rfl ?_
      refine I_iconst dX11_receiver_7 ?_
      refine P_iald dX11_receiver_8 (by assumption) ⟨by omega, by omega⟩ (by first | decide | omega) ?_
      rw [e1]
      refine I_iconst dX11_receiver_9 ?_
      refine I_isub dX11_receiver_10 ?_
      refine I_i2l dX11_receiver_11 ⟨by omega, by omega⟩ ?_
      refine Q_callS dX11_receiver_12 kX11_in lX11_52 (p_in (lo := 0) ⟨by omega, by omega⟩ (by decide) ⟨by omega, by omega⟩) rfl rfl (Nat.le_of_ble_eq_true rfl) (Nat.le_of_ble_eq_true rfl) (by decide) (by decide) ?_
      rw [b2p_f hin]
      refine I_if_eq (tgt := 34) dX11_receiver_15 (by decide) ⟨by omega, by omega⟩ (fun h15 => ?_) (fun h15 => ?_)
      · refine I_iconst dX11_receiver_34 ?_
        exact I_ireturn dX11_receiver_35 rfl ⟨_, _, rfl, RQ.here h⟩
      · exact absurd rfl h15
end RL1
