/-! more of the class's calls that only look -/
section WQ2
variable {G : GT} {K : List SH} {S : SV} {M : MS} {N : Int}
theorem p_W_receiver {d i w : Int} (h : WR K S M N) (hd : R32 d) (hi : R32 i) (hw : R32 w) : P G 2 0 0 mX10_receiver 0 (LE mX10_receiver [.ref 0, IV d, IV i, IV w]) [] K S (WQ K S (recA M d i w) M N) := by
  have w0 := h.1.1
  have hr := h.allR
  have k2 := h.1.2.2.1
  have k2' := k2.1
  have k22 := k2.2.2.1
  have k23 := k2.2.2.2.1
  have k24 := k2.2.2.2.2.1
  have hP := h.2.2.1.1
  have hPo := h.2.2.1.2
  have hF := h.pf
  by_cases hb : domB (mPl M) d ∧ 0 ≤ i ∧ 0 ≤ w ∧ w ≤ 2
  · have hv : recA M d i w = if pRc (mPl M) d ≤ i then -4 else if w = 2 then b2p (lastM (mPl M) (pRh (mPl M) d i) d) else if w = 0 then pRh (mPl M) d i else pRp (mPl M) d i := if_pos hb
    rw [hv]
    obtain ⟨hb0, hb1, hb2, hb3⟩ := hb
    have hb0' := hb0
    obtain ⟨hd0, hd1⟩ := hb0'
    have hD4 := hPo.2.1
    have hrc := hPo.2.2.1 d hd0 (by omega)
    obtain ⟨e1, e2, -⟩ := hP.2.2.1 d hd0 (by omega)
    by_cases hl : pRc (mPl M) d ≤ i
    · rw [if_pos hl]
      rw [show LE mX10_receiver [.ref 0, IV d, IV i, IV w] = [some (.ref 0), some (IV d), some (IV i), some (IV w), none] from rfl]
      refine T_aload_n dX10_receiver_0 rfl rfl ?_
      refine T_iload_n dX10_receiver_1 rfl ?_
      refine Q_callV dX10_receiver_2 kX10_isDomain lX10_154 (by assumption) rfl (p_isDomain h hd) rfl rfl (Nat.le_of_ble_eq_true rfl) (Nat.le_of_ble_eq_true rfl) (by decide) (by decide) ?_
      rw [b2p_t hb0]
      refine I_if_eq (tgt := 21) dX10_receiver_5 (by decide) ⟨by omega, by omega⟩ (fun h5 => ?_) (fun h5 => ?_)
      · cases h5
      · refine T_iload_n dX10_receiver_8 rfl ?_
        refine I_if_lt (tgt := 21) dX10_receiver_9 (by decide) hi (fun h9 => ?_) (fun h9 => ?_)
        · omega
        · refine T_iload_n dX10_receiver_12 rfl ?_
          refine I_if_lt (tgt := 21) dX10_receiver_13 (by decide) hw (fun h13 => ?_) (fun h13 => ?_)
          · omega
          · refine T_iload_n dX10_receiver_16 rfl ?_
            refine I_iconst dX10_receiver_17 ?_
            refine I_icmp_le (tgt := 23) dX10_receiver_18 (by decide) hw ⟨by omega, by omega⟩ (fun h18 => ?_) (fun h18 => ?_)
            · refine T_iload_n dX10_receiver_23 rfl ?_
              refine T_aload_n dX10_receiver_24 rfl rfl ?_
              refine P_getr dX10_receiver_25 fX10_19 (by assumption) rfl ?_
              refine P_getr dX10_receiver_28 fX10_157 (by assumption) rfl ?_
              refine T_iload_n dX10_receiver_31 rfl ?_
              refine P_iald dX10_receiver_32 (by assumption) ⟨by omega, by omega⟩ (by first | decide | omega) ?_
              rw [e1]
              refine I_icmp_lt (tgt := 39) dX10_receiver_33 (by decide) hi ⟨by omega, by omega⟩ (fun h33 => ?_) (fun h33 => ?_)
              · omega
              · refine I_bipush dX10_receiver_36 (by decide) ?_
                exact I_ireturn dX10_receiver_38 rfl ⟨_, _, rfl, WQ.here h⟩
            · omega
    · rw [if_neg hl]
      obtain ⟨f1, f2⟩ := e2 i hb1 (by omega)
      have hrh := (hPo.2.2.2.1 d i hd0 (by omega) hb1 (by omega)).1
      have hb5 := hPo.1
      have hlast := p_Plan_isLast (G := G) (h := pRh (mPl M) d i) (d := d) k2 hr hF.2.1 hd ⟨by omega, by omega⟩
      rw [b2p_c (lastP_iff hF (h := pRh (mPl M) d i) ⟨hd0, by omega⟩)] at hlast
      rcases (show w = 0 ∨ w = 1 ∨ w = 2 by omega) with rfl | rfl | rfl
      · rw [show LE mX10_receiver [.ref 0, IV d, IV i, IV 0] = [some (.ref 0), some (IV d), some (IV i), some (IV 0), none] from rfl]
        refine T_aload_n dX10_receiver_0 rfl rfl ?_
        refine T_iload_n dX10_receiver_1 rfl ?_
        refine Q_callV dX10_receiver_2 kX10_isDomain lX10_154 (by assumption) rfl (p_isDomain h hd) rfl rfl (Nat.le_of_ble_eq_true rfl) (Nat.le_of_ble_eq_true rfl) (by decide) (by decide) ?_
        rw [b2p_t hb0]
        refine I_if_eq (tgt := 21) dX10_receiver_5 (by decide) ⟨by omega, by omega⟩ (fun h5 => ?_) (fun h5 => ?_)
        · cases h5
        · refine T_iload_n dX10_receiver_8 rfl ?_
          refine I_if_lt (tgt := 21) dX10_receiver_9 (by decide) hi (fun h9 => ?_) (fun h9 => ?_)
          · omega
          · refine T_iload_n dX10_receiver_12 rfl ?_
            refine I_if_lt (tgt := 21) dX10_receiver_13 (by decide) hw (fun h13 => ?_) (fun h13 => ?_)
            · omega
            · refine T_iload_n dX10_receiver_16 rfl ?_
              refine I_iconst dX10_receiver_17 ?_
              refine I_icmp_le (tgt := 23) dX10_receiver_18 (by decide) hw ⟨by omega, by omega⟩ (fun h18 => ?_) (fun h18 => ?_)
              · refine T_iload_n dX10_receiver_23 rfl ?_
                refine T_aload_n dX10_receiver_24 rfl rfl ?_
                refine P_getr dX10_receiver_25 fX10_19 (by assumption) rfl ?_
                refine P_getr dX10_receiver_28 fX10_157 (by assumption) rfl ?_
                refine T_iload_n dX10_receiver_31 rfl ?_
                refine P_iald dX10_receiver_32 (by assumption) ⟨by omega, by omega⟩ (by first | decide | omega) ?_
                rw [e1]
                refine I_icmp_lt (tgt := 39) dX10_receiver_33 (by decide) hi ⟨by omega, by omega⟩ (fun h33 => ?_) (fun h33 => ?_)
                · refine T_iload_n dX10_receiver_39 rfl ?_
                  refine I_iconst dX10_receiver_40 ?_
                  refine I_imul dX10_receiver_41 ?_
                  refine T_iload_n dX10_receiver_42 rfl ?_
                  refine I_iadd dX10_receiver_43 ?_
                  refine T_istore dX10_receiver_44 (by decide) rfl ?_
                  refine T_iload_n dX10_receiver_46 rfl ?_
                  refine I_iconst dX10_receiver_47 ?_
                  refine I_icmp_ne (tgt := 78) dX10_receiver_48 (by decide) ⟨by omega, by omega⟩ ⟨by omega, by omega⟩ (fun h48 => ?_) (fun h48 => ?_)
                  · refine T_iload_n dX10_receiver_78 rfl ?_
                    refine I_if_ne (tgt := 95) dX10_receiver_79 (by decide) ⟨by omega, by omega⟩ (fun h79 => ?_) (fun h79 => ?_)
                    · omega
                    · refine T_aload_n dX10_receiver_82 rfl rfl ?_
                      refine P_getr dX10_receiver_83 fX10_19 (by assumption) rfl ?_
                      refine P_getr dX10_receiver_86 fX10_160 (by assumption) rfl ?_
                      refine T_iload dX10_receiver_89 rfl ?_
                      refine P_iald dX10_receiver_91 (by assumption) ⟨by omega, by omega⟩ (by first | decide | omega) ?_
                      refine T_goto (tgt := 105) dX10_receiver_92 (by decide) ?_
                      exact I_ireturn dX10_receiver_105 rfl ⟨_, _, rfl, WQ.eq h (by rw [if_neg (by omega), if_pos rfl]; exact f1)⟩
                  · omega
                · omega
              · omega
      · rw [show LE mX10_receiver [.ref 0, IV d, IV i, IV 1] = [some (.ref 0), some (IV d), some (IV i), some (IV 1), none] from rfl]
        refine T_aload_n dX10_receiver_0 rfl rfl ?_
        refine T_iload_n dX10_receiver_1 rfl ?_
        refine Q_callV dX10_receiver_2 kX10_isDomain lX10_154 (by assumption) rfl (p_isDomain h hd) rfl rfl (Nat.le_of_ble_eq_true rfl) (Nat.le_of_ble_eq_true rfl) (by decide) (by decide) ?_
        rw [b2p_t hb0]
        refine I_if_eq (tgt := 21) dX10_receiver_5 (by decide) ⟨by omega, by omega⟩ (fun h5 => ?_) (fun h5 => ?_)
        · cases h5
        · refine T_iload_n dX10_receiver_8 rfl ?_
          refine I_if_lt (tgt := 21) dX10_receiver_9 (by decide) hi (fun h9 => ?_) (fun h9 => ?_)
          · omega
          · refine T_iload_n dX10_receiver_12 rfl ?_
            refine I_if_lt (tgt := 21) dX10_receiver_13 (by decide) hw (fun h13 => ?_) (fun h13 => ?_)
            · omega
            · refine T_iload_n dX10_receiver_16 rfl ?_
              refine I_iconst dX10_receiver_17 ?_
              refine I_icmp_le (tgt := 23) dX10_receiver_18 (by decide) hw ⟨by omega, by omega⟩ (fun h18 => ?_) (fun h18 => ?_)
              · refine T_iload_n dX10_receiver_23 rfl ?_
                refine T_aload_n dX10_receiver_24 rfl rfl ?_
                refine P_getr dX10_receiver_25 fX10_19 (by assumption) rfl ?_
                refine P_getr dX10_receiver_28 fX10_157 (by assumption) rfl ?_
                refine T_iload_n dX10_receiver_31 rfl ?_
                refine P_iald dX10_receiver_32 (by assumption) ⟨by omega, by omega⟩ (by first | decide | omega) ?_
                rw [e1]
                refine I_icmp_lt (tgt := 39) dX10_receiver_33 (by decide) hi ⟨by omega, by omega⟩ (fun h33 => ?_) (fun h33 => ?_)
                · refine T_iload_n dX10_receiver_39 rfl ?_
                  refine I_iconst dX10_receiver_40 ?_
                  refine I_imul dX10_receiver_41 ?_
                  refine T_iload_n dX10_receiver_42 rfl ?_
                  refine I_iadd dX10_receiver_43 ?_
                  refine T_istore dX10_receiver_44 (by decide) rfl ?_
                  refine T_iload_n dX10_receiver_46 rfl ?_
                  refine I_iconst dX10_receiver_47 ?_
                  refine I_icmp_ne (tgt := 78) dX10_receiver_48 (by decide) ⟨by omega, by omega⟩ ⟨by omega, by omega⟩ (fun h48 => ?_) (fun h48 => ?_)
                  · refine T_iload_n dX10_receiver_78 rfl ?_
                    refine I_if_ne (tgt := 95) dX10_receiver_79 (by decide) ⟨by omega, by omega⟩ (fun h79 => ?_) (fun h79 => ?_)
                    · refine T_aload_n dX10_receiver_95 rfl rfl ?_
                      refine P_getr dX10_receiver_96 fX10_19 (by assumption) rfl ?_
                      refine P_getr dX10_receiver_99 fX10_167 (by assumption) rfl ?_
                      refine T_iload dX10_receiver_102 rfl ?_
                      refine P_iald dX10_receiver_104 (by assumption) ⟨by omega, by omega⟩ (by first | decide | omega) ?_
                      exact I_ireturn dX10_receiver_105 rfl ⟨_, _, rfl, WQ.eq h (by rw [if_neg (by omega), if_neg (by omega)]; exact f2)⟩
                    · omega
                  · omega
                · omega
              · omega
      · rw [show LE mX10_receiver [.ref 0, IV d, IV i, IV 2] = [some (.ref 0), some (IV d), some (IV i), some (IV 2), none] from rfl]
        refine T_aload_n dX10_receiver_0 rfl rfl ?_
        refine T_iload_n dX10_receiver_1 rfl ?_
        refine Q_callV dX10_receiver_2 kX10_isDomain lX10_154 (by assumption) rfl (p_isDomain h hd) rfl rfl (Nat.le_of_ble_eq_true rfl) (Nat.le_of_ble_eq_true rfl) (by decide) (by decide) ?_
        rw [b2p_t hb0]
        refine I_if_eq (tgt := 21) dX10_receiver_5 (by decide) ⟨by omega, by omega⟩ (fun h5 => ?_) (fun h5 => ?_)
        · cases h5
        · refine T_iload_n dX10_receiver_8 rfl ?_
          refine I_if_lt (tgt := 21) dX10_receiver_9 (by decide) hi (fun h9 => ?_) (fun h9 => ?_)
          · omega
          · refine T_iload_n dX10_receiver_12 rfl ?_
            refine I_if_lt (tgt := 21) dX10_receiver_13 (by decide) hw (fun h13 => ?_) (fun h13 => ?_)
            · omega
            · refine T_iload_n dX10_receiver_16 rfl ?_
              refine I_iconst dX10_receiver_17 ?_
              refine I_icmp_le (tgt := 23) dX10_receiver_18 (by decide) hw ⟨by omega, by omega⟩ (fun h18 => ?_) (fun h18 => ?_)
              · refine T_iload_n dX10_receiver_23 rfl ?_
                refine T_aload_n dX10_receiver_24 rfl rfl ?_
                refine P_getr dX10_receiver_25 fX10_19 (by assumption) rfl ?_
                refine P_getr dX10_receiver_28 fX10_157 (by assumption) rfl ?_
                refine T_iload_n dX10_receiver_31 rfl ?_
                refine P_iald dX10_receiver_32 (by assumption) ⟨by omega, by omega⟩ (by first | decide | omega) ?_
                rw [e1]
                refine I_icmp_lt (tgt := 39) dX10_receiver_33 (by decide) hi ⟨by omega, by omega⟩ (fun h33 => ?_) (fun h33 => ?_)
                · refine T_iload_n dX10_receiver_39 rfl ?_
                  refine I_iconst dX10_receiver_40 ?_
                  refine I_imul dX10_receiver_41 ?_
                  refine T_iload_n dX10_receiver_42 rfl ?_
                  refine I_iadd dX10_receiver_43 ?_
                  refine T_istore dX10_receiver_44 (by decide) rfl ?_
                  refine T_iload_n dX10_receiver_46 rfl ?_
                  refine I_iconst dX10_receiver_47 ?_
                  refine I_icmp_ne (tgt := 78) dX10_receiver_48 (by decide) ⟨by omega, by omega⟩ ⟨by omega, by omega⟩ (fun h48 => ?_) (fun h48 => ?_)
                  · omega
                  · refine T_aload_n dX10_receiver_51 rfl rfl ?_
                    refine P_getr dX10_receiver_52 fX10_19 (by assumption) rfl ?_
                    refine T_aload_n dX10_receiver_55 rfl rfl ?_
                    refine P_getr dX10_receiver_56 fX10_19 (by assumption) rfl ?_
                    refine P_getr dX10_receiver_59 fX10_160 (by assumption) rfl ?_
                    refine T_iload dX10_receiver_62 rfl ?_
                    refine P_iald dX10_receiver_64 (by assumption) ⟨by omega, by omega⟩ (by first | decide | omega) ?_
                    rw [f1]
                    refine T_iload_n dX10_receiver_65 rfl ?_
                    refine Q_callV dX10_receiver_66 kX5_isLast lX10_163 (by assumption) rfl hlast rfl rfl (Nat.le_of_ble_eq_true rfl) (Nat.le_of_ble_eq_true rfl) (by decide) (by decide) ?_
                    refine I_if_eq (tgt := 76) dX10_receiver_69 (by decide) (by rcases b2p_01 (lastM (mPl M) (pRh (mPl M) d i) d) with z | z <;> rw [z] <;> decide) (fun h69 => ?_) (fun h69 => ?_)
                    · refine I_iconst dX10_receiver_76 ?_
                      exact I_ireturn dX10_receiver_77 rfl ⟨_, _, rfl, WQ.eq h (by rw [if_pos rfl]; rcases b2p_01 (lastM (mPl M) (pRh (mPl M) d i) d) with z | z <;> omega)⟩
                    · refine I_iconst dX10_receiver_72 ?_
                      refine T_goto (tgt := 77) dX10_receiver_73 (by decide) ?_
                      exact I_ireturn dX10_receiver_77 rfl ⟨_, _, rfl, WQ.eq h (by rw [if_pos rfl]; rcases b2p_01 (lastM (mPl M) (pRh (mPl M) d i) d) with z | z <;> omega)⟩
                · omega
              · omega
  · have hv : recA M d i w = -1 := if_neg hb
    rw [hv]
    by_cases hb0 : domB (mPl M) d
    · rw [show LE mX10_receiver [.ref 0, IV d, IV i, IV w] = [some (.ref 0), some (IV d), some (IV i), some (IV w), none] from rfl]
      refine T_aload_n dX10_receiver_0 rfl rfl ?_
      refine T_iload_n dX10_receiver_1 rfl ?_
      refine Q_callV dX10_receiver_2 kX10_isDomain lX10_154 (by assumption) rfl (p_isDomain h hd) rfl rfl (Nat.le_of_ble_eq_true rfl) (Nat.le_of_ble_eq_true rfl) (by decide) (by decide) ?_
      rw [b2p_t hb0]
      refine I_if_eq (tgt := 21) dX10_receiver_5 (by decide) ⟨by omega, by omega⟩ (fun h5 => ?_) (fun h5 => ?_)
      · cases h5
      · refine T_iload_n dX10_receiver_8 rfl ?_
        refine I_if_lt (tgt := 21) dX10_receiver_9 (by decide) hi (fun h9 => ?_) (fun h9 => ?_)
        · refine I_iconst dX10_receiver_21 ?_
          exact I_ireturn dX10_receiver_22 rfl ⟨_, _, rfl, WQ.here h⟩
        · refine T_iload_n dX10_receiver_12 rfl ?_
          refine I_if_lt (tgt := 21) dX10_receiver_13 (by decide) hw (fun h13 => ?_) (fun h13 => ?_)
          · refine I_iconst dX10_receiver_21 ?_
            exact I_ireturn dX10_receiver_22 rfl ⟨_, _, rfl, WQ.here h⟩
          · refine T_iload_n dX10_receiver_16 rfl ?_
            refine I_iconst dX10_receiver_17 ?_
            refine I_icmp_le (tgt := 23) dX10_receiver_18 (by decide) hw ⟨by omega, by omega⟩ (fun h18 => ?_) (fun h18 => ?_)
            · exact absurd ⟨hb0, by omega, by omega, by omega⟩ hb
            · refine I_iconst dX10_receiver_21 ?_
              exact I_ireturn dX10_receiver_22 rfl ⟨_, _, rfl, WQ.here h⟩
    · rw [show LE mX10_receiver [.ref 0, IV d, IV i, IV w] = [some (.ref 0), some (IV d), some (IV i), some (IV w), none] from rfl]
      refine T_aload_n dX10_receiver_0 rfl rfl ?_
      refine T_iload_n dX10_receiver_1 rfl ?_
      refine Q_callV dX10_receiver_2 kX10_isDomain lX10_154 (by assumption) rfl (p_isDomain h hd) rfl rfl (Nat.le_of_ble_eq_true rfl) (Nat.le_of_ble_eq_true rfl) (by decide) (by decide) ?_
      rw [b2p_f hb0]
      refine I_if_eq (tgt := 21) dX10_receiver_5 (by decide) ⟨by omega, by omega⟩ (fun h5 => ?_) (fun h5 => ?_)
      · refine I_iconst dX10_receiver_21 ?_
        exact I_ireturn dX10_receiver_22 rfl ⟨_, _, rfl, WQ.here h⟩
      · exact absurd rfl h5
theorem p_W_address {a w : Int} (h : WR K S M N) (ha : R32 a) (hw : R32 w) : P G 1 0 0 mX10_address 0 (LE mX10_address [.ref 0, IV a, IV w]) [] K S (WQ K S (addrA M a w) M N) := by
  have w0 := h.1.1
  obtain ⟨ad, hA, hR⟩ := h.rnd
  have hr := h.allR
  have k2 := h.1.2.2.1
  have k2' := k2.1
  have k26 := k2.2.2.2.2.2.2.1
  have k28 := k2.2.2.2.2.2.2.2.2.1
  have k3' := h.1.2.2.2.1.1
  have kb := h.1.2.2.2.1.2.2.2.1
  have kb' := kb.1
  have hP := h.2.2.1.1
  have hPo := h.2.2.1.2
  have hE := h.2.2.2.1.2.1
  by_cases hb : addrB a ∧ 0 ≤ w ∧ w ≤ 3
  · have hv : addrA M a w = if w = 0 then pKd (mPl M) a else if pKd (mPl M) a = 3 ∧ w = 1 then pLc (mPl M) a else if pKd (mPl M) a = 1 then (if w = 1 then eGv (mE M) a else if eGv (mE M) a = 0 then -4 else if w = 2 then (eWn (mE M) a).getD ((eWn (mE M) a).length - 1) 0 else eBf (mE M) a) else -4 := if_pos hb
    rw [hv]
    obtain ⟨hb0, hb1, hb2⟩ := hb
    have hb0' := hb0
    obtain ⟨a0, a1⟩ := hb0'
    obtain ⟨e1, e2, -⟩ := hP.2.2.2.1 a a0 a1
    have hk := (hPo.2.2.2.2.2 a a0 a1).1
    obtain ⟨x1, x2, x3, x4, x5⟩ := hR.2.2.2.1 a a0 a1
    have hg : 0 ≤ eGv (mE M) a ∧ eGv (mE M) a < N := hE.2.2.2.1 a a0 a1
    have hN : N ≤ 1000000000 := hE.2.2.2.2.2.2
    by_cases hw0 : w = 0
    · rw [if_pos hw0]
      rw [show LE mX10_address [.ref 0, IV a, IV w] = [some (.ref 0), some (IV a), some (IV w), none] from rfl]
      refine T_iload_n dX10_address_0 rfl ?_
      refine Q_callS dX10_address_1 kX10_isAddress lX10_170 (p_isAddress ha) rfl rfl (Nat.le_of_ble_eq_true rfl) (Nat.le_of_ble_eq_true rfl) (by decide) (by decide) ?_
      rw [b2p_t hb0]
      refine I_if_eq (tgt := 16) dX10_address_4 (by decide) ⟨by omega, by omega⟩ (fun h4 => ?_) (fun h4 => ?_)
      · cases h4
      · refine T_iload_n dX10_address_7 rfl ?_
        refine I_if_lt (tgt := 16) dX10_address_8 (by decide) hw (fun h8 => ?_) (fun h8 => ?_)
        · omega
        · refine T_iload_n dX10_address_11 rfl ?_
          refine I_iconst dX10_address_12 ?_
          refine I_icmp_le (tgt := 18) dX10_address_13 (by decide) hw ⟨by omega, by omega⟩ (fun h13 => ?_) (fun h13 => ?_)
          · refine T_aload_n dX10_address_18 rfl rfl ?_
            refine P_getr dX10_address_19 fX10_19 (by assumption) rfl ?_
            refine P_getr dX10_address_22 fX10_173 (by assumption) rfl ?_
            refine T_iload_n dX10_address_25 rfl ?_
            refine P_iald dX10_address_26 (by assumption) ⟨by omega, by omega⟩ (by first | decide | omega) ?_
            rw [e1]
            refine T_istore_n dX10_address_27 (by decide) rfl ?_
            refine T_iload_n dX10_address_28 rfl ?_
            refine I_if_ne (tgt := 34) dX10_address_29 (by decide) hw (fun h29 => ?_) (fun h29 => ?_)
            · omega
            · refine T_iload_n dX10_address_32 rfl ?_
              exact I_ireturn dX10_address_33 rfl ⟨_, _, rfl, WQ.here h⟩
          · omega
    · rw [if_neg hw0]
      by_cases hl : pKd (mPl M) a = 3 ∧ w = 1
      · rw [if_pos hl]
        obtain ⟨hl1, hl2⟩ := hl
        rw [show LE mX10_address [.ref 0, IV a, IV w] = [some (.ref 0), some (IV a), some (IV w), none] from rfl]
        refine T_iload_n dX10_address_0 rfl ?_
        refine Q_callS dX10_address_1 kX10_isAddress lX10_170 (p_isAddress ha) rfl rfl (Nat.le_of_ble_eq_true rfl) (Nat.le_of_ble_eq_true rfl) (by decide) (by decide) ?_
        rw [b2p_t hb0]
        refine I_if_eq (tgt := 16) dX10_address_4 (by decide) ⟨by omega, by omega⟩ (fun h4 => ?_) (fun h4 => ?_)
        · cases h4
        · refine T_iload_n dX10_address_7 rfl ?_
          refine I_if_lt (tgt := 16) dX10_address_8 (by decide) hw (fun h8 => ?_) (fun h8 => ?_)
          · omega
          · refine T_iload_n dX10_address_11 rfl ?_
            refine I_iconst dX10_address_12 ?_
            refine I_icmp_le (tgt := 18) dX10_address_13 (by decide) hw ⟨by omega, by omega⟩ (fun h13 => ?_) (fun h13 => ?_)
            · refine T_aload_n dX10_address_18 rfl rfl ?_
              refine P_getr dX10_address_19 fX10_19 (by assumption) rfl ?_
              refine P_getr dX10_address_22 fX10_173 (by assumption) rfl ?_
              refine T_iload_n dX10_address_25 rfl ?_
              refine P_iald dX10_address_26 (by assumption) ⟨by omega, by omega⟩ (by first | decide | omega) ?_
              rw [e1]
              refine T_istore_n dX10_address_27 (by decide) rfl ?_
              refine T_iload_n dX10_address_28 rfl ?_
              refine I_if_ne (tgt := 34) dX10_address_29 (by decide) hw (fun h29 => ?_) (fun h29 => ?_)
              · refine T_iload_n dX10_address_34 rfl ?_
                refine I_iconst dX10_address_35 ?_
                refine I_icmp_ne (tgt := 54) dX10_address_36 (by decide) ⟨by omega, by omega⟩ ⟨by omega, by omega⟩ (fun h36 => ?_) (fun h36 => ?_)
                · omega
                · refine T_iload_n dX10_address_39 rfl ?_
                  refine I_iconst dX10_address_40 ?_
                  refine I_icmp_ne (tgt := 54) dX10_address_41 (by decide) hw ⟨by omega, by omega⟩ (fun h41 => ?_) (fun h41 => ?_)
                  · omega
                  · refine T_aload_n dX10_address_44 rfl rfl ?_
                    refine P_getr dX10_address_45 fX10_19 (by assumption) rfl ?_
                    refine P_getr dX10_address_48 fX10_176 (by assumption) rfl ?_
                    refine T_iload_n dX10_address_51 rfl ?_
                    refine P_iald dX10_address_52 (by assumption) ⟨by omega, by omega⟩ (by first | decide | omega) ?_
                    rw [e2]
                    exact I_ireturn dX10_address_53 rfl ⟨_, _, rfl, WQ.here h⟩
              · omega
            · omega
      · rw [if_neg hl]
        by_cases hx : pKd (mPl M) a = 1
        · rw [if_pos hx]
          have hans : (if w = 1 then aI S (23 + 124 + 1) a else if aI S (23 + 124 + 1) a = 0 then -4 else if w = 2 then aI S (23 + 124 + 3) (a * 8 + (aI S (23 + 124 + 1) a - 1) % 8) else aI S (23 + 124 + 2) a) = (if w = 1 then eGv (mE M) a else if eGv (mE M) a = 0 then -4 else if w = 2 then (eWn (mE M) a).getD ((eWn (mE M) a).length - 1) 0 else eBf (mE M) a) := by
            rw [x1]
            by_cases g0 : eGv (mE M) a = 0
            · rw [if_pos g0, if_pos g0]
            · rw [if_neg g0, if_neg g0, x2 g0]
              have hlen : 0 < (eWn (mE M) a).length := by
                by_cases g8 : eGv (mE M) a < 8
                · rw [if_pos g8] at x3; omega
                · rw [if_neg g8] at x3; omega
              have x6 := x5 ((eWn (mE M) a).length - 1) ((eWn (mE M) a).getD ((eWn (mE M) a).length - 1) 0) (by
                rw [List.getD_eq_getElem?_getD, List.getElem?_eq_getElem (by omega)]
                rfl)
              rw [show eGv (mE M) a - ((eWn (mE M) a).length : Int) + ((((eWn (mE M) a).length - 1 : Nat)) : Int) = eGv (mE M) a - 1 by omega] at x6
              rw [x6]
          rw [show LE mX10_address [.ref 0, IV a, IV w] = [some (.ref 0), some (IV a), some (IV w), none] from rfl]
          refine T_iload_n dX10_address_0 rfl ?_
          refine Q_callS dX10_address_1 kX10_isAddress lX10_170 (p_isAddress ha) rfl rfl (Nat.le_of_ble_eq_true rfl) (Nat.le_of_ble_eq_true rfl) (by decide) (by decide) ?_
          rw [b2p_t hb0]
          refine I_if_eq (tgt := 16) dX10_address_4 (by decide) ⟨by omega, by omega⟩ (fun h4 => ?_) (fun h4 => ?_)
          · cases h4
          · refine T_iload_n dX10_address_7 rfl ?_
            refine I_if_lt (tgt := 16) dX10_address_8 (by decide) hw (fun h8 => ?_) (fun h8 => ?_)
            · omega
            · refine T_iload_n dX10_address_11 rfl ?_
              refine I_iconst dX10_address_12 ?_
              refine I_icmp_le (tgt := 18) dX10_address_13 (by decide) hw ⟨by omega, by omega⟩ (fun h13 => ?_) (fun h13 => ?_)
              · refine T_aload_n dX10_address_18 rfl rfl ?_
                refine P_getr dX10_address_19 fX10_19 (by assumption) rfl ?_
                refine P_getr dX10_address_22 fX10_173 (by assumption) rfl ?_
                refine T_iload_n dX10_address_25 rfl ?_
                refine P_iald dX10_address_26 (by assumption) ⟨by omega, by omega⟩ (by first | decide | omega) ?_
                rw [e1]
                refine T_istore_n dX10_address_27 (by decide) rfl ?_
                refine T_iload_n dX10_address_28 rfl ?_
                refine I_if_ne (tgt := 34) dX10_address_29 (by decide) hw (fun h29 => ?_) (fun h29 => ?_)
                · refine T_iload_n dX10_address_34 rfl ?_
                  refine I_iconst dX10_address_35 ?_
                  refine I_icmp_ne (tgt := 54) dX10_address_36 (by decide) ⟨by omega, by omega⟩ ⟨by omega, by omega⟩ (fun h36 => ?_) (fun h36 => ?_)
                  · refine T_iload_n dX10_address_54 rfl ?_
                    refine I_iconst dX10_address_55 ?_
                    refine I_icmp_ne (tgt := 74) dX10_address_56 (by decide) ⟨by omega, by omega⟩ ⟨by omega, by omega⟩ (fun h56 => ?_) (fun h56 => ?_)
                    · omega
                    · refine T_aload_n dX10_address_59 rfl rfl ?_
                      refine P_getr dX10_address_60 fX10_26 (by assumption) rfl ?_
                      refine P_getr dX10_address_63 fX10_179 (by assumption) rfl ?_
                      refine T_iload_n dX10_address_66 rfl ?_
                      refine T_iload_n dX10_address_67 rfl ?_
                      refine Q_callV dX10_address_68 kX1_answer lX10_183 (by assumption) rfl (p_Boxes_answer kb ⟨a0, a1⟩ hw ⟨by rw [x1]; omega, by rw [x1]; omega⟩) rfl rfl (Nat.le_of_ble_eq_true rfl) (Nat.le_of_ble_eq_true rfl) (by decide) (by decide) ?_
                      refine T_goto (tgt := 76) dX10_address_71 (by decide) ?_
                      exact I_ireturn dX10_address_76 rfl ⟨_, _, rfl, WQ.eq h hans⟩
                  · omega
                · omega
              · omega
        · rw [if_neg hx]
          rw [show LE mX10_address [.ref 0, IV a, IV w] = [some (.ref 0), some (IV a), some (IV w), none] from rfl]
          refine T_iload_n dX10_address_0 rfl ?_
          refine Q_callS dX10_address_1 kX10_isAddress lX10_170 (p_isAddress ha) rfl rfl (Nat.le_of_ble_eq_true rfl) (Nat.le_of_ble_eq_true rfl) (by decide) (by decide) ?_
          rw [b2p_t hb0]
          refine I_if_eq (tgt := 16) dX10_address_4 (by decide) ⟨by omega, by omega⟩ (fun h4 => ?_) (fun h4 => ?_)
          · cases h4
          · refine T_iload_n dX10_address_7 rfl ?_
            refine I_if_lt (tgt := 16) dX10_address_8 (by decide) hw (fun h8 => ?_) (fun h8 => ?_)
            · omega
            · refine T_iload_n dX10_address_11 rfl ?_
              refine I_iconst dX10_address_12 ?_
              refine I_icmp_le (tgt := 18) dX10_address_13 (by decide) hw ⟨by omega, by omega⟩ (fun h13 => ?_) (fun h13 => ?_)
              · refine T_aload_n dX10_address_18 rfl rfl ?_
                refine P_getr dX10_address_19 fX10_19 (by assumption) rfl ?_
                refine P_getr dX10_address_22 fX10_173 (by assumption) rfl ?_
                refine T_iload_n dX10_address_25 rfl ?_
                refine P_iald dX10_address_26 (by assumption) ⟨by omega, by omega⟩ (by first | decide | omega) ?_
                rw [e1]
                refine T_istore_n dX10_address_27 (by decide) rfl ?_
                refine T_iload_n dX10_address_28 rfl ?_
                refine I_if_ne (tgt := 34) dX10_address_29 (by decide) hw (fun h29 => ?_) (fun h29 => ?_)
                · refine T_iload_n dX10_address_34 rfl ?_
                  refine I_iconst dX10_address_35 ?_
                  refine I_icmp_ne (tgt := 54) dX10_address_36 (by decide) ⟨by omega, by omega⟩ ⟨by omega, by omega⟩ (fun h36 => ?_) (fun h36 => ?_)
                  · refine T_iload_n dX10_address_54 rfl ?_
                    refine I_iconst dX10_address_55 ?_
                    refine I_icmp_ne (tgt := 74) dX10_address_56 (by decide) ⟨by omega, by omega⟩ ⟨by omega, by omega⟩ (fun h56 => ?_) (fun h56 => ?_)
                    · refine I_bipush dX10_address_74 (by decide) ?_
                      exact I_ireturn dX10_address_76 rfl ⟨_, _, rfl, WQ.here h⟩
                    · omega
                  · refine T_iload_n dX10_address_39 rfl ?_
                    refine I_iconst dX10_address_40 ?_
                    refine I_icmp_ne (tgt := 54) dX10_address_41 (by decide) hw ⟨by omega, by omega⟩ (fun h41 => ?_) (fun h41 => ?_)
                    · refine T_iload_n dX10_address_54 rfl ?_
                      refine I_iconst dX10_address_55 ?_
                      refine I_icmp_ne (tgt := 74) dX10_address_56 (by decide) ⟨by omega, by omega⟩ ⟨by omega, by omega⟩ (fun h56 => ?_) (fun h56 => ?_)
                      · refine I_bipush dX10_address_74 (by decide) ?_
                        exact I_ireturn dX10_address_76 rfl ⟨_, _, rfl, WQ.here h⟩
                      · omega
                    · exact absurd ⟨by omega, by omega⟩ hl
                · omega
              · omega
  · have hv : addrA M a w = -1 := if_neg hb
    rw [hv]
    by_cases hb0 : addrB a
    · rw [show LE mX10_address [.ref 0, IV a, IV w] = [some (.ref 0), some (IV a), some (IV w), none] from rfl]
      refine T_iload_n dX10_address_0 rfl ?_
      refine Q_callS dX10_address_1 kX10_isAddress lX10_170 (p_isAddress ha) rfl rfl (Nat.le_of_ble_eq_true rfl) (Nat.le_of_ble_eq_true rfl) (by decide) (by decide) ?_
      rw [b2p_t hb0]
      refine I_if_eq (tgt := 16) dX10_address_4 (by decide) ⟨by omega, by omega⟩ (fun h4 => ?_) (fun h4 => ?_)
      · cases h4
      · refine T_iload_n dX10_address_7 rfl ?_
        refine I_if_lt (tgt := 16) dX10_address_8 (by decide) hw (fun h8 => ?_) (fun h8 => ?_)
        · refine I_iconst dX10_address_16 ?_
          exact I_ireturn dX10_address_17 rfl ⟨_, _, rfl, WQ.here h⟩
        · refine T_iload_n dX10_address_11 rfl ?_
          refine I_iconst dX10_address_12 ?_
          refine I_icmp_le (tgt := 18) dX10_address_13 (by decide) hw ⟨by omega, by omega⟩ (fun h13 => ?_) (fun h13 => ?_)
          · exact absurd ⟨hb0, by omega, by omega⟩ hb
          · refine I_iconst dX10_address_16 ?_
            exact I_ireturn dX10_address_17 rfl ⟨_, _, rfl, WQ.here h⟩
    · rw [show LE mX10_address [.ref 0, IV a, IV w] = [some (.ref 0), some (IV a), some (IV w), none] from rfl]
      refine T_iload_n dX10_address_0 rfl ?_
      refine Q_callS dX10_address_1 kX10_isAddress lX10_170 (p_isAddress ha) rfl rfl (Nat.le_of_ble_eq_true rfl) (Nat.le_of_ble_eq_true rfl) (by decide) (by decide) ?_
      rw [b2p_f hb0]
      refine I_if_eq (tgt := 16) dX10_address_4 (by decide) ⟨by omega, by omega⟩ (fun h4 => ?_) (fun h4 => ?_)
      · refine I_iconst dX10_address_16 ?_
        exact I_ireturn dX10_address_17 rfl ⟨_, _, rfl, WQ.here h⟩
      · exact absurd rfl h4
theorem p_W_leads {a i : Int} (h : WR K S M N) (ha : R32 a) (hi : R32 i) : P G 1 0 0 mX10_leads 0 (LE mX10_leads [.ref 0, IV a, IV i]) [] K S (WQ K S (leadsA M a i) M N) := by
  have w0 := h.1.1
  have k2 := h.1.2.2.1
  have k2' := k2.1
  have k28 := k2.2.2.2.2.2.2.2.2.1
  have hP := h.2.2.1.1
  have hPo := h.2.2.1.2
  by_cases hb : addrB a ∧ 0 ≤ i
  · have hv : leadsA M a i = if i < pLc (mPl M) a then pLd (mPl M) a i else -4 := if_pos hb
    rw [hv]
    obtain ⟨hb0, hb1⟩ := hb
    have hb0' := hb0
    obtain ⟨a0, a1⟩ := hb0'
    obtain ⟨e1, e2, e3⟩ := hP.2.2.2.1 a a0 a1
    have hk := (hPo.2.2.2.2.2 a a0 a1).2.1
    by_cases hl : i < pLc (mPl M) a
    · rw [if_pos hl]
      have e4 := e3 i hb1 hl
      rw [show LE mX10_leads [.ref 0, IV a, IV i] = [some (.ref 0), some (IV a), some (IV i)] from rfl]
      refine T_iload_n dX10_leads_0 rfl ?_
      refine Q_callS dX10_leads_1 kX10_isAddress lX10_170 (p_isAddress ha) rfl rfl (Nat.le_of_ble_eq_true rfl) (Nat.le_of_ble_eq_true rfl) (by decide) (by decide) ?_
      rw [b2p_t hb0]
      refine I_if_eq (tgt := 11) dX10_leads_4 (by decide) ⟨by omega, by omega⟩ (fun h4 => ?_) (fun h4 => ?_)
      · cases h4
      · refine T_iload_n dX10_leads_7 rfl ?_
        refine I_if_ge (tgt := 13) dX10_leads_8 (by decide) hi (fun h8 => ?_) (fun h8 => ?_)
        · refine T_iload_n dX10_leads_13 rfl ?_
          refine T_aload_n dX10_leads_14 rfl rfl ?_
          refine P_getr dX10_leads_15 fX10_19 (by assumption) rfl ?_
          refine P_getr dX10_leads_18 fX10_176 (by assumption) rfl ?_
          refine T_iload_n dX10_leads_21 rfl ?_
          refine P_iald dX10_leads_22 (by assumption) ⟨by omega, by omega⟩ (by first | decide | omega) ?_
          rw [e2]
          refine I_icmp_ge (tgt := 38) dX10_leads_23 (by decide) hi ⟨by omega, by omega⟩ (fun h23 => ?_) (fun h23 => ?_)
          · omega
          · refine T_aload_n dX10_leads_26 rfl rfl ?_
            refine P_getr dX10_leads_27 fX10_19 (by assumption) rfl ?_
            refine T_iload_n dX10_leads_30 rfl ?_
            refine T_iload_n dX10_leads_31 rfl ?_
            refine Q_callV dX10_leads_32 kX5_lead lX10_189 (by assumption) rfl (p_Plan_lead k2 ⟨a0, a1⟩ ⟨hb1, by omega⟩) rfl rfl (Nat.le_of_ble_eq_true rfl) (Nat.le_of_ble_eq_true rfl) (by decide) (by decide) ?_
            refine T_goto (tgt := 40) dX10_leads_35 (by decide) ?_
            exact I_ireturn dX10_leads_40 rfl ⟨_, _, rfl, WQ.eq h e4⟩
        · omega
    · rw [if_neg hl]
      rw [show LE mX10_leads [.ref 0, IV a, IV i] = [some (.ref 0), some (IV a), some (IV i)] from rfl]
      refine T_iload_n dX10_leads_0 rfl ?_
      refine Q_callS dX10_leads_1 kX10_isAddress lX10_170 (p_isAddress ha) rfl rfl (Nat.le_of_ble_eq_true rfl) (Nat.le_of_ble_eq_true rfl) (by decide) (by decide) ?_
      rw [b2p_t hb0]
      refine I_if_eq (tgt := 11) dX10_leads_4 (by decide) ⟨by omega, by omega⟩ (fun h4 => ?_) (fun h4 => ?_)
      · cases h4
      · refine T_iload_n dX10_leads_7 rfl ?_
        refine I_if_ge (tgt := 13) dX10_leads_8 (by decide) hi (fun h8 => ?_) (fun h8 => ?_)
        · refine T_iload_n dX10_leads_13 rfl ?_
          refine T_aload_n dX10_leads_14 rfl rfl ?_
          refine P_getr dX10_leads_15 fX10_19 (by assumption) rfl ?_
          refine P_getr dX10_leads_18 fX10_176 (by assumption) rfl ?_
          refine T_iload_n dX10_leads_21 rfl ?_
          refine P_iald dX10_leads_22 (by assumption) ⟨by omega, by omega⟩ (by first | decide | omega) ?_
          rw [e2]
          refine I_icmp_ge (tgt := 38) dX10_leads_23 (by decide) hi ⟨by omega, by omega⟩ (fun h23 => ?_) (fun h23 => ?_)
          · refine I_bipush dX10_leads_38 (by decide) ?_
            exact I_ireturn dX10_leads_40 rfl ⟨_, _, rfl, WQ.here h⟩
          · omega
        · omega
  · have hv : leadsA M a i = -1 := if_neg hb
    rw [hv]
    by_cases hb0 : addrB a
    · rw [show LE mX10_leads [.ref 0, IV a, IV i] = [some (.ref 0), some (IV a), some (IV i)] from rfl]
      refine T_iload_n dX10_leads_0 rfl ?_
      refine Q_callS dX10_leads_1 kX10_isAddress lX10_170 (p_isAddress ha) rfl rfl (Nat.le_of_ble_eq_true rfl) (Nat.le_of_ble_eq_true rfl) (by decide) (by decide) ?_
      rw [b2p_t hb0]
      refine I_if_eq (tgt := 11) dX10_leads_4 (by decide) ⟨by omega, by omega⟩ (fun h4 => ?_) (fun h4 => ?_)
      · cases h4
      · refine T_iload_n dX10_leads_7 rfl ?_
        refine I_if_ge (tgt := 13) dX10_leads_8 (by decide) hi (fun h8 => ?_) (fun h8 => ?_)
        · exact absurd ⟨hb0, by omega⟩ hb
        · refine I_iconst dX10_leads_11 ?_
          exact I_ireturn dX10_leads_12 rfl ⟨_, _, rfl, WQ.here h⟩
    · rw [show LE mX10_leads [.ref 0, IV a, IV i] = [some (.ref 0), some (IV a), some (IV i)] from rfl]
      refine T_iload_n dX10_leads_0 rfl ?_
      refine Q_callS dX10_leads_1 kX10_isAddress lX10_170 (p_isAddress ha) rfl rfl (Nat.le_of_ble_eq_true rfl) (Nat.le_of_ble_eq_true rfl) (by decide) (by decide) ?_
      rw [b2p_f hb0]
      refine I_if_eq (tgt := 11) dX10_leads_4 (by decide) ⟨by omega, by omega⟩ (fun h4 => ?_) (fun h4 => ?_)
      · refine I_iconst dX10_leads_11 ?_
        exact I_ireturn dX10_leads_12 rfl ⟨_, _, rfl, WQ.here h⟩
      · exact absurd rfl h4
theorem l_W_reaches {a z i0 : Int} (h : WR K S M N) (hz : ∀ b, 0 ≤ b → b < 32 → (bitM z b ↔ reachP (mPl M) a b)) (m : Nat) : ∀ b left : Int, 0 ≤ b → 32 - b = m → R32 left → -2147483000 < left - m → P G 0 0 0 mX10_reaches 28 [some (.ref 0), some (IV a), some (IV i0), some (IV z), some (IV left), some (IV b)] [] K S (WQ K S (nthF (fun b => reachP (mPl M) a b ∧ pKd (mPl M) b = 1) m b left) M N) := by
  have w0 := h.1.1
  have k2 := h.1.2.2.1
  have k2' := k2.1
  have k26 := k2.2.2.2.2.2.2.1
  have hP := h.2.2.1.1
  have hPo := h.2.2.1.2
  induction m with
  | zero =>
    intro b left h0 hm hl hl2
    refine T_iload dX10_reaches_28 rfl ?_
    refine I_bipush dX10_reaches_30 (by decide) ?_
    refine I_icmp_ge (tgt := 76) dX10_reaches_32 (by decide) ⟨by omega, by omega⟩ ⟨by omega, by omega⟩ (fun h32 => ?_) (fun h32 => ?_)
    · refine I_bipush dX10_reaches_76 (by decide) ?_
      exact I_ireturn dX10_reaches_78 rfl ⟨_, _, rfl, WQ.here h⟩
    · omega
  | succ m ih =>
    intro b left h0 hm hl hl2
    have e1 := (hP.2.2.2.1 b h0 (by omega)).1
    have hk := (hPo.2.2.2.2.2 b h0 (by omega)).1
    by_cases hq : reachP (mPl M) a b ∧ pKd (mPl M) b = 1
    · rw [nthF_t hq]
      have hbit := (hz b h0 (by omega)).mpr hq.1
      have hq2 := hq.2
      by_cases hl0 : left = 0
      · rw [if_pos hl0]
        refine T_iload dX10_reaches_28 rfl ?_
        refine I_bipush dX10_reaches_30 (by decide) ?_
        refine I_icmp_ge (tgt := 76) dX10_reaches_32 (by decide) ⟨by omega, by omega⟩ ⟨by omega, by omega⟩ (fun h32 => ?_) (fun h32 => ?_)
        · omega
        · refine T_iload_n dX10_reaches_35 rfl ?_
          refine T_iload dX10_reaches_36 rfl ?_
          refine T_iushr dX10_reaches_38 rfl ?_
          refine I_iconst dX10_reaches_39 ?_
          refine T_iand dX10_reaches_40 ?_
          rw [bit_ushr ⟨by omega, by omega⟩, b2p_t hbit]
          refine I_iconst dX10_reaches_41 ?_
          refine I_icmp_ne (tgt := 70) dX10_reaches_42 (by decide) ⟨by omega, by omega⟩ ⟨by omega, by omega⟩ (fun h42 => ?_) (fun h42 => ?_)
          · omega
          · refine T_aload_n dX10_reaches_45 rfl rfl ?_
            refine P_getr dX10_reaches_46 fX10_19 (by assumption) rfl ?_
            refine P_getr dX10_reaches_49 fX10_173 (by assumption) rfl ?_
            refine T_iload dX10_reaches_52 rfl ?_
            refine P_iald dX10_reaches_54 (by assumption) ⟨by omega, by omega⟩ (by first | decide | omega) ?_
            rw [e1]
            refine I_iconst dX10_reaches_55 ?_
            refine I_icmp_ne (tgt := 70) dX10_reaches_56 (by decide) ⟨by omega, by omega⟩ ⟨by omega, by omega⟩ (fun h56 => ?_) (fun h56 => ?_)
            · omega
            · refine T_iload dX10_reaches_59 rfl ?_
              refine I_if_ne (tgt := 67) dX10_reaches_61 (by decide) hl (fun h61 => ?_) (fun h61 => ?_)
              · omega
              · refine T_iload dX10_reaches_64 rfl ?_
                exact I_ireturn dX10_reaches_66 rfl ⟨_, _, rfl, WQ.here h⟩
      · rw [if_neg hl0]
        have w := ih (b + 1) (left - 1) (by omega) (by omega) ⟨by omega, by omega⟩ (by omega)
        refine T_iload dX10_reaches_28 rfl ?_
        refine I_bipush dX10_reaches_30 (by decide) ?_
        refine I_icmp_ge (tgt := 76) dX10_reaches_32 (by decide) ⟨by omega, by omega⟩ ⟨by omega, by omega⟩ (fun h32 => ?_) (fun h32 => ?_)
        · omega
        · refine T_iload_n dX10_reaches_35 rfl ?_
          refine T_iload dX10_reaches_36 rfl ?_
          refine T_iushr dX10_reaches_38 rfl ?_
          refine I_iconst dX10_reaches_39 ?_
          refine T_iand dX10_reaches_40 ?_
          rw [bit_ushr ⟨by omega, by omega⟩, b2p_t hbit]
          refine I_iconst dX10_reaches_41 ?_
          refine I_icmp_ne (tgt := 70) dX10_reaches_42 (by decide) ⟨by omega, by omega⟩ ⟨by omega, by omega⟩ (fun h42 => ?_) (fun h42 => ?_)
          · omega
          · refine T_aload_n dX10_reaches_45 rfl rfl ?_
            refine P_getr dX10_reaches_46 fX10_19 (by assumption) rfl ?_
            refine P_getr dX10_reaches_49 fX10_173 (by assumption) rfl ?_
            refine T_iload dX10_reaches_52 rfl ?_
            refine P_iald dX10_reaches_54 (by assumption) ⟨by omega, by omega⟩ (by first | decide | omega) ?_
            rw [e1]
            refine I_iconst dX10_reaches_55 ?_
            refine I_icmp_ne (tgt := 70) dX10_reaches_56 (by decide) ⟨by omega, by omega⟩ ⟨by omega, by omega⟩ (fun h56 => ?_) (fun h56 => ?_)
            · omega
            · refine T_iload dX10_reaches_59 rfl ?_
              refine I_if_ne (tgt := 67) dX10_reaches_61 (by decide) hl (fun h61 => ?_) (fun h61 => ?_)
              · refine I_iinc dX10_reaches_67 rfl (by decide) rfl ?_
                refine I_iinc dX10_reaches_70 rfl (by decide) rfl ?_
                refine T_goto (tgt := 28) dX10_reaches_73 (by decide) ?_
                exact w
              · omega
    · rw [nthF_f hq]
      have w := ih (b + 1) left (by omega) (by omega) hl (by omega)
      refine T_iload dX10_reaches_28 rfl ?_
      refine I_bipush dX10_reaches_30 (by decide) ?_
      refine I_icmp_ge (tgt := 76) dX10_reaches_32 (by decide) ⟨by omega, by omega⟩ ⟨by omega, by omega⟩ (fun h32 => ?_) (fun h32 => ?_)
      · omega
      · refine T_iload_n dX10_reaches_35 rfl ?_
        refine T_iload dX10_reaches_36 rfl ?_
        refine T_iushr dX10_reaches_38 rfl ?_
        refine I_iconst dX10_reaches_39 ?_
        refine T_iand dX10_reaches_40 ?_
        rw [bit_ushr ⟨by omega, by omega⟩]
        refine I_iconst dX10_reaches_41 ?_
        refine I_icmp_ne (tgt := 70) dX10_reaches_42 (by decide) (by rcases b2p_01 (bitM z b) with z | z <;> rw [z] <;> decide) (by decide) (fun h42 => ?_) (fun h42 => ?_)
        · refine I_iinc dX10_reaches_70 rfl (by decide) rfl ?_
          refine T_goto (tgt := 28) dX10_reaches_73 (by decide) ?_
          exact w
        · refine T_aload_n dX10_reaches_45 rfl rfl ?_
          refine P_getr dX10_reaches_46 fX10_19 (by assumption) rfl ?_
          refine P_getr dX10_reaches_49 fX10_173 (by assumption) rfl ?_
          refine T_iload dX10_reaches_52 rfl ?_
          refine P_iald dX10_reaches_54 (by assumption) ⟨by omega, by omega⟩ (by first | decide | omega) ?_
          rw [e1]
          refine I_iconst dX10_reaches_55 ?_
          refine I_icmp_ne (tgt := 70) dX10_reaches_56 (by decide) ⟨by omega, by omega⟩ ⟨by omega, by omega⟩ (fun h56 => ?_) (fun h56 => ?_)
          · refine I_iinc dX10_reaches_70 rfl (by decide) rfl ?_
            refine T_goto (tgt := 28) dX10_reaches_73 (by decide) ?_
            exact w
          · exact absurd ⟨(hz b h0 (by omega)).mp (Classical.byContradiction (fun y => by rw [b2p_f y] at h42; omega)), by omega⟩ hq
theorem p_W_reaches {a i : Int} (h : WR K S M N) (ha : R32 a) (hi : R32 i) : P G 3 0 0 mX10_reaches 0 (LE mX10_reaches [.ref 0, IV a, IV i]) [] K S (WQ K S (reachA M a i) M N) := by
  have w0 := h.1.1
  have k2 := h.1.2.2.1
  have k2' := k2.1
  by_cases hb : addrB a ∧ 0 ≤ i
  · have hv : reachA M a i = nthF (fun b => reachP (mPl M) a b ∧ pKd (mPl M) b = 1) 32 0 i := if_pos hb
    rw [hv]
    obtain ⟨hb0, hb1⟩ := hb
    rw [show LE mX10_reaches [.ref 0, IV a, IV i] = [some (.ref 0), some (IV a), some (IV i), none, none, none] from rfl]
    refine T_iload_n dX10_reaches_0 rfl ?_
    refine Q_callS dX10_reaches_1 kX10_isAddress lX10_170 (p_isAddress ha) rfl rfl (Nat.le_of_ble_eq_true rfl) (Nat.le_of_ble_eq_true rfl) (by decide) (by decide) ?_
    rw [b2p_t hb0]
    refine I_if_eq (tgt := 11) dX10_reaches_4 (by decide) ⟨by omega, by omega⟩ (fun h4 => ?_) (fun h4 => ?_)
    · cases h4
    · refine T_iload_n dX10_reaches_7 rfl ?_
      refine I_if_ge (tgt := 13) dX10_reaches_8 (by decide) hi (fun h8 => ?_) (fun h8 => ?_)
      · refine T_aload_n dX10_reaches_13 rfl rfl ?_
        refine P_getr dX10_reaches_14 fX10_19 (by assumption) rfl ?_
        refine T_iload_n dX10_reaches_17 rfl ?_
        refine R_callV dX10_reaches_18 kX5_reachedFrom lX10_192 (by assumption) rfl (p_reachedFrom hb0 k2 h.pf) rfl rfl (Nat.le_of_ble_eq_true rfl) (Nat.le_of_ble_eq_true rfl) (by decide) (by decide) (fun r_ K_ S_ q_ => ?_)
        obtain ⟨hKe, hSe, z, rfl, hz, hzb⟩ := q_
        have hKe := hKe.symm
        subst hKe
        have hSe := hSe.symm
        subst hSe
        have w := l_W_reaches (G := G) (i0 := i) h hzb 32 0 i (by omega) (by omega) hi (by omega)
        refine T_istore_n dX10_reaches_21 (by decide) rfl ?_
        refine T_iload_n dX10_reaches_22 rfl ?_
        refine T_istore dX10_reaches_23 (by decide) rfl ?_
        refine I_iconst dX10_reaches_25 ?_
        refine T_istore dX10_reaches_26 (by decide) rfl ?_
        exact P.depth w (by omega)
      · omega
  · have hv : reachA M a i = -1 := if_neg hb
    rw [hv]
    by_cases hb0 : addrB a
    · rw [show LE mX10_reaches [.ref 0, IV a, IV i] = [some (.ref 0), some (IV a), some (IV i), none, none, none] from rfl]
      refine T_iload_n dX10_reaches_0 rfl ?_
      refine Q_callS dX10_reaches_1 kX10_isAddress lX10_170 (p_isAddress ha) rfl rfl (Nat.le_of_ble_eq_true rfl) (Nat.le_of_ble_eq_true rfl) (by decide) (by decide) ?_
      rw [b2p_t hb0]
      refine I_if_eq (tgt := 11) dX10_reaches_4 (by decide) ⟨by omega, by omega⟩ (fun h4 => ?_) (fun h4 => ?_)
      · cases h4
      · refine T_iload_n dX10_reaches_7 rfl ?_
        refine I_if_ge (tgt := 13) dX10_reaches_8 (by decide) hi (fun h8 => ?_) (fun h8 => ?_)
        · exact absurd ⟨hb0, by omega⟩ hb
        · refine I_iconst dX10_reaches_11 ?_
          exact I_ireturn dX10_reaches_12 rfl ⟨_, _, rfl, WQ.here h⟩
    · rw [show LE mX10_reaches [.ref 0, IV a, IV i] = [some (.ref 0), some (IV a), some (IV i), none, none, none] from rfl]
      refine T_iload_n dX10_reaches_0 rfl ?_
      refine Q_callS dX10_reaches_1 kX10_isAddress lX10_170 (p_isAddress ha) rfl rfl (Nat.le_of_ble_eq_true rfl) (Nat.le_of_ble_eq_true rfl) (by decide) (by decide) ?_
      rw [b2p_f hb0]
      refine I_if_eq (tgt := 11) dX10_reaches_4 (by decide) ⟨by omega, by omega⟩ (fun h4 => ?_) (fun h4 => ?_)
      · refine I_iconst dX10_reaches_11 ?_
        exact I_ireturn dX10_reaches_12 rfl ⟨_, _, rfl, WQ.here h⟩
      · exact absurd rfl h4
end WQ2
