/-! Tape: domains, houses, all is there -/
noncomputable def allX (pl : PL) (n : Int) : Except ER Unit := @ite _ (farH pl) (Classical.propDecidable _) (.error (6, n)) (@ite _ (farD pl) (Classical.propDecidable _) (.error (7, n)) (.ok ()))
theorem allM_eq (pl : PL) (ln n : Int) : allM pl ln n = (allX pl n).bind fun _ => .ok (pl, ln) := by
  unfold allM allX
  by_cases h : farH pl
  · rw [if_pos h, if_pos h]; rfl
  · rw [if_neg h, if_neg h]
    by_cases h2 : farD pl
    · rw [if_pos h2, if_pos h2]; rfl
    · rw [if_neg h2, if_neg h2]; rfl
theorem DrB.addD {pl : PL} (h : DrB pl) (hd : pDm pl < 4) : DrB (addDM pl) := by
  obtain ⟨h1, h2, h3, h4, h5, h6⟩ := h
  exact ⟨⟨h1.1, by show 0 ≤ pDm pl + 1; omega, by show pDm pl + 1 ≤ 4; omega⟩, h2, h3, h4, fun d u v z => h5 d u v (by have z : pDm pl + 1 ≤ d := z; omega), h6⟩
theorem DrB.addH {pl : PL} (h : DrB pl) (hd : pHs pl < 5) {w : Int} (hw : w = 0 ∨ w = 1) : DrB (addHM pl w) := by
  obtain ⟨h1, h2, h3, h4, h5, h6⟩ := h
  refine ⟨⟨⟨by show 0 ≤ pHs pl + 1; omega, by show pHs pl + 1 ≤ 5; omega⟩, h1.2⟩, h2, h3, h4, h5, fun x u v => ?_⟩
  have v : x < pHs pl + 1 := v
  show fset (pWa pl) (pHs pl) w x = 0 ∨ fset (pWa pl) (pHs pl) w x = 1
  by_cases e : x = pHs pl
  · rw [e, fset_t]; exact hw
  · rw [fset_f _ _ e]
    exact h6 x u (by omega)
theorem PlanR.addD {S : SV} {p : Nat} {pl : PL} (h : PlanR S p pl) : PlanR (sF S p 1 (pDm pl + 1)) p (addDM pl) := by
  obtain ⟨⟨h1, h2⟩, h3, h4, h5, h6⟩ := h
  exact ⟨⟨by rw [fI_sF, if_neg (by omega)]; exact h1, by rw [fI_sF, if_pos ⟨rfl, rfl⟩]; rfl⟩, h3, h4, h5, h6⟩
section Lines
variable {G : GT} {K : List SH} {t : Nat} {tp : Int → Int} {n : Int} {S : SV} {pl : PL} {k : TK}
theorem p_T_dom (hT : TapeAt K t) (hB : TB S t tp n) (hk : TokR S t k) (hb : TkB n k) (hR : PlanR S (t + 2) pl) (hD : DrB pl) : P G 3 0 0 mX9_readDomain 0 (LE mX9_readDomain [.ref t]) [] K S (TPQ K S t (domM tp n pl k) (lineR t)) := by
  have k0 := hT.1
  have kp0 := hT.2.2.1
  have hb1 := hb.1
  have hdm : fI S (t + 2) 1 = pDm pl := hR.1.2
  have hd4 := hD.1.2
  unfold domM
  by_cases h4 : 4 ≤ pDm pl
  · rw [if_pos h4]
    rw [show LE mX9_readDomain [.ref t] = [some (.ref t), none, none] from rfl]
    refine T_aload_n dX9_readDomain_0 rfl rfl ?_
    refine P_getr dX9_readDomain_1 fX9_18 (by assumption) rfl ?_
    refine P_geti dX9_readDomain_4 fX9_93 (by assumption) rfl ?_
    rw [hdm]
    refine I_iconst dX9_readDomain_7 ?_
    refine I_icmp_lt (tgt := 17) dX9_readDomain_8 (by decide) ⟨by omega, by omega⟩ ⟨by omega, by omega⟩ (fun h8 => ?_) (fun h8 => ?_)
    · omega
    · refine T_aload_n dX9_readDomain_11 rfl rfl ?_
      refine I_iconst dX9_readDomain_12 ?_
      refine Q_callV dX9_readDomain_13 kX9_refuse lX9_77 (by assumption) rfl (p_T_refuse hT) rfl rfl (Nat.le_of_ble_eq_true rfl) (Nat.le_of_ble_eq_true rfl) (by decide) (by decide) ?_
      exact I_zreturn dX9_readDomain_16 rfl (by decide) ⟨_, _, rfl, rfl, ref_CM hB.1 (by decide), rfl, ref_8, ref_9.trans hk.2.2.1⟩
  · rw [if_neg h4]
    have hO : Outs S (sF S (t + 2) 1 (pDm pl + 1)) (t + 2) (t + 2 + 10) := fun x y w => Same.sF (by omega)
    have hA : AllR (sF S (t + 2) 1 (pDm pl + 1)) := hB.1.sF ⟨by omega, by omega⟩
    obtain ⟨c4, c5⟩ := CM.pl hO hA
    have z := l_T_dom (G := G) (d := pDm pl) hT ⟨by omega, by omega⟩ 3 0 k.2.2.1 (sF S (t + 2) 1 (pDm pl + 1)) (addDM pl) (by omega) (by omega) (hB.cm c4) hR.addD (hD.addD (by omega)) (by show pDm pl < pDm pl + 1; omega) (hD.2.2.2.2.1 (pDm pl) (by omega) (by omega) (by omega)) ((c5 3).trans hk.1) ⟨by omega, by omega⟩
    rw [show LE mX9_readDomain [.ref t] = [some (.ref t), none, none] from rfl]
    refine T_aload_n dX9_readDomain_0 rfl rfl ?_
    refine P_getr dX9_readDomain_1 fX9_18 (by assumption) rfl ?_
    refine P_geti dX9_readDomain_4 fX9_93 (by assumption) rfl ?_
    rw [hdm]
    refine I_iconst dX9_readDomain_7 ?_
    refine I_icmp_lt (tgt := 17) dX9_readDomain_8 (by decide) ⟨by omega, by omega⟩ ⟨by omega, by omega⟩ (fun h8 => ?_) (fun h8 => ?_)
    · refine T_aload_n dX9_readDomain_17 rfl rfl ?_
      refine P_getr dX9_readDomain_18 fX9_18 (by assumption) rfl ?_
      refine P_geti dX9_readDomain_21 fX9_93 (by assumption) rfl ?_
      rw [hdm]
      refine T_istore_n dX9_readDomain_24 (by decide) rfl ?_
      refine T_aload_n dX9_readDomain_25 rfl rfl ?_
      refine P_getr dX9_readDomain_26 fX9_18 (by assumption) rfl ?_
      refine T_dup dX9_readDomain_29 rfl ?_
      refine P_geti dX9_readDomain_30 fX9_93 (by assumption) rfl ?_
      rw [hdm]
      refine I_iconst dX9_readDomain_33 ?_
      refine I_iadd dX9_readDomain_34 ?_
      refine P_puti dX9_readDomain_35 fX9_93 (by assumption) rfl rfl ?_
      refine I_iconst dX9_readDomain_38 ?_
      refine T_istore_n dX9_readDomain_39 (by decide) rfl ?_
      exact P.weaken z (fun rv K' S' w => TPQ.tr c4 (c5 8) w)
    · omega
theorem p_T_house (hT : TapeAt K t) (hB : TB S t tp n) (hk : TokR S t k) (hb : TkB n k) (hR : PlanR S (t + 2) pl) (hD : DrB pl) : P G 5 0 0 mX9_readHouse 0 (LE mX9_readHouse [.ref t]) [] K S (TPQ K S t (houseM tp n pl k) (lineR t)) := by
  have k0 := hT.1
  have kp := hT.2.2
  have kp0 := kp.1
  have hb1 := hb.1
  have hhs : fI S (t + 2) 0 = pHs pl := hR.1.1
  have hh5 := hD.1.1
  unfold houseM
  by_cases h4 : 5 ≤ pHs pl
  · rw [if_pos h4]
    rw [show LE mX9_readHouse [.ref t] = [some (.ref t), none] from rfl]
    refine T_aload_n dX9_readHouse_0 rfl rfl ?_
    refine P_getr dX9_readHouse_1 fX9_18 (by assumption) rfl ?_
    refine P_geti dX9_readHouse_4 fX9_81 (by assumption) rfl ?_
    rw [hhs]
    refine I_iconst dX9_readHouse_7 ?_
    refine I_icmp_lt (tgt := 17) dX9_readHouse_8 (by decide) ⟨by omega, by omega⟩ ⟨by omega, by omega⟩ (fun h8 => ?_) (fun h8 => ?_)
    · omega
    · refine T_aload_n dX9_readHouse_11 rfl rfl ?_
      refine I_iconst dX9_readHouse_12 ?_
      refine Q_callV dX9_readHouse_13 kX9_refuse lX9_77 (by assumption) rfl (p_T_refuse hT) rfl rfl (Nat.le_of_ble_eq_true rfl) (Nat.le_of_ble_eq_true rfl) (by decide) (by decide) ?_
      exact I_zreturn dX9_readHouse_16 rfl (by decide) ⟨_, _, rfl, rfl, ref_CM hB.1 (by decide), rfl, ref_8, ref_9.trans hk.2.2.1⟩
  · rw [if_neg h4]
    cases hX : tkM tp n k.2.2.1 with
    | error e =>
      rw [show LE mX9_readHouse [.ref t] = [some (.ref t), none] from rfl]
      refine T_aload_n dX9_readHouse_0 rfl rfl ?_
      refine P_getr dX9_readHouse_1 fX9_18 (by assumption) rfl ?_
      refine P_geti dX9_readHouse_4 fX9_81 (by assumption) rfl ?_
      rw [hhs]
      refine I_iconst dX9_readHouse_7 ?_
      refine I_icmp_lt (tgt := 17) dX9_readHouse_8 (by decide) ⟨by omega, by omega⟩ ⟨by omega, by omega⟩ (fun h8 => ?_) (fun h8 => ?_)
      · refine T_aload_n dX9_readHouse_17 rfl rfl ?_
        refine R_callV dX9_readHouse_18 kX9_readToken lX9_38 (by assumption) rfl (p_T_token hT hB hk.1 ⟨by omega, by omega⟩) rfl rfl (Nat.le_of_ble_eq_true rfl) (Nat.le_of_ble_eq_true rfl) (by decide) (by decide) (fun r_ K_ S_ q_ => ?_)
        obtain ⟨hKe, hC1, hx⟩ := q_; subst hKe; rw [hX] at hx; obtain ⟨rfl, h8, h9⟩ := hx
        refine I_if_ne (tgt := 26) dX9_readHouse_21 (by decide) (by decide) (fun h21 => ?_) (fun h21 => ?_)
        · exact absurd rfl h21
        · refine I_iconst dX9_readHouse_24 ?_
          exact I_zreturn dX9_readHouse_25 rfl (by decide) ⟨_, _, rfl, rfl, hC1, rfl, h8, h9⟩
      · omega
    | ok t2 =>
      have b2 := tkM_b ⟨by omega, by omega⟩ hX
      have b21 := b2.1.1
      show P G 5 0 0 mX9_readHouse 0 (LE mX9_readHouse [.ref t]) [] K S (TPQ K S t (@ite _ (wordM tp t2 5) (Classical.propDecidable _) ((tkM tp n t2.2.2.1).bind fun t3 => signM (addHM pl 1, t3)) (signM (addHM pl 0, t2))) (lineR t))
      by_cases hw : wordM tp t2 5
      · rw [if_pos hw]
        cases hY : tkM tp n t2.2.2.1 with
        | error e =>
          rw [show LE mX9_readHouse [.ref t] = [some (.ref t), none] from rfl]
          refine T_aload_n dX9_readHouse_0 rfl rfl ?_
          refine P_getr dX9_readHouse_1 fX9_18 (by assumption) rfl ?_
          refine P_geti dX9_readHouse_4 fX9_81 (by assumption) rfl ?_
          rw [hhs]
          refine I_iconst dX9_readHouse_7 ?_
          refine I_icmp_lt (tgt := 17) dX9_readHouse_8 (by decide) ⟨by omega, by omega⟩ ⟨by omega, by omega⟩ (fun h8 => ?_) (fun h8 => ?_)
          · refine T_aload_n dX9_readHouse_17 rfl rfl ?_
            refine R_callV dX9_readHouse_18 kX9_readToken lX9_38 (by assumption) rfl (p_T_token hT hB hk.1 ⟨by omega, by omega⟩) rfl rfl (Nat.le_of_ble_eq_true rfl) (Nat.le_of_ble_eq_true rfl) (by decide) (by decide) (fun r_ K_ S_ q_ => ?_)
            obtain ⟨hKe, hC1, hx⟩ := q_; subst hKe; rw [hX] at hx; obtain ⟨rfl, h8, hk2, hs⟩ := hx
            refine I_if_ne (tgt := 26) dX9_readHouse_21 (by decide) (by decide) (fun h21 => ?_) (fun h21 => ?_)
            · refine T_aload_n dX9_readHouse_26 rfl rfl ?_
              refine T_ldcS (q := 5) dX9_readHouse_27 (fun s h => h.2.2.2.2.2) ?_
              refine Q_callV dX9_readHouse_29 kX9_isWord lX9_50 (by assumption) rfl (p_T_word (by decide) hT (hB.cm hC1) hk2 b2.1) rfl rfl (Nat.le_of_ble_eq_true rfl) (Nat.le_of_ble_eq_true rfl) (by decide) (by decide) ?_
              rw [b2p_t hw]
              refine T_istore_n dX9_readHouse_32 (by decide) rfl ?_
              refine T_iload_n dX9_readHouse_33 rfl ?_
              refine I_if_eq (tgt := 46) dX9_readHouse_34 (by decide) (by decide) (fun h34 => ?_) (fun h34 => ?_)
              · cases h34
              · refine T_aload_n dX9_readHouse_37 rfl rfl ?_
                refine R_callV dX9_readHouse_38 kX9_readToken lX9_38 (by assumption) rfl (p_T_token hT (hB.cm hC1) hk2.1 ⟨by omega, by omega⟩) rfl rfl (Nat.le_of_ble_eq_true rfl) (Nat.le_of_ble_eq_true rfl) (by decide) (by decide) (fun r_ K_ S_ q_ => ?_)
                obtain ⟨hKe, hC2, hx⟩ := q_; subst hKe; rw [hY] at hx; obtain ⟨rfl, g8, g9⟩ := hx
                refine I_if_ne (tgt := 46) dX9_readHouse_41 (by decide) (by decide) (fun h41 => ?_) (fun h41 => ?_)
                · exact absurd rfl h41
                · refine I_iconst dX9_readHouse_44 ?_
                  exact I_zreturn dX9_readHouse_45 rfl (by decide) ⟨_, _, rfl, rfl, hC1.tr hC2, rfl, g8, g9⟩
            · cases h21
          · omega
        | ok t3 =>
          show P G 5 0 0 mX9_readHouse 0 (LE mX9_readHouse [.ref t]) [] K S (TPQ K S t (signM (addHM pl 1, t3)) (lineR t))
          rw [signM_eq]
          rw [show LE mX9_readHouse [.ref t] = [some (.ref t), none] from rfl]
          refine T_aload_n dX9_readHouse_0 rfl rfl ?_
          refine P_getr dX9_readHouse_1 fX9_18 (by assumption) rfl ?_
          refine P_geti dX9_readHouse_4 fX9_81 (by assumption) rfl ?_
          rw [hhs]
          refine I_iconst dX9_readHouse_7 ?_
          refine I_icmp_lt (tgt := 17) dX9_readHouse_8 (by decide) ⟨by omega, by omega⟩ ⟨by omega, by omega⟩ (fun h8 => ?_) (fun h8 => ?_)
          · refine T_aload_n dX9_readHouse_17 rfl rfl ?_
            refine R_callV dX9_readHouse_18 kX9_readToken lX9_38 (by assumption) rfl (p_T_token hT hB hk.1 ⟨by omega, by omega⟩) rfl rfl (Nat.le_of_ble_eq_true rfl) (Nat.le_of_ble_eq_true rfl) (by decide) (by decide) (fun r_ K_ S_ q_ => ?_)
            obtain ⟨hKe, hC1, hx⟩ := q_; subst hKe; rw [hX] at hx; obtain ⟨rfl, h8, hk2, hs⟩ := hx
            refine I_if_ne (tgt := 26) dX9_readHouse_21 (by decide) (by decide) (fun h21 => ?_) (fun h21 => ?_)
            · refine T_aload_n dX9_readHouse_26 rfl rfl ?_
              refine T_ldcS (q := 5) dX9_readHouse_27 (fun s h => h.2.2.2.2.2) ?_
              refine Q_callV dX9_readHouse_29 kX9_isWord lX9_50 (by assumption) rfl (p_T_word (by decide) hT (hB.cm hC1) hk2 b2.1) rfl rfl (Nat.le_of_ble_eq_true rfl) (Nat.le_of_ble_eq_true rfl) (by decide) (by decide) ?_
              rw [b2p_t hw]
              refine T_istore_n dX9_readHouse_32 (by decide) rfl ?_
              refine T_iload_n dX9_readHouse_33 rfl ?_
              refine I_if_eq (tgt := 46) dX9_readHouse_34 (by decide) (by decide) (fun h34 => ?_) (fun h34 => ?_)
              · cases h34
              · refine T_aload_n dX9_readHouse_37 rfl rfl ?_
                refine R_callV dX9_readHouse_38 kX9_readToken lX9_38 (by assumption) rfl (p_T_token hT (hB.cm hC1) hk2.1 ⟨by omega, by omega⟩) rfl rfl (Nat.le_of_ble_eq_true rfl) (Nat.le_of_ble_eq_true rfl) (by decide) (by decide) (fun r_ K_ S_ q_ => ?_)
                obtain ⟨hKe, hC2, hx⟩ := q_; subst hKe; rw [hY] at hx; obtain ⟨rfl, g8, hk3, gs⟩ := hx
                refine I_if_ne (tgt := 46) dX9_readHouse_41 (by decide) (by decide) (fun h41 => ?_) (fun h41 => ?_)
                · refine T_aload_n dX9_readHouse_46 rfl rfl ?_
                  refine P_getr dX9_readHouse_47 fX9_18 (by assumption) rfl ?_
                  refine T_iload_n dX9_readHouse_50 rfl ?_
                  refine R_callV dX9_readHouse_51 kX5_addHouse lX9_86 (by assumption) rfl (p_Plan_addHouse kp hC2.2.2.1 ((hR.same hs).same gs) ⟨by omega, by omega⟩ (Or.inr rfl)) rfl rfl (Nat.le_of_ble_eq_true rfl) (Nat.le_of_ble_eq_true rfl) (by decide) (by decide) (fun r_ K_ S_ q_ => ?_)
                  obtain ⟨rfl, hKe, i1, i2, i3⟩ := q_; subst hKe; obtain ⟨c4, c5⟩ := CM.pl i2 i3
                  have hC4 := (hC1.tr hC2).tr c4
                  have hk4 : TokR S_ t t3 := ⟨(c5 3).trans hk3.1, (c5 4).trans hk3.2.1, (c5 5).trans hk3.2.2.1, fun z => (c5 6).trans (hk3.2.2.2 z)⟩
                  refine T_aload_n dX9_readHouse_54 rfl rfl ?_
                  refine R_callV dX9_readHouse_55 kX9_signStands lX9_90 (by assumption) rfl (p_T_sgn hT (hB.cm hC4) hk4) rfl rfl (Nat.le_of_ble_eq_true rfl) (Nat.le_of_ble_eq_true rfl) (by decide) (by decide) (fun r_ K_ S_ q_ => ?_)
                  obtain ⟨hKe, hC5, hx⟩ := q_; subst hKe
                  cases hW : sgnM t3 with
                  | error e =>
                    rw [hW] at hx
                    obtain ⟨rfl, l8, l9⟩ := hx
                    exact I_zreturn dX9_readHouse_58 rfl (by decide) ⟨_, _, rfl, rfl, hC4.tr hC5, rfl, l8, l9⟩
                  | ok e =>
                    rw [hW] at hx
                    obtain ⟨rfl, l8, ls⟩ := hx
                    subst ls
                    exact I_zreturn dX9_readHouse_58 rfl (by decide) ⟨_, _, rfl, rfl, hC4, rfl, (c5 8).trans (g8.trans h8), i1, hk4.1⟩
                · cases h41
            · cases h21
          · omega
      · rw [if_neg hw, signM_eq]
        rw [show LE mX9_readHouse [.ref t] = [some (.ref t), none] from rfl]
        refine T_aload_n dX9_readHouse_0 rfl rfl ?_
        refine P_getr dX9_readHouse_1 fX9_18 (by assumption) rfl ?_
        refine P_geti dX9_readHouse_4 fX9_81 (by assumption) rfl ?_
        rw [hhs]
        refine I_iconst dX9_readHouse_7 ?_
        refine I_icmp_lt (tgt := 17) dX9_readHouse_8 (by decide) ⟨by omega, by omega⟩ ⟨by omega, by omega⟩ (fun h8 => ?_) (fun h8 => ?_)
        · refine T_aload_n dX9_readHouse_17 rfl rfl ?_
          refine R_callV dX9_readHouse_18 kX9_readToken lX9_38 (by assumption) rfl (p_T_token hT hB hk.1 ⟨by omega, by omega⟩) rfl rfl (Nat.le_of_ble_eq_true rfl) (Nat.le_of_ble_eq_true rfl) (by decide) (by decide) (fun r_ K_ S_ q_ => ?_)
          obtain ⟨hKe, hC1, hx⟩ := q_; subst hKe; rw [hX] at hx; obtain ⟨rfl, h8, hk2, hs⟩ := hx
          refine I_if_ne (tgt := 26) dX9_readHouse_21 (by decide) (by decide) (fun h21 => ?_) (fun h21 => ?_)
          · refine T_aload_n dX9_readHouse_26 rfl rfl ?_
            refine T_ldcS (q := 5) dX9_readHouse_27 (fun s h => h.2.2.2.2.2) ?_
            refine Q_callV dX9_readHouse_29 kX9_isWord lX9_50 (by assumption) rfl (p_T_word (by decide) hT (hB.cm hC1) hk2 b2.1) rfl rfl (Nat.le_of_ble_eq_true rfl) (Nat.le_of_ble_eq_true rfl) (by decide) (by decide) ?_
            rw [b2p_f hw]
            refine T_istore_n dX9_readHouse_32 (by decide) rfl ?_
            refine T_iload_n dX9_readHouse_33 rfl ?_
            refine I_if_eq (tgt := 46) dX9_readHouse_34 (by decide) (by decide) (fun h34 => ?_) (fun h34 => ?_)
            · refine T_aload_n dX9_readHouse_46 rfl rfl ?_
              refine P_getr dX9_readHouse_47 fX9_18 (by assumption) rfl ?_
              refine T_iload_n dX9_readHouse_50 rfl ?_
              refine R_callV dX9_readHouse_51 kX5_addHouse lX9_86 (by assumption) rfl (p_Plan_addHouse kp hC1.2.2.1 (hR.same hs) ⟨by omega, by omega⟩ (Or.inl rfl)) rfl rfl (Nat.le_of_ble_eq_true rfl) (Nat.le_of_ble_eq_true rfl) (by decide) (by decide) (fun r_ K_ S_ q_ => ?_)
              obtain ⟨rfl, hKe, i1, i2, i3⟩ := q_; subst hKe; obtain ⟨c4, c5⟩ := CM.pl i2 i3
              have hC4 := hC1.tr c4
              have hk4 : TokR S_ t t2 := ⟨(c5 3).trans hk2.1, (c5 4).trans hk2.2.1, (c5 5).trans hk2.2.2.1, fun z => (c5 6).trans (hk2.2.2.2 z)⟩
              refine T_aload_n dX9_readHouse_54 rfl rfl ?_
              refine R_callV dX9_readHouse_55 kX9_signStands lX9_90 (by assumption) rfl (p_T_sgn hT (hB.cm hC4) hk4) rfl rfl (Nat.le_of_ble_eq_true rfl) (Nat.le_of_ble_eq_true rfl) (by decide) (by decide) (fun r_ K_ S_ q_ => ?_)
              obtain ⟨hKe, hC5, hx⟩ := q_; subst hKe
              cases hW : sgnM t2 with
              | error e =>
                rw [hW] at hx
                obtain ⟨rfl, l8, l9⟩ := hx
                exact I_zreturn dX9_readHouse_58 rfl (by decide) ⟨_, _, rfl, rfl, hC4.tr hC5, rfl, l8, l9⟩
              | ok e =>
                rw [hW] at hx
                obtain ⟨rfl, l8, ls⟩ := hx
                subst ls
                exact I_zreturn dX9_readHouse_58 rfl (by decide) ⟨_, _, rfl, rfl, hC4, rfl, (c5 8).trans h8, i1, hk4.1⟩
            · exact absurd rfl h34
          · cases h21
        · omega
/-- start is n: all is there from address a on -/
theorem l_T_all3 (hT : TapeAt K t) (hB : TB S t tp n) (h5 : fI S t 5 = n) (hR : PlanR S (t + 2) pl) (hD : DrB pl) (hH : ¬ farH pl) (m : Nat) : ∀ a : Int, 8 * pDm pl ≤ a → 32 - a = m → (∀ x, 8 * pDm pl ≤ x → x < a → pKd pl x = 0) → P G 1 0 0 mX9_allIsThere 89 [some (.ref t), some (IV a), none] [] K S (TPQ K S t (allX pl n) (fun _ S' => S' = S)) := by
  have k0 := hT.1
  have kp0 := hT.2.2.1
  have kp6 := hT.2.2.2.2.2.2.2.2.1
  have hd4 := hD.1.2
  have hX0 : allX pl n = @ite _ (farD pl) (Classical.propDecidable _) (.error (7, n)) (.ok ()) := if_neg hH
  rw [hX0]
  induction m with
  | zero =>
    intro a h0 hm hx
    rw [if_neg (fun ⟨x, x0, x1, x2⟩ => x2 (hx x x0 (by omega)))]
    refine T_iload_n dX9_allIsThere_89 rfl ?_
    refine I_bipush dX9_allIsThere_90 (by decide) ?_
    refine I_icmp_ge (tgt := 120) dX9_allIsThere_92 (by decide) ⟨by omega, by omega⟩ ⟨by omega, by omega⟩ (fun h92 => ?_) (fun h92 => ?_)
    · refine I_iconst dX9_allIsThere_120 ?_
      exact I_zreturn dX9_allIsThere_121 rfl (by decide) ⟨_, _, rfl, rfl, CM.rf hB.1, rfl, rfl, rfl⟩
    · omega
  | succ m ih =>
    intro a h0 hm hx
    have hv : aI S (t + 2 + 6) a = pKd pl a := (hR.2.2.2.1 a (by omega) (by omega)).1
    have hvr : R32 (pKd pl a) := by rw [← hv]; exact hB.1.2 _ _
    by_cases e : pKd pl a = 0
    · have z := ih (a + 1) (by omega) (by omega) (fun x x0 x1 => by
        by_cases e2 : x = a
        · rw [e2]; exact e
        · exact hx x x0 (by omega))
      refine T_iload_n dX9_allIsThere_89 rfl ?_
      refine I_bipush dX9_allIsThere_90 (by decide) ?_
      refine I_icmp_ge (tgt := 120) dX9_allIsThere_92 (by decide) ⟨by omega, by omega⟩ ⟨by omega, by omega⟩ (fun h92 => ?_) (fun h92 => ?_)
      · omega
      · refine T_aload_n dX9_allIsThere_95 rfl rfl ?_
        refine P_getr dX9_allIsThere_96 fX9_18 (by assumption) rfl ?_
        refine P_getr dX9_allIsThere_99 fX9_119 (by assumption) rfl ?_
        refine T_iload_n dX9_allIsThere_102 rfl ?_
        refine P_iald dX9_allIsThere_103 (by assumption) ⟨by omega, by omega⟩ (by first | decide | omega) ?_
        rw [hv]
        refine I_if_eq (tgt := 114) dX9_allIsThere_104 (by decide) hvr (fun h104 => ?_) (fun h104 => ?_)
        · refine I_iinc dX9_allIsThere_114 rfl (by decide) rfl ?_
          refine T_goto (tgt := 89) dX9_allIsThere_117 (by decide) ?_
          exact z
        · exact absurd e h104
    · rw [if_pos ⟨a, h0, by omega, e⟩]
      refine T_iload_n dX9_allIsThere_89 rfl ?_
      refine I_bipush dX9_allIsThere_90 (by decide) ?_
      refine I_icmp_ge (tgt := 120) dX9_allIsThere_92 (by decide) ⟨by omega, by omega⟩ ⟨by omega, by omega⟩ (fun h92 => ?_) (fun h92 => ?_)
      · omega
      · refine T_aload_n dX9_allIsThere_95 rfl rfl ?_
        refine P_getr dX9_allIsThere_96 fX9_18 (by assumption) rfl ?_
        refine P_getr dX9_allIsThere_99 fX9_119 (by assumption) rfl ?_
        refine T_iload_n dX9_allIsThere_102 rfl ?_
        refine P_iald dX9_allIsThere_103 (by assumption) ⟨by omega, by omega⟩ (by first | decide | omega) ?_
        rw [hv]
        refine I_if_eq (tgt := 114) dX9_allIsThere_104 (by decide) hvr (fun h104 => ?_) (fun h104 => ?_)
        · exact absurd h104 e
        · refine T_aload_n dX9_allIsThere_107 rfl rfl ?_
          refine I_bipush dX9_allIsThere_108 (by decide) ?_
          refine Q_callV dX9_allIsThere_110 kX9_refuse lX9_77 (by assumption) rfl (p_T_refuse hT) rfl rfl (Nat.le_of_ble_eq_true rfl) (Nat.le_of_ble_eq_true rfl) (by decide) (by decide) ?_
          exact I_zreturn dX9_allIsThere_113 rfl (by decide) ⟨_, _, rfl, rfl, ref_CM hB.1 (by decide), rfl, ref_8, ref_9.trans h5⟩
theorem l_T_all2 {d : Int} (hT : TapeAt K t) (hB : TB S t tp n) (h5 : fI S t 5 = n) (hR : PlanR S (t + 2) pl) (hD : DrB pl) (hd : 0 ≤ d ∧ d < pDm pl) (z : (∀ i, 0 ≤ i → i < pRc pl d → pRh pl d i < pHs pl) → P G 1 0 0 mX9_allIsThere 72 [some (.ref t), some (IV d), none] [] K S (TPQ K S t (allX pl n) (fun _ S' => S' = S))) (m : Nat) : ∀ i : Int, 0 ≤ i → pRc pl d - i = m → (∀ x, 0 ≤ x → x < i → pRh pl d x < pHs pl) → P G 1 0 0 mX9_allIsThere 23 [some (.ref t), some (IV d), some (IV i)] [] K S (TPQ K S t (allX pl n) (fun _ S' => S' = S)) := by
  have k0 := hT.1
  have kp0 := hT.2.2.1
  have kp2 := hT.2.2.2.2.1
  have kp3 := hT.2.2.2.2.2.1
  have hd4 := hD.1.2
  have hh5 := hD.1.1
  have hhs : fI S (t + 2) 0 = pHs pl := hR.1.1
  have hrc : aI S (t + 2 + 2) d = pRc pl d := (hR.2.2.1 d hd.1 (by omega)).1
  have hb := hD.2.1.1 d hd.1 (by omega)
  induction m with
  | zero =>
    intro i h0 hm hx
    have w := z (fun x x0 x1 => hx x x0 (by omega))
    refine T_iload_n dX9_allIsThere_23 rfl ?_
    refine T_aload_n dX9_allIsThere_24 rfl rfl ?_
    refine P_getr dX9_allIsThere_25 fX9_18 (by assumption) rfl ?_
    refine P_getr dX9_allIsThere_28 fX9_143 (by assumption) rfl ?_
    refine T_iload_n dX9_allIsThere_31 rfl ?_
    refine P_iald dX9_allIsThere_32 (by assumption) ⟨by omega, by omega⟩ (by first | decide | omega) ?_
    rw [hrc]
    refine I_icmp_ge (tgt := 72) dX9_allIsThere_33 (by decide) ⟨by omega, by omega⟩ ⟨by omega, by omega⟩ (fun h33 => ?_) (fun h33 => ?_)
    · refine T.forget 2 ?_
      exact w
    · omega
  | succ m ih =>
    intro i h0 hm hx
    have hv : aI S (t + 2 + 3) (d * 3 + i) = pRh pl d i := ((hR.2.2.1 d hd.1 (by omega)).2.1 i h0 (by omega)).1
    have hvr : R32 (pRh pl d i) := by rw [← hv]; exact hB.1.2 _ _
    by_cases e : pRh pl d i < pHs pl
    · have w := ih (i + 1) (by omega) (by omega) (fun x x0 x1 => by
        by_cases e2 : x = i
        · rw [e2]; exact e
        · exact hx x x0 (by omega))
      refine T_iload_n dX9_allIsThere_23 rfl ?_
      refine T_aload_n dX9_allIsThere_24 rfl rfl ?_
      refine P_getr dX9_allIsThere_25 fX9_18 (by assumption) rfl ?_
      refine P_getr dX9_allIsThere_28 fX9_143 (by assumption) rfl ?_
      refine T_iload_n dX9_allIsThere_31 rfl ?_
      refine P_iald dX9_allIsThere_32 (by assumption) ⟨by omega, by omega⟩ (by first | decide | omega) ?_
      rw [hrc]
      refine I_icmp_ge (tgt := 72) dX9_allIsThere_33 (by decide) ⟨by omega, by omega⟩ ⟨by omega, by omega⟩ (fun h33 => ?_) (fun h33 => ?_)
      · omega
      · refine T_aload_n dX9_allIsThere_36 rfl rfl ?_
        refine P_getr dX9_allIsThere_37 fX9_18 (by assumption) rfl ?_
        refine P_getr dX9_allIsThere_40 fX9_146 (by assumption) rfl ?_
        refine T_iload_n dX9_allIsThere_43 rfl ?_
        refine I_iconst dX9_allIsThere_44 ?_
        refine I_imul dX9_allIsThere_45 ?_
        refine T_iload_n dX9_allIsThere_46 rfl ?_
        refine I_iadd dX9_allIsThere_47 ?_
        refine P_iald dX9_allIsThere_48 (by assumption) ⟨by omega, by omega⟩ (by first | decide | omega) ?_
        rw [hv]
        refine T_aload_n dX9_allIsThere_49 rfl rfl ?_
        refine P_getr dX9_allIsThere_50 fX9_18 (by assumption) rfl ?_
        refine P_geti dX9_allIsThere_53 fX9_81 (by assumption) rfl ?_
        rw [hhs]
        refine I_icmp_lt (tgt := 66) dX9_allIsThere_56 (by decide) hvr ⟨by omega, by omega⟩ (fun h56 => ?_) (fun h56 => ?_)
        · refine I_iinc dX9_allIsThere_66 rfl (by decide) rfl ?_
          refine T_goto (tgt := 23) dX9_allIsThere_69 (by decide) ?_
          exact w
        · omega
    · have hX : allX pl n = .error (6, n) := if_pos ⟨d, i, hd.1, hd.2, h0, by omega, by omega⟩
      rw [hX]
      refine T_iload_n dX9_allIsThere_23 rfl ?_
      refine T_aload_n dX9_allIsThere_24 rfl rfl ?_
      refine P_getr dX9_allIsThere_25 fX9_18 (by assumption) rfl ?_
      refine P_getr dX9_allIsThere_28 fX9_143 (by assumption) rfl ?_
      refine T_iload_n dX9_allIsThere_31 rfl ?_
      refine P_iald dX9_allIsThere_32 (by assumption) ⟨by omega, by omega⟩ (by first | decide | omega) ?_
      rw [hrc]
      refine I_icmp_ge (tgt := 72) dX9_allIsThere_33 (by decide) ⟨by omega, by omega⟩ ⟨by omega, by omega⟩ (fun h33 => ?_) (fun h33 => ?_)
      · omega
      · refine T_aload_n dX9_allIsThere_36 rfl rfl ?_
        refine P_getr dX9_allIsThere_37 fX9_18 (by assumption) rfl ?_
        refine P_getr dX9_allIsThere_40 fX9_146 (by assumption) rfl ?_
        refine T_iload_n dX9_allIsThere_43 rfl ?_
        refine I_iconst dX9_allIsThere_44 ?_
        refine I_imul dX9_allIsThere_45 ?_
        refine T_iload_n dX9_allIsThere_46 rfl ?_
        refine I_iadd dX9_allIsThere_47 ?_
        refine P_iald dX9_allIsThere_48 (by assumption) ⟨by omega, by omega⟩ (by first | decide | omega) ?_
        rw [hv]
        refine T_aload_n dX9_allIsThere_49 rfl rfl ?_
        refine P_getr dX9_allIsThere_50 fX9_18 (by assumption) rfl ?_
        refine P_geti dX9_allIsThere_53 fX9_81 (by assumption) rfl ?_
        rw [hhs]
        refine I_icmp_lt (tgt := 66) dX9_allIsThere_56 (by decide) hvr ⟨by omega, by omega⟩ (fun h56 => ?_) (fun h56 => ?_)
        · omega
        · refine T_aload_n dX9_allIsThere_59 rfl rfl ?_
          refine I_bipush dX9_allIsThere_60 (by decide) ?_
          refine Q_callV dX9_allIsThere_62 kX9_refuse lX9_77 (by assumption) rfl (p_T_refuse hT) rfl rfl (Nat.le_of_ble_eq_true rfl) (Nat.le_of_ble_eq_true rfl) (by decide) (by decide) ?_
          exact I_zreturn dX9_allIsThere_65 rfl (by decide) ⟨_, _, rfl, rfl, ref_CM hB.1 (by decide), rfl, ref_8, ref_9.trans h5⟩
theorem l_T_all1 (hT : TapeAt K t) (hB : TB S t tp n) (h5 : fI S t 5 = n) (hR : PlanR S (t + 2) pl) (hD : DrB pl) (m : Nat) : ∀ d : Int, 0 ≤ d → pDm pl - d = m → (∀ x i, 0 ≤ x → x < d → 0 ≤ i → i < pRc pl x → pRh pl x i < pHs pl) → P G 1 0 0 mX9_allIsThere 10 [some (.ref t), some (IV d), none] [] K S (TPQ K S t (allX pl n) (fun _ S' => S' = S)) := by
  have k0 := hT.1
  have kp0 := hT.2.2.1
  have hd4 := hD.1.2
  have hdm : fI S (t + 2) 1 = pDm pl := hR.1.2
  induction m with
  | zero =>
    intro d h0 hm hx
    have hH : ¬ farH pl := fun ⟨x, i, x0, x1, i0, i1, e⟩ => by
      have := hx x i x0 (by omega) i0 i1
      omega
    have z := l_T_all3 (G := G) hT hB h5 hR hD hH (32 - pDm pl * 8).toNat (pDm pl * 8) (by omega) (by omega) (fun x x0 x1 => by omega)
    refine T_iload_n dX9_allIsThere_10 rfl ?_
    refine T_aload_n dX9_allIsThere_11 rfl rfl ?_
    refine P_getr dX9_allIsThere_12 fX9_18 (by assumption) rfl ?_
    refine P_geti dX9_allIsThere_15 fX9_93 (by assumption) rfl ?_
    rw [hdm]
    refine I_icmp_ge (tgt := 78) dX9_allIsThere_18 (by decide) ⟨by omega, by omega⟩ ⟨by omega, by omega⟩ (fun h18 => ?_) (fun h18 => ?_)
    · refine T_aload_n dX9_allIsThere_78 rfl rfl ?_
      refine P_getr dX9_allIsThere_79 fX9_18 (by assumption) rfl ?_
      refine P_geti dX9_allIsThere_82 fX9_93 (by assumption) rfl ?_
      rw [hdm]
      refine I_bipush dX9_allIsThere_85 (by decide) ?_
      refine I_imul dX9_allIsThere_87 ?_
      refine T_istore_n dX9_allIsThere_88 (by decide) rfl ?_
      exact z
    · omega
  | succ m ih =>
    intro d h0 hm hx
    have hz : (∀ i, 0 ≤ i → i < pRc pl d → pRh pl d i < pHs pl) → P G 1 0 0 mX9_allIsThere 72 [some (.ref t), some (IV d), none] [] K S (TPQ K S t (allX pl n) (fun _ S' => S' = S)) := by
      intro hq
      have w := ih (d + 1) (by omega) (by omega) (fun x i x0 x1 i0 i1 => by
        by_cases e : x = d
        · rw [e] at i1 ⊢
          exact hq i i0 i1
        · exact hx x i x0 (by omega) i0 i1)
      refine I_iinc dX9_allIsThere_72 rfl (by decide) rfl ?_
      refine T_goto (tgt := 10) dX9_allIsThere_75 (by decide) ?_
      exact w
    have hb := hD.2.1.1 d h0 (by omega)
    have z := l_T_all2 (G := G) hT hB h5 hR hD ⟨h0, by omega⟩ hz (pRc pl d).toNat 0 (by omega) (by omega) (fun x x0 x1 => by omega)
    refine T_iload_n dX9_allIsThere_10 rfl ?_
    refine T_aload_n dX9_allIsThere_11 rfl rfl ?_
    refine P_getr dX9_allIsThere_12 fX9_18 (by assumption) rfl ?_
    refine P_geti dX9_allIsThere_15 fX9_93 (by assumption) rfl ?_
    rw [hdm]
    refine I_icmp_ge (tgt := 78) dX9_allIsThere_18 (by decide) ⟨by omega, by omega⟩ ⟨by omega, by omega⟩ (fun h18 => ?_) (fun h18 => ?_)
    · omega
    · refine I_iconst dX9_allIsThere_21 ?_
      refine T_istore_n dX9_allIsThere_22 (by decide) rfl ?_
      exact z
theorem p_T_all (hT : TapeAt K t) (hB : TB S t tp n) (hR : PlanR S (t + 2) pl) (hD : DrB pl) : P G 1 0 0 mX9_allIsThere 0 (LE mX9_allIsThere [.ref t]) [] K S (TPQ K S t (allX pl n) (fun _ S' => PlanR S' (t + 2) pl)) := by
  have k0 := hT.1
  have hn := hB.2.2.2
  have hC : CM S (sF S t 5 n) t := CM.sF hB.1 ⟨by omega, by omega⟩ ⟨by omega, by omega⟩
  have hR1 : PlanR (sF S t 5 n) (t + 2) pl := hR.same (Same.sF (by omega))
  have z := l_T_all1 (G := G) hT (hB.cm hC) (by rw [fI_sF, if_pos ⟨rfl, rfl⟩]) hR1 hD (pDm pl).toNat 0 (by omega) (by have := hD.1.2; omega) (fun x i x0 x1 => by omega)
  rw [show LE mX9_allIsThere [.ref t] = [some (.ref t), none, none] from rfl]
  refine T_aload_n dX9_allIsThere_0 rfl rfl ?_
  refine T_aload_n dX9_allIsThere_1 rfl rfl ?_
  refine P_geti dX9_allIsThere_2 fX9_35 (by assumption) rfl ?_
  rw [hB.2.1]
  refine P_puti dX9_allIsThere_5 fX9_140 (by assumption) rfl rfl ?_
  refine I_iconst dX9_allIsThere_8 ?_
  refine T_istore_n dX9_allIsThere_9 (by decide) rfl ?_
  exact P.weaken z (fun rv K' S' w => by
    have w2 := TPQ.tr hC (by rw [fI_sF, if_neg (by omega)]) w
    refine ⟨w2.1, w2.2.1, ?_⟩
    have w3 := w2.2.2
    cases hX : allX pl n with
    | error e => rw [hX] at w3; exact w3
    | ok u =>
      rw [hX] at w3
      exact ⟨w3.1, w3.2.1, by rw [w3.2.2]; exact hR1⟩)
end Lines
