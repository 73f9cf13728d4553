/-! Tape: addresses, receivers, what is told -/
def DrB (pl : PL) : Prop := ((0 ≤ pHs pl ∧ pHs pl ≤ 5) ∧ 0 ≤ pDm pl ∧ pDm pl ≤ 4) ∧ PlB pl ∧ (∀ d i, 0 ≤ d → d < 4 → 0 ≤ i → i < pRc pl d → (0 ≤ pRh pl d i ∧ pRh pl d i ≤ 4) ∧ (0 ≤ pRp pl d i ∧ pRp pl d i ≤ 9) ∧ ∀ i', 0 ≤ i' → i' < pRc pl d → pRh pl d i = pRh pl d i' → i = i') ∧ (∀ a, 0 ≤ a → a < 32 → (0 ≤ pKd pl a ∧ pKd pl a ≤ 3) ∧ (pKd pl a = 0 → pLc pl a = 0) ∧ ∀ i, 0 ≤ i → i < pLc pl a → 0 ≤ pLd pl a i ∧ pLd pl a i < 32) ∧ (∀ d, 0 ≤ d → d < 4 → pDm pl ≤ d → pRc pl d = 0) ∧ ∀ h, 0 ≤ h → h < pHs pl → pWa pl h = 0 ∨ pWa pl h = 1
theorem CM.pl {S S' : SV} {t : Nat} (hO : Outs S S' (t + 2) (t + 2 + 10)) (hr : AllR S') : CM S S' t ∧ ∀ k, fI S' t k = fI S t k :=
  have h := fun k => (hO t (t + 1) (by omega) t (by omega) (by omega)).1 k
  ⟨⟨hO.sub (by omega) (by omega), hO _ _ (by omega), hr, h 1, h 10⟩, h⟩
theorem numM_b {k : TK} {most v n : Int} (h : numM k most = .ok v) (hb : TkB n k) : k.1 = 2 ∧ v = k.2.2.2 ∧ 0 ≤ v ∧ v ≤ most := by
  unfold numM at h
  by_cases a1 : k.1 = 2
  · rw [if_pos a1] at h
    by_cases a2 : k.2.2.2 ≤ most
    · rw [if_pos a2] at h
      injection h with h
      exact ⟨a1, h.symm, by rw [← h]; exact (hb.2.2.2.2 a1).1, by rw [← h]; exact a2⟩
    · rw [if_neg a2] at h
      cases h
  · rw [if_neg a1] at h
    cases h
theorem bind_ok {α β : Type} {X : Except ER α} {f : α → Except ER β} {b : β} (h : X.bind f = .ok b) : ∃ a, X = .ok a ∧ f a = .ok b := by
  cases X with
  | error e => cases h
  | ok a => exact ⟨a, rfl, h⟩
theorem addrM_b {tp : Int → Int} {n : Int} {k : TK} {q : Int × TK} (hb : TkB n k) (h : addrM tp n k = .ok q) : (0 ≤ q.1 ∧ q.1 < 32) ∧ TkB n q.2 ∧ k.2.2.1 ≤ q.2.2.1 ∧ q.2.1 = 2 ∧ k.1 = 2 := by
  unfold addrM at h
  obtain ⟨d, h1, h⟩ := bind_ok h
  obtain ⟨t2, h2, h⟩ := bind_ok h
  obtain ⟨v, h3, h⟩ := bind_ok h
  injection h with h
  subst h
  have b1 := numM_b h1 hb
  have b2 := tkM_b ⟨by have := hb.1; omega, hb.1.2.2⟩ h2
  have b3 := numM_b h3 b2.1
  exact ⟨⟨by show 0 ≤ 8 * d + v; omega, by show 8 * d + v < 32; omega⟩, b2.1, b2.2, b3.1, b1.1⟩
section Addr
variable {G : GT} {K : List SH} {S : SV} {t : Nat} {tp : Int → Int} {n : Int} {k : TK} {pl : PL}
theorem p_T_addr (hT : TapeAt K t) (hB : TB S t tp n) (hk : TokR S t k) (hb : TkB n k) : P G 2 0 0 mX9_addressStands 0 (LE mX9_addressStands [.ref t]) [] K S (TPQ K S t (addrM tp n k) (fun q S' => TokR S' t q.2 ∧ fI S' t 7 = q.1 ∧ Same S S' (t + 2) (t + 12))) := by
  have k0 := hT.1
  have hb1 := hb.1
  unfold addrM
  cases hX : numM k 3 with
  | error e =>
    rw [show LE mX9_addressStands [.ref t] = [some (.ref t), none] from rfl]
    refine T_aload_n dX9_addressStands_0 rfl rfl ?_
    refine I_iconst dX9_addressStands_1 ?_
    refine R_callV dX9_addressStands_2 kX9_numberStands lX9_102 (by assumption) rfl (p_T_num hT hB hk (by decide)) rfl rfl (Nat.le_of_ble_eq_true rfl) (Nat.le_of_ble_eq_true rfl) (by decide) (by decide) (fun r_ K_ S_ q_ => ?_)
    obtain ⟨hKe, hC1, hx⟩ := q_; subst hKe; rw [hX] at hx; obtain ⟨rfl, h8, h9⟩ := hx
    refine I_if_ne (tgt := 10) dX9_addressStands_5 (by decide) (by decide) (fun h5 => ?_) (fun h5 => ?_)
    · exact absurd rfl h5
    · refine I_iconst dX9_addressStands_8 ?_
      exact I_zreturn dX9_addressStands_9 rfl (by decide) ⟨_, _, rfl, rfl, hC1, rfl, h8, h9⟩
  | ok d =>
    have bd := numM_b hX hb
    show P G 2 0 0 mX9_addressStands 0 (LE mX9_addressStands [.ref t]) [] K S (TPQ K S t ((tkM tp n k.2.2.1).bind fun t2 => (numM t2 7).bind fun v => .ok (8 * d + v, t2)) _)
    cases hY : tkM tp n k.2.2.1 with
    | error e =>
      rw [show LE mX9_addressStands [.ref t] = [some (.ref t), none] from rfl]
      refine T_aload_n dX9_addressStands_0 rfl rfl ?_
      refine I_iconst dX9_addressStands_1 ?_
      refine R_callV dX9_addressStands_2 kX9_numberStands lX9_102 (by assumption) rfl (p_T_num hT hB hk (by decide)) rfl rfl (Nat.le_of_ble_eq_true rfl) (Nat.le_of_ble_eq_true rfl) (by decide) (by decide) (fun r_ K_ S_ q_ => ?_)
      obtain ⟨hKe, hC1, hx⟩ := q_; subst hKe; rw [hX] at hx; obtain ⟨rfl, h8, rfl, h6⟩ := hx
      refine I_if_ne (tgt := 10) dX9_addressStands_5 (by decide) (by decide) (fun h5 => ?_) (fun h5 => ?_)
      · refine T_aload_n dX9_addressStands_10 rfl rfl ?_
        refine P_geti dX9_addressStands_11 fX9_105 (by assumption) rfl ?_
        refine T_istore_n dX9_addressStands_14 (by decide) rfl ?_
        refine T_aload_n dX9_addressStands_15 rfl rfl ?_
        refine R_callV dX9_addressStands_16 kX9_readToken lX9_38 (by assumption) rfl (p_T_token hT hB hk.1 ⟨by omega, by omega⟩) rfl rfl (Nat.le_of_ble_eq_true rfl) (Nat.le_of_ble_eq_true rfl) (by decide) (by decide) (fun r_ K_ S_ q_ => ?_)
        obtain ⟨hKe, hC2, hx⟩ := q_; subst hKe; rw [hY] at hx; obtain ⟨rfl, g8, g9⟩ := hx
        refine I_if_eq (tgt := 31) dX9_addressStands_19 (by decide) (by decide) (fun h19 => ?_) (fun h19 => ?_)
        · refine I_iconst dX9_addressStands_31 ?_
          exact I_zreturn dX9_addressStands_32 rfl (by decide) ⟨_, _, rfl, rfl, hC2, rfl, g8, g9⟩
        · exact absurd rfl h19
      · cases h5
    | ok t2 =>
      have b2 := tkM_b ⟨by omega, by omega⟩ hY
      show P G 2 0 0 mX9_addressStands 0 (LE mX9_addressStands [.ref t]) [] K S (TPQ K S t ((numM t2 7).bind fun v => .ok (8 * d + v, t2)) _)
      cases hZ : numM t2 7 with
      | error e =>
        rw [show LE mX9_addressStands [.ref t] = [some (.ref t), none] from rfl]
        refine T_aload_n dX9_addressStands_0 rfl rfl ?_
        refine I_iconst dX9_addressStands_1 ?_
        refine R_callV dX9_addressStands_2 kX9_numberStands lX9_102 (by assumption) rfl (p_T_num hT hB hk (by decide)) rfl rfl (Nat.le_of_ble_eq_true rfl) (Nat.le_of_ble_eq_true rfl) (by decide) (by decide) (fun r_ K_ S_ q_ => ?_)
        obtain ⟨hKe, hC1, hx⟩ := q_; subst hKe; rw [hX] at hx; obtain ⟨rfl, h8, rfl, h6⟩ := hx
        refine I_if_ne (tgt := 10) dX9_addressStands_5 (by decide) (by decide) (fun h5 => ?_) (fun h5 => ?_)
        · refine T_aload_n dX9_addressStands_10 rfl rfl ?_
          refine P_geti dX9_addressStands_11 fX9_105 (by assumption) rfl ?_
          refine T_istore_n dX9_addressStands_14 (by decide) rfl ?_
          refine T_aload_n dX9_addressStands_15 rfl rfl ?_
          refine R_callV dX9_addressStands_16 kX9_readToken lX9_38 (by assumption) rfl (p_T_token hT hB hk.1 ⟨by omega, by omega⟩) rfl rfl (Nat.le_of_ble_eq_true rfl) (Nat.le_of_ble_eq_true rfl) (by decide) (by decide) (fun r_ K_ S_ q_ => ?_)
          obtain ⟨hKe, hC2, hx⟩ := q_; subst hKe; rw [hY] at hx; obtain ⟨rfl, g8, gk, gs⟩ := hx
          refine I_if_eq (tgt := 31) dX9_addressStands_19 (by decide) (by decide) (fun h19 => ?_) (fun h19 => ?_)
          · cases h19
          · refine T_aload_n dX9_addressStands_22 rfl rfl ?_
            refine I_bipush dX9_addressStands_23 (by decide) ?_
            refine R_callV dX9_addressStands_25 kX9_numberStands lX9_102 (by assumption) rfl (p_T_num hT (hB.cm hC2) gk (by decide)) rfl rfl (Nat.le_of_ble_eq_true rfl) (Nat.le_of_ble_eq_true rfl) (by decide) (by decide) (fun r_ K_ S_ q_ => ?_)
            obtain ⟨hKe, hC3, hx⟩ := q_; subst hKe; rw [hZ] at hx; obtain ⟨rfl, j8, j9⟩ := hx
            refine I_if_ne (tgt := 33) dX9_addressStands_28 (by decide) (by decide) (fun h28 => ?_) (fun h28 => ?_)
            · exact absurd rfl h28
            · refine I_iconst dX9_addressStands_31 ?_
              exact I_zreturn dX9_addressStands_32 rfl (by decide) ⟨_, _, rfl, rfl, hC2.tr hC3, rfl, j8, j9⟩
        · cases h5
      | ok v =>
        have bv := numM_b hZ b2.1
        rw [show LE mX9_addressStands [.ref t] = [some (.ref t), none] from rfl]
        refine T_aload_n dX9_addressStands_0 rfl rfl ?_
        refine I_iconst dX9_addressStands_1 ?_
        refine R_callV dX9_addressStands_2 kX9_numberStands lX9_102 (by assumption) rfl (p_T_num hT hB hk (by decide)) rfl rfl (Nat.le_of_ble_eq_true rfl) (Nat.le_of_ble_eq_true rfl) (by decide) (by decide) (fun r_ K_ S_ q_ => ?_)
        obtain ⟨hKe, hC1, hx⟩ := q_; subst hKe; rw [hX] at hx; obtain ⟨rfl, h8, hSe, h6⟩ := hx; subst hSe
        refine I_if_ne (tgt := 10) dX9_addressStands_5 (by decide) (by decide) (fun h5 => ?_) (fun h5 => ?_)
        · refine T_aload_n dX9_addressStands_10 rfl rfl ?_
          refine P_geti dX9_addressStands_11 fX9_105 (by assumption) rfl ?_
          rw [h6]
          refine T_istore_n dX9_addressStands_14 (by decide) rfl ?_
          refine T_aload_n dX9_addressStands_15 rfl rfl ?_
          refine R_callV dX9_addressStands_16 kX9_readToken lX9_38 (by assumption) rfl (p_T_token hT hB hk.1 ⟨by omega, by omega⟩) rfl rfl (Nat.le_of_ble_eq_true rfl) (Nat.le_of_ble_eq_true rfl) (by decide) (by decide) (fun r_ K_ S_ q_ => ?_)
          obtain ⟨hKe, hC2, hx⟩ := q_; subst hKe; rw [hY] at hx; obtain ⟨rfl, g8, gk, gs⟩ := hx
          refine I_if_eq (tgt := 31) dX9_addressStands_19 (by decide) (by decide) (fun h19 => ?_) (fun h19 => ?_)
          · cases h19
          · refine T_aload_n dX9_addressStands_22 rfl rfl ?_
            refine I_bipush dX9_addressStands_23 (by decide) ?_
            refine R_callV dX9_addressStands_25 kX9_numberStands lX9_102 (by assumption) rfl (p_T_num hT (hB.cm hC2) gk (by decide)) rfl rfl (Nat.le_of_ble_eq_true rfl) (Nat.le_of_ble_eq_true rfl) (by decide) (by decide) (fun r_ K_ S_ q_ => ?_)
            obtain ⟨hKe, hC3, hx⟩ := q_; subst hKe; rw [hZ] at hx; obtain ⟨rfl, j8, hSe, j6⟩ := hx; subst hSe
            refine I_if_ne (tgt := 33) dX9_addressStands_28 (by decide) (by decide) (fun h28 => ?_) (fun h28 => ?_)
            · refine T_aload_n dX9_addressStands_33 rfl rfl ?_
              refine I_bipush dX9_addressStands_34 (by decide) ?_
              refine T_iload_n dX9_addressStands_36 rfl ?_
              refine I_imul dX9_addressStands_37 ?_
              refine T_aload_n dX9_addressStands_38 rfl rfl ?_
              refine P_geti dX9_addressStands_39 fX9_105 (by assumption) rfl ?_
              rw [j6]
              refine I_iadd dX9_addressStands_42 ?_
              refine P_puti dX9_addressStands_43 fX9_123 (by assumption) rfl rfl ?_
              refine I_iconst dX9_addressStands_46 ?_
              exact I_zreturn dX9_addressStands_47 rfl (by decide) ⟨_, _, rfl, rfl, hC2.tr (CM.sF hC2.2.2.1 ⟨by omega, by omega⟩ ⟨by omega, by omega⟩), rfl, by rw [fI_sF, if_neg (by omega)]; exact g8, ⟨by rw [fI_sF, if_neg (by omega)]; exact gk.1, by rw [fI_sF, if_neg (by omega)]; exact gk.2.1, by rw [fI_sF, if_neg (by omega)]; exact gk.2.2.1, fun z => by rw [fI_sF, if_neg (by omega)]; exact gk.2.2.2 z⟩, by rw [fI_sF, if_pos ⟨rfl, rfl⟩], gs.tr (Same.sF (by omega))⟩
            · cases h28
        · cases h5
theorem p_T_rcv {d : Int} (hT : TapeAt K t) (hB : TB S t tp n) (hk : TokR S t k) (hb : TkB n k) (hR : PlanR S (t + 2) pl) (hD : DrB pl) (hd : 0 ≤ d ∧ d < 4) (hn : pRc pl d < 3) : P G 2 0 0 mX9_readReceiver 0 (LE mX9_readReceiver [.ref t, IV d]) [] K S (TPQ K S t (rcvM tp n pl d k) (fun q S' => PlanR S' (t + 2) q.1 ∧ TokR S' t q.2)) := by
  have k0 := hT.1
  have kp := hT.2.2
  have kp0 := kp.1
  have hb1 := hb.1
  have hc : aI S (t + 2 + 2) d = pRc pl d := (hR.2.2.1 d hd.1 hd.2).1
  have hcb := hD.2.1.1 d hd.1 hd.2
  unfold rcvM
  cases hX : numM k 4 with
  | error e =>
    rw [show LE mX9_readReceiver [.ref t, IV d] = [some (.ref t), some (IV d), none] from rfl]
    refine T_aload_n dX9_readReceiver_0 rfl rfl ?_
    refine I_iconst dX9_readReceiver_1 ?_
    refine R_callV dX9_readReceiver_2 kX9_numberStands lX9_102 (by assumption) rfl (p_T_num hT hB hk (by decide)) rfl rfl (Nat.le_of_ble_eq_true rfl) (Nat.le_of_ble_eq_true rfl) (by decide) (by decide) (fun r_ K_ S_ q_ => ?_)
    obtain ⟨hKe, hC1, hx⟩ := q_; subst hKe; rw [hX] at hx; obtain ⟨rfl, h8, h9⟩ := hx
    refine I_if_ne (tgt := 10) dX9_readReceiver_5 (by decide) (by decide) (fun h5 => ?_) (fun h5 => ?_)
    · exact absurd rfl h5
    · refine I_iconst dX9_readReceiver_8 ?_
      exact I_zreturn dX9_readReceiver_9 rfl (by decide) ⟨_, _, rfl, rfl, hC1, rfl, h8, h9⟩
  | ok h =>
    have bd := numM_b hX hb
    have hpr := prefO_eq (h := h) hR hd
    have hprR : R32 (prefM pl h d) := by rw [← hpr]; exact prefO_R hB.1
    show P G 2 0 0 mX9_readReceiver 0 (LE mX9_readReceiver [.ref t, IV d]) [] K S (TPQ K S t (if prefM pl h d ≠ -4 then .error (4, k.2.1) else (tkM tp n k.2.2.1).bind fun t2 => (numM t2 9).bind fun w => .ok (addRcM pl d h w, t2)) _)
    by_cases hp : prefM pl h d = -4
    · rw [if_neg (fun z => z hp)]
      have hh : ∀ i, 0 ≤ i → i < pRc pl d → pRh pl d i ≠ h := by
        rcases prefM_cases pl h d with ⟨-, z⟩ | ⟨i, i0, i1, i2, i3⟩
        · exact z
        · have := (hD.2.2.1 d i hd.1 hd.2 i0 i1).2.1
          omega
      cases hY : tkM tp n k.2.2.1 with
      | error e =>
        rw [show LE mX9_readReceiver [.ref t, IV d] = [some (.ref t), some (IV d), none] from rfl]
        refine T_aload_n dX9_readReceiver_0 rfl rfl ?_
        refine I_iconst dX9_readReceiver_1 ?_
        refine R_callV dX9_readReceiver_2 kX9_numberStands lX9_102 (by assumption) rfl (p_T_num hT hB hk (by decide)) rfl rfl (Nat.le_of_ble_eq_true rfl) (Nat.le_of_ble_eq_true rfl) (by decide) (by decide) (fun r_ K_ S_ q_ => ?_)
        obtain ⟨hKe, hC1, hx⟩ := q_; subst hKe; rw [hX] at hx; obtain ⟨rfl, h8, hSe, h6⟩ := hx; subst hSe
        refine I_if_ne (tgt := 10) dX9_readReceiver_5 (by decide) (by decide) (fun h5 => ?_) (fun h5 => ?_)
        · refine T_aload_n dX9_readReceiver_10 rfl rfl ?_
          refine P_geti dX9_readReceiver_11 fX9_105 (by assumption) rfl ?_
          rw [h6]
          refine T_istore_n dX9_readReceiver_14 (by decide) rfl ?_
          refine T_aload_n dX9_readReceiver_15 rfl rfl ?_
          refine P_getr dX9_readReceiver_16 fX9_18 (by assumption) rfl ?_
          refine T_iload_n dX9_readReceiver_19 rfl ?_
          refine T_iload_n dX9_readReceiver_20 rfl ?_
          refine Q_callV dX9_readReceiver_21 kX5_preferenceOf lX9_108 (by assumption) rfl (p_Plan_preferenceOf kp hB.1 hd (by rw [hc]; exact hcb) ⟨by omega, by omega⟩) rfl rfl (Nat.le_of_ble_eq_true rfl) (Nat.le_of_ble_eq_true rfl) (by decide) (by decide) ?_
          rw [hpr]
          refine I_bipush dX9_readReceiver_24 (by decide) ?_
          refine I_icmp_eq (tgt := 35) dX9_readReceiver_26 (by decide) hprR (by decide) (fun h26 => ?_) (fun h26 => ?_)
          · refine T_aload_n dX9_readReceiver_35 rfl rfl ?_
            refine R_callV dX9_readReceiver_36 kX9_readToken lX9_38 (by assumption) rfl (p_T_token hT hB hk.1 ⟨by omega, by omega⟩) rfl rfl (Nat.le_of_ble_eq_true rfl) (Nat.le_of_ble_eq_true rfl) (by decide) (by decide) (fun r_ K_ S_ q_ => ?_)
            obtain ⟨hKe, hC2, hx⟩ := q_; subst hKe; rw [hY] at hx; obtain ⟨rfl, g8, g9⟩ := hx
            refine I_if_eq (tgt := 51) dX9_readReceiver_39 (by decide) (by decide) (fun h39 => ?_) (fun h39 => ?_)
            · refine I_iconst dX9_readReceiver_51 ?_
              exact I_zreturn dX9_readReceiver_52 rfl (by decide) ⟨_, _, rfl, rfl, hC2, rfl, g8, g9⟩
            · exact absurd rfl h39
          · exact absurd hp h26
        · cases h5
      | ok t2 =>
        have b2 := tkM_b ⟨by omega, by omega⟩ hY
        show P G 2 0 0 mX9_readReceiver 0 (LE mX9_readReceiver [.ref t, IV d]) [] K S (TPQ K S t ((numM t2 9).bind fun w => .ok (addRcM pl d h w, t2)) _)
        cases hZ : numM t2 9 with
        | error e =>
          rw [show LE mX9_readReceiver [.ref t, IV d] = [some (.ref t), some (IV d), none] from rfl]
          refine T_aload_n dX9_readReceiver_0 rfl rfl ?_
          refine I_iconst dX9_readReceiver_1 ?_
          refine R_callV dX9_readReceiver_2 kX9_numberStands lX9_102 (by assumption) rfl (p_T_num hT hB hk (by decide)) rfl rfl (Nat.le_of_ble_eq_true rfl) (Nat.le_of_ble_eq_true rfl) (by decide) (by decide) (fun r_ K_ S_ q_ => ?_)
          obtain ⟨hKe, hC1, hx⟩ := q_; subst hKe; rw [hX] at hx; obtain ⟨rfl, h8, hSe, h6⟩ := hx; subst hSe
          refine I_if_ne (tgt := 10) dX9_readReceiver_5 (by decide) (by decide) (fun h5 => ?_) (fun h5 => ?_)
          · refine T_aload_n dX9_readReceiver_10 rfl rfl ?_
            refine P_geti dX9_readReceiver_11 fX9_105 (by assumption) rfl ?_
            rw [h6]
            refine T_istore_n dX9_readReceiver_14 (by decide) rfl ?_
            refine T_aload_n dX9_readReceiver_15 rfl rfl ?_
            refine P_getr dX9_readReceiver_16 fX9_18 (by assumption) rfl ?_
            refine T_iload_n dX9_readReceiver_19 rfl ?_
            refine T_iload_n dX9_readReceiver_20 rfl ?_
            refine Q_callV dX9_readReceiver_21 kX5_preferenceOf lX9_108 (by assumption) rfl (p_Plan_preferenceOf kp hB.1 hd (by rw [hc]; exact hcb) ⟨by omega, by omega⟩) rfl rfl (Nat.le_of_ble_eq_true rfl) (Nat.le_of_ble_eq_true rfl) (by decide) (by decide) ?_
            rw [hpr]
            refine I_bipush dX9_readReceiver_24 (by decide) ?_
            refine I_icmp_eq (tgt := 35) dX9_readReceiver_26 (by decide) hprR (by decide) (fun h26 => ?_) (fun h26 => ?_)
            · refine T_aload_n dX9_readReceiver_35 rfl rfl ?_
              refine R_callV dX9_readReceiver_36 kX9_readToken lX9_38 (by assumption) rfl (p_T_token hT hB hk.1 ⟨by omega, by omega⟩) rfl rfl (Nat.le_of_ble_eq_true rfl) (Nat.le_of_ble_eq_true rfl) (by decide) (by decide) (fun r_ K_ S_ q_ => ?_)
              obtain ⟨hKe, hC2, hx⟩ := q_; subst hKe; rw [hY] at hx; obtain ⟨rfl, g8, gk, gs⟩ := hx
              refine I_if_eq (tgt := 51) dX9_readReceiver_39 (by decide) (by decide) (fun h39 => ?_) (fun h39 => ?_)
              · cases h39
              · refine T_aload_n dX9_readReceiver_42 rfl rfl ?_
                refine I_bipush dX9_readReceiver_43 (by decide) ?_
                refine R_callV dX9_readReceiver_45 kX9_numberStands lX9_102 (by assumption) rfl (p_T_num hT (hB.cm hC2) gk (by decide)) rfl rfl (Nat.le_of_ble_eq_true rfl) (Nat.le_of_ble_eq_true rfl) (by decide) (by decide) (fun r_ K_ S_ q_ => ?_)
                obtain ⟨hKe, hC3, hx⟩ := q_; subst hKe; rw [hZ] at hx; obtain ⟨rfl, j8, j9⟩ := hx
                refine I_if_ne (tgt := 53) dX9_readReceiver_48 (by decide) (by decide) (fun h48 => ?_) (fun h48 => ?_)
                · exact absurd rfl h48
                · refine I_iconst dX9_readReceiver_51 ?_
                  exact I_zreturn dX9_readReceiver_52 rfl (by decide) ⟨_, _, rfl, rfl, hC2.tr hC3, rfl, j8, j9⟩
            · exact absurd hp h26
          · cases h5
        | ok w =>
          have bv := numM_b hZ b2.1
          rw [show LE mX9_readReceiver [.ref t, IV d] = [some (.ref t), some (IV d), none] from rfl]
          refine T_aload_n dX9_readReceiver_0 rfl rfl ?_
          refine I_iconst dX9_readReceiver_1 ?_
          refine R_callV dX9_readReceiver_2 kX9_numberStands lX9_102 (by assumption) rfl (p_T_num hT hB hk (by decide)) rfl rfl (Nat.le_of_ble_eq_true rfl) (Nat.le_of_ble_eq_true rfl) (by decide) (by decide) (fun r_ K_ S_ q_ => ?_)
          obtain ⟨hKe, hC1, hx⟩ := q_; subst hKe; rw [hX] at hx; obtain ⟨rfl, h8, hSe, h6⟩ := hx; subst hSe
          refine I_if_ne (tgt := 10) dX9_readReceiver_5 (by decide) (by decide) (fun h5 => ?_) (fun h5 => ?_)
          · refine T_aload_n dX9_readReceiver_10 rfl rfl ?_
            refine P_geti dX9_readReceiver_11 fX9_105 (by assumption) rfl ?_
            rw [h6]
            refine T_istore_n dX9_readReceiver_14 (by decide) rfl ?_
            refine T_aload_n dX9_readReceiver_15 rfl rfl ?_
            refine P_getr dX9_readReceiver_16 fX9_18 (by assumption) rfl ?_
            refine T_iload_n dX9_readReceiver_19 rfl ?_
            refine T_iload_n dX9_readReceiver_20 rfl ?_
            refine Q_callV dX9_readReceiver_21 kX5_preferenceOf lX9_108 (by assumption) rfl (p_Plan_preferenceOf kp hB.1 hd (by rw [hc]; exact hcb) ⟨by omega, by omega⟩) rfl rfl (Nat.le_of_ble_eq_true rfl) (Nat.le_of_ble_eq_true rfl) (by decide) (by decide) ?_
            rw [hpr]
            refine I_bipush dX9_readReceiver_24 (by decide) ?_
            refine I_icmp_eq (tgt := 35) dX9_readReceiver_26 (by decide) hprR (by decide) (fun h26 => ?_) (fun h26 => ?_)
            · refine T_aload_n dX9_readReceiver_35 rfl rfl ?_
              refine R_callV dX9_readReceiver_36 kX9_readToken lX9_38 (by assumption) rfl (p_T_token hT hB hk.1 ⟨by omega, by omega⟩) rfl rfl (Nat.le_of_ble_eq_true rfl) (Nat.le_of_ble_eq_true rfl) (by decide) (by decide) (fun r_ K_ S_ q_ => ?_)
              obtain ⟨hKe, hC2, hx⟩ := q_; subst hKe; rw [hY] at hx; obtain ⟨rfl, g8, gk, gs⟩ := hx
              refine I_if_eq (tgt := 51) dX9_readReceiver_39 (by decide) (by decide) (fun h39 => ?_) (fun h39 => ?_)
              · cases h39
              · refine T_aload_n dX9_readReceiver_42 rfl rfl ?_
                refine I_bipush dX9_readReceiver_43 (by decide) ?_
                refine R_callV dX9_readReceiver_45 kX9_numberStands lX9_102 (by assumption) rfl (p_T_num hT (hB.cm hC2) gk (by decide)) rfl rfl (Nat.le_of_ble_eq_true rfl) (Nat.le_of_ble_eq_true rfl) (by decide) (by decide) (fun r_ K_ S_ q_ => ?_)
                obtain ⟨hKe, hC3, hx⟩ := q_; subst hKe; rw [hZ] at hx; obtain ⟨rfl, j8, hSe, j6⟩ := hx; subst hSe
                refine I_if_ne (tgt := 53) dX9_readReceiver_48 (by decide) (by decide) (fun h48 => ?_) (fun h48 => ?_)
                · refine T_aload_n dX9_readReceiver_53 rfl rfl ?_
                  refine P_getr dX9_readReceiver_54 fX9_18 (by assumption) rfl ?_
                  refine T_iload_n dX9_readReceiver_57 rfl ?_
                  refine T_iload_n dX9_readReceiver_58 rfl ?_
                  refine T_aload_n dX9_readReceiver_59 rfl rfl ?_
                  refine P_geti dX9_readReceiver_60 fX9_105 (by assumption) rfl ?_
                  rw [j6]
                  refine R_callV dX9_readReceiver_63 kX5_addReceiver lX9_112 (by assumption) rfl (p_Plan_addReceiver kp hC2.2.2.1 (hR.same gs) hD.2.1 hd hn hh ⟨by omega, by omega⟩ ⟨by omega, by omega⟩) rfl rfl (Nat.le_of_ble_eq_true rfl) (Nat.le_of_ble_eq_true rfl) (by decide) (by decide) (fun r_ K_ S_ q_ => ?_)
                  obtain ⟨rfl, hKe, i1, i2, i3⟩ := q_; subst hKe; obtain ⟨c4, c5⟩ := CM.pl i2 i3
                  refine I_iconst dX9_readReceiver_66 ?_
                  exact I_zreturn dX9_readReceiver_67 rfl (by decide) ⟨_, _, rfl, rfl, hC2.tr c4, rfl, (c5 8).trans g8, i1, (c5 3).trans gk.1, (c5 4).trans gk.2.1, (c5 5).trans gk.2.2.1, fun z => (c5 6).trans (gk.2.2.2 z)⟩
                · cases h48
            · exact absurd hp h26
          · cases h5
    · rw [if_pos hp]
      rw [show LE mX9_readReceiver [.ref t, IV d] = [some (.ref t), some (IV d), none] from rfl]
      refine T_aload_n dX9_readReceiver_0 rfl rfl ?_
      refine I_iconst dX9_readReceiver_1 ?_
      refine R_callV dX9_readReceiver_2 kX9_numberStands lX9_102 (by assumption) rfl (p_T_num hT hB hk (by decide)) rfl rfl (Nat.le_of_ble_eq_true rfl) (Nat.le_of_ble_eq_true rfl) (by decide) (by decide) (fun r_ K_ S_ q_ => ?_)
      obtain ⟨hKe, hC1, hx⟩ := q_; subst hKe; rw [hX] at hx; obtain ⟨rfl, h8, hSe, h6⟩ := hx; subst hSe
      refine I_if_ne (tgt := 10) dX9_readReceiver_5 (by decide) (by decide) (fun h5 => ?_) (fun h5 => ?_)
      · refine T_aload_n dX9_readReceiver_10 rfl rfl ?_
        refine P_geti dX9_readReceiver_11 fX9_105 (by assumption) rfl ?_
        rw [h6]
        refine T_istore_n dX9_readReceiver_14 (by decide) rfl ?_
        refine T_aload_n dX9_readReceiver_15 rfl rfl ?_
        refine P_getr dX9_readReceiver_16 fX9_18 (by assumption) rfl ?_
        refine T_iload_n dX9_readReceiver_19 rfl ?_
        refine T_iload_n dX9_readReceiver_20 rfl ?_
        refine Q_callV dX9_readReceiver_21 kX5_preferenceOf lX9_108 (by assumption) rfl (p_Plan_preferenceOf kp hB.1 hd (by rw [hc]; exact hcb) ⟨by omega, by omega⟩) rfl rfl (Nat.le_of_ble_eq_true rfl) (Nat.le_of_ble_eq_true rfl) (by decide) (by decide) ?_
        rw [hpr]
        refine I_bipush dX9_readReceiver_24 (by decide) ?_
        refine I_icmp_eq (tgt := 35) dX9_readReceiver_26 (by decide) hprR (by decide) (fun h26 => ?_) (fun h26 => ?_)
        · exact absurd h26 hp
        · refine T_aload_n dX9_readReceiver_29 rfl rfl ?_
          refine I_iconst dX9_readReceiver_30 ?_
          refine Q_callV dX9_readReceiver_31 kX9_refuse lX9_77 (by assumption) rfl (p_T_refuse hT) rfl rfl (Nat.le_of_ble_eq_true rfl) (Nat.le_of_ble_eq_true rfl) (by decide) (by decide) ?_
          exact I_zreturn dX9_readReceiver_34 rfl (by decide) ⟨_, _, rfl, rfl, ref_CM hB.1 (by decide), rfl, ref_8, ref_9.trans hk.2.2.1⟩
      · cases h5
end Addr
