/-! Carrier: ticks; letters are taken -/
def addrB (a : Int) : Prop := 0 ≤ a ∧ a < 32
noncomputable def sendM (p : PL) (x : EN × List Row) (h f t : Int) : Int × EN × List Row := @ite _ ((0 ≤ h ∧ h < pHs p) ∧ addrB f ∧ addrB t) (Classical.propDecidable _) (if 60 ≤ (x.2.length : Int) then (-3, x) else (eLe x.1, logM (eLeS x.1 (eLe x.1 + 1)) 0 (eLe x.1) h t, x.2 ++ [row8 h (eLe x.1) f t 0 0 (eCl x.1 + 1) 0])) (-1, x)
section Tick
variable {G : GT} {K : List SH} {S : SV} {c p r : Nat} {pl : PL} {its : List Row} {e : EN} {N : Int}
theorem p_isAddress {a : Int} (ha : R32 a) : P G 0 0 0 mX10_isAddress 0 (LE mX10_isAddress [IV a]) [] K S (Ret K (some (IV (b2p (addrB a)))) S) := by
  rw [show LE mX10_isAddress [IV a] = [some (IV a)] from rfl]
  refine T_iload_n dX10_isAddress_0 rfl ?_
  refine I_if_lt (tgt := 14) dX10_isAddress_1 (by decide) ha (fun h1 => ?_) (fun h1 => ?_)
  · refine I_iconst dX10_isAddress_14 ?_
    exact I_zreturn dX10_isAddress_15 rfl (by decide) ⟨_, _, rfl, by first | rw [b2p_t ⟨by omega, by omega⟩] | rw [b2p_f (fun z => by have := z.1; have := z.2; omega)], rfl, rfl⟩
  · refine T_iload_n dX10_isAddress_4 rfl ?_
    refine I_bipush dX10_isAddress_5 (by decide) ?_
    refine I_icmp_ge (tgt := 14) dX10_isAddress_7 (by decide) ha ⟨by omega, by omega⟩ (fun h7 => ?_) (fun h7 => ?_)
    · refine I_iconst dX10_isAddress_14 ?_
      exact I_zreturn dX10_isAddress_15 rfl (by decide) ⟨_, _, rfl, by first | rw [b2p_t ⟨by omega, by omega⟩] | rw [b2p_f (fun z => by have := z.1; have := z.2; omega)], rfl, rfl⟩
    · refine I_iconst dX10_isAddress_10 ?_
      refine T_goto (tgt := 15) dX10_isAddress_11 (by decide) ?_
      exact I_zreturn dX10_isAddress_15 rfl (by decide) ⟨_, _, rfl, by first | rw [b2p_t ⟨by omega, by omega⟩] | rw [b2p_f (fun z => by have := z.1; have := z.2; omega)], rfl, rfl⟩
theorem p_takeTurn {h : Int} (hh : R32 h) (hC : CT K S c p r its e pl N) (hN : N + 1200 ≤ 1000000000) : P G 5 0 0 mX2_takeTurn 0 (LE mX2_takeTurn [.ref c, IV h]) [] K S (TQ K S c p r pl (turnM pl h [] its [] e) (N + 1200)) := by
  obtain ⟨⟨ad, hS⟩, hE, hok, h60⟩ := hC
  obtain ⟨⟨kc, kp, kr, hA⟩, hpr, hr, hP, hR, hll⟩ := id hS
  unfold CarAt at kc
  obtain ⟨kr0, kr1, km, kb, kk, -⟩ := id kr
  have km0 := km.1
  have hu : fI S (r + 2) 1 = its.length := hR.2.2.1.1
  have z := l_turn (G := G) (h := h) (A := its.length) hh its [] [] S e N (by
    show CS K S c p r ad (its ++ []) (((0 : Nat) : Int) + (its.length : Int) + ((0 : Nat) : Int)) e pl
    rw [List.append_nil, show ((0 : Nat) : Int) + (its.length : Int) + ((0 : Nat) : Int) = its.length by omega]
    exact hS) hE (by omega) (fun x hx => by cases hx) hok (fun x hx => by cases hx) (by simpa using h60) ⟨by show ((0 : Nat) : Int) + _ = _; omega, by omega⟩
  rw [show LE mX2_takeTurn [.ref c, IV h] = [some (.ref c), some (IV h), none, none, none] from rfl]
  refine T_aload_n dX2_takeTurn_0 rfl rfl ?_
  refine P_getr dX2_takeTurn_1 fX2_15 (by assumption) rfl ?_
  refine P_getr dX2_takeTurn_4 fX2_29 (by assumption) rfl ?_
  refine P_geti dX2_takeTurn_7 fX2_82 (by assumption) rfl ?_
  rw [hu]
  refine T_istore_n dX2_takeTurn_10 (by decide) rfl ?_
  refine I_iconst dX2_takeTurn_11 ?_
  refine T_istore_n dX2_takeTurn_12 (by decide) rfl ?_
  exact P.weaken z (fun r' K' S' q => ⟨q.1, q.2.1, q.2.2.1, q.2.2.2.1, q.2.2.2.2.1.mono (by omega) hN, fun z hz => (q.2.2.2.2.2.1 z hz).mono (by omega), q.2.2.2.2.2.2⟩)
theorem turnM_up (pl : PL) (h : Int) : ∀ (rs dn nw : List Row) (e : EN), eUp (turnM pl h dn rs nw e).1 = eUp e ∧ eCl (turnM pl h dn rs nw e).1 = eCl e := by
  have hlog : ∀ (e : EN) (a b c d : Int), eUp (logM e a b c d) = eUp e ∧ eCl (logM e a b c d) = eCl e := fun _ _ _ _ _ => ⟨rfl, rfl⟩
  have hbo : ∀ (e : EN) (x : Row), eUp (bounceM e x).1 = eUp e ∧ eCl (bounceM e x).1 = eCl e := by
    intro e x; unfold bounceM; split <;> exact ⟨rfl, rfl⟩
  have hask : ∀ (x : Row) (l : List Int) (e : EN), eUp (askM pl e x l).1 = eUp e ∧ eCl (askM pl e x l).1 = eCl e := by
    intro x l
    induction l with
    | nil => intro e; exact ⟨rfl, rfl⟩
    | cons a as ih =>
      intro e
      rw [askM]
      split
      · split
        · exact ⟨rfl, rfl⟩
        · split
          · exact ⟨rfl, rfl⟩
          · exact ih _
      · exact ih e
  have hh : ∀ (e : EN) (n : Int) (x : Row), eUp (handleM pl e n x).1 = eUp e ∧ eCl (handleM pl e n x).1 = eCl e := by
    intro e n x
    unfold handleM
    split
    · exact hbo e x
    · by_cases hla : lastM pl (x 0) (x 3 / 8)
      · rw [if_pos hla]
        split
        · show eUp (giveM e x) = _ ∧ eCl (giveM e x) = _
          by_cases hw : x 1 ∈ eWn e (x 3)
          · rw [show giveM e x = logI e 3 x (x 0) from if_pos hw]; exact ⟨rfl, rfl⟩
          · rw [show giveM e x = _ from if_neg hw]; exact ⟨rfl, rfl⟩
        · split
          · exact ⟨rfl, rfl⟩
          · split
            · unfold openM; split <;> exact ⟨rfl, rfl⟩
            · exact hbo e x
      · rw [if_neg hla]
        have := hask x (asksM pl (x 0) (x 3 / 8)) e
        unfold travelM
        cases hq : askM pl e x (asksM pl (x 0) (x 3 / 8)) with
        | mk e1 so =>
          rw [hq] at this
          cases so with
          | some o => exact this
          | none =>
            show eUp (if x 4 + 1 = 5 then _ else _ : EN × Option Row × List Row).1 = _ ∧ eCl (if x 4 + 1 = 5 then _ else _ : EN × Option Row × List Row).1 = _
            split
            · exact ⟨(hbo e1 x).1.trans this.1, (hbo e1 x).2.trans this.2⟩
            · exact this
  intro rs
  induction rs with
  | nil => intro dn nw e; exact ⟨rfl, rfl⟩
  | cons x rs ih =>
    intro dn nw e
    rw [turnM]
    split
    · have := ih (dn ++ (handleM pl e (dn.length + (rs.length + 1) + nw.length) x).2.1.toList) (nw ++ (handleM pl e (dn.length + (rs.length + 1) + nw.length) x).2.2) (handleM pl e (dn.length + (rs.length + 1) + nw.length) x).1
      have h2 := hh e (dn.length + (rs.length + 1) + nw.length) x
      exact ⟨this.1.trans h2.1, this.2.trans h2.2⟩
    · exact ih _ _ _
theorem l_tick (m : Nat) : ∀ (h : Int) (S : SV) (e : EN) (its : List Row) (N : Int), 0 ≤ h → pHs pl - h = m → CT K S c p r its e pl N → N + 1200 * m ≤ 1000000000 → P G 6 0 0 mX2_passTick 15 [some (.ref c), some (IV h)] [] K S (TQ K S c p r pl (housesM pl m h (e, its)) (N + 1200 * m)) := by
  induction m with
  | zero =>
    intro h S e its N h0 hm hC hN
    obtain ⟨⟨ad, hS⟩, hE, hok, h60⟩ := id hC
    obtain ⟨⟨kc, kp, kr, hA⟩, hpr, hr, hP, hR, hll⟩ := id hS
    unfold CarAt at kc
    have kp0 := kp.1
    have hhs : fI S p 0 = pHs pl := hP.2.2.1
    have hb := hP.1.1
    refine T_iload_n dX2_passTick_15 rfl ?_
    refine T_aload_n dX2_passTick_16 rfl rfl ?_
    refine P_getr dX2_passTick_17 fX2_9 (by assumption) rfl ?_
    refine P_geti dX2_passTick_20 fX2_19 (by assumption) rfl ?_
    rw [hhs]
    refine I_icmp_ge (tgt := 50) dX2_passTick_23 (by decide) ⟨by omega, by omega⟩ ⟨by omega, by omega⟩ (fun h23 => ?_) (fun h23 => ?_)
    · exact T_return dX2_passTick_50 rfl ⟨_, _, rfl, rfl, rfl, Outs.rf, hC.1, hC.2.1.mono (by omega) hN, fun x hx => (hC.2.2.1 x hx).mono (by omega), hC.2.2.2⟩
    · omega
  | succ m ih =>
    intro h S e its N h0 hm hC hN
    obtain ⟨⟨ad, hS⟩, hE, hok, h60⟩ := id hC
    obtain ⟨⟨kc, kp, kr, hA⟩, hpr, hr, hP, hR, hll⟩ := id hS
    unfold CarAt at kc
    have kp0 := kp.1
    have kr0 := kr.1
    have kr1 := kr.2.1
    have hhs : fI S p 0 = pHs pl := hP.2.2.1
    have hb := hP.1.1
    have hup : aI S (r + 1) h = eUp e h := hR.2.1 h h0 (by omega)
    have hupR : R32 (eUp e h) := by rw [← hup]; exact hr.2 _ _
    have hcast : ((m + 1 : Nat) : Int) = m + 1 := by omega
    by_cases hu : eUp e h = 1
    · have hT : housesM pl (m + 1) h (e, its) = housesM pl m (h + 1) (turnM pl h [] its [] e) := by rw [housesM, if_pos hu]
      rw [hT]
      refine T_iload_n dX2_passTick_15 rfl ?_
      refine T_aload_n dX2_passTick_16 rfl rfl ?_
      refine P_getr dX2_passTick_17 fX2_9 (by assumption) rfl ?_
      refine P_geti dX2_passTick_20 fX2_19 (by assumption) rfl ?_
      rw [hhs]
      refine I_icmp_ge (tgt := 50) dX2_passTick_23 (by decide) ⟨by omega, by omega⟩ ⟨by omega, by omega⟩ (fun h23 => ?_) (fun h23 => ?_)
      · omega
      · refine T_aload_n dX2_passTick_26 rfl rfl ?_
        refine P_getr dX2_passTick_27 fX2_15 (by assumption) rfl ?_
        refine P_getr dX2_passTick_30 fX2_74 (by assumption) rfl ?_
        refine T_iload_n dX2_passTick_33 rfl ?_
        refine P_iald dX2_passTick_34 (by assumption) ⟨by omega, by omega⟩ (by first | decide | omega) ?_
        rw [hup]
        refine I_iconst dX2_passTick_35 ?_
        refine I_icmp_ne (tgt := 44) dX2_passTick_36 (by decide) hupR ⟨by omega, by omega⟩ (fun h36 => ?_) (fun h36 => ?_)
        · exact absurd hu h36
        · refine T_aload_n dX2_passTick_39 rfl rfl ?_
          refine T_iload_n dX2_passTick_40 rfl ?_
          refine R_callV dX2_passTick_41 kX2_takeTurn lX2_78 (by assumption) rfl (p_takeTurn ⟨by omega, by omega⟩ hC (by omega)) rfl rfl (Nat.le_of_ble_eq_true rfl) (Nat.le_of_ble_eq_true rfl) (by decide) (by decide) (fun r_ K_ S_ q_ => ?_)
          obtain ⟨rfl, hKe, hO1, hC1⟩ := q_
          have hKe := hKe.symm
          subst hKe
          have z := ih (h + 1) S_ _ _ _ (by omega) (by omega) hC1 (by omega)
          refine I_iinc dX2_passTick_44 rfl (by decide) rfl ?_
          refine T_goto (tgt := 15) dX2_passTick_47 (by decide) ?_
          exact P.weaken z (fun r' K' S' q => ⟨q.1, q.2.1, hO1.tr q.2.2.1, by
            have q4 := q.2.2.2
            rw [show N + 1200 + 1200 * (m : Int) = N + 1200 * ((m + 1 : Nat) : Int) by omega] at q4
            exact q4⟩)
    · have hT : housesM pl (m + 1) h (e, its) = housesM pl m (h + 1) (e, its) := by rw [housesM, if_neg hu]
      rw [hT]
      have z := ih (h + 1) S e its (N + 1200) (by omega) (by omega) ⟨hC.1, hE.mono (by omega) (by omega), fun x hx => (hok x hx).mono (by omega), h60⟩ (by omega)
      refine T_iload_n dX2_passTick_15 rfl ?_
      refine T_aload_n dX2_passTick_16 rfl rfl ?_
      refine P_getr dX2_passTick_17 fX2_9 (by assumption) rfl ?_
      refine P_geti dX2_passTick_20 fX2_19 (by assumption) rfl ?_
      rw [hhs]
      refine I_icmp_ge (tgt := 50) dX2_passTick_23 (by decide) ⟨by omega, by omega⟩ ⟨by omega, by omega⟩ (fun h23 => ?_) (fun h23 => ?_)
      · omega
      · refine T_aload_n dX2_passTick_26 rfl rfl ?_
        refine P_getr dX2_passTick_27 fX2_15 (by assumption) rfl ?_
        refine P_getr dX2_passTick_30 fX2_74 (by assumption) rfl ?_
        refine T_iload_n dX2_passTick_33 rfl ?_
        refine P_iald dX2_passTick_34 (by assumption) ⟨by omega, by omega⟩ (by first | decide | omega) ?_
        rw [hup]
        refine I_iconst dX2_passTick_35 ?_
        refine I_icmp_ne (tgt := 44) dX2_passTick_36 (by decide) hupR ⟨by omega, by omega⟩ (fun h36 => ?_) (fun h36 => ?_)
        · refine I_iinc dX2_passTick_44 rfl (by decide) rfl ?_
          refine T_goto (tgt := 15) dX2_passTick_47 (by decide) ?_
          exact P.weaken z (fun r' K' S' q => ⟨q.1, q.2.1, q.2.2.1, by
            have q4 := q.2.2.2
            rw [show N + 1200 + 1200 * (m : Int) = N + 1200 * ((m + 1 : Nat) : Int) by omega] at q4
            exact q4⟩)
        · exact absurd h36 hu
theorem p_passTick (hC : CT K S c p r its e pl N) (hN : N + 6001 ≤ 1000000000) : P G 6 0 0 mX2_passTick 0 (LE mX2_passTick [.ref c]) [] K S (TQ K S c p r pl (tickM pl (e, its)) (N + 6001)) := by
  obtain ⟨⟨ad, hS⟩, hE, hok, h60⟩ := id hC
  obtain ⟨⟨kc, kp, kr, hA⟩, hpr, hr, hP, hR, hll⟩ := id hS
  unfold CarAt at kc
  have kr0 := kr.1
  have hb := hP.1.1
  have hec := hE.1
  have hcl : fI S r 0 = eCl e := hR.1.1
  obtain ⟨hS1, hO1⟩ := hS.cl (v := eCl e + 1) ⟨by omega, by omega⟩
  have hE1 : EnB (N + 1) (eClS e (eCl e + 1)) := by
    obtain ⟨g1, g2, g3, g4, g5, g6, g7⟩ := hE.mono (by omega : N ≤ N + 1) (by omega)
    exact ⟨⟨by show 0 ≤ eCl e + 1; omega, by show eCl e + 1 < N + 1; omega⟩, g2, g3, g4, g5, g6, g7⟩
  have z := l_tick (G := G) (pl := pl) (pHs pl).toNat 0 (sF S r 0 (eCl e + 1)) (eClS e (eCl e + 1)) its (N + 1) (by omega) (by omega) ⟨⟨ad, hS1⟩, hE1, fun x hx => (hok x hx).mono (by omega), h60⟩ (by omega)
  rw [show LE mX2_passTick [.ref c] = [some (.ref c), none] from rfl]
  refine T_aload_n dX2_passTick_0 rfl rfl ?_
  refine P_getr dX2_passTick_1 fX2_15 (by assumption) rfl ?_
  refine T_dup dX2_passTick_4 rfl ?_
  refine P_geti dX2_passTick_5 fX2_47 (by assumption) rfl ?_
  rw [hcl]
  refine I_iconst dX2_passTick_8 ?_
  refine I_iadd dX2_passTick_9 ?_
  refine P_puti dX2_passTick_10 fX2_47 (by assumption) rfl rfl ?_
  refine I_iconst dX2_passTick_13 ?_
  refine T_istore_n dX2_passTick_14 (by decide) rfl ?_
  exact P.weaken z (fun r' K' S' q => ⟨q.1, q.2.1, hO1.tr q.2.2.1, q.2.2.2.1, q.2.2.2.2.1.mono (by omega) hN, fun y hy => (q.2.2.2.2.2.1 y hy).mono (by omega), q.2.2.2.2.2.2⟩)
end Tick
