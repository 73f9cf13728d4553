/-! the class: set, send, tick, run, draw -/
theorem WQ.tr {K : List SH} {S S1 : SV} {v : Int} {M : MS} {N : Int} (hs : Same S S1 453 466) {rv : Option Value} {K' : List SH} {S' : SV} (q : WQ K S1 v M N rv K' S') : WQ K S v M N rv K' S' := ⟨q.1, q.2.1, q.2.2.1, hs.tr q.2.2.2⟩
theorem WQ.mono {K : List SH} {S : SV} {v : Int} {M : MS} {N N' : Int} (hN : N ≤ N') (hM : N' ≤ 1000000000) {rv : Option Value} {K' : List SH} {S' : SV} (q : WQ K S v M N rv K' S') : WQ K S v M N' rv K' S' := ⟨q.1, q.2.1, q.2.2.1.mono hN hM, q.2.2.2⟩
theorem RoundR.upS {S : SV} {r : Nat} {ad : Int → Nat} {cr : List Row} {liv : Int} {e : EN} (h : RoundR S r ad cr liv e) (hA : AdOk (r + 2) ad) (hl : cr.length ≤ 120) (x v : Int) : RoundR (sA S (r + 1) x v) r ad cr liv (eUpS e (fset (eUp e) x v)) := by
  obtain ⟨h1, h4, h5, h6, h7, h8, h9⟩ := h
  have hi : Same S (sA S (r + 1) x v) (r + 2) (r + 142) := Same.sA (by omega)
  refine ⟨h1, fun y a b => ?_, h5.same hA hl (hi.sub (by omega) (by omega)), h6.same (hi.sub (by omega) (by omega)), h7.same (hi.sub (by omega) (by omega)), h8, fun y a b => (h9 y a b).same (hi.sub (by unfold sgAt; omega) (by unfold sgAt; omega))⟩
  show aI (sA S (r + 1) x v) (r + 1) y = fset (eUp e) x v y
  rw [aI_sA]
  by_cases hy : y = x
  · rw [if_pos ⟨rfl, hy⟩, hy, fset_t]
  · rw [if_neg (fun z => hy z.2), fset_f _ _ hy]
    exact h4 y a b
section WGO
variable {G : GT} {K : List SH} {N : Int}
theorem p_W_set {S : SV} {M : MS} {x u : Int} (h : WR K S M N) (hx : R32 x) (hu : R32 u) : P G 1 0 0 mX10_set 0 (LE mX10_set [.ref 0, IV x, IV u]) [] K S (WQ K S (setM M x u).1 (setM M x u).2 N) := by
  have w0 := h.1.1
  have k3' := h.1.2.2.2.1.1
  have k31 := h.1.2.2.2.1.2.1
  have hPo := h.2.2.1.2
  obtain ⟨⟨ad, c1, c2, c3, c4, c5, c6⟩, hE, hok, h60⟩ := h.2.2.2.1
  by_cases hb : houseB (mPl M) x ∧ 0 ≤ u ∧ u ≤ 1
  · have hv : setM M x u = (eUp (mE M) x, mNwS M (eUpS (mE M) (fset (eUp (mE M)) x u), mIt M)) := if_pos hb
    rw [hv]
    obtain ⟨hb0, hb1, hb2⟩ := hb
    have hb0' := hb0
    obtain ⟨x0, x1⟩ := hb0'
    have hb5 := hPo.1
    have e1 : aI S (23 + 1) x = eUp (mE M) x := c5.2.1 x x0 (by omega)
    have hO : Outs S (sA S (23 + 1) x u) 23 165 := fun a b w => Same.sA (by omega)
    have hA2 : AllR (sA S (23 + 1) x u) := c3.sA hu
    have hC : CT K (sA S (23 + 1) x u) 165 13 23 (mIt M) (eUpS (mE M) (fset (eUp (mE M)) x u)) (mPl M) N := ⟨⟨ad, c1, c2, hA2, c4.same (hO _ _ (by omega)), c5.upS c1.2.2.2 c6 x u, c6⟩, hE, hok, h60⟩
    have hW := h.now (x := (eUpS (mE M) (fset (eUp (mE M)) x u), mIt M)) hO hC (Int.le_refl _) hE.2.2.2.2.2.2
    rw [show LE mX10_set [.ref 0, IV x, IV u] = [some (.ref 0), some (IV x), some (IV u), none] from rfl]
    refine T_aload_n dX10_set_0 rfl rfl ?_
    refine T_iload_n dX10_set_1 rfl ?_
    refine Q_callV dX10_set_2 kX10_isHouse lX10_124 (by assumption) rfl (p_isHouse h hx) rfl rfl (Nat.le_of_ble_eq_true rfl) (Nat.le_of_ble_eq_true rfl) (by decide) (by decide) ?_
    rw [b2p_t hb0]
    refine I_if_eq (tgt := 17) dX10_set_5 (by decide) ⟨by omega, by omega⟩ (fun h5 => ?_) (fun h5 => ?_)
    · cases h5
    · refine T_iload_n dX10_set_8 rfl ?_
      refine I_if_lt (tgt := 17) dX10_set_9 (by decide) hu (fun h9 => ?_) (fun h9 => ?_)
      · omega
      · refine T_iload_n dX10_set_12 rfl ?_
        refine I_iconst dX10_set_13 ?_
        refine I_icmp_le (tgt := 19) dX10_set_14 (by decide) hu ⟨by omega, by omega⟩ (fun h14 => ?_) (fun h14 => ?_)
        · refine T_aload_n dX10_set_19 rfl rfl ?_
          refine P_getr dX10_set_20 fX10_26 (by assumption) rfl ?_
          refine P_getr dX10_set_23 fX10_131 (by assumption) rfl ?_
          refine T_iload_n dX10_set_26 rfl ?_
          refine P_iald dX10_set_27 (by assumption) ⟨by omega, by omega⟩ (by first | decide | omega) ?_
          rw [e1]
          refine T_istore_n dX10_set_28 (by decide) rfl ?_
          refine T_aload_n dX10_set_29 rfl rfl ?_
          refine P_getr dX10_set_30 fX10_26 (by assumption) rfl ?_
          refine P_getr dX10_set_33 fX10_131 (by assumption) rfl ?_
          refine T_iload_n dX10_set_36 rfl ?_
          refine T_iload_n dX10_set_37 rfl ?_
          refine P_iast dX10_set_38 (by assumption) ⟨by omega, by omega⟩ (by first | decide | omega) ?_
          refine T_iload_n dX10_set_39 rfl ?_
          exact I_ireturn dX10_set_40 rfl ⟨_, _, rfl, rfl, rfl, hW, hO _ _ (by omega)⟩
        · omega
  · have hv : setM M x u = (-1, M) := if_neg hb
    rw [hv]
    by_cases hb0 : houseB (mPl M) x
    · rw [show LE mX10_set [.ref 0, IV x, IV u] = [some (.ref 0), some (IV x), some (IV u), none] from rfl]
      refine T_aload_n dX10_set_0 rfl rfl ?_
      refine T_iload_n dX10_set_1 rfl ?_
      refine Q_callV dX10_set_2 kX10_isHouse lX10_124 (by assumption) rfl (p_isHouse h hx) rfl rfl (Nat.le_of_ble_eq_true rfl) (Nat.le_of_ble_eq_true rfl) (by decide) (by decide) ?_
      rw [b2p_t hb0]
      refine I_if_eq (tgt := 17) dX10_set_5 (by decide) ⟨by omega, by omega⟩ (fun h5 => ?_) (fun h5 => ?_)
      · cases h5
      · refine T_iload_n dX10_set_8 rfl ?_
        refine I_if_lt (tgt := 17) dX10_set_9 (by decide) hu (fun h9 => ?_) (fun h9 => ?_)
        · refine I_iconst dX10_set_17 ?_
          exact I_ireturn dX10_set_18 rfl ⟨_, _, rfl, WQ.here h⟩
        · refine T_iload_n dX10_set_12 rfl ?_
          refine I_iconst dX10_set_13 ?_
          refine I_icmp_le (tgt := 19) dX10_set_14 (by decide) hu ⟨by omega, by omega⟩ (fun h14 => ?_) (fun h14 => ?_)
          · exact absurd ⟨hb0, by omega, by omega⟩ hb
          · refine I_iconst dX10_set_17 ?_
            exact I_ireturn dX10_set_18 rfl ⟨_, _, rfl, WQ.here h⟩
    · rw [show LE mX10_set [.ref 0, IV x, IV u] = [some (.ref 0), some (IV x), some (IV u), none] from rfl]
      refine T_aload_n dX10_set_0 rfl rfl ?_
      refine T_iload_n dX10_set_1 rfl ?_
      refine Q_callV dX10_set_2 kX10_isHouse lX10_124 (by assumption) rfl (p_isHouse h hx) rfl rfl (Nat.le_of_ble_eq_true rfl) (Nat.le_of_ble_eq_true rfl) (by decide) (by decide) ?_
      rw [b2p_f hb0]
      refine I_if_eq (tgt := 17) dX10_set_5 (by decide) ⟨by omega, by omega⟩ (fun h5 => ?_) (fun h5 => ?_)
      · refine I_iconst dX10_set_17 ?_
        exact I_ireturn dX10_set_18 rfl ⟨_, _, rfl, WQ.here h⟩
      · exact absurd rfl h5
theorem p_W_send {S : SV} {M : MS} {x f t : Int} (h : WR K S M N) (hx : R32 x) (hf : R32 f) (ht : R32 t) (hN : N + 2 ≤ 1000000000) : P G 3 0 0 mX10_send 0 (LE mX10_send [.ref 0, IV x, IV f, IV t]) [] K S (WQ K S (sendQ M x f t).1 (sendQ M x f t).2 (N + 2)) := by
  have w0 := h.1.1
  have k5 : K[165]? = some (.inr (2, [some 13, some 23])) := h.1.2.2.2.2.1
  rw [show LE mX10_send [.ref 0, IV x, IV f, IV t] = [some (.ref 0), some (IV x), some (IV f), some (IV t)] from rfl]
  refine T_aload_n dX10_send_0 rfl rfl ?_
  refine P_getr dX10_send_1 fX10_35 (by assumption) rfl ?_
  refine T_iload_n dX10_send_4 rfl ?_
  refine T_iload_n dX10_send_5 rfl ?_
  refine T_iload_n dX10_send_6 rfl ?_
  refine R_callV dX10_send_7 kX2_takeLetter lX10_195 (by assumption) rfl (p_takeLetter h.2.2.2.1 hx hf ht hN) rfl rfl (Nat.le_of_ble_eq_true rfl) (Nat.le_of_ble_eq_true rfl) (by decide) (by decide) (fun r_ K_ S_ q_ => ?_)
  obtain ⟨rfl, hKe, hO, hC⟩ := q_
  have hKe := hKe.symm
  subst hKe
  exact I_ireturn dX10_send_10 rfl ⟨_, _, rfl, rfl, rfl, h.now hO hC (by omega) hN, hO _ _ (by omega)⟩
theorem l_W_tick {n b : Int} (hn : n ≤ 20) (m : Nat) : ∀ (i : Int) (S : SV) (M : MS) (N : Int), 0 ≤ i → n - i = m → WR K S M N → N + 6001 * m ≤ 1000000000 → P G 7 0 0 mX10_tick 28 [some (.ref 0), some (IV n), some (IV b), some (IV i)] [] K S (WQ K S (eTy (ticksM (mPl M) m (mNw M)).1 2 - b) (mNwS M (ticksM (mPl M) m (mNw M))) (N + 6001 * m)) := by
  induction m with
  | zero =>
    intro i S M N h0 hm h hN
    have w0 := h.1.1
    have k3' := h.1.2.2.2.1.1
    have kb := h.1.2.2.2.1.2.2.2.2.1
    have kb' := kb.1
    have kb1 := kb.2.1
    obtain ⟨ad, hA, hR⟩ := h.rnd
    have e1 : aI S (23 + 128 + 1) 2 = eTy (mE M) 2 := hR.2.2.2.2.1.1 2 (by omega) (by omega)
    refine T_iload_n dX10_tick_28 rfl ?_
    refine T_iload_n dX10_tick_29 rfl ?_
    refine I_icmp_ge (tgt := 46) dX10_tick_30 (by decide) ⟨by omega, by omega⟩ ⟨by omega, by omega⟩ (fun h30 => ?_) (fun h30 => ?_)
    · refine T_aload_n dX10_tick_46 rfl rfl ?_
      refine P_getr dX10_tick_47 fX10_26 (by assumption) rfl ?_
      refine P_getr dX10_tick_50 fX10_115 (by assumption) rfl ?_
      refine P_getr dX10_tick_53 fX10_119 (by assumption) rfl ?_
      refine I_iconst dX10_tick_56 ?_
      refine P_iald dX10_tick_57 (by assumption) ⟨by omega, by omega⟩ (by first | decide | omega) ?_
      rw [e1]
      refine T_iload_n dX10_tick_58 rfl ?_
      refine I_isub dX10_tick_59 ?_
      exact I_ireturn dX10_tick_60 rfl ⟨_, _, rfl, rfl, rfl, h.mono (by omega) hN, Same.rf⟩
    · omega
  | succ m ih =>
    intro i S M N h0 hm h hN
    have w0 := h.1.1
    have k5 : K[165]? = some (.inr (2, [some 13, some 23])) := h.1.2.2.2.2.1
    have hcast : ((m + 1 : Nat) : Int) = m + 1 := by omega
    refine T_iload_n dX10_tick_28 rfl ?_
    refine T_iload_n dX10_tick_29 rfl ?_
    refine I_icmp_ge (tgt := 46) dX10_tick_30 (by decide) ⟨by omega, by omega⟩ ⟨by omega, by omega⟩ (fun h30 => ?_) (fun h30 => ?_)
    · omega
    · refine T_aload_n dX10_tick_33 rfl rfl ?_
      refine P_getr dX10_tick_34 fX10_35 (by assumption) rfl ?_
      refine R_callV dX10_tick_37 kX2_passTick lX10_199 (by assumption) rfl (p_passTick h.2.2.2.1 (by omega)) rfl rfl (Nat.le_of_ble_eq_true rfl) (Nat.le_of_ble_eq_true rfl) (by decide) (by decide) (fun r_ K_ S_ q_ => ?_)
      obtain ⟨rfl, hKe, hO, hC⟩ := q_
      have hKe := hKe.symm
      subst hKe
      have hW := h.now (x := tickM (mPl M) (mNw M)) hO hC (by omega) (by omega)
      have z := ih (i + 1) S_ _ (N + 6001) (by omega) (by omega) hW (by omega)
      refine I_iinc dX10_tick_40 rfl (by decide) rfl ?_
      refine T_goto (tgt := 28) dX10_tick_43 (by decide) ?_
      refine P.weaken z (fun r' K' S' q => ?_)
      have q2 := q.tr (hO 453 466 (by omega))
      rw [show N + 6001 + 6001 * (m : Int) = N + 6001 * ((m + 1 : Nat) : Int) by omega] at q2
      exact q2
theorem p_W_tick {S : SV} {M : MS} {n : Int} (h : WR K S M N) (hn : R32 n) (hN : N + 400000 ≤ 1000000000) : P G 7 0 0 mX10_tick 0 (LE mX10_tick [.ref 0, IV n]) [] K S (WQ K S (tickQ M n).1 (tickQ M n).2 (N + 400000)) := by
  have w0 := h.1.1
  have k3' := h.1.2.2.2.1.1
  have kb := h.1.2.2.2.1.2.2.2.2.1
  have kb' := kb.1
  have kb1 := kb.2.1
  obtain ⟨ad, hA, hR⟩ := h.rnd
  have e1 : aI S (23 + 128 + 1) 2 = eTy (mE M) 2 := hR.2.2.2.2.1.1 2 (by omega) (by omega)
  by_cases hb : 1 ≤ n ∧ n ≤ 20
  · have hv : tickQ M n = (eTy (ticksM (mPl M) n.toNat (mNw M)).1 2 - eTy (mE M) 2, mNwS M (ticksM (mPl M) n.toNat (mNw M))) := if_pos hb
    rw [hv]
    have z := l_W_tick (G := G) (n := n) (b := eTy (mE M) 2) hb.2 n.toNat 0 S M N (by omega) (by omega) h (by omega)
    rw [show LE mX10_tick [.ref 0, IV n] = [some (.ref 0), some (IV n), none, none] from rfl]
    refine T_iload_n dX10_tick_0 rfl ?_
    refine I_iconst dX10_tick_1 ?_
    refine I_icmp_lt (tgt := 11) dX10_tick_2 (by decide) hn ⟨by omega, by omega⟩ (fun h2 => ?_) (fun h2 => ?_)
    · omega
    · refine T_iload_n dX10_tick_5 rfl ?_
      refine I_bipush dX10_tick_6 (by decide) ?_
      refine I_icmp_le (tgt := 13) dX10_tick_8 (by decide) hn ⟨by omega, by omega⟩ (fun h8 => ?_) (fun h8 => ?_)
      · refine T_aload_n dX10_tick_13 rfl rfl ?_
        refine P_getr dX10_tick_14 fX10_26 (by assumption) rfl ?_
        refine P_getr dX10_tick_17 fX10_115 (by assumption) rfl ?_
        refine P_getr dX10_tick_20 fX10_119 (by assumption) rfl ?_
        refine I_iconst dX10_tick_23 ?_
        refine P_iald dX10_tick_24 (by assumption) ⟨by omega, by omega⟩ (by first | decide | omega) ?_
        rw [e1]
        refine T_istore_n dX10_tick_25 (by decide) rfl ?_
        refine I_iconst dX10_tick_26 ?_
        refine T_istore_n dX10_tick_27 (by decide) rfl ?_
        exact P.weaken z (fun r' K' S' q => q.mono (by omega) (by omega))
      · omega
  · have hv : tickQ M n = (-1, M) := if_neg hb
    rw [hv]
    rw [show LE mX10_tick [.ref 0, IV n] = [some (.ref 0), some (IV n), none, none] from rfl]
    refine T_iload_n dX10_tick_0 rfl ?_
    refine I_iconst dX10_tick_1 ?_
    refine I_icmp_lt (tgt := 11) dX10_tick_2 (by decide) hn ⟨by omega, by omega⟩ (fun h2 => ?_) (fun h2 => ?_)
    · refine I_iconst dX10_tick_11 ?_
      exact I_ireturn dX10_tick_12 rfl ⟨_, _, rfl, (WQ.here h).mono (by omega) hN⟩
    · refine T_iload_n dX10_tick_5 rfl ?_
      refine I_bipush dX10_tick_6 (by decide) ?_
      refine I_icmp_le (tgt := 13) dX10_tick_8 (by decide) hn ⟨by omega, by omega⟩ (fun h8 => ?_) (fun h8 => ?_)
      · exact absurd ⟨by omega, by omega⟩ hb
      · refine I_iconst dX10_tick_11 ?_
        exact I_ireturn dX10_tick_12 rfl ⟨_, _, rfl, (WQ.here h).mono (by omega) hN⟩
theorem l_W_run {n : Int} (hn : n ≤ 60) (m : Nat) : ∀ (i : Int) (S : SV) (M : MS) (N : Int), 0 ≤ i → n - i = m → WR K S M N → N + 6001 * m ≤ 1000000000 → P G 7 0 0 mX10_run 15 [some (.ref 0), some (IV n), some (IV i)] [] K S (WQ K S (runL (mPl M) m i (mNw M)).1 (mNwS M (runL (mPl M) m i (mNw M)).2) (N + 6001 * m)) := by
  induction m with
  | zero =>
    intro i S M N h0 hm h hN
    refine T_iload_n dX10_run_15 rfl ?_
    refine T_iload_n dX10_run_16 rfl ?_
    refine I_icmp_ge (tgt := 46) dX10_run_17 (by decide) ⟨by omega, by omega⟩ ⟨by omega, by omega⟩ (fun h17 => ?_) (fun h17 => ?_)
    · refine T_iload_n dX10_run_46 rfl ?_
      exact I_ireturn dX10_run_47 rfl ⟨_, _, rfl, rfl, rfl, h.mono (by omega) hN, Same.rf⟩
    · omega
  | succ m ih =>
    intro i S M N h0 hm h hN
    have w0 := h.1.1
    have k3' := h.1.2.2.2.1.1
    have km := h.1.2.2.2.1.2.2.1.1
    have k5 : K[165]? = some (.inr (2, [some 13, some 23])) := h.1.2.2.2.2.1
    have hcast : ((m + 1 : Nat) : Int) = m + 1 := by omega
    obtain ⟨ad, hA, hR⟩ := h.rnd
    have h60 : (mIt M).length ≤ 60 := h.2.2.2.1.2.2.2
    have hlv : fI S (23 + 2) 2 = (mIt M).length := hR.2.2.1.2.1
    by_cases hz : (mNw M).2.length = 0
    · have hz' : (mIt M).length = 0 := hz
      have hv : runL (mPl M) (m + 1) i (mNw M) = (i, mNw M) := by rw [runL, if_pos hz]
      rw [hv]
      refine T_iload_n dX10_run_15 rfl ?_
      refine T_iload_n dX10_run_16 rfl ?_
      refine I_icmp_ge (tgt := 46) dX10_run_17 (by decide) ⟨by omega, by omega⟩ ⟨by omega, by omega⟩ (fun h17 => ?_) (fun h17 => ?_)
      · omega
      · refine T_aload_n dX10_run_20 rfl rfl ?_
        refine P_getr dX10_run_21 fX10_26 (by assumption) rfl ?_
        refine P_getr dX10_run_24 fX10_103 (by assumption) rfl ?_
        refine P_geti dX10_run_27 fX10_107 (by assumption) rfl ?_
        rw [hlv]
        refine I_if_le (tgt := 46) dX10_run_30 (by decide) ⟨by omega, by omega⟩ (fun h30 => ?_) (fun h30 => ?_)
        · refine T_iload_n dX10_run_46 rfl ?_
          exact I_ireturn dX10_run_47 rfl ⟨_, _, rfl, rfl, rfl, h.mono (by omega) hN, Same.rf⟩
        · omega
    · have hz' : ¬ (mIt M).length = 0 := hz
      have hv : runL (mPl M) (m + 1) i (mNw M) = runL (mPl M) m (i + 1) (tickM (mPl M) (mNw M)) := by rw [runL, if_neg hz]
      rw [hv]
      refine T_iload_n dX10_run_15 rfl ?_
      refine T_iload_n dX10_run_16 rfl ?_
      refine I_icmp_ge (tgt := 46) dX10_run_17 (by decide) ⟨by omega, by omega⟩ ⟨by omega, by omega⟩ (fun h17 => ?_) (fun h17 => ?_)
      · omega
      · refine T_aload_n dX10_run_20 rfl rfl ?_
        refine P_getr dX10_run_21 fX10_26 (by assumption) rfl ?_
        refine P_getr dX10_run_24 fX10_103 (by assumption) rfl ?_
        refine P_geti dX10_run_27 fX10_107 (by assumption) rfl ?_
        rw [hlv]
        refine I_if_le (tgt := 46) dX10_run_30 (by decide) ⟨by omega, by omega⟩ (fun h30 => ?_) (fun h30 => ?_)
        · omega
        · refine T_aload_n dX10_run_33 rfl rfl ?_
          refine P_getr dX10_run_34 fX10_35 (by assumption) rfl ?_
          refine R_callV dX10_run_37 kX2_passTick lX10_199 (by assumption) rfl (p_passTick h.2.2.2.1 (by omega)) rfl rfl (Nat.le_of_ble_eq_true rfl) (Nat.le_of_ble_eq_true rfl) (by decide) (by decide) (fun r_ K_ S_ q_ => ?_)
          obtain ⟨rfl, hKe, hO, hC⟩ := q_
          have hKe := hKe.symm
          subst hKe
          have hW := h.now (x := tickM (mPl M) (mNw M)) hO hC (by omega) (by omega)
          have z := ih (i + 1) S_ _ (N + 6001) (by omega) (by omega) hW (by omega)
          refine I_iinc dX10_run_40 rfl (by decide) rfl ?_
          refine T_goto (tgt := 15) dX10_run_43 (by decide) ?_
          refine P.weaken z (fun r' K' S' q => ?_)
          have q2 := q.tr (hO 453 466 (by omega))
          rw [show N + 6001 + 6001 * (m : Int) = N + 6001 * ((m + 1 : Nat) : Int) by omega] at q2
          exact q2
theorem p_W_run {S : SV} {M : MS} {n : Int} (h : WR K S M N) (hn : R32 n) (hN : N + 400000 ≤ 1000000000) : P G 7 0 0 mX10_run 0 (LE mX10_run [.ref 0, IV n]) [] K S (WQ K S (runQ M n).1 (runQ M n).2 (N + 400000)) := by
  by_cases hb : 1 ≤ n ∧ n ≤ 60
  · have hv : runQ M n = ((runL (mPl M) n.toNat 0 (mNw M)).1, mNwS M (runL (mPl M) n.toNat 0 (mNw M)).2) := if_pos hb
    rw [hv]
    have z := l_W_run (G := G) (n := n) hb.2 n.toNat 0 S M N (by omega) (by omega) h (by omega)
    rw [show LE mX10_run [.ref 0, IV n] = [some (.ref 0), some (IV n), none] from rfl]
    refine T_iload_n dX10_run_0 rfl ?_
    refine I_iconst dX10_run_1 ?_
    refine I_icmp_lt (tgt := 11) dX10_run_2 (by decide) hn ⟨by omega, by omega⟩ (fun h2 => ?_) (fun h2 => ?_)
    · omega
    · refine T_iload_n dX10_run_5 rfl ?_
      refine I_bipush dX10_run_6 (by decide) ?_
      refine I_icmp_le (tgt := 13) dX10_run_8 (by decide) hn ⟨by omega, by omega⟩ (fun h8 => ?_) (fun h8 => ?_)
      · refine I_iconst dX10_run_13 ?_
        refine T_istore_n dX10_run_14 (by decide) rfl ?_
        exact P.weaken z (fun r' K' S' q => q.mono (by omega) (by omega))
      · omega
  · have hv : runQ M n = (-1, M) := if_neg hb
    rw [hv]
    rw [show LE mX10_run [.ref 0, IV n] = [some (.ref 0), some (IV n), none] from rfl]
    refine T_iload_n dX10_run_0 rfl ?_
    refine I_iconst dX10_run_1 ?_
    refine I_icmp_lt (tgt := 11) dX10_run_2 (by decide) hn ⟨by omega, by omega⟩ (fun h2 => ?_) (fun h2 => ?_)
    · refine I_iconst dX10_run_11 ?_
      exact I_ireturn dX10_run_12 rfl ⟨_, _, rfl, (WQ.here h).mono (by omega) hN⟩
    · refine T_iload_n dX10_run_5 rfl ?_
      refine I_bipush dX10_run_6 (by decide) ?_
      refine I_icmp_le (tgt := 13) dX10_run_8 (by decide) hn ⟨by omega, by omega⟩ (fun h8 => ?_) (fun h8 => ?_)
      · exact absurd ⟨by omega, by omega⟩ hb
      · refine I_iconst dX10_run_11 ?_
        exact I_ireturn dX10_run_12 rfl ⟨_, _, rfl, (WQ.here h).mono (by omega) hN⟩
end WGO
