/-! the reference: tick, run, set, send, draw -/
theorem EnB.up {N : Int} {e : EN} (h : EnB N e) (u : Int → Int) : EnB N (eUpS e u) := h
section RG3
variable {G : GT} {K : List SH} {N : Int}
theorem p_R_tick {S : SV} {M : MS} {n : Int} (h : RR K S M) (hp : PU M N) (hn : R32 n) (hN : N + 400000 ≤ 1000000000) : P G 7 0 0 mX11_tick 0 (LE mX11_tick [.ref 453, IV n]) [] K S (RQ K S (tickQ M n).1 (tickQ M n).2) := by
  have m0 := h.1.1.1
  have m1 := h.1.1.2.1
  have e1 : aI S 454 9 = eTy (mE M) 2 := h.1.2.2.2.2.2.2.1.2.2.1 2 (by omega) (by omega)
  by_cases hb : 1 ≤ n ∧ n ≤ 20
  · have hv : tickQ M n = (eTy (ticksM (mPl M) n.toNat (mNw M)).1 2 - eTy (mE M) 2, mNwS M (ticksM (mPl M) n.toNat (mNw M))) := if_pos hb
    rw [hv]
    have z := l_R_tick (G := G) (n := n) (b := eTy (mE M) 2) hb.2 n.toNat 0 S M N (by omega) (by omega) h hp.1 (by omega)
    rw [show LE mX11_tick [.ref 453, IV n] = [some (.ref 453), some (IV n), none, none] from rfl]
    refine T_iload_n dX11_tick_0 rfl ?_
    refine I_i2l dX11_tick_1 hn ?_
    refine I_lconst dX11_tick_2 ?_
    refine I_ldc2 (n := 20) dX11_tick_3 qX11_232 rfl ?_
    refine Q_callS dX11_tick_6 kX11_in lX11_52 (p_in (lo := 1) ⟨by omega, by omega⟩ (by decide) (by decide)) rfl rfl (Nat.le_of_ble_eq_true rfl) (Nat.le_of_ble_eq_true rfl) (by decide) (by decide) ?_
    rw [b2p_t (show inB n 1 20 from hb)]
    refine I_if_ne (tgt := 14) dX11_tick_9 (by decide) ⟨by omega, by omega⟩ (fun h9 => ?_) (fun h9 => ?_)
    · refine T_aload_n dX11_tick_14 rfl rfl ?_
      refine P_getr dX11_tick_15 fX11_7 (by assumption) rfl ?_
      refine I_bipush dX11_tick_18 (by decide) ?_
      refine P_iald dX11_tick_20 (by assumption) ⟨by omega, by omega⟩ (by first | decide | omega) ?_
      rw [e1]
      refine T_istore_n dX11_tick_21 (by decide) rfl ?_
      refine I_iconst dX11_tick_22 ?_
      refine T_istore_n dX11_tick_23 (by decide) rfl ?_
      exact z
    · cases h9
  · have hv : tickQ M n = (-1, M) := if_neg hb
    rw [hv]
    rw [show LE mX11_tick [.ref 453, IV n] = [some (.ref 453), some (IV n), none, none] from rfl]
    refine T_iload_n dX11_tick_0 rfl ?_
    refine I_i2l dX11_tick_1 hn ?_
    refine I_lconst dX11_tick_2 ?_
    refine I_ldc2 (n := 20) dX11_tick_3 qX11_232 rfl ?_
    refine Q_callS dX11_tick_6 kX11_in lX11_52 (p_in (lo := 1) ⟨by omega, by omega⟩ (by decide) (by decide)) rfl rfl (Nat.le_of_ble_eq_true rfl) (Nat.le_of_ble_eq_true rfl) (by decide) (by decide) ?_
    rw [b2p_f (show ¬ inB n 1 20 from hb)]
    refine I_if_ne (tgt := 14) dX11_tick_9 (by decide) ⟨by omega, by omega⟩ (fun h9 => ?_) (fun h9 => ?_)
    · exact absurd rfl h9
    · refine I_iconst dX11_tick_12 ?_
      exact I_ireturn dX11_tick_13 rfl ⟨_, _, rfl, RQ.here h⟩
theorem l_R_run {n : Int} (hn : n ≤ 60) (m : Nat) : ∀ (i : Int) (S : SV) (M : MS) (N : Int), 0 ≤ i → n - i = m → RR K S M → RndOk N (mPl M) (mNw M) → N + 6001 * m ≤ 1000000000 → P G 7 0 0 mX11_run 16 [some (.ref 453), some (IV n), some (IV i)] [] K S (RQ K S (runL (mPl M) m i (mNw M)).1 (mNwS M (runL (mPl M) m i (mNw M)).2)) := by
  induction m with
  | zero =>
    intro i S M N h0 hm h hp hN
    refine T_iload_n dX11_run_16 rfl ?_
    refine T_iload_n dX11_run_17 rfl ?_
    refine I_icmp_ge (tgt := 40) dX11_run_18 (by decide) ⟨by omega, by omega⟩ ⟨by omega, by omega⟩ (fun h18 => ?_) (fun h18 => ?_)
    · refine T_iload_n dX11_run_40 rfl ?_
      exact I_ireturn dX11_run_41 rfl ⟨_, _, rfl, RQ.here h⟩
    · omega
  | succ m ih =>
    intro i S M N h0 hm h hp hN
    have m0 := h.1.1.1
    have m1 := h.1.1.2.1
    have e4 := h.1.n4
    have h60 := h.1.n60
    have hcast : ((m + 1 : Nat) : Int) = m + 1 := by omega
    by_cases hz : (mNw M).2.length = 0
    · have hz' : (mIt M).length = 0 := hz
      have hv : runL (mPl M) (m + 1) i (mNw M) = (i, mNw M) := by rw [runL, if_pos hz]
      rw [hv]
      refine T_iload_n dX11_run_16 rfl ?_
      refine T_iload_n dX11_run_17 rfl ?_
      refine I_icmp_ge (tgt := 40) dX11_run_18 (by decide) ⟨by omega, by omega⟩ ⟨by omega, by omega⟩ (fun h18 => ?_) (fun h18 => ?_)
      · omega
      · refine T_aload_n dX11_run_21 rfl rfl ?_
        refine P_getr dX11_run_22 fX11_7 (by assumption) rfl ?_
        refine I_iconst dX11_run_25 ?_
        refine P_iald dX11_run_26 (by assumption) ⟨by omega, by omega⟩ (by first | decide | omega) ?_
        rw [e4]
        refine I_if_le (tgt := 40) dX11_run_27 (by decide) ⟨by omega, by omega⟩ (fun h27 => ?_) (fun h27 => ?_)
        · refine T_iload_n dX11_run_40 rfl ?_
          exact I_ireturn dX11_run_41 rfl ⟨_, _, rfl, RQ.here h⟩
        · omega
    · have hz' : ¬ (mIt M).length = 0 := hz
      have hv : runL (mPl M) (m + 1) i (mNw M) = runL (mPl M) m (i + 1) (tickM (mPl M) (mNw M)) := by rw [runL, if_neg hz]
      rw [hv]
      refine T_iload_n dX11_run_16 rfl ?_
      refine T_iload_n dX11_run_17 rfl ?_
      refine I_icmp_ge (tgt := 40) dX11_run_18 (by decide) ⟨by omega, by omega⟩ ⟨by omega, by omega⟩ (fun h18 => ?_) (fun h18 => ?_)
      · omega
      · refine T_aload_n dX11_run_21 rfl rfl ?_
        refine P_getr dX11_run_22 fX11_7 (by assumption) rfl ?_
        refine I_iconst dX11_run_25 ?_
        refine P_iald dX11_run_26 (by assumption) ⟨by omega, by omega⟩ (by first | decide | omega) ?_
        rw [e4]
        refine I_if_le (tgt := 40) dX11_run_27 (by decide) ⟨by omega, by omega⟩ (fun h27 => ?_) (fun h27 => ?_)
        · omega
        · refine T_aload_n dX11_run_30 rfl rfl ?_
          refine R_callV dX11_run_31 kX11_ticks lX11_271 (by assumption) rfl (p_R_ticks h.1 hp.1 (fun x hx => ⟨hp.2.1 x hx, h.2.2.2.1 x hx⟩) (by omega)) rfl rfl (Nat.le_of_ble_eq_true rfl) (Nat.le_of_ble_eq_true rfl) (by decide) (by decide) (fun r_ K_ S_ q_ => ?_)
          obtain ⟨rfl, hKe, hq, hE1, hB1, hw1⟩ := q_
          have hKe := hKe.symm
          subst hKe
          have hW := h.now (x := tickM (mPl M) (mNw M)) hw1 hq (fun r hr => (hB1 r hr).2)
          have z := ih (i + 1) S_ _ (N + 6001) (by omega) (by omega) hW ⟨hE1, fun r hr => (hB1 r hr).1, hq.n60⟩ (by omega)
          refine I_iinc dX11_run_34 rfl (by decide) rfl ?_
          refine T_goto (tgt := 16) dX11_run_37 (by decide) ?_
          exact P.weaken z (fun r' K' S' q => ⟨q.1, q.2.1, q.2.2.1, hw1.outs.tr q.2.2.2⟩)
theorem p_R_run {S : SV} {M : MS} {n : Int} (h : RR K S M) (hp : PU M N) (hn : R32 n) (hN : N + 400000 ≤ 1000000000) : P G 7 0 0 mX11_run 0 (LE mX11_run [.ref 453, IV n]) [] K S (RQ K S (runQ M n).1 (runQ M n).2) := by
  by_cases hb : 1 ≤ n ∧ n ≤ 60
  · have hv : runQ M n = ((runL (mPl M) n.toNat 0 (mNw M)).1, mNwS M (runL (mPl M) n.toNat 0 (mNw M)).2) := if_pos hb
    rw [hv]
    have z := l_R_run (G := G) (n := n) hb.2 n.toNat 0 S M N (by omega) (by omega) h hp.1 (by omega)
    rw [show LE mX11_run [.ref 453, IV n] = [some (.ref 453), some (IV n), none] from rfl]
    refine T_iload_n dX11_run_0 rfl ?_
    refine I_i2l dX11_run_1 hn ?_
    refine I_lconst dX11_run_2 ?_
    refine I_ldc2 (n := 60) dX11_run_3 qX11_274 rfl ?_
    refine Q_callS dX11_run_6 kX11_in lX11_52 (p_in (lo := 1) ⟨by omega, by omega⟩ (by decide) (by decide)) rfl rfl (Nat.le_of_ble_eq_true rfl) (Nat.le_of_ble_eq_true rfl) (by decide) (by decide) ?_
    rw [b2p_t (show inB n 1 60 from hb)]
    refine I_if_ne (tgt := 14) dX11_run_9 (by decide) ⟨by omega, by omega⟩ (fun h9 => ?_) (fun h9 => ?_)
    · refine I_iconst dX11_run_14 ?_
      refine T_istore_n dX11_run_15 (by decide) rfl ?_
      exact z
    · cases h9
  · have hv : runQ M n = (-1, M) := if_neg hb
    rw [hv]
    rw [show LE mX11_run [.ref 453, IV n] = [some (.ref 453), some (IV n), none] from rfl]
    refine T_iload_n dX11_run_0 rfl ?_
    refine I_i2l dX11_run_1 hn ?_
    refine I_lconst dX11_run_2 ?_
    refine I_ldc2 (n := 60) dX11_run_3 qX11_274 rfl ?_
    refine Q_callS dX11_run_6 kX11_in lX11_52 (p_in (lo := 1) ⟨by omega, by omega⟩ (by decide) (by decide)) rfl rfl (Nat.le_of_ble_eq_true rfl) (Nat.le_of_ble_eq_true rfl) (by decide) (by decide) ?_
    rw [b2p_f (show ¬ inB n 1 60 from hb)]
    refine I_if_ne (tgt := 14) dX11_run_9 (by decide) ⟨by omega, by omega⟩ (fun h9 => ?_) (fun h9 => ?_)
    · exact absurd rfl h9
    · refine I_iconst dX11_run_12 ?_
      exact I_ireturn dX11_run_13 rfl ⟨_, _, rfl, RQ.here h⟩
theorem p_R_set {S : SV} {M : MS} {x u : Int} (h : RR K S M) (hx : R32 x) (hu : R32 u) : P G 2 0 0 mX11_set 0 (LE mX11_set [.ref 453, IV x, IV u]) [] K S (RQ K S (setM M x u).1 (setM M x u).2) := by
  have m0 := h.1.1.1
  have m1 := h.1.1.2.1
  have hb5 := h.1.2.2.1.1
  by_cases hb : houseB (mPl M) x ∧ 0 ≤ u ∧ u ≤ 1
  · have hv : setM M x u = (eUp (mE M) x, mNwS M (eUpS (mE M) (fset (eUp (mE M)) x u), mIt M)) := if_pos hb
    rw [hv]
    obtain ⟨hb0, hb1, hb2⟩ := hb
    have hb0' := hb0
    obtain ⟨x0, x1⟩ := hb0'
    have e1 : aI S 454 (16 + 2 * x + 1) = eUp (mE M) x := h.1.2.2.2.2.2.2.2.1 x x0 (by omega) (by rw [h.1.2.2.2.1.1.1]; exact x1)
    have hR : RS K (sA S 454 (16 + 2 * x + 1) u) (mPl M) (eUpS (mE M) (fset (eUp (mE M)) x u)) (mIt M) := by
      obtain ⟨h1, h2, h3, h4, h5, h6, h7, h8, h9, h10⟩ := h.1
      have ho : ∀ j, j ≠ 16 + 2 * x + 1 → aI (sA S 454 (16 + 2 * x + 1) u) 454 j = aI S 454 j := fun j z => by rw [aS, fset_f _ _ z]
      refine ⟨h1, h2.sA hu, h3, h4.cg h3 (fun j z => ho j (by omega)), NuC.cg h5 (fun j z => ho j (by omega)), h6.cg (fun j z => ho j (by omega)), LgC.cg h7 (fun j z => ho j (by omega)), fun y a b c => ?_, BxC.cg h9 (fun j z => ho j (by omega)), SgC.cg h10 (fun j z => ho j (by omega))⟩
      show aI (sA S 454 (16 + 2 * x + 1) u) 454 (16 + 2 * y + 1) = fset (eUp (mE M)) x u y
      by_cases hy : y = x
      · rw [aS, hy, fset_t, fset_t]
      · rw [ho _ (by omega), fset_f _ _ hy]
        exact h8 y a b (by rw [← ho 0 (by omega)]; exact c)
    rw [show LE mX11_set [.ref 453, IV x, IV u] = [some (.ref 453), some (IV x), some (IV u), none] from rfl]
    refine T_aload_n dX11_set_0 rfl rfl ?_
    refine T_iload_n dX11_set_1 rfl ?_
    refine Q_callV dX11_set_2 kX11_isHouse lX11_177 (by assumption) rfl (p_R_isHouse h.1 hx) rfl rfl (Nat.le_of_ble_eq_true rfl) (Nat.le_of_ble_eq_true rfl) (by decide) (by decide) ?_
    rw [b2p_t hb0]
    refine I_if_eq (tgt := 18) dX11_set_5 (by decide) ⟨by omega, by omega⟩ (fun h5 => ?_) (fun h5 => ?_)
    · cases h5
    · refine T_iload_n dX11_set_8 rfl ?_
      refine I_i2l dX11_set_9 hu ?_
      refine I_lconst dX11_set_10 ?_
      refine I_lconst dX11_set_11 ?_
      refine Q_callS dX11_set_12 kX11_in lX11_52 (p_in (lo := 0) (hi := 1) ⟨by omega, by omega⟩ (by decide) (by decide)) rfl rfl (Nat.le_of_ble_eq_true rfl) (Nat.le_of_ble_eq_true rfl) (by decide) (by decide) ?_
      rw [b2p_t (show inB u 0 1 from ⟨hb1, hb2⟩)]
      refine I_if_ne (tgt := 20) dX11_set_15 (by decide) ⟨by omega, by omega⟩ (fun h15 => ?_) (fun h15 => ?_)
      · refine T_aload_n dX11_set_20 rfl rfl ?_
        refine P_getr dX11_set_21 fX11_7 (by assumption) rfl ?_
        refine I_bipush dX11_set_24 (by decide) ?_
        refine I_iconst dX11_set_26 ?_
        refine T_iload_n dX11_set_27 rfl ?_
        refine I_imul dX11_set_28 ?_
        refine I_iadd dX11_set_29 ?_
        refine I_iconst dX11_set_30 ?_
        refine I_iadd dX11_set_31 ?_
        refine P_iald dX11_set_32 (by assumption) ⟨by omega, by omega⟩ (by first | decide | omega) ?_
        rw [e1]
        refine T_istore_n dX11_set_33 (by decide) rfl ?_
        refine T_aload_n dX11_set_34 rfl rfl ?_
        refine P_getr dX11_set_35 fX11_7 (by assumption) rfl ?_
        refine I_bipush dX11_set_38 (by decide) ?_
        refine I_iconst dX11_set_40 ?_
        refine T_iload_n dX11_set_41 rfl ?_
        refine I_imul dX11_set_42 ?_
        refine I_iadd dX11_set_43 ?_
        refine I_iconst dX11_set_44 ?_
        refine I_iadd dX11_set_45 ?_
        refine T_iload_n dX11_set_46 rfl ?_
        refine P_iast dX11_set_47 (by assumption) ⟨by omega, by omega⟩ (by first | decide | omega) ?_
        refine T_iload_n dX11_set_48 rfl ?_
        exact I_ireturn dX11_set_49 rfl ⟨_, _, rfl, rfl, rfl, h.now (x := (eUpS (mE M) (fset (eUp (mE M)) x u), mIt M)) (Wo.sA (Or.inl rfl)) hR h.2.2.2.1, (Wo.sA (Or.inl rfl)).outs⟩
      · cases h15
  · have hv : setM M x u = (-1, M) := if_neg hb
    rw [hv]
    by_cases hb0 : houseB (mPl M) x
    · rw [show LE mX11_set [.ref 453, IV x, IV u] = [some (.ref 453), some (IV x), some (IV u), none] from rfl]
      refine T_aload_n dX11_set_0 rfl rfl ?_
      refine T_iload_n dX11_set_1 rfl ?_
      refine Q_callV dX11_set_2 kX11_isHouse lX11_177 (by assumption) rfl (p_R_isHouse h.1 hx) rfl rfl (Nat.le_of_ble_eq_true rfl) (Nat.le_of_ble_eq_true rfl) (by decide) (by decide) ?_
      rw [b2p_t hb0]
      refine I_if_eq (tgt := 18) dX11_set_5 (by decide) ⟨by omega, by omega⟩ (fun h5 => ?_) (fun h5 => ?_)
      · cases h5
      · refine T_iload_n dX11_set_8 rfl ?_
        refine I_i2l dX11_set_9 hu ?_
        refine I_lconst dX11_set_10 ?_
        refine I_lconst dX11_set_11 ?_
        refine Q_callS dX11_set_12 kX11_in lX11_52 (p_in (lo := 0) (hi := 1) ⟨by omega, by omega⟩ (by decide) (by decide)) rfl rfl (Nat.le_of_ble_eq_true rfl) (Nat.le_of_ble_eq_true rfl) (by decide) (by decide) ?_
        rw [b2p_f (show ¬ inB u 0 1 from fun z => hb ⟨hb0, z⟩)]
        refine I_if_ne (tgt := 20) dX11_set_15 (by decide) ⟨by omega, by omega⟩ (fun h15 => ?_) (fun h15 => ?_)
        · exact absurd rfl h15
        · refine I_iconst dX11_set_18 ?_
          exact I_ireturn dX11_set_19 rfl ⟨_, _, rfl, RQ.here h⟩
    · rw [show LE mX11_set [.ref 453, IV x, IV u] = [some (.ref 453), some (IV x), some (IV u), none] from rfl]
      refine T_aload_n dX11_set_0 rfl rfl ?_
      refine T_iload_n dX11_set_1 rfl ?_
      refine Q_callV dX11_set_2 kX11_isHouse lX11_177 (by assumption) rfl (p_R_isHouse h.1 hx) rfl rfl (Nat.le_of_ble_eq_true rfl) (Nat.le_of_ble_eq_true rfl) (by decide) (by decide) ?_
      rw [b2p_f hb0]
      refine I_if_eq (tgt := 18) dX11_set_5 (by decide) ⟨by omega, by omega⟩ (fun h5 => ?_) (fun h5 => ?_)
      · refine I_iconst dX11_set_18 ?_
        exact I_ireturn dX11_set_19 rfl ⟨_, _, rfl, RQ.here h⟩
      · exact absurd rfl h5
/-- sent: over the row alone -/
def SDQ (K : List SH) (S : SV) (pl : PL) (res : Int × RND) : Option Value → List SH → SV → Prop := fun rv K' S' => rv = some (IV res.1) ∧ K' = K ∧ RS K S' pl res.2.1 res.2.2 ∧ Wr S S'
theorem p_R_sends {S : SV} {pl : PL} {e : EN} {its : List Row} {x f t : Int} (h : RS K S pl e its) (hE : EnB N e) (hx : R32 x) (hf : R32 f) (ht : R32 t) : P G 2 0 0 mX11_send 0 (LE mX11_send [.ref 453, IV x, IV f, IV t]) [] K S (SDQ K S pl (sendM pl (e, its) x f t)) := by
  have m0 := h.1.1
  have m1 := h.1.2.1
  have e4 := h.n4
  have h60 := h.n60
  have e3 : aI S 454 3 = eLe e := h.2.2.2.2.1.2.1
  have hle := hE.2.1
  have hNN := hE.2.2.2.2.2.2
  obtain ⟨l1, l2, l3, l4, l5⟩ := hE.lg (w := 0) ⟨by omega, by omega⟩
  by_cases hq : letB pl x f t
  · have q0 : houseB pl x := hq.1
    obtain ⟨-, q1, q2⟩ := id hq
    by_cases hfu : 60 ≤ (its.length : Int)
    · rw [sendM_full hq hfu]
      rw [show LE mX11_send [.ref 453, IV x, IV f, IV t] = [some (.ref 453), some (IV x), some (IV f), some (IV t), none] from rfl]
      refine T_aload_n dX11_send_0 rfl rfl ?_
      refine T_iload_n dX11_send_1 rfl ?_
      refine Q_callV dX11_send_2 kX11_isHouse lX11_177 (by assumption) rfl (p_R_isHouse h hx) rfl rfl (Nat.le_of_ble_eq_true rfl) (Nat.le_of_ble_eq_true rfl) (by decide) (by decide) ?_
      rw [b2p_t q0]
      refine I_if_eq (tgt := 22) dX11_send_5 (by decide) ⟨by omega, by omega⟩ (fun h5 => ?_) (fun h5 => ?_)
      · cases h5
      · refine T_iload_n dX11_send_8 rfl ?_
        refine Q_callS dX11_send_9 kX11_isAddress lX11_192 (p_R_isAddress hf) rfl rfl (Nat.le_of_ble_eq_true rfl) (Nat.le_of_ble_eq_true rfl) (by decide) (by decide) ?_
        rw [b2p_t q1]
        refine I_if_eq (tgt := 22) dX11_send_12 (by decide) ⟨by omega, by omega⟩ (fun h12 => ?_) (fun h12 => ?_)
        · cases h12
        · refine T_iload_n dX11_send_15 rfl ?_
          refine Q_callS dX11_send_16 kX11_isAddress lX11_192 (p_R_isAddress ht) rfl rfl (Nat.le_of_ble_eq_true rfl) (Nat.le_of_ble_eq_true rfl) (by decide) (by decide) ?_
          rw [b2p_t q2]
          refine I_if_ne (tgt := 24) dX11_send_19 (by decide) ⟨by omega, by omega⟩ (fun h19 => ?_) (fun h19 => ?_)
          · refine T_aload_n dX11_send_24 rfl rfl ?_
            refine P_getr dX11_send_25 fX11_7 (by assumption) rfl ?_
            refine I_iconst dX11_send_28 ?_
            refine P_iald dX11_send_29 (by assumption) ⟨by omega, by omega⟩ (by first | decide | omega) ?_
            rw [e4]
            refine I_bipush dX11_send_30 (by decide) ?_
            refine I_icmp_ne (tgt := 38) dX11_send_32 (by decide) ⟨by omega, by omega⟩ ⟨by omega, by omega⟩ (fun h32 => ?_) (fun h32 => ?_)
            · omega
            · refine I_bipush dX11_send_35 (by decide) ?_
              exact I_ireturn dX11_send_37 rfl ⟨_, _, rfl, rfl, rfl, h, Wr.rf⟩
          · cases h19
    · rw [sendM_ok hq hfu]
      have h1 := h.leN (v := eLe e + 1) l5
      rw [show LE mX11_send [.ref 453, IV x, IV f, IV t] = [some (.ref 453), some (IV x), some (IV f), some (IV t), none] from rfl]
      refine T_aload_n dX11_send_0 rfl rfl ?_
      refine T_iload_n dX11_send_1 rfl ?_
      refine Q_callV dX11_send_2 kX11_isHouse lX11_177 (by assumption) rfl (p_R_isHouse h hx) rfl rfl (Nat.le_of_ble_eq_true rfl) (Nat.le_of_ble_eq_true rfl) (by decide) (by decide) ?_
      rw [b2p_t q0]
      refine I_if_eq (tgt := 22) dX11_send_5 (by decide) ⟨by omega, by omega⟩ (fun h5 => ?_) (fun h5 => ?_)
      · cases h5
      · refine T_iload_n dX11_send_8 rfl ?_
        refine Q_callS dX11_send_9 kX11_isAddress lX11_192 (p_R_isAddress hf) rfl rfl (Nat.le_of_ble_eq_true rfl) (Nat.le_of_ble_eq_true rfl) (by decide) (by decide) ?_
        rw [b2p_t q1]
        refine I_if_eq (tgt := 22) dX11_send_12 (by decide) ⟨by omega, by omega⟩ (fun h12 => ?_) (fun h12 => ?_)
        · cases h12
        · refine T_iload_n dX11_send_15 rfl ?_
          refine Q_callS dX11_send_16 kX11_isAddress lX11_192 (p_R_isAddress ht) rfl rfl (Nat.le_of_ble_eq_true rfl) (Nat.le_of_ble_eq_true rfl) (by decide) (by decide) ?_
          rw [b2p_t q2]
          refine I_if_ne (tgt := 24) dX11_send_19 (by decide) ⟨by omega, by omega⟩ (fun h19 => ?_) (fun h19 => ?_)
          · refine T_aload_n dX11_send_24 rfl rfl ?_
            refine P_getr dX11_send_25 fX11_7 (by assumption) rfl ?_
            refine I_iconst dX11_send_28 ?_
            refine P_iald dX11_send_29 (by assumption) ⟨by omega, by omega⟩ (by first | decide | omega) ?_
            rw [e4]
            refine I_bipush dX11_send_30 (by decide) ?_
            refine I_icmp_ne (tgt := 38) dX11_send_32 (by decide) ⟨by omega, by omega⟩ ⟨by omega, by omega⟩ (fun h32 => ?_) (fun h32 => ?_)
            · refine T_aload_n dX11_send_38 rfl rfl ?_
              refine P_getr dX11_send_39 fX11_7 (by assumption) rfl ?_
              refine I_iconst dX11_send_42 ?_
              refine P_iald dX11_send_43 (by assumption) ⟨by omega, by omega⟩ (by first | decide | omega) ?_
              rw [e3]
              refine T_istore dX11_send_44 (by decide) rfl ?_
              refine T_aload_n dX11_send_46 rfl rfl ?_
              refine P_getr dX11_send_47 fX11_7 (by assumption) rfl ?_
              refine I_iconst dX11_send_50 ?_
              refine T_dup2 dX11_send_51 rfl rfl ?_
              refine P_iald dX11_send_52 (by assumption) ⟨by omega, by omega⟩ (by first | decide | omega) ?_
              rw [e3]
              refine I_iconst dX11_send_53 ?_
              refine I_iadd dX11_send_54 ?_
              refine P_iast dX11_send_55 (by assumption) ⟨by omega, by omega⟩ (by first | decide | omega) ?_
              refine T_aload_n dX11_send_56 rfl rfl ?_
              refine T_iload_n dX11_send_57 rfl ?_
              refine T_iload dX11_send_58 rfl ?_
              refine T_iload_n dX11_send_60 rfl ?_
              refine T_iload_n dX11_send_61 rfl ?_
              refine I_iconst dX11_send_62 ?_
              refine I_iconst dX11_send_63 ?_
              refine R_callV dX11_send_64 kX11_comes lX11_214 (by assumption) rfl (p_R_comes h1 (by omega) hx l4 hf ht (by decide) l2 (by decide)) rfl rfl (Nat.le_of_ble_eq_true rfl) (Nat.le_of_ble_eq_true rfl) (by decide) (by decide) (fun r_ K_ S_ q_ => ?_)
              obtain ⟨rfl, hKe, hq2, hw1⟩ := q_
              have hKe := hKe.symm
              subst hKe
              refine T_aload_n dX11_send_67 rfl rfl ?_
              refine I_iconst dX11_send_68 ?_
              refine T_iload dX11_send_69 rfl ?_
              refine T_iload_n dX11_send_71 rfl ?_
              refine T_iload_n dX11_send_72 rfl ?_
              refine R_callV dX11_send_73 kX11_logs lX11_210 (by assumption) rfl (p_R_logs hq2 ⟨by omega, by omega⟩ l4 hx ht l1 l3) rfl rfl (Nat.le_of_ble_eq_true rfl) (Nat.le_of_ble_eq_true rfl) (by decide) (by decide) (fun r_ K_ S_ q_ => ?_)
              obtain ⟨rfl, hKe, hq3, hw2⟩ := q_
              have hKe := hKe.symm
              subst hKe
              refine T_iload dX11_send_76 rfl ?_
              exact I_ireturn dX11_send_78 rfl ⟨_, _, rfl, rfl, rfl, hq3, ((Wr.sA (Or.inl rfl)).tr hw1).tr hw2⟩
            · omega
          · cases h19
  · rw [sendM_bad hq]
    by_cases q0 : houseB pl x
    · by_cases q1 : addrB f
      · have q2 : ¬ addrB t := fun z => hq ⟨q0, q1, z⟩
        rw [show LE mX11_send [.ref 453, IV x, IV f, IV t] = [some (.ref 453), some (IV x), some (IV f), some (IV t), none] from rfl]
        refine T_aload_n dX11_send_0 rfl rfl ?_
        refine T_iload_n dX11_send_1 rfl ?_
        refine Q_callV dX11_send_2 kX11_isHouse lX11_177 (by assumption) rfl (p_R_isHouse h hx) rfl rfl (Nat.le_of_ble_eq_true rfl) (Nat.le_of_ble_eq_true rfl) (by decide) (by decide) ?_
        rw [b2p_t q0]
        refine I_if_eq (tgt := 22) dX11_send_5 (by decide) ⟨by omega, by omega⟩ (fun h5 => ?_) (fun h5 => ?_)
        · cases h5
        · refine T_iload_n dX11_send_8 rfl ?_
          refine Q_callS dX11_send_9 kX11_isAddress lX11_192 (p_R_isAddress hf) rfl rfl (Nat.le_of_ble_eq_true rfl) (Nat.le_of_ble_eq_true rfl) (by decide) (by decide) ?_
          rw [b2p_t q1]
          refine I_if_eq (tgt := 22) dX11_send_12 (by decide) ⟨by omega, by omega⟩ (fun h12 => ?_) (fun h12 => ?_)
          · cases h12
          · refine T_iload_n dX11_send_15 rfl ?_
            refine Q_callS dX11_send_16 kX11_isAddress lX11_192 (p_R_isAddress ht) rfl rfl (Nat.le_of_ble_eq_true rfl) (Nat.le_of_ble_eq_true rfl) (by decide) (by decide) ?_
            rw [b2p_f q2]
            refine I_if_ne (tgt := 24) dX11_send_19 (by decide) ⟨by omega, by omega⟩ (fun h19 => ?_) (fun h19 => ?_)
            · exact absurd rfl h19
            · refine I_iconst dX11_send_22 ?_
              exact I_ireturn dX11_send_23 rfl ⟨_, _, rfl, rfl, rfl, h, Wr.rf⟩
      · rw [show LE mX11_send [.ref 453, IV x, IV f, IV t] = [some (.ref 453), some (IV x), some (IV f), some (IV t), none] from rfl]
        refine T_aload_n dX11_send_0 rfl rfl ?_
        refine T_iload_n dX11_send_1 rfl ?_
        refine Q_callV dX11_send_2 kX11_isHouse lX11_177 (by assumption) rfl (p_R_isHouse h hx) rfl rfl (Nat.le_of_ble_eq_true rfl) (Nat.le_of_ble_eq_true rfl) (by decide) (by decide) ?_
        rw [b2p_t q0]
        refine I_if_eq (tgt := 22) dX11_send_5 (by decide) ⟨by omega, by omega⟩ (fun h5 => ?_) (fun h5 => ?_)
        · cases h5
        · refine T_iload_n dX11_send_8 rfl ?_
          refine Q_callS dX11_send_9 kX11_isAddress lX11_192 (p_R_isAddress hf) rfl rfl (Nat.le_of_ble_eq_true rfl) (Nat.le_of_ble_eq_true rfl) (by decide) (by decide) ?_
          rw [b2p_f q1]
          refine I_if_eq (tgt := 22) dX11_send_12 (by decide) ⟨by omega, by omega⟩ (fun h12 => ?_) (fun h12 => ?_)
          · refine I_iconst dX11_send_22 ?_
            exact I_ireturn dX11_send_23 rfl ⟨_, _, rfl, rfl, rfl, h, Wr.rf⟩
          · exact absurd rfl h12
    · rw [show LE mX11_send [.ref 453, IV x, IV f, IV t] = [some (.ref 453), some (IV x), some (IV f), some (IV t), none] from rfl]
      refine T_aload_n dX11_send_0 rfl rfl ?_
      refine T_iload_n dX11_send_1 rfl ?_
      refine Q_callV dX11_send_2 kX11_isHouse lX11_177 (by assumption) rfl (p_R_isHouse h hx) rfl rfl (Nat.le_of_ble_eq_true rfl) (Nat.le_of_ble_eq_true rfl) (by decide) (by decide) ?_
      rw [b2p_f q0]
      refine I_if_eq (tgt := 22) dX11_send_5 (by decide) ⟨by omega, by omega⟩ (fun h5 => ?_) (fun h5 => ?_)
      · refine I_iconst dX11_send_22 ?_
        exact I_ireturn dX11_send_23 rfl ⟨_, _, rfl, rfl, rfl, h, Wr.rf⟩
      · exact absurd rfl h5
theorem sendM_mk {pl : PL} {y : RND} {x f t : Int} (h : ∀ r ∈ y.2, MkOk pl r) : ∀ r ∈ (sendM pl y x f t).2.2, MkOk pl r := by
  by_cases hq : letB pl x f t
  · by_cases hfu : 60 ≤ (y.2.length : Int)
    · rw [sendM_full hq hfu]; exact h
    · rw [sendM_ok hq hfu]
      intro r hr
      rcases List.mem_append.mp hr with z | z
      · exact h r z
      · rw [List.mem_singleton.mp z]
        exact MkOk.z rfl
  · rw [sendM_bad hq]; exact h
theorem p_R_send {S : SV} {M : MS} {x f t : Int} (h : RR K S M) (hp : PU M N) (hx : R32 x) (hf : R32 f) (ht : R32 t) : P G 2 0 0 mX11_send 0 (LE mX11_send [.ref 453, IV x, IV f, IV t]) [] K S (RQ K S (sendQ M x f t).1 (sendQ M x f t).2) := by
  refine P.weaken (p_R_sends h.1 hp.1.1 hx hf ht) (fun r' K' S' q => ?_)
  obtain ⟨q1, q2, q3, q4⟩ := q
  exact ⟨q1, q2, h.now (x := (sendM (mPl M) (mNw M) x f t).2) q4.o q3 (sendM_mk h.2.2.2.1), q4.o.outs⟩
end RG3
