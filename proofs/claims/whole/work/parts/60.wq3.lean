/-! the class: item, asks, stranger, log, count, set, send, tick, run -/
theorem foundV_n {S : SV} {o : Nat} {z : Int} (h : z = -4) : foundV S o z = .null := if_pos h
theorem foundV_r {S : SV} {o : Nat} {z : Int} (h : z ≠ -4) : foundV S o z = .ref (qa S o z) := if_neg h
theorem nthF_b (p : Int → Prop) : ∀ (m : Nat) (i k : Int), nthF p m i k = -4 ∨ (i ≤ nthF p m i k ∧ nthF p m i k < i + m ∧ p (nthF p m i k))
  | 0, i, k => Or.inl rfl
  | m + 1, i, k => by
    by_cases h : p i
    · rw [nthF_t h]
      by_cases hk : k = 0
      · rw [if_pos hk]
        exact Or.inr ⟨by omega, by omega, h⟩
      · rw [if_neg hk]
        rcases nthF_b p m (i + 1) (k - 1) with z | ⟨z1, z2, z3⟩
        · exact Or.inl z
        · exact Or.inr ⟨by omega, by omega, z3⟩
    · rw [nthF_f h]
      rcases nthF_b p m (i + 1) k with z | ⟨z1, z2, z3⟩
      · exact Or.inl z
      · exact Or.inr ⟨by omega, by omega, z3⟩
theorem itemA_c {r r' : Row} {w : Int} (h : ∀ k, k < 8 → r k = r' k) (hw : 0 ≤ w ∧ w ≤ 6) : itemA r w = itemA r' w := by
  unfold itemA
  rw [h 7 (by omega), h (w.toNat + 1) (by omega)]
noncomputable def setM (M : MS) (h up : Int) : Int × MS := @ite _ (houseB (mPl M) h ∧ 0 ≤ up ∧ up ≤ 1) (Classical.propDecidable _) (eUp (mE M) h, mNwS M (eUpS (mE M) (fset (eUp (mE M)) h up), mIt M)) (-1, M)
noncomputable def sendQ (M : MS) (h f t : Int) : Int × MS := ((sendM (mPl M) (mNw M) h f t).1, mNwS M (sendM (mPl M) (mNw M) h f t).2)
noncomputable def ticksM (p : PL) : Nat → RND → RND
  | 0, x => x
  | m + 1, x => ticksM p m (tickM p x)
noncomputable def tickQ (M : MS) (n : Int) : Int × MS := if 1 ≤ n ∧ n ≤ 20 then (eTy (ticksM (mPl M) n.toNat (mNw M)).1 2 - eTy (mE M) 2, mNwS M (ticksM (mPl M) n.toNat (mNw M))) else (-1, M)
noncomputable def runL (p : PL) : Nat → Int → RND → Int × RND
  | 0, k, x => (k, x)
  | m + 1, k, x => if x.2.length = 0 then (k, x) else runL p m (k + 1) (tickM p x)
noncomputable def runQ (M : MS) (n : Int) : Int × MS := if 1 ≤ n ∧ n ≤ 60 then ((runL (mPl M) n.toNat 0 (mNw M)).1, mNwS M (runL (mPl M) n.toNat 0 (mNw M)).2) else (-1, M)
section WQ3
variable {G : GT} {K : List SH} {S : SV} {M : MS} {N : Int}
theorem p_W_item {x i w : Int} (h : WR K S M N) (hx : R32 x) (hi : R32 i) (hw : R32 w) : P G 2 0 0 mX10_item 0 (LE mX10_item [.ref 0, IV x, IV i, IV w]) [] K S (WQ K S (itemQ M x i w) M N) := by
  have w0 := h.1.1
  obtain ⟨ad, hA, hR⟩ := h.rnd
  have hr := h.allR
  have k3 := h.1.2.2.2.1
  have k3' := k3.1
  have km := k3.2.2.1
  have km' := km.1
  have h60 : (mIt M).length ≤ 60 := h.2.2.2.1.2.2.2
  have hu : fI S (23 + 2) 1 = (mIt M).length := hR.2.2.1.1
  by_cases hb : houseB (mPl M) x ∧ 0 ≤ i ∧ 0 ≤ w ∧ w ≤ 6
  · have hv : itemQ M x i w = if nthF (inM (mIt M) x) (mIt M).length 0 i = -4 then -4 else itemA ((mIt M).getD (nthF (inM (mIt M) x) (mIt M).length 0 i).toNat z0R) w := if_pos hb
    rw [hv]
    obtain ⟨hb0, hb1, hb2, hb3⟩ := hb
    have hz : ∀ t : Int, 0 ≤ t → t < 0 + ((mIt M).length : Int) → (inH S (23 + 2) x t ↔ inM (mIt M) x t) := fun t u v => by
      unfold inH inM
      rw [hR.2.2.1.qaE u (by omega)]
      have e := hR.2.2.1.2.2.2 t.toNat _ (getD_at (by omega)) 0 (by omega)
      rw [Int.toNat_of_nonneg u] at e
      rw [e]
    have hn : nthF (inH S (23 + 2) x) (fI S (23 + 2) 1).toNat 0 i = nthF (inM (mIt M) x) (mIt M).length 0 i := by
      rw [hu]
      exact nthF_congr _ _ _ hz
    have hbd := nthF_b (inM (mIt M) x) (mIt M).length 0 i
    generalize hg : nthF (inM (mIt M) x) (mIt M).length 0 i = z at hn hbd ⊢
    by_cases hz4 : z = -4
    · rw [if_pos hz4]
      rw [show LE mX10_item [.ref 0, IV x, IV i, IV w] = [some (.ref 0), some (IV x), some (IV i), some (IV w), none] from rfl]
      refine T_aload_n dX10_item_0 rfl rfl ?_
      refine T_iload_n dX10_item_1 rfl ?_
      refine Q_callV dX10_item_2 kX10_isHouse lX10_124 (by assumption) rfl (p_isHouse h hx) rfl rfl (Nat.le_of_ble_eq_true rfl) (Nat.le_of_ble_eq_true rfl) (by decide) (by decide) ?_
      rw [b2p_t hb0]
      refine I_if_eq (tgt := 22) dX10_item_5 (by decide) ⟨by omega, by omega⟩ (fun h5 => ?_) (fun h5 => ?_)
      · cases h5
      · refine T_iload_n dX10_item_8 rfl ?_
        refine I_if_lt (tgt := 22) dX10_item_9 (by decide) hi (fun h9 => ?_) (fun h9 => ?_)
        · omega
        · refine T_iload_n dX10_item_12 rfl ?_
          refine I_if_lt (tgt := 22) dX10_item_13 (by decide) hw (fun h13 => ?_) (fun h13 => ?_)
          · omega
          · refine T_iload_n dX10_item_16 rfl ?_
            refine I_bipush dX10_item_17 (by decide) ?_
            refine I_icmp_le (tgt := 24) dX10_item_19 (by decide) hw ⟨by omega, by omega⟩ (fun h19 => ?_) (fun h19 => ?_)
            · refine T_aload_n dX10_item_24 rfl rfl ?_
              refine P_getr dX10_item_25 fX10_26 (by assumption) rfl ?_
              refine P_getr dX10_item_28 fX10_103 (by assumption) rfl ?_
              refine T_iload_n dX10_item_31 rfl ?_
              refine T_iload_n dX10_item_32 rfl ?_
              refine Q_callV dX10_item_33 kX4_find lX10_202 (by assumption) rfl (p_Mail_find km (hR.2.2.1.rows hA) ⟨by omega, by omega⟩ (fun i u v => hr.1 _ _) hx ⟨hb1, by omega⟩) rfl rfl (Nat.le_of_ble_eq_true rfl) (Nat.le_of_ble_eq_true rfl) (by decide) (by decide) ?_
              rw [hn, foundV_n hz4]
              refine T_astoreN dX10_item_36 (by decide) rfl ?_
              refine T_aload dX10_item_38 rfl rfl ?_
              refine T_ifnonnullN dX10_item_40 ?_
              refine I_bipush dX10_item_43 (by decide) ?_
              refine T_goto (tgt := 54) dX10_item_45 (by decide) ?_
              exact I_ireturn dX10_item_54 rfl ⟨_, _, rfl, WQ.here h⟩
            · omega
    · rw [if_neg hz4]
      obtain ⟨z1, z2, -⟩ := hbd.resolve_left hz4
      have e0 := hR.2.2.1.qaE z1 (by omega)
      have hrow := fun k (hk : k < 8) => hR.2.2.1.2.2.2 z.toNat _ (getD_at (by omega)) k hk
      rw [Int.toNat_of_nonneg z1] at hrow
      have had := hA.1 z z1 (by omega)
      have kq : K[ad z]? = some (.inr (3, [none, none, none, none, none, none, none, none])) := km.2.2 _ (by omega) (by omega)
      rw [show LE mX10_item [.ref 0, IV x, IV i, IV w] = [some (.ref 0), some (IV x), some (IV i), some (IV w), none] from rfl]
      refine T_aload_n dX10_item_0 rfl rfl ?_
      refine T_iload_n dX10_item_1 rfl ?_
      refine Q_callV dX10_item_2 kX10_isHouse lX10_124 (by assumption) rfl (p_isHouse h hx) rfl rfl (Nat.le_of_ble_eq_true rfl) (Nat.le_of_ble_eq_true rfl) (by decide) (by decide) ?_
      rw [b2p_t hb0]
      refine I_if_eq (tgt := 22) dX10_item_5 (by decide) ⟨by omega, by omega⟩ (fun h5 => ?_) (fun h5 => ?_)
      · cases h5
      · refine T_iload_n dX10_item_8 rfl ?_
        refine I_if_lt (tgt := 22) dX10_item_9 (by decide) hi (fun h9 => ?_) (fun h9 => ?_)
        · omega
        · refine T_iload_n dX10_item_12 rfl ?_
          refine I_if_lt (tgt := 22) dX10_item_13 (by decide) hw (fun h13 => ?_) (fun h13 => ?_)
          · omega
          · refine T_iload_n dX10_item_16 rfl ?_
            refine I_bipush dX10_item_17 (by decide) ?_
            refine I_icmp_le (tgt := 24) dX10_item_19 (by decide) hw ⟨by omega, by omega⟩ (fun h19 => ?_) (fun h19 => ?_)
            · refine T_aload_n dX10_item_24 rfl rfl ?_
              refine P_getr dX10_item_25 fX10_26 (by assumption) rfl ?_
              refine P_getr dX10_item_28 fX10_103 (by assumption) rfl ?_
              refine T_iload_n dX10_item_31 rfl ?_
              refine T_iload_n dX10_item_32 rfl ?_
              refine Q_callV dX10_item_33 kX4_find lX10_202 (by assumption) rfl (p_Mail_find km (hR.2.2.1.rows hA) ⟨by omega, by omega⟩ (fun i u v => hr.1 _ _) hx ⟨hb1, by omega⟩) rfl rfl (Nat.le_of_ble_eq_true rfl) (Nat.le_of_ble_eq_true rfl) (by decide) (by decide) ?_
              rw [hn, foundV_r hz4, e0]
              refine T_astore dX10_item_36 (by decide) rfl ?_
              refine T_aload dX10_item_38 rfl rfl ?_
              refine T_ifnonnull (tgt := 48) dX10_item_40 (by decide) ?_
              refine T_aload dX10_item_48 rfl rfl ?_
              refine T_iload_n dX10_item_50 rfl ?_
              refine Q_callV dX10_item_51 kX3_answer lX10_206 (by assumption) rfl (p_Item_answer kq ⟨hb2, hb3⟩) rfl rfl (Nat.le_of_ble_eq_true rfl) (Nat.le_of_ble_eq_true rfl) (by decide) (by decide) ?_
              exact I_ireturn dX10_item_54 rfl ⟨_, _, rfl, WQ.eq h (itemA_c hrow ⟨hb2, hb3⟩)⟩
            · omega
  · have hv : itemQ M x i w = -1 := if_neg hb
    rw [hv]
    by_cases hb0 : houseB (mPl M) x
    · rw [show LE mX10_item [.ref 0, IV x, IV i, IV w] = [some (.ref 0), some (IV x), some (IV i), some (IV w), none] from rfl]
      refine T_aload_n dX10_item_0 rfl rfl ?_
      refine T_iload_n dX10_item_1 rfl ?_
      refine Q_callV dX10_item_2 kX10_isHouse lX10_124 (by assumption) rfl (p_isHouse h hx) rfl rfl (Nat.le_of_ble_eq_true rfl) (Nat.le_of_ble_eq_true rfl) (by decide) (by decide) ?_
      rw [b2p_t hb0]
      refine I_if_eq (tgt := 22) dX10_item_5 (by decide) ⟨by omega, by omega⟩ (fun h5 => ?_) (fun h5 => ?_)
      · cases h5
      · refine T_iload_n dX10_item_8 rfl ?_
        refine I_if_lt (tgt := 22) dX10_item_9 (by decide) hi (fun h9 => ?_) (fun h9 => ?_)
        · refine I_iconst dX10_item_22 ?_
          exact I_ireturn dX10_item_23 rfl ⟨_, _, rfl, WQ.here h⟩
        · refine T_iload_n dX10_item_12 rfl ?_
          refine I_if_lt (tgt := 22) dX10_item_13 (by decide) hw (fun h13 => ?_) (fun h13 => ?_)
          · refine I_iconst dX10_item_22 ?_
            exact I_ireturn dX10_item_23 rfl ⟨_, _, rfl, WQ.here h⟩
          · refine T_iload_n dX10_item_16 rfl ?_
            refine I_bipush dX10_item_17 (by decide) ?_
            refine I_icmp_le (tgt := 24) dX10_item_19 (by decide) hw ⟨by omega, by omega⟩ (fun h19 => ?_) (fun h19 => ?_)
            · exact absurd ⟨hb0, by omega, by omega, by omega⟩ hb
            · refine I_iconst dX10_item_22 ?_
              exact I_ireturn dX10_item_23 rfl ⟨_, _, rfl, WQ.here h⟩
    · rw [show LE mX10_item [.ref 0, IV x, IV i, IV w] = [some (.ref 0), some (IV x), some (IV i), some (IV w), none] from rfl]
      refine T_aload_n dX10_item_0 rfl rfl ?_
      refine T_iload_n dX10_item_1 rfl ?_
      refine Q_callV dX10_item_2 kX10_isHouse lX10_124 (by assumption) rfl (p_isHouse h hx) rfl rfl (Nat.le_of_ble_eq_true rfl) (Nat.le_of_ble_eq_true rfl) (by decide) (by decide) ?_
      rw [b2p_f hb0]
      refine I_if_eq (tgt := 22) dX10_item_5 (by decide) ⟨by omega, by omega⟩ (fun h5 => ?_) (fun h5 => ?_)
      · refine I_iconst dX10_item_22 ?_
        exact I_ireturn dX10_item_23 rfl ⟨_, _, rfl, WQ.here h⟩
      · exact absurd rfl h5
theorem p_W_asks {x d i : Int} (h : WR K S M N) (hx : R32 x) (hd : R32 d) (hi : R32 i) : P G 2 0 0 mX10_asks 0 (LE mX10_asks [.ref 0, IV x, IV d, IV i]) [] K S (WQ K S (asksA M x d i) M N) := by
  have w0 := h.1.1
  have hr := h.allR
  have k2 := h.1.2.2.1
  have k2' := k2.1
  have hP := h.2.2.1.1
  have hPo := h.2.2.1.2
  have hF := h.pf
  by_cases hb : houseB (mPl M) x ∧ domB (mPl M) d ∧ 0 ≤ i
  · have hv : asksA M x d i = ((asksM (mPl M) x d)[i.toNat]?).getD (-4) := if_pos hb
    rw [hv]
    obtain ⟨hb0, hb1, hb2⟩ := hb
    have hb1' := hb1
    obtain ⟨hd0, hd1⟩ := hb1'
    have hD4 := hPo.2.1
    rw [show LE mX10_asks [.ref 0, IV x, IV d, IV i] = [some (.ref 0), some (IV x), some (IV d), some (IV i)] from rfl]
    refine T_aload_n dX10_asks_0 rfl rfl ?_
    refine T_iload_n dX10_asks_1 rfl ?_
    refine Q_callV dX10_asks_2 kX10_isHouse lX10_124 (by assumption) rfl (p_isHouse h hx) rfl rfl (Nat.le_of_ble_eq_true rfl) (Nat.le_of_ble_eq_true rfl) (by decide) (by decide) ?_
    rw [b2p_t hb0]
    refine I_if_eq (tgt := 20) dX10_asks_5 (by decide) ⟨by omega, by omega⟩ (fun h5 => ?_) (fun h5 => ?_)
    · cases h5
    · refine T_aload_n dX10_asks_8 rfl rfl ?_
      refine T_iload_n dX10_asks_9 rfl ?_
      refine Q_callV dX10_asks_10 kX10_isDomain lX10_154 (by assumption) rfl (p_isDomain h hd) rfl rfl (Nat.le_of_ble_eq_true rfl) (Nat.le_of_ble_eq_true rfl) (by decide) (by decide) ?_
      rw [b2p_t hb1]
      refine I_if_eq (tgt := 20) dX10_asks_13 (by decide) ⟨by omega, by omega⟩ (fun h13 => ?_) (fun h13 => ?_)
      · cases h13
      · refine T_iload_n dX10_asks_16 rfl ?_
        refine I_if_ge (tgt := 22) dX10_asks_17 (by decide) hi (fun h17 => ?_) (fun h17 => ?_)
        · refine T_aload_n dX10_asks_22 rfl rfl ?_
          refine P_getr dX10_asks_23 fX10_19 (by assumption) rfl ?_
          refine T_iload_n dX10_asks_26 rfl ?_
          refine T_iload_n dX10_asks_27 rfl ?_
          refine T_iload_n dX10_asks_28 rfl ?_
          refine Q_callV dX10_asks_29 kX5_asked lX10_210 (by assumption) rfl (p_Plan_asked k2 hr hF.2.1 ⟨hd0, by omega⟩ ⟨hb2, by omega⟩ hx) rfl rfl (Nat.le_of_ble_eq_true rfl) (Nat.le_of_ble_eq_true rfl) (by decide) (by decide) ?_
          exact I_ireturn dX10_asks_32 rfl ⟨_, _, rfl, WQ.eq h (hP.asked hPo ⟨hd0, by omega⟩ hb2)⟩
        · omega
  · have hv : asksA M x d i = -1 := if_neg hb
    rw [hv]
    by_cases hb0 : houseB (mPl M) x
    · by_cases hb1 : domB (mPl M) d
      · rw [show LE mX10_asks [.ref 0, IV x, IV d, IV i] = [some (.ref 0), some (IV x), some (IV d), some (IV i)] from rfl]
        refine T_aload_n dX10_asks_0 rfl rfl ?_
        refine T_iload_n dX10_asks_1 rfl ?_
        refine Q_callV dX10_asks_2 kX10_isHouse lX10_124 (by assumption) rfl (p_isHouse h hx) rfl rfl (Nat.le_of_ble_eq_true rfl) (Nat.le_of_ble_eq_true rfl) (by decide) (by decide) ?_
        rw [b2p_t hb0]
        refine I_if_eq (tgt := 20) dX10_asks_5 (by decide) ⟨by omega, by omega⟩ (fun h5 => ?_) (fun h5 => ?_)
        · cases h5
        · refine T_aload_n dX10_asks_8 rfl rfl ?_
          refine T_iload_n dX10_asks_9 rfl ?_
          refine Q_callV dX10_asks_10 kX10_isDomain lX10_154 (by assumption) rfl (p_isDomain h hd) rfl rfl (Nat.le_of_ble_eq_true rfl) (Nat.le_of_ble_eq_true rfl) (by decide) (by decide) ?_
          rw [b2p_t hb1]
          refine I_if_eq (tgt := 20) dX10_asks_13 (by decide) ⟨by omega, by omega⟩ (fun h13 => ?_) (fun h13 => ?_)
          · cases h13
          · refine T_iload_n dX10_asks_16 rfl ?_
            refine I_if_ge (tgt := 22) dX10_asks_17 (by decide) hi (fun h17 => ?_) (fun h17 => ?_)
            · exact absurd ⟨hb0, hb1, by omega⟩ hb
            · refine I_iconst dX10_asks_20 ?_
              exact I_ireturn dX10_asks_21 rfl ⟨_, _, rfl, WQ.here h⟩
      · rw [show LE mX10_asks [.ref 0, IV x, IV d, IV i] = [some (.ref 0), some (IV x), some (IV d), some (IV i)] from rfl]
        refine T_aload_n dX10_asks_0 rfl rfl ?_
        refine T_iload_n dX10_asks_1 rfl ?_
        refine Q_callV dX10_asks_2 kX10_isHouse lX10_124 (by assumption) rfl (p_isHouse h hx) rfl rfl (Nat.le_of_ble_eq_true rfl) (Nat.le_of_ble_eq_true rfl) (by decide) (by decide) ?_
        rw [b2p_t hb0]
        refine I_if_eq (tgt := 20) dX10_asks_5 (by decide) ⟨by omega, by omega⟩ (fun h5 => ?_) (fun h5 => ?_)
        · cases h5
        · refine T_aload_n dX10_asks_8 rfl rfl ?_
          refine T_iload_n dX10_asks_9 rfl ?_
          refine Q_callV dX10_asks_10 kX10_isDomain lX10_154 (by assumption) rfl (p_isDomain h hd) rfl rfl (Nat.le_of_ble_eq_true rfl) (Nat.le_of_ble_eq_true rfl) (by decide) (by decide) ?_
          rw [b2p_f hb1]
          refine I_if_eq (tgt := 20) dX10_asks_13 (by decide) ⟨by omega, by omega⟩ (fun h13 => ?_) (fun h13 => ?_)
          · refine I_iconst dX10_asks_20 ?_
            exact I_ireturn dX10_asks_21 rfl ⟨_, _, rfl, WQ.here h⟩
          · exact absurd rfl h13
    · rw [show LE mX10_asks [.ref 0, IV x, IV d, IV i] = [some (.ref 0), some (IV x), some (IV d), some (IV i)] from rfl]
      refine T_aload_n dX10_asks_0 rfl rfl ?_
      refine T_iload_n dX10_asks_1 rfl ?_
      refine Q_callV dX10_asks_2 kX10_isHouse lX10_124 (by assumption) rfl (p_isHouse h hx) rfl rfl (Nat.le_of_ble_eq_true rfl) (Nat.le_of_ble_eq_true rfl) (by decide) (by decide) ?_
      rw [b2p_f hb0]
      refine I_if_eq (tgt := 20) dX10_asks_5 (by decide) ⟨by omega, by omega⟩ (fun h5 => ?_) (fun h5 => ?_)
      · refine I_iconst dX10_asks_20 ?_
        exact I_ireturn dX10_asks_21 rfl ⟨_, _, rfl, WQ.here h⟩
      · exact absurd rfl h5
theorem p_W_stranger {x i w : Int} (h : WR K S M N) (hx : R32 x) (hi : R32 i) (hw : R32 w) : P G 1 0 0 mX10_stranger 0 (LE mX10_stranger [.ref 0, IV x, IV i, IV w]) [] K S (WQ K S (strgA M x i w) M N) := by
  have w0 := h.1.1
  obtain ⟨ad, hA, hR⟩ := h.rnd
  have hr := h.allR
  have k3 := h.1.2.2.2.1
  have k3' := k3.1
  have ks := k3.2.2.2.2.2.1
  have hPo := h.2.2.1.2
  by_cases hb : houseB (mPl M) x ∧ 0 ≤ i ∧ 0 ≤ w ∧ w < 5
  · have hv : strgA M x i w = if i < (eSg (mE M) x).length then ((eSg (mE M) x).getD i.toNat z0R) w.toNat else -4 := if_pos hb
    rw [hv]
    obtain ⟨hb0, hb1, hb2, hb3⟩ := hb
    have hb0' := hb0
    obtain ⟨x0, x1⟩ := hb0'
    have hb5 := hPo.1
    have ksg := k3.sg (x := x) x0 (by omega)
    have ksg' := ksg.1
    have ksg1 := ksg.2
    have hst := hR.2.2.2.2.2.2 x x0 (by omega)
    have hrs := hR.2.2.2.2.2.1 x x0 (by omega)
    have hsl := hst.2.1
    have hsf := hst.1
    by_cases hl : i < (eSg (mE M) x).length
    · rw [if_pos hl]
      have e := hst.2.2 i.toNat _ (getD_at (by omega)) w.toNat (by omega)
      rw [Int.toNat_of_nonneg hb1, Int.toNat_of_nonneg hb2] at e
      rw [show LE mX10_stranger [.ref 0, IV x, IV i, IV w] = [some (.ref 0), some (IV x), some (IV i), some (IV w), none] from rfl]
      refine T_aload_n dX10_stranger_0 rfl rfl ?_
      refine T_iload_n dX10_stranger_1 rfl ?_
      refine Q_callV dX10_stranger_2 kX10_isHouse lX10_124 (by assumption) rfl (p_isHouse h hx) rfl rfl (Nat.le_of_ble_eq_true rfl) (Nat.le_of_ble_eq_true rfl) (by decide) (by decide) ?_
      rw [b2p_t hb0]
      refine I_if_eq (tgt := 21) dX10_stranger_5 (by decide) ⟨by omega, by omega⟩ (fun h5 => ?_) (fun h5 => ?_)
      · cases h5
      · refine T_iload_n dX10_stranger_8 rfl ?_
        refine I_if_lt (tgt := 21) dX10_stranger_9 (by decide) hi (fun h9 => ?_) (fun h9 => ?_)
        · omega
        · refine T_iload_n dX10_stranger_12 rfl ?_
          refine I_if_lt (tgt := 21) dX10_stranger_13 (by decide) hw (fun h13 => ?_) (fun h13 => ?_)
          · omega
          · refine T_iload_n dX10_stranger_16 rfl ?_
            refine I_iconst dX10_stranger_17 ?_
            refine I_icmp_lt (tgt := 23) dX10_stranger_18 (by decide) hw ⟨by omega, by omega⟩ (fun h18 => ?_) (fun h18 => ?_)
            · refine T_aload_n dX10_stranger_23 rfl rfl ?_
              refine P_getr dX10_stranger_24 fX10_26 (by assumption) rfl ?_
              refine P_getr dX10_stranger_27 fX10_138 (by assumption) rfl ?_
              refine T_iload_n dX10_stranger_30 rfl ?_
              refine P_aald dX10_stranger_31 (by assumption) (by decide) ⟨by omega, by omega⟩ (by decide) (by assumption) ?_
              refine T_astore dX10_stranger_32 (by decide) rfl ?_
              refine T_iload_n dX10_stranger_34 rfl ?_
              refine T_aload dX10_stranger_35 rfl rfl ?_
              refine P_geti dX10_stranger_37 fX10_142 (by assumption) rfl ?_
              rw [hsf]
              refine I_icmp_ge (tgt := 57) dX10_stranger_40 (by decide) hi ⟨by omega, by omega⟩ (fun h40 => ?_) (fun h40 => ?_)
              · omega
              · refine T_aload dX10_stranger_43 rfl rfl ?_
                refine P_getr dX10_stranger_45 fX10_213 (by assumption) rfl ?_
                refine T_iload_n dX10_stranger_48 rfl ?_
                refine I_iconst dX10_stranger_49 ?_
                refine I_imul dX10_stranger_50 ?_
                refine T_iload_n dX10_stranger_51 rfl ?_
                refine I_iadd dX10_stranger_52 ?_
                refine P_iald dX10_stranger_53 (by assumption) ⟨by omega, by omega⟩ (by first | decide | omega) ?_
                refine T_goto (tgt := 59) dX10_stranger_54 (by decide) ?_
                exact I_ireturn dX10_stranger_59 rfl ⟨_, _, rfl, WQ.eq h e⟩
            · omega
    · rw [if_neg hl]
      rw [show LE mX10_stranger [.ref 0, IV x, IV i, IV w] = [some (.ref 0), some (IV x), some (IV i), some (IV w), none] from rfl]
      refine T_aload_n dX10_stranger_0 rfl rfl ?_
      refine T_iload_n dX10_stranger_1 rfl ?_
      refine Q_callV dX10_stranger_2 kX10_isHouse lX10_124 (by assumption) rfl (p_isHouse h hx) rfl rfl (Nat.le_of_ble_eq_true rfl) (Nat.le_of_ble_eq_true rfl) (by decide) (by decide) ?_
      rw [b2p_t hb0]
      refine I_if_eq (tgt := 21) dX10_stranger_5 (by decide) ⟨by omega, by omega⟩ (fun h5 => ?_) (fun h5 => ?_)
      · cases h5
      · refine T_iload_n dX10_stranger_8 rfl ?_
        refine I_if_lt (tgt := 21) dX10_stranger_9 (by decide) hi (fun h9 => ?_) (fun h9 => ?_)
        · omega
        · refine T_iload_n dX10_stranger_12 rfl ?_
          refine I_if_lt (tgt := 21) dX10_stranger_13 (by decide) hw (fun h13 => ?_) (fun h13 => ?_)
          · omega
          · refine T_iload_n dX10_stranger_16 rfl ?_
            refine I_iconst dX10_stranger_17 ?_
            refine I_icmp_lt (tgt := 23) dX10_stranger_18 (by decide) hw ⟨by omega, by omega⟩ (fun h18 => ?_) (fun h18 => ?_)
            · refine T_aload_n dX10_stranger_23 rfl rfl ?_
              refine P_getr dX10_stranger_24 fX10_26 (by assumption) rfl ?_
              refine P_getr dX10_stranger_27 fX10_138 (by assumption) rfl ?_
              refine T_iload_n dX10_stranger_30 rfl ?_
              refine P_aald dX10_stranger_31 (by assumption) (by decide) ⟨by omega, by omega⟩ (by decide) (by assumption) ?_
              refine T_astore dX10_stranger_32 (by decide) rfl ?_
              refine T_iload_n dX10_stranger_34 rfl ?_
              refine T_aload dX10_stranger_35 rfl rfl ?_
              refine P_geti dX10_stranger_37 fX10_142 (by assumption) rfl ?_
              rw [hsf]
              refine I_icmp_ge (tgt := 57) dX10_stranger_40 (by decide) hi ⟨by omega, by omega⟩ (fun h40 => ?_) (fun h40 => ?_)
              · refine I_bipush dX10_stranger_57 (by decide) ?_
                exact I_ireturn dX10_stranger_59 rfl ⟨_, _, rfl, WQ.here h⟩
              · omega
            · omega
  · have hv : strgA M x i w = -1 := if_neg hb
    rw [hv]
    by_cases hb0 : houseB (mPl M) x
    · rw [show LE mX10_stranger [.ref 0, IV x, IV i, IV w] = [some (.ref 0), some (IV x), some (IV i), some (IV w), none] from rfl]
      refine T_aload_n dX10_stranger_0 rfl rfl ?_
      refine T_iload_n dX10_stranger_1 rfl ?_
      refine Q_callV dX10_stranger_2 kX10_isHouse lX10_124 (by assumption) rfl (p_isHouse h hx) rfl rfl (Nat.le_of_ble_eq_true rfl) (Nat.le_of_ble_eq_true rfl) (by decide) (by decide) ?_
      rw [b2p_t hb0]
      refine I_if_eq (tgt := 21) dX10_stranger_5 (by decide) ⟨by omega, by omega⟩ (fun h5 => ?_) (fun h5 => ?_)
      · cases h5
      · refine T_iload_n dX10_stranger_8 rfl ?_
        refine I_if_lt (tgt := 21) dX10_stranger_9 (by decide) hi (fun h9 => ?_) (fun h9 => ?_)
        · refine I_iconst dX10_stranger_21 ?_
          exact I_ireturn dX10_stranger_22 rfl ⟨_, _, rfl, WQ.here h⟩
        · refine T_iload_n dX10_stranger_12 rfl ?_
          refine I_if_lt (tgt := 21) dX10_stranger_13 (by decide) hw (fun h13 => ?_) (fun h13 => ?_)
          · refine I_iconst dX10_stranger_21 ?_
            exact I_ireturn dX10_stranger_22 rfl ⟨_, _, rfl, WQ.here h⟩
          · refine T_iload_n dX10_stranger_16 rfl ?_
            refine I_iconst dX10_stranger_17 ?_
            refine I_icmp_lt (tgt := 23) dX10_stranger_18 (by decide) hw ⟨by omega, by omega⟩ (fun h18 => ?_) (fun h18 => ?_)
            · exact absurd ⟨hb0, by omega, by omega, by omega⟩ hb
            · refine I_iconst dX10_stranger_21 ?_
              exact I_ireturn dX10_stranger_22 rfl ⟨_, _, rfl, WQ.here h⟩
    · rw [show LE mX10_stranger [.ref 0, IV x, IV i, IV w] = [some (.ref 0), some (IV x), some (IV i), some (IV w), none] from rfl]
      refine T_aload_n dX10_stranger_0 rfl rfl ?_
      refine T_iload_n dX10_stranger_1 rfl ?_
      refine Q_callV dX10_stranger_2 kX10_isHouse lX10_124 (by assumption) rfl (p_isHouse h hx) rfl rfl (Nat.le_of_ble_eq_true rfl) (Nat.le_of_ble_eq_true rfl) (by decide) (by decide) ?_
      rw [b2p_f hb0]
      refine I_if_eq (tgt := 21) dX10_stranger_5 (by decide) ⟨by omega, by omega⟩ (fun h5 => ?_) (fun h5 => ?_)
      · refine I_iconst dX10_stranger_21 ?_
        exact I_ireturn dX10_stranger_22 rfl ⟨_, _, rfl, WQ.here h⟩
      · exact absurd rfl h5
theorem p_W_log {i w : Int} (h : WR K S M N) (hi : R32 i) (hw : R32 w) : P G 1 0 0 mX10_log 0 (LE mX10_log [.ref 0, IV i, IV w]) [] K S (WQ K S (logA M i w) M N) := by
  have w0 := h.1.1
  obtain ⟨ad, hA, hR⟩ := h.rnd
  have k3' := h.1.2.2.2.1.1
  have kb := h.1.2.2.2.1.2.2.2.2.1
  have kb' := kb.1
  obtain ⟨b1, b2, b3, b4, b5⟩ := hR.2.2.2.2.1
  by_cases hb : 0 ≤ i ∧ 0 ≤ w ∧ w < 5
  · have hv : logA M i w = if i < (eLg (mE M)).length then ((eLg (mE M)).getD i.toNat z0R) w.toNat else -4 := if_pos hb
    rw [hv]
    obtain ⟨hb1, hb2, hb3⟩ := hb
    by_cases hl : i < (eLg (mE M)).length
    · rw [if_pos hl]
      have e := b5 i.toNat _ (getD_at (by omega)) w.toNat (by omega)
      rw [Int.toNat_of_nonneg hb1, Int.toNat_of_nonneg hb2] at e
      rw [show LE mX10_log [.ref 0, IV i, IV w] = [some (.ref 0), some (IV i), some (IV w)] from rfl]
      refine T_iload_n dX10_log_0 rfl ?_
      refine I_if_lt (tgt := 13) dX10_log_1 (by decide) hi (fun h1 => ?_) (fun h1 => ?_)
      · omega
      · refine T_iload_n dX10_log_4 rfl ?_
        refine I_if_lt (tgt := 13) dX10_log_5 (by decide) hw (fun h5 => ?_) (fun h5 => ?_)
        · omega
        · refine T_iload_n dX10_log_8 rfl ?_
          refine I_iconst dX10_log_9 ?_
          refine I_icmp_lt (tgt := 15) dX10_log_10 (by decide) hw ⟨by omega, by omega⟩ (fun h10 => ?_) (fun h10 => ?_)
          · refine T_iload_n dX10_log_15 rfl ?_
            refine T_aload_n dX10_log_16 rfl rfl ?_
            refine P_getr dX10_log_17 fX10_26 (by assumption) rfl ?_
            refine P_getr dX10_log_20 fX10_115 (by assumption) rfl ?_
            refine P_geti dX10_log_23 fX10_216 (by assumption) rfl ?_
            rw [b2]
            refine I_icmp_ge (tgt := 44) dX10_log_26 (by decide) hi ⟨by omega, by omega⟩ (fun h26 => ?_) (fun h26 => ?_)
            · omega
            · refine T_aload_n dX10_log_29 rfl rfl ?_
              refine P_getr dX10_log_30 fX10_26 (by assumption) rfl ?_
              refine P_getr dX10_log_33 fX10_115 (by assumption) rfl ?_
              refine T_iload_n dX10_log_36 rfl ?_
              refine T_iload_n dX10_log_37 rfl ?_
              refine Q_callV dX10_log_38 kX0_answer lX10_219 (by assumption) rfl (p_Book_answer kb b4 ⟨hb1, by omega⟩ ⟨hb2, hb3⟩) rfl rfl (Nat.le_of_ble_eq_true rfl) (Nat.le_of_ble_eq_true rfl) (by decide) (by decide) ?_
              refine T_goto (tgt := 46) dX10_log_41 (by decide) ?_
              exact I_ireturn dX10_log_46 rfl ⟨_, _, rfl, WQ.eq h e⟩
          · omega
    · rw [if_neg hl]
      rw [show LE mX10_log [.ref 0, IV i, IV w] = [some (.ref 0), some (IV i), some (IV w)] from rfl]
      refine T_iload_n dX10_log_0 rfl ?_
      refine I_if_lt (tgt := 13) dX10_log_1 (by decide) hi (fun h1 => ?_) (fun h1 => ?_)
      · omega
      · refine T_iload_n dX10_log_4 rfl ?_
        refine I_if_lt (tgt := 13) dX10_log_5 (by decide) hw (fun h5 => ?_) (fun h5 => ?_)
        · omega
        · refine T_iload_n dX10_log_8 rfl ?_
          refine I_iconst dX10_log_9 ?_
          refine I_icmp_lt (tgt := 15) dX10_log_10 (by decide) hw ⟨by omega, by omega⟩ (fun h10 => ?_) (fun h10 => ?_)
          · refine T_iload_n dX10_log_15 rfl ?_
            refine T_aload_n dX10_log_16 rfl rfl ?_
            refine P_getr dX10_log_17 fX10_26 (by assumption) rfl ?_
            refine P_getr dX10_log_20 fX10_115 (by assumption) rfl ?_
            refine P_geti dX10_log_23 fX10_216 (by assumption) rfl ?_
            rw [b2]
            refine I_icmp_ge (tgt := 44) dX10_log_26 (by decide) hi ⟨by omega, by omega⟩ (fun h26 => ?_) (fun h26 => ?_)
            · refine I_bipush dX10_log_44 (by decide) ?_
              exact I_ireturn dX10_log_46 rfl ⟨_, _, rfl, WQ.here h⟩
            · omega
          · omega
  · have hv : logA M i w = -1 := if_neg hb
    rw [hv]
    rw [show LE mX10_log [.ref 0, IV i, IV w] = [some (.ref 0), some (IV i), some (IV w)] from rfl]
    refine T_iload_n dX10_log_0 rfl ?_
    refine I_if_lt (tgt := 13) dX10_log_1 (by decide) hi (fun h1 => ?_) (fun h1 => ?_)
    · refine I_iconst dX10_log_13 ?_
      exact I_ireturn dX10_log_14 rfl ⟨_, _, rfl, WQ.here h⟩
    · refine T_iload_n dX10_log_4 rfl ?_
      refine I_if_lt (tgt := 13) dX10_log_5 (by decide) hw (fun h5 => ?_) (fun h5 => ?_)
      · refine I_iconst dX10_log_13 ?_
        exact I_ireturn dX10_log_14 rfl ⟨_, _, rfl, WQ.here h⟩
      · refine T_iload_n dX10_log_8 rfl ?_
        refine I_iconst dX10_log_9 ?_
        refine I_icmp_lt (tgt := 15) dX10_log_10 (by decide) hw ⟨by omega, by omega⟩ (fun h10 => ?_) (fun h10 => ?_)
        · exact absurd ⟨by omega, by omega, by omega⟩ hb
        · refine I_iconst dX10_log_13 ?_
          exact I_ireturn dX10_log_14 rfl ⟨_, _, rfl, WQ.here h⟩
theorem keptV {k : Int} (h : WR K S M N) (hk : 0 ≤ k ∧ k < 2) : aI S 167 k = if (mIm M k).isSome then 1 else 0 := by
  obtain ⟨-, ad, -, h3⟩ := h.2.2.2.2.1 k hk.1 hk.2
  rcases h3 with ⟨z1, z2⟩ | ⟨x, z1, z2, -⟩
  · rw [z1, z2]; rfl
  · rw [z1, z2]; rfl
theorem p_W_count {w : Int} (h : WR K S M N) (hw : R32 w) : P G 0 0 0 mX10_count 0 (LE mX10_count [.ref 0, IV w]) [] K S (WQ K S (cntA M w) M N) := by
  obtain ⟨w0, w1, -, -, -, -, w6, w7, -, -⟩ := h.1
  have w1' := w1.1
  have e0 := keptV h (k := 0) ⟨by omega, by omega⟩
  have e1 := keptV h (k := 1) ⟨by omega, by omega⟩
  have en : fI S 1 1 = mN M := h.2.1.1.2.1
  by_cases ho : w < 0 ∨ 2 < w
  · have hv : cntA M w = -1 := by unfold cntA; rw [if_neg (by omega), if_neg (by omega), if_neg (by omega)]
    rw [hv]
    rw [show LE mX10_count [.ref 0, IV w] = [some (.ref 0), some (IV w)] from rfl]
    refine T_iload_n dX10_count_0 rfl ?_
    refine I_tblOut (tgt := 90) dX10_count_1 hw (by omega) (by decide) ?_
    refine I_iconst dX10_count_90 ?_
    exact I_ireturn dX10_count_91 rfl ⟨_, _, rfl, WQ.here h⟩
  · rcases (show w = 0 ∨ w = 1 ∨ w = 2 by omega) with rfl | rfl | rfl
    · have hv : cntA M 0 = (if (mIm M 0).isSome then 1 else 0) + (if (mIm M 1).isSome then 1 else 0) := if_pos rfl
      rw [hv]
      have q0 : (if (mIm M 0).isSome then (1 : Int) else 0) = 0 ∨ (if (mIm M 0).isSome then (1 : Int) else 0) = 1 := by split; exact Or.inr rfl; exact Or.inl rfl
      have q1 : (if (mIm M 1).isSome then (1 : Int) else 0) = 0 ∨ (if (mIm M 1).isSome then (1 : Int) else 0) = 1 := by split; exact Or.inr rfl; exact Or.inl rfl
      generalize (if (mIm M 0).isSome then (1 : Int) else 0) = k0 at e0 q0 ⊢
      generalize (if (mIm M 1).isSome then (1 : Int) else 0) = k1 at e1 q1 ⊢
      rw [show LE mX10_count [.ref 0, IV 0] = [some (.ref 0), some (IV 0)] from rfl]
      refine T_iload_n dX10_count_0 rfl ?_
      refine I_tblIn (tgt := 28) dX10_count_1 hw (by omega) (by omega) rfl (by decide) ?_
      refine T_aload_n dX10_count_28 rfl rfl ?_
      refine P_getr dX10_count_29 fX10_43 (by assumption) rfl ?_
      refine I_iconst dX10_count_32 ?_
      refine P_zald dX10_count_33 (by assumption) ⟨by omega, by omega⟩ (by first | decide | omega) ?_
      rw [e0]
      refine I_if_eq (tgt := 41) dX10_count_34 (by decide) ⟨by omega, by omega⟩ (fun h34 => ?_) (fun h34 => ?_)
      · refine I_iconst dX10_count_41 ?_
        refine T_aload_n dX10_count_42 rfl rfl ?_
        refine P_getr dX10_count_43 fX10_43 (by assumption) rfl ?_
        refine I_iconst dX10_count_46 ?_
        refine P_zald dX10_count_47 (by assumption) ⟨by omega, by omega⟩ (by first | decide | omega) ?_
        rw [e1]
        refine I_if_eq (tgt := 55) dX10_count_48 (by decide) ⟨by omega, by omega⟩ (fun h48 => ?_) (fun h48 => ?_)
        · refine I_iconst dX10_count_55 ?_
          refine I_iadd dX10_count_56 ?_
          exact I_ireturn dX10_count_57 rfl ⟨_, _, rfl, WQ.eq h (by omega)⟩
        · refine I_iconst dX10_count_51 ?_
          refine T_goto (tgt := 56) dX10_count_52 (by decide) ?_
          refine I_iadd dX10_count_56 ?_
          exact I_ireturn dX10_count_57 rfl ⟨_, _, rfl, WQ.eq h (by omega)⟩
      · refine I_iconst dX10_count_37 ?_
        refine T_goto (tgt := 42) dX10_count_38 (by decide) ?_
        refine T_aload_n dX10_count_42 rfl rfl ?_
        refine P_getr dX10_count_43 fX10_43 (by assumption) rfl ?_
        refine I_iconst dX10_count_46 ?_
        refine P_zald dX10_count_47 (by assumption) ⟨by omega, by omega⟩ (by first | decide | omega) ?_
        rw [e1]
        refine I_if_eq (tgt := 55) dX10_count_48 (by decide) ⟨by omega, by omega⟩ (fun h48 => ?_) (fun h48 => ?_)
        · refine I_iconst dX10_count_55 ?_
          refine I_iadd dX10_count_56 ?_
          exact I_ireturn dX10_count_57 rfl ⟨_, _, rfl, WQ.eq h (by omega)⟩
        · refine I_iconst dX10_count_51 ?_
          refine T_goto (tgt := 56) dX10_count_52 (by decide) ?_
          refine I_iadd dX10_count_56 ?_
          exact I_ireturn dX10_count_57 rfl ⟨_, _, rfl, WQ.eq h (by omega)⟩
    · have hv : cntA M 1 = mN M := by simp [cntA]
      rw [hv]
      rw [show LE mX10_count [.ref 0, IV 1] = [some (.ref 0), some (IV 1)] from rfl]
      refine T_iload_n dX10_count_0 rfl ?_
      refine I_tblIn (tgt := 58) dX10_count_1 hw (by omega) (by omega) rfl (by decide) ?_
      refine T_aload_n dX10_count_58 rfl rfl ?_
      refine P_getr dX10_count_59 fX10_10 (by assumption) rfl ?_
      refine P_geti dX10_count_62 fX10_53 (by assumption) rfl ?_
      exact I_ireturn dX10_count_65 rfl ⟨_, _, rfl, WQ.eq h en⟩
    · rcases h.2.2.2.2.2.1 0 (by omega) (by omega) with ⟨z1, z2⟩ | ⟨q, o, nb, ni, z1, z2, z3, z4, z5⟩
      · have hv : cntA M 2 = -4 := by simp [cntA, z1]
        rw [hv]
        rw [show LE mX10_count [.ref 0, IV 2] = [some (.ref 0), some (IV 2)] from rfl]
        refine T_iload_n dX10_count_0 rfl ?_
        refine I_tblIn (tgt := 66) dX10_count_1 hw (by omega) (by omega) rfl (by decide) ?_
        refine T_aload_n dX10_count_66 rfl rfl ?_
        refine P_getr dX10_count_67 fX10_49 (by assumption) rfl ?_
        refine I_iconst dX10_count_70 ?_
        refine P_aaldN dX10_count_71 (by assumption) (by decide) ⟨by omega, by omega⟩ (by decide) (by assumption) ?_
        refine T_ifnonnullN dX10_count_72 ?_
        refine I_bipush dX10_count_75 (by decide) ?_
        refine T_goto (tgt := 89) dX10_count_77 (by decide) ?_
        exact I_ireturn dX10_count_89 rfl ⟨_, _, rfl, WQ.here h⟩
      · have hv : cntA M 2 = q.2.1 := by simp [cntA, z1]
        rw [hv]
        have ks := z3.1
        rw [show LE mX10_count [.ref 0, IV 2] = [some (.ref 0), some (IV 2)] from rfl]
        refine T_iload_n dX10_count_0 rfl ?_
        refine I_tblIn (tgt := 66) dX10_count_1 hw (by omega) (by omega) rfl (by decide) ?_
        refine T_aload_n dX10_count_66 rfl rfl ?_
        refine P_getr dX10_count_67 fX10_49 (by assumption) rfl ?_
        refine I_iconst dX10_count_70 ?_
        refine P_aald dX10_count_71 (by assumption) (by decide) ⟨by omega, by omega⟩ (by decide) (by assumption) ?_
        refine T_ifnonnull (tgt := 80) dX10_count_72 (by decide) ?_
        refine T_aload_n dX10_count_80 rfl rfl ?_
        refine P_getr dX10_count_81 fX10_49 (by assumption) rfl ?_
        refine I_iconst dX10_count_84 ?_
        refine P_aald dX10_count_85 (by assumption) (by decide) ⟨by omega, by omega⟩ (by decide) (by assumption) ?_
        refine P_geti dX10_count_86 fX10_241 (by assumption) rfl ?_
        exact I_ireturn dX10_count_89 rfl ⟨_, _, rfl, WQ.eq h z5.2.2.2.1⟩
end WQ3
