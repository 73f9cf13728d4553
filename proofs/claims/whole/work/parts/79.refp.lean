/-! the reference: lay, post -/
noncomputable def layQ (M : MS) (k i v : Int) : Int × MS := if 0 ≤ k ∧ k < 4 then (match mSh M k with
  | none => (-11, M)
  | some q => if 0 ≤ i ∧ i < q.2.1 then (1, mShS M (fset (mSh M) k (some (q.1, q.2.1, fset q.2.2 i (if q.1 = 0 then bI v else v))))) else (-13, M)) else (-1, M)
noncomputable def postQ (M : MS) (k lane f n : Int) : Int × MS := @ite _ (shtB k lane ∧ 0 ≤ n ∧ n ≤ 6) (Classical.propDecidable _) (match mSh M k with
  | none => (-11, M)
  | some q => if q.1 = lane then (if f < 0 ∨ q.2.1 < f + 3 * n then (-13, M) else ((takeM (mPl M) (mNw M) (fun j => q.2.2 (f + j)) n).1, mNwS M (takeM (mPl M) (mNw M) (fun j => q.2.2 (f + j)) n).2)) else (-12, M)) (-1, M)
section RY1
variable {G : GT} {K : List SH} {M : MS} {N : Int}
theorem p_R_lay {S : SV} {k i v : Int} (h : RR K S M) (hk : R32 k) (hi : R32 i) (hv : R32 v) : P G 2 0 0 mX11_lay 0 (LE mX11_lay [.ref 453, IV k, IV i, IV v]) [] K S (RQ K S (layQ M k i v).1 (layQ M k i v).2) := by
  have m0 := h.1.1.1
  have m10 := h.1.1.2.2.2.2.2.2.2.2.2.2.1
  have m11 := h.1.1.2.2.2.2.2.2.2.2.2.2.2.1
  have m12 := h.1.1.2.2.2.2.2.2.2.2.2.2.2.2
  unfold layQ
  by_cases a1 : 0 ≤ k ∧ k < 4
  · rw [if_pos a1]
    have hb0 : shtB k 0 := ⟨a1, Or.inl rfl⟩
    rcases h.2.2.2.2.2 k a1.1 a1.2 with ⟨z1, z2⟩ | ⟨q, z1, z2, z3, z4, z5, z6⟩
    · rw [z1]
      rw [show LE mX11_lay [.ref 453, IV k, IV i, IV v] = [some (.ref 453), some (IV k), some (IV i), some (IV v)] from rfl]
      refine T_iload_n dX11_lay_0 rfl ?_
      refine I_iconst dX11_lay_1 ?_
      refine Q_callS dX11_lay_2 kX11_isSheet lX11_298 (p_R_isSheet hk (by decide)) rfl rfl (Nat.le_of_ble_eq_true rfl) (Nat.le_of_ble_eq_true rfl) (by decide) (by decide) ?_
      rw [b2p_t hb0]
      refine I_if_ne (tgt := 10) dX11_lay_5 (by decide) ⟨by omega, by omega⟩ (fun h5 => ?_) (fun h5 => ?_)
      · refine T_aload_n dX11_lay_10 rfl rfl ?_
        refine P_getr dX11_lay_11 fX11_38 (by assumption) rfl ?_
        refine T_iload_n dX11_lay_14 rfl ?_
        refine P_iald dX11_lay_15 (by assumption) ⟨by omega, by omega⟩ (by first | decide | omega) ?_
        rw [z2]
        refine I_bipush dX11_lay_16 (by decide) ?_
        refine I_icmp_ne (tgt := 24) dX11_lay_18 (by decide) ⟨by omega, by omega⟩ ⟨by omega, by omega⟩ (fun h18 => ?_) (fun h18 => ?_)
        · exact absurd rfl h18
        · refine I_bipush dX11_lay_21 (by decide) ?_
          exact I_ireturn dX11_lay_23 rfl ⟨_, _, rfl, RQ.here h⟩
      · cases h5
    · rw [z1]
      show P G 2 0 0 mX11_lay 0 (LE mX11_lay [.ref 453, IV k, IV i, IV v]) [] K S (RQ K S (if 0 ≤ i ∧ i < q.2.1 then (1, mShS M (fset (mSh M) k (some (q.1, q.2.1, fset q.2.2 i (if q.1 = 0 then bI v else v))))) else (-13, M)).1 (if 0 ≤ i ∧ i < q.2.1 then (1, mShS M (fset (mSh M) k (some (q.1, q.2.1, fset q.2.2 i (if q.1 = 0 then bI v else v))))) else (-13, M)).2)
      have hbi := bI_R v
      by_cases hin : 0 ≤ i ∧ i < q.2.1
      · rw [if_pos hin]
        have hin' : inB i 0 (q.2.1 - 1) := ⟨hin.1, by omega⟩
        have fin : ∀ u : Int, R32 u → u = (if q.1 = 0 then bI v else v) → RQ K S 1 (mShS M (fset (mSh M) k (some (q.1, q.2.1, fset q.2.2 i (if q.1 = 0 then bI v else v))))) (some (IV 1)) K (sA S 465 (40 * k + i) u) := by
          intro u hu hue
          have hO : Outs S (sA S 465 (40 * k + i) u) 465 466 := fun x y w => Same.sA (by omega)
          obtain ⟨g1, g2, g3, g4, g5, g6⟩ := h
          refine ⟨rfl, rfl, ⟨g1.oth (by omega) hu, ⟨g2.1, g2.2.1, fun j a b => ⟨(hO.a (by omega) j).trans (g2.2.2 j a b).1, (g2.2.2 j a b).2⟩⟩, g3, g4, RIm.wo g5 (fun j => hO.a (by omega) j) (fun j => hO.a (by omega) j), fun k' a b => ?_⟩, hO.sub (by omega) (by omega)⟩
          show (fset (mSh M) k (some (q.1, q.2.1, fset q.2.2 i (if q.1 = 0 then bI v else v))) k' = none ∧ _) ∨ ∃ q', fset (mSh M) k (some (q.1, q.2.1, fset q.2.2 i (if q.1 = 0 then bI v else v))) k' = some q' ∧ _
          rw [hO.a (by omega), hO.a (by omega)]
          by_cases e2 : k' = k
          · subst e2
            refine Or.inr ⟨(q.1, q.2.1, fset q.2.2 i (if q.1 = 0 then bI v else v)), fset_t _ _ _, z2, z3, z4, z5, fun j u1 u2 => ?_⟩
            show aI (sA S 465 (40 * k' + i) u) 465 (40 * k' + j) = fset q.2.2 i (if q.1 = 0 then bI v else v) j
            rw [aI_sA]
            by_cases ej : j = i
            · rw [if_pos ⟨rfl, by omega⟩, ej, fset_t, hue]
            · rw [if_neg (fun z => ej (by omega)), fset_f _ _ ej]
              exact z6 j u1 u2
          · rw [fset_f _ _ e2]
            rcases g6 k' a b with y | ⟨y, y1, y2, y3, y4, y5, y6⟩
            · exact Or.inl y
            · refine Or.inr ⟨y, y1, y2, y3, y4, y5, fun j u1 u2 => ?_⟩
              rw [aI_sA, if_neg (fun z => by omega)]
              exact y6 j u1 u2
        by_cases hq0 : q.1 = 0
        · have f1 := fin (bI v) ⟨by omega, by omega⟩ (by rw [if_pos hq0])
          rw [show LE mX11_lay [.ref 453, IV k, IV i, IV v] = [some (.ref 453), some (IV k), some (IV i), some (IV v)] from rfl]
          refine T_iload_n dX11_lay_0 rfl ?_
          refine I_iconst dX11_lay_1 ?_
          refine Q_callS dX11_lay_2 kX11_isSheet lX11_298 (p_R_isSheet hk (by decide)) rfl rfl (Nat.le_of_ble_eq_true rfl) (Nat.le_of_ble_eq_true rfl) (by decide) (by decide) ?_
          rw [b2p_t hb0]
          refine I_if_ne (tgt := 10) dX11_lay_5 (by decide) ⟨by omega, by omega⟩ (fun h5 => ?_) (fun h5 => ?_)
          · refine T_aload_n dX11_lay_10 rfl rfl ?_
            refine P_getr dX11_lay_11 fX11_38 (by assumption) rfl ?_
            refine T_iload_n dX11_lay_14 rfl ?_
            refine P_iald dX11_lay_15 (by assumption) ⟨by omega, by omega⟩ (by first | decide | omega) ?_
            rw [z2]
            refine I_bipush dX11_lay_16 (by decide) ?_
            refine I_icmp_ne (tgt := 24) dX11_lay_18 (by decide) ⟨by omega, by omega⟩ ⟨by omega, by omega⟩ (fun h18 => ?_) (fun h18 => ?_)
            · refine T_iload_n dX11_lay_24 rfl ?_
              refine I_i2l dX11_lay_25 hi ?_
              refine I_lconst dX11_lay_26 ?_
              refine T_aload_n dX11_lay_27 rfl rfl ?_
              refine P_getr dX11_lay_28 fX11_41 (by assumption) rfl ?_
              refine T_iload_n dX11_lay_31 rfl ?_
              refine P_iald dX11_lay_32 (by assumption) ⟨by omega, by omega⟩ (by first | decide | omega) ?_
              rw [z4]
              refine I_iconst dX11_lay_33 ?_
              refine I_isub dX11_lay_34 ?_
              refine I_i2l dX11_lay_35 ⟨by omega, by omega⟩ ?_
              refine Q_callS dX11_lay_36 kX11_in lX11_52 (p_in (lo := 0) ⟨by omega, by omega⟩ (by decide) ⟨by omega, by omega⟩) rfl rfl (Nat.le_of_ble_eq_true rfl) (Nat.le_of_ble_eq_true rfl) (by decide) (by decide) ?_
              rw [b2p_t hin']
              refine I_if_ne (tgt := 45) dX11_lay_39 (by decide) ⟨by omega, by omega⟩ (fun h39 => ?_) (fun h39 => ?_)
              · refine T_aload_n dX11_lay_45 rfl rfl ?_
                refine P_getr dX11_lay_46 fX11_44 (by assumption) rfl ?_
                refine I_bipush dX11_lay_49 (by decide) ?_
                refine T_iload_n dX11_lay_51 rfl ?_
                refine I_imul dX11_lay_52 ?_
                refine T_iload_n dX11_lay_53 rfl ?_
                refine I_iadd dX11_lay_54 ?_
                refine T_aload_n dX11_lay_55 rfl rfl ?_
                refine P_getr dX11_lay_56 fX11_38 (by assumption) rfl ?_
                refine T_iload_n dX11_lay_59 rfl ?_
                refine P_iald dX11_lay_60 (by assumption) ⟨by omega, by omega⟩ (by first | decide | omega) ?_
                rw [z2]
                refine I_if_ne (tgt := 69) dX11_lay_61 (by decide) ⟨by omega, by omega⟩ (fun h61 => ?_) (fun h61 => ?_)
                · omega
                · refine T_iload_n dX11_lay_64 rfl ?_
                  refine I_i2b dX11_lay_65 ?_
                  refine T_goto (tgt := 70) dX11_lay_66 (by decide) ?_
                  refine P_iast dX11_lay_70 (by assumption) ⟨by omega, by omega⟩ (by first | decide | omega) ?_
                  refine I_iconst dX11_lay_71 ?_
                  exact I_ireturn dX11_lay_72 rfl ⟨_, _, rfl, f1⟩
              · cases h39
            · omega
          · cases h5
        · have f1 := fin v hv (by rw [if_neg hq0])
          rw [show LE mX11_lay [.ref 453, IV k, IV i, IV v] = [some (.ref 453), some (IV k), some (IV i), some (IV v)] from rfl]
          refine T_iload_n dX11_lay_0 rfl ?_
          refine I_iconst dX11_lay_1 ?_
          refine Q_callS dX11_lay_2 kX11_isSheet lX11_298 (p_R_isSheet hk (by decide)) rfl rfl (Nat.le_of_ble_eq_true rfl) (Nat.le_of_ble_eq_true rfl) (by decide) (by decide) ?_
          rw [b2p_t hb0]
          refine I_if_ne (tgt := 10) dX11_lay_5 (by decide) ⟨by omega, by omega⟩ (fun h5 => ?_) (fun h5 => ?_)
          · refine T_aload_n dX11_lay_10 rfl rfl ?_
            refine P_getr dX11_lay_11 fX11_38 (by assumption) rfl ?_
            refine T_iload_n dX11_lay_14 rfl ?_
            refine P_iald dX11_lay_15 (by assumption) ⟨by omega, by omega⟩ (by first | decide | omega) ?_
            rw [z2]
            refine I_bipush dX11_lay_16 (by decide) ?_
            refine I_icmp_ne (tgt := 24) dX11_lay_18 (by decide) ⟨by omega, by omega⟩ ⟨by omega, by omega⟩ (fun h18 => ?_) (fun h18 => ?_)
            · refine T_iload_n dX11_lay_24 rfl ?_
              refine I_i2l dX11_lay_25 hi ?_
              refine I_lconst dX11_lay_26 ?_
              refine T_aload_n dX11_lay_27 rfl rfl ?_
              refine P_getr dX11_lay_28 fX11_41 (by assumption) rfl ?_
              refine T_iload_n dX11_lay_31 rfl ?_
              refine P_iald dX11_lay_32 (by assumption) ⟨by omega, by omega⟩ (by first | decide | omega) ?_
              rw [z4]
              refine I_iconst dX11_lay_33 ?_
              refine I_isub dX11_lay_34 ?_
              refine I_i2l dX11_lay_35 ⟨by omega, by omega⟩ ?_
              refine Q_callS dX11_lay_36 kX11_in lX11_52 (p_in (lo := 0) ⟨by omega, by omega⟩ (by decide) ⟨by omega, by omega⟩) rfl rfl (Nat.le_of_ble_eq_true rfl) (Nat.le_of_ble_eq_true rfl) (by decide) (by decide) ?_
              rw [b2p_t hin']
              refine I_if_ne (tgt := 45) dX11_lay_39 (by decide) ⟨by omega, by omega⟩ (fun h39 => ?_) (fun h39 => ?_)
              · refine T_aload_n dX11_lay_45 rfl rfl ?_
                refine P_getr dX11_lay_46 fX11_44 (by assumption) rfl ?_
                refine I_bipush dX11_lay_49 (by decide) ?_
                refine T_iload_n dX11_lay_51 rfl ?_
                refine I_imul dX11_lay_52 ?_
                refine T_iload_n dX11_lay_53 rfl ?_
                refine I_iadd dX11_lay_54 ?_
                refine T_aload_n dX11_lay_55 rfl rfl ?_
                refine P_getr dX11_lay_56 fX11_38 (by assumption) rfl ?_
                refine T_iload_n dX11_lay_59 rfl ?_
                refine P_iald dX11_lay_60 (by assumption) ⟨by omega, by omega⟩ (by first | decide | omega) ?_
                rw [z2]
                refine I_if_ne (tgt := 69) dX11_lay_61 (by decide) ⟨by omega, by omega⟩ (fun h61 => ?_) (fun h61 => ?_)
                · refine T_iload_n dX11_lay_69 rfl ?_
                  refine P_iast dX11_lay_70 (by assumption) ⟨by omega, by omega⟩ (by first | decide | omega) ?_
                  refine I_iconst dX11_lay_71 ?_
                  exact I_ireturn dX11_lay_72 rfl ⟨_, _, rfl, f1⟩
                · omega
              · cases h39
            · omega
          · cases h5
      · rw [if_neg hin]
        have hin' : ¬ inB i 0 (q.2.1 - 1) := fun z => hin ⟨z.1, by have := z.2; omega⟩
        rw [show LE mX11_lay [.ref 453, IV k, IV i, IV v] = [some (.ref 453), some (IV k), some (IV i), some (IV v)] from rfl]
        refine T_iload_n dX11_lay_0 rfl ?_
        refine I_iconst dX11_lay_1 ?_
        refine Q_callS dX11_lay_2 kX11_isSheet lX11_298 (p_R_isSheet hk (by decide)) rfl rfl (Nat.le_of_ble_eq_true rfl) (Nat.le_of_ble_eq_true rfl) (by decide) (by decide) ?_
        rw [b2p_t hb0]
        refine I_if_ne (tgt := 10) dX11_lay_5 (by decide) ⟨by omega, by omega⟩ (fun h5 => ?_) (fun h5 => ?_)
        · refine T_aload_n dX11_lay_10 rfl rfl ?_
          refine P_getr dX11_lay_11 fX11_38 (by assumption) rfl ?_
          refine T_iload_n dX11_lay_14 rfl ?_
          refine P_iald dX11_lay_15 (by assumption) ⟨by omega, by omega⟩ (by first | decide | omega) ?_
          rw [z2]
          refine I_bipush dX11_lay_16 (by decide) ?_
          refine I_icmp_ne (tgt := 24) dX11_lay_18 (by decide) ⟨by omega, by omega⟩ ⟨by omega, by omega⟩ (fun h18 => ?_) (fun h18 => ?_)
          · refine T_iload_n dX11_lay_24 rfl ?_
            refine I_i2l dX11_lay_25 hi ?_
            refine I_lconst dX11_lay_26 ?_
            refine T_aload_n dX11_lay_27 rfl rfl ?_
            refine P_getr dX11_lay_28 fX11_41 (by assumption) rfl ?_
            refine T_iload_n dX11_lay_31 rfl ?_
            refine P_iald dX11_lay_32 (by assumption) ⟨by omega, by omega⟩ (by first | decide | omega) ?_
            rw [z4]
            refine I_iconst dX11_lay_33 ?_
            refine I_isub dX11_lay_34 ?_
            refine I_i2l dX11_lay_35 ⟨by omega, by omega⟩ ?_
            refine Q_callS dX11_lay_36 kX11_in lX11_52 (p_in (lo := 0) ⟨by omega, by omega⟩ (by decide) ⟨by omega, by omega⟩) rfl rfl (Nat.le_of_ble_eq_true rfl) (Nat.le_of_ble_eq_true rfl) (by decide) (by decide) ?_
            rw [b2p_f hin']
            refine I_if_ne (tgt := 45) dX11_lay_39 (by decide) ⟨by omega, by omega⟩ (fun h39 => ?_) (fun h39 => ?_)
            · exact absurd rfl h39
            · refine I_bipush dX11_lay_42 (by decide) ?_
              exact I_ireturn dX11_lay_44 rfl ⟨_, _, rfl, RQ.here h⟩
          · omega
        · cases h5
  · rw [if_neg a1]
    have hb0 : ¬ shtB k 0 := fun z => a1 z.1
    rw [show LE mX11_lay [.ref 453, IV k, IV i, IV v] = [some (.ref 453), some (IV k), some (IV i), some (IV v)] from rfl]
    refine T_iload_n dX11_lay_0 rfl ?_
    refine I_iconst dX11_lay_1 ?_
    refine Q_callS dX11_lay_2 kX11_isSheet lX11_298 (p_R_isSheet hk (by decide)) rfl rfl (Nat.le_of_ble_eq_true rfl) (Nat.le_of_ble_eq_true rfl) (by decide) (by decide) ?_
    rw [b2p_f hb0]
    refine I_if_ne (tgt := 10) dX11_lay_5 (by decide) ⟨by omega, by omega⟩ (fun h5 => ?_) (fun h5 => ?_)
    · exact absurd rfl h5
    · refine I_iconst dX11_lay_8 ?_
      exact I_ireturn dX11_lay_9 rfl ⟨_, _, rfl, RQ.here h⟩
/-- behind the copy: the row of before is the row of now -/
def BfR (S S1 : SV) : Prop := AllR S1 ∧ (∀ a, a ≠ 454 → a ≠ 458 → Same S S1 a (a + 1)) ∧ ∀ j, 0 ≤ j → j < 1583 → aI S1 458 j = aI S 454 j
theorem BfR.outs {S S1 : SV} (h : BfR S S1) : Outs S S1 453 466 := fun x y w a q1 q2 => h.2.1 a (by omega) (by omega) a (by omega) (by omega)
theorem BfR.rr {S S1 : SV} {x : RND} (h : RR K S M) (hb : BfR S S1) (hR : RS K S1 (mPl M) x.1 x.2) (hm : ∀ r ∈ x.2, MkOk (mPl M) r) : RR K S1 (mNwS M x) := by
  obtain ⟨g1, g2, g3, g4, g5, g6⟩ := h
  have ea : ∀ a j, a ≠ 454 → a ≠ 458 → aI S1 a j = aI S a j := fun a j p q => (hb.2.1 a p q a (by omega) (by omega)).2.1 j
  have ef : ∀ k, fI S1 453 k = fI S 453 k := (hb.2.1 453 (by omega) (by omega) 453 (by omega) (by omega)).1
  exact ⟨hR, ⟨(ef 6).trans g2.1, g2.2.1, fun j a b => ⟨(ea 459 j (by omega) (by omega)).trans (g2.2.2 j a b).1, (g2.2.2 j a b).2⟩⟩, (ef 11).trans g3, hm, RIm.wo g5 (fun j => ea 456 j (by omega) (by omega)) (fun j => ea 457 j (by omega) (by omega)), RSh.wo g6 (fun j => ea 463 j (by omega) (by omega)) (fun j => ea 464 j (by omega) (by omega)) (fun j => ea 465 j (by omega) (by omega))⟩
theorem l_R_restore {S : SV} {k lane f n i p : Int} (h : RR K S M) (hi : 0 ≤ i ∧ i ≤ 6) (m : Nat) : ∀ (c : Int) (S1 : SV), 0 ≤ c → 1583 - c = m → BfR S S1 → (∀ j, 0 ≤ j → j < c → aI S1 454 j = aI S 454 j) → P G 3 0 0 mX11_post 165 [some (.ref 453), some (IV k), some (IV lane), some (IV f), some (IV n), some (IV i), some (IV p), some (IV c)] [] K S1 (RQ K S (-20 - i) M) := by
  have m0 := h.1.1.1
  have m1 := h.1.1.2.1
  have m5 := h.1.1.2.2.2.2.2.1
  induction m with
  | zero =>
    intro c S1 h0 hm hb hf
    have ek : ∀ j, 0 ≤ j → j < 1583 → aI S1 454 j = aI S 454 j := fun j u v => hf j u (by omega)
    have hR : RS K S1 (mPl M) (mE M) (mIt M) := ⟨h.1.1, hb.1, h.1.2.2.1, PlC.cg h.1.2.2.2.1 h.1.2.2.1 (fun i z => ek i (by omega) (by omega)), EnC.cg h.1.2.2.2.2 ek⟩
    have hRR : RR K S1 M := hb.rr (x := mNw M) h hR h.2.2.2.1
    refine T_iload dX11_post_165 rfl ?_
    refine I_sipush dX11_post_167 (by decide) ?_
    refine I_icmp_ge (tgt := 193) dX11_post_170 (by decide) ⟨by omega, by omega⟩ ⟨by omega, by omega⟩ (fun h170 => ?_) (fun h170 => ?_)
    · refine I_bipush dX11_post_193 (by decide) ?_
      refine T_iload dX11_post_195 rfl ?_
      refine I_isub dX11_post_197 ?_
      exact I_ireturn dX11_post_198 rfl ⟨_, _, rfl, rfl, rfl, hRR, hb.outs⟩
    · omega
  | succ m ih =>
    intro c S1 h0 hm hb hf
    have e := hb.2.2 c h0 (by omega)
    have w := ih (c + 1) (sA S1 454 c (aI S 454 c)) (by omega) (by omega) ⟨hb.1.sA (h.1.2.1.2 _ _), fun a p q => (hb.2.1 a p q).tr (Same.sA (by omega)), fun j u v => by rw [aI_sA, if_neg (by omega)]; exact hb.2.2 j u v⟩ (fun j u v => by
      rw [aI_sA]
      by_cases ej : j = c
      · rw [if_pos ⟨rfl, ej⟩, ej]
      · rw [if_neg (fun z => ej z.2)]
        exact hf j u (by omega))
    refine T_iload dX11_post_165 rfl ?_
    refine I_sipush dX11_post_167 (by decide) ?_
    refine I_icmp_ge (tgt := 193) dX11_post_170 (by decide) ⟨by omega, by omega⟩ ⟨by omega, by omega⟩ (fun h170 => ?_) (fun h170 => ?_)
    · omega
    · refine T_aload_n dX11_post_173 rfl rfl ?_
      refine P_getr dX11_post_174 fX11_7 (by assumption) rfl ?_
      refine T_iload dX11_post_177 rfl ?_
      refine T_aload_n dX11_post_179 rfl rfl ?_
      refine P_getr dX11_post_180 fX11_23 (by assumption) rfl ?_
      refine T_iload dX11_post_183 rfl ?_
      refine P_iald dX11_post_185 (by assumption) ⟨by omega, by omega⟩ (by first | decide | omega) ?_
      rw [e]
      refine P_iast dX11_post_186 (by assumption) ⟨by omega, by omega⟩ (by first | decide | omega) ?_
      refine I_iinc dX11_post_187 rfl (by decide) rfl ?_
      refine T_goto (tgt := 165) dX11_post_190 (by decide) ?_
      exact w
theorem l_R_post {S : SV} {k lane f n : Int} {q : SHT} (h : RR K S M) (hN : N + 20 ≤ 1000000000) (hp : RndOk N (mPl M) (mNw M)) (hk : 0 ≤ k ∧ k < 4) (hn : 0 ≤ n ∧ n ≤ 6) (hf : 0 ≤ f ∧ f + 3 * n ≤ q.2.1) (z5 : 0 ≤ q.2.1 ∧ q.2.1 ≤ 40) (z6 : ∀ i, 0 ≤ i → i < q.2.1 → aI S 465 (40 * k + i) = q.2.2 i) (m : Nat) : ∀ (i : Int) (y : RND) (S1 : SV), 0 ≤ i → n - i = m → BfR S S1 → RS K S1 (mPl M) y.1 y.2 → RndOk (N + 2 * i) (mPl M) y → (∀ r ∈ y.2, MkOk (mPl M) r) → (y.2.length : Int) = (mNw M).2.length + i → fndF (refB (mPl M) (mNw M).2.length (fun j => q.2.2 (f + j))) n.toNat 0 = fndF (refB (mPl M) (mNw M).2.length (fun j => q.2.2 (f + j))) m i → sendsM (mPl M) (fun j => q.2.2 (f + j)) n.toNat 0 (mNw M) = sendsM (mPl M) (fun j => q.2.2 (f + j)) m i y → P G 3 0 0 mX11_post 110 [some (.ref 453), some (IV k), some (IV lane), some (IV f), some (IV n), some (IV i), none, none] [] K S1 (RQ K S (takeM (mPl M) (mNw M) (fun j => q.2.2 (f + j)) n).1 (mNwS M (takeM (mPl M) (mNw M) (fun j => q.2.2 (f + j)) n).2)) := by
  have m0 := h.1.1.1
  have m12 := h.1.1.2.2.2.2.2.2.2.2.2.2.2.2
  induction m with
  | zero =>
    intro i y S1 h0 hm hb hR hry hmk hlen hfn hsn
    have hv : takeM (mPl M) (mNw M) (fun j => q.2.2 (f + j)) n = (n, y) := by
      unfold takeM
      rw [hfn, fndF_0, if_pos rfl, hsn]
      rfl
    rw [hv]
    have hRR := hb.rr (x := y) h hR hmk
    refine T_iload dX11_post_110 rfl ?_
    refine T_iload dX11_post_112 rfl ?_
    refine I_icmp_ge (tgt := 205) dX11_post_114 (by decide) ⟨by omega, by omega⟩ ⟨by omega, by omega⟩ (fun h114 => ?_) (fun h114 => ?_)
    · refine T_iload dX11_post_205 rfl ?_
      exact I_ireturn dX11_post_207 rfl ⟨_, _, rfl, rfl, rfl, hRR, hb.outs⟩
    · omega
  | succ m ih =>
    intro i y S1 h0 hm hb hR hry hmk hlen hfn hsn
    have hc : ∀ j, 0 ≤ j → j < q.2.1 → aI S1 465 (40 * k + j) = q.2.2 j := fun j u v => ((hb.2.1 465 (by omega) (by omega) 465 (by omega) (by omega)).2.1 _).trans (z6 j u v)
    have c0 : aI S1 465 (40 * k + f + 3 * i) = q.2.2 (f + 3 * i) := by rw [← hc (f + 3 * i) (by omega) (by omega)]; congr 1; omega
    have c1 : aI S1 465 (40 * k + f + 3 * i + 1) = q.2.2 (f + (3 * i + 1)) := by rw [← hc (f + (3 * i + 1)) (by omega) (by omega)]; congr 1; omega
    have c2 : aI S1 465 (40 * k + f + 3 * i + 2) = q.2.2 (f + (3 * i + 2)) := by rw [← hc (f + (3 * i + 2)) (by omega) (by omega)]; congr 1; omega
    have r0 : R32 (q.2.2 (f + 3 * i)) := by rw [← c0]; exact hb.1.2 _ _
    have r1 : R32 (q.2.2 (f + (3 * i + 1))) := by rw [← c1]; exact hb.1.2 _ _
    have r2 : R32 (q.2.2 (f + (3 * i + 2))) := by rw [← c2]; exact hb.1.2 _ _
    have hS := p_R_sends (G := G) (e := y.1) (its := y.2) hR hry.1 r0 r1 r2
    have h60 := hR.n60
    by_cases hr : refB (mPl M) (mNw M).2.length (fun j => q.2.2 (f + j)) i
    · have hfi : fndF (refB (mPl M) (mNw M).2.length (fun j => q.2.2 (f + j))) (m + 1) i = i := fndF_t (by omega) hr
      have hv : takeM (mPl M) (mNw M) (fun j => q.2.2 (f + j)) n = (-20 - i, mNw M) := by
        unfold takeM
        rw [hfn, hfi, if_neg (by omega)]
      rw [hv]
      have hneg : (sendM (mPl M) (y.1, y.2) (q.2.2 (f + 3 * i)) (q.2.2 (f + (3 * i + 1))) (q.2.2 (f + (3 * i + 2)))).1 < 0 ∧ (sendM (mPl M) (y.1, y.2) (q.2.2 (f + 3 * i)) (q.2.2 (f + (3 * i + 1))) (q.2.2 (f + (3 * i + 2)))).1 ≥ -3 := by
        by_cases hl : letB (mPl M) (q.2.2 (f + 3 * i)) (q.2.2 (f + (3 * i + 1))) (q.2.2 (f + (3 * i + 2)))
        · rcases hr with z | z
          · exact absurd hl z
          · rw [sendM_full hl (by show 60 ≤ (y.2.length : Int); omega)]
            exact ⟨by show (-3 : Int) < 0; omega, by show (-3 : Int) ≥ -3; omega⟩
        · rw [sendM_bad hl]
          exact ⟨by show (-1 : Int) < 0; omega, by show (-1 : Int) ≥ -3; omega⟩
      generalize sendM (mPl M) (y.1, y.2) (q.2.2 (f + 3 * i)) (q.2.2 (f + (3 * i + 1))) (q.2.2 (f + (3 * i + 2))) = res at hS hneg
      refine T_iload dX11_post_110 rfl ?_
      refine T_iload dX11_post_112 rfl ?_
      refine I_icmp_ge (tgt := 205) dX11_post_114 (by decide) ⟨by omega, by omega⟩ ⟨by omega, by omega⟩ (fun h114 => ?_) (fun h114 => ?_)
      · omega
      · refine I_bipush dX11_post_117 (by decide) ?_
        refine T_iload_n dX11_post_119 rfl ?_
        refine I_imul dX11_post_120 ?_
        refine T_iload_n dX11_post_121 rfl ?_
        refine I_iadd dX11_post_122 ?_
        refine I_iconst dX11_post_123 ?_
        refine T_iload dX11_post_124 rfl ?_
        refine I_imul dX11_post_126 ?_
        refine I_iadd dX11_post_127 ?_
        refine T_istore dX11_post_128 (by decide) rfl ?_
        refine T_aload_n dX11_post_130 rfl rfl ?_
        refine T_aload_n dX11_post_131 rfl rfl ?_
        refine P_getr dX11_post_132 fX11_44 (by assumption) rfl ?_
        refine T_iload dX11_post_135 rfl ?_
        refine P_iald dX11_post_137 (by assumption) ⟨by omega, by omega⟩ (by first | decide | omega) ?_
        rw [c0]
        refine T_aload_n dX11_post_138 rfl rfl ?_
        refine P_getr dX11_post_139 fX11_44 (by assumption) rfl ?_
        refine T_iload dX11_post_142 rfl ?_
        refine I_iconst dX11_post_144 ?_
        refine I_iadd dX11_post_145 ?_
        refine P_iald dX11_post_146 (by assumption) ⟨by omega, by omega⟩ (by first | decide | omega) ?_
        rw [c1]
        refine T_aload_n dX11_post_147 rfl rfl ?_
        refine P_getr dX11_post_148 fX11_44 (by assumption) rfl ?_
        refine T_iload dX11_post_151 rfl ?_
        refine I_iconst dX11_post_153 ?_
        refine I_iadd dX11_post_154 ?_
        refine P_iald dX11_post_155 (by assumption) ⟨by omega, by omega⟩ (by first | decide | omega) ?_
        rw [c2]
        refine R_callV dX11_post_156 kX11_send lX11_295 (by assumption) rfl hS rfl rfl (Nat.le_of_ble_eq_true rfl) (Nat.le_of_ble_eq_true rfl) (by decide) (by decide) (fun r_ K_ S_ q_ => ?_)
        obtain ⟨rfl, hKe, hq, hw1⟩ := q_
        have hKe := hKe.symm
        subst hKe
        have hb2 : BfR S S_ := ⟨hq.2.1, fun a p q => (hb.2.1 a p q).tr (hw1 a p), fun j u v => (hw1.a (by omega) j).trans (hb.2.2 j u v)⟩
        have w := l_R_restore (G := G) (k := k) (lane := lane) (f := f) (n := n) (p := 40 * k + f + 3 * i) h ⟨h0, by omega⟩ 1583 0 S_ (by omega) (by omega) hb2 (fun j u v => by omega)
        refine I_if_ge (tgt := 199) dX11_post_159 (by decide) ⟨by omega, by omega⟩ (fun h159 => ?_) (fun h159 => ?_)
        · omega
        · refine I_iconst dX11_post_162 ?_
          refine T_istore dX11_post_163 (by decide) rfl ?_
          exact w
    · have hfi : fndF (refB (mPl M) (mNw M).2.length (fun j => q.2.2 (f + j))) (m + 1) i = fndF (refB (mPl M) (mNw M).2.length (fun j => q.2.2 (f + j))) m (i + 1) := fndF_f hr
      have hl : letB (mPl M) (q.2.2 (f + 3 * i)) (q.2.2 (f + (3 * i + 1))) (q.2.2 (f + (3 * i + 2))) := Classical.byContradiction (fun z => hr (Or.inl z))
      have hl6 : ¬ 60 ≤ (y.2.length : Int) := fun z => hr (Or.inr (by omega))
      have hle : 0 ≤ eLe y.1 ∧ eLe y.1 < N + 2 * i := hry.1.2.1
      have hok := sendM_ok (x := y) hl hl6
      have hrn := sendM_rnd (x := q.2.2 (f + 3 * i)) (f := q.2.2 (f + (3 * i + 1))) (t := q.2.2 (f + (3 * i + 2))) hry (by omega)
      have hmk2 := sendM_mk (x := q.2.2 (f + 3 * i)) (f := q.2.2 (f + (3 * i + 1))) (t := q.2.2 (f + (3 * i + 2))) hmk
      have hans : (sendM (mPl M) y (q.2.2 (f + 3 * i)) (q.2.2 (f + (3 * i + 1))) (q.2.2 (f + (3 * i + 2)))).1 = eLe y.1 := by rw [hok]
      have hlen2 : ((sendM (mPl M) y (q.2.2 (f + 3 * i)) (q.2.2 (f + (3 * i + 1))) (q.2.2 (f + (3 * i + 2)))).2.2.length : Int) = (mNw M).2.length + (i + 1) := by
        rw [hok]
        show ((y.2 ++ [_]).length : Int) = _
        simp
        omega
      have hsn2 : sendsM (mPl M) (fun j => q.2.2 (f + j)) (m + 1) i y = sendsM (mPl M) (fun j => q.2.2 (f + j)) m (i + 1) (sendM (mPl M) y (q.2.2 (f + 3 * i)) (q.2.2 (f + (3 * i + 1))) (q.2.2 (f + (3 * i + 2)))).2 := rfl
      have hS : P G 2 0 0 mX11_send 0 (LE mX11_send [.ref 453, IV (q.2.2 (f + 3 * i)), IV (q.2.2 (f + (3 * i + 1))), IV (q.2.2 (f + (3 * i + 2)))]) [] K S1 (SDQ K S1 (mPl M) (sendM (mPl M) y (q.2.2 (f + 3 * i)) (q.2.2 (f + (3 * i + 1))) (q.2.2 (f + (3 * i + 2))))) := hS
      have hNN := hry.1.2.2.2.2.2.2
      generalize sendM (mPl M) y (q.2.2 (f + 3 * i)) (q.2.2 (f + (3 * i + 1))) (q.2.2 (f + (3 * i + 2))) = res at hS hrn hmk2 hans hlen2 hsn2
      refine T_iload dX11_post_110 rfl ?_
      refine T_iload dX11_post_112 rfl ?_
      refine I_icmp_ge (tgt := 205) dX11_post_114 (by decide) ⟨by omega, by omega⟩ ⟨by omega, by omega⟩ (fun h114 => ?_) (fun h114 => ?_)
      · omega
      · refine I_bipush dX11_post_117 (by decide) ?_
        refine T_iload_n dX11_post_119 rfl ?_
        refine I_imul dX11_post_120 ?_
        refine T_iload_n dX11_post_121 rfl ?_
        refine I_iadd dX11_post_122 ?_
        refine I_iconst dX11_post_123 ?_
        refine T_iload dX11_post_124 rfl ?_
        refine I_imul dX11_post_126 ?_
        refine I_iadd dX11_post_127 ?_
        refine T_istore dX11_post_128 (by decide) rfl ?_
        refine T_aload_n dX11_post_130 rfl rfl ?_
        refine T_aload_n dX11_post_131 rfl rfl ?_
        refine P_getr dX11_post_132 fX11_44 (by assumption) rfl ?_
        refine T_iload dX11_post_135 rfl ?_
        refine P_iald dX11_post_137 (by assumption) ⟨by omega, by omega⟩ (by first | decide | omega) ?_
        rw [c0]
        refine T_aload_n dX11_post_138 rfl rfl ?_
        refine P_getr dX11_post_139 fX11_44 (by assumption) rfl ?_
        refine T_iload dX11_post_142 rfl ?_
        refine I_iconst dX11_post_144 ?_
        refine I_iadd dX11_post_145 ?_
        refine P_iald dX11_post_146 (by assumption) ⟨by omega, by omega⟩ (by first | decide | omega) ?_
        rw [c1]
        refine T_aload_n dX11_post_147 rfl rfl ?_
        refine P_getr dX11_post_148 fX11_44 (by assumption) rfl ?_
        refine T_iload dX11_post_151 rfl ?_
        refine I_iconst dX11_post_153 ?_
        refine I_iadd dX11_post_154 ?_
        refine P_iald dX11_post_155 (by assumption) ⟨by omega, by omega⟩ (by first | decide | omega) ?_
        rw [c2]
        refine R_callV dX11_post_156 kX11_send lX11_295 (by assumption) rfl hS rfl rfl (Nat.le_of_ble_eq_true rfl) (Nat.le_of_ble_eq_true rfl) (by decide) (by decide) (fun r_ K_ S_ q_ => ?_)
        obtain ⟨rfl, hKe, hq, hw1⟩ := q_
        have hKe := hKe.symm
        subst hKe
        have hb2 : BfR S S_ := ⟨hq.2.1, fun a p q => (hb.2.1 a p q).tr (hw1 a p), fun j u v => (hw1.a (by omega) j).trans (hb.2.2 j u v)⟩
        have w := ih (i + 1) res.2 S_ (by omega) (by omega) hb2 hq (by rw [show N + 2 * (i + 1) = N + 2 * i + 2 by omega]; exact hrn) hmk2 hlen2 (hfn.trans hfi) (hsn.trans hsn2)
        refine I_if_ge (tgt := 199) dX11_post_159 (by decide) ⟨by omega, by omega⟩ (fun h159 => ?_) (fun h159 => ?_)
        · refine I_iinc dX11_post_199 rfl (by decide) rfl ?_
          refine T_goto (tgt := 110) dX11_post_202 (by decide) ?_
          refine T.forget 6 ?_
          exact w
        · omega
theorem l_R_before {S : SV} {k lane f n : Int} {Q : Option Value → List SH → SV → Prop} (h : RR K S M) (hc : ∀ S1, BfR S S1 → aI S1 454 = aI S 454 → P G 3 0 0 mX11_post 107 [some (.ref 453), some (IV k), some (IV lane), some (IV f), some (IV n), none, none, none] [] K S1 Q) (m : Nat) : ∀ (c : Int) (S1 : SV), 0 ≤ c → 1583 - c = m → AllR S1 → (∀ a, a ≠ 458 → Same S S1 a (a + 1)) → (∀ j, 0 ≤ j → j < c → aI S1 458 j = aI S 454 j) → P G 3 0 0 mX11_post 79 [some (.ref 453), some (IV k), some (IV lane), some (IV f), some (IV n), some (IV c), none, none] [] K S1 Q := by
  have m0 := h.1.1.1
  have m1 := h.1.1.2.1
  have m5 := h.1.1.2.2.2.2.2.1
  induction m with
  | zero =>
    intro c S1 h0 hm hA hs hf
    have w := hc S1 ⟨hA, fun a p q => hs a q, fun j u v => hf j u (by omega)⟩ (funext (fun j => (hs 454 (by omega) 454 (by omega) (by omega)).2.1 j))
    refine T_iload dX11_post_79 rfl ?_
    refine I_sipush dX11_post_81 (by decide) ?_
    refine I_icmp_ge (tgt := 107) dX11_post_84 (by decide) ⟨by omega, by omega⟩ ⟨by omega, by omega⟩ (fun h84 => ?_) (fun h84 => ?_)
    · refine T.forget 5 ?_
      exact w
    · omega
  | succ m ih =>
    intro c S1 h0 hm hA hs hf
    have e : aI S1 454 c = aI S 454 c := (hs 454 (by omega) 454 (by omega) (by omega)).2.1 c
    have w := ih (c + 1) (sA S1 458 c (aI S 454 c)) (by omega) (by omega) (hA.sA (h.1.2.1.2 _ _)) (fun a q => (hs a q).tr (Same.sA (by omega))) (fun j u v => by
      rw [aI_sA]
      by_cases ej : j = c
      · rw [if_pos ⟨rfl, ej⟩, ej]
      · rw [if_neg (fun z => ej z.2)]
        exact hf j u (by omega))
    refine T_iload dX11_post_79 rfl ?_
    refine I_sipush dX11_post_81 (by decide) ?_
    refine I_icmp_ge (tgt := 107) dX11_post_84 (by decide) ⟨by omega, by omega⟩ ⟨by omega, by omega⟩ (fun h84 => ?_) (fun h84 => ?_)
    · omega
    · refine T_aload_n dX11_post_87 rfl rfl ?_
      refine P_getr dX11_post_88 fX11_23 (by assumption) rfl ?_
      refine T_iload dX11_post_91 rfl ?_
      refine T_aload_n dX11_post_93 rfl rfl ?_
      refine P_getr dX11_post_94 fX11_7 (by assumption) rfl ?_
      refine T_iload dX11_post_97 rfl ?_
      refine P_iald dX11_post_99 (by assumption) ⟨by omega, by omega⟩ (by first | decide | omega) ?_
      rw [e]
      refine P_iast dX11_post_100 (by assumption) ⟨by omega, by omega⟩ (by first | decide | omega) ?_
      refine I_iinc dX11_post_101 rfl (by decide) rfl ?_
      refine T_goto (tgt := 79) dX11_post_104 (by decide) ?_
      exact w
theorem p_R_post {S : SV} {k lane f n : Int} (h : RR K S M) (hp : PU M N) (hN : N + 20 ≤ 1000000000) (hk : R32 k) (hl : R32 lane) (hf : R32 f) (hn : R32 n) : P G 3 0 0 mX11_post 0 (LE mX11_post [.ref 453, IV k, IV lane, IV f, IV n]) [] K S (RQ K S (postQ M k lane f n).1 (postQ M k lane f n).2) := by
  have m0 := h.1.1.1
  have m10 := h.1.1.2.2.2.2.2.2.2.2.2.2.1
  have m11 := h.1.1.2.2.2.2.2.2.2.2.2.2.2.1
  by_cases hb : shtB k lane ∧ 0 ≤ n ∧ n ≤ 6
  · obtain ⟨hb0, hn0⟩ := id hb
    have a1 := hb0.1
    have hin : inB n 0 6 := hn0
    rcases h.2.2.2.2.2 k a1.1 a1.2 with ⟨z1, z2⟩ | ⟨q, z1, z2, z3, z4, z5, z6⟩
    · have hv : postQ M k lane f n = (-11, M) := by unfold postQ; rw [if_pos hb, z1]
      rw [hv]
      rw [show LE mX11_post [.ref 453, IV k, IV lane, IV f, IV n] = [some (.ref 453), some (IV k), some (IV lane), some (IV f), some (IV n), none, none, none] from rfl]
      refine T_iload_n dX11_post_0 rfl ?_
      refine T_iload_n dX11_post_1 rfl ?_
      refine Q_callS dX11_post_2 kX11_isSheet lX11_298 (p_R_isSheet hk hl) rfl rfl (Nat.le_of_ble_eq_true rfl) (Nat.le_of_ble_eq_true rfl) (by decide) (by decide) ?_
      rw [b2p_t hb0]
      refine I_if_eq (tgt := 21) dX11_post_5 (by decide) ⟨by omega, by omega⟩ (fun h5 => ?_) (fun h5 => ?_)
      · cases h5
      · refine T_iload dX11_post_8 rfl ?_
        refine I_i2l dX11_post_10 hn ?_
        refine I_lconst dX11_post_11 ?_
        refine I_ldc2 (n := 6) dX11_post_12 qX11_276 rfl ?_
        refine Q_callS dX11_post_15 kX11_in lX11_52 (p_in (lo := 0) ⟨by omega, by omega⟩ (by decide) (by decide)) rfl rfl (Nat.le_of_ble_eq_true rfl) (Nat.le_of_ble_eq_true rfl) (by decide) (by decide) ?_
        rw [b2p_t hin]
        refine I_if_ne (tgt := 23) dX11_post_18 (by decide) ⟨by omega, by omega⟩ (fun h18 => ?_) (fun h18 => ?_)
        · refine T_aload_n dX11_post_23 rfl rfl ?_
          refine P_getr dX11_post_24 fX11_38 (by assumption) rfl ?_
          refine T_iload_n dX11_post_27 rfl ?_
          refine P_iald dX11_post_28 (by assumption) ⟨by omega, by omega⟩ (by first | decide | omega) ?_
          rw [z2]
          refine I_bipush dX11_post_29 (by decide) ?_
          refine I_icmp_ne (tgt := 37) dX11_post_31 (by decide) ⟨by omega, by omega⟩ ⟨by omega, by omega⟩ (fun h31 => ?_) (fun h31 => ?_)
          · exact absurd rfl h31
          · refine I_bipush dX11_post_34 (by decide) ?_
            exact I_ireturn dX11_post_36 rfl ⟨_, _, rfl, RQ.here h⟩
        · cases h18
    · have hv0 : postQ M k lane f n = if q.1 = lane then (if f < 0 ∨ q.2.1 < f + 3 * n then (-13, M) else ((takeM (mPl M) (mNw M) (fun j => q.2.2 (f + j)) n).1, mNwS M (takeM (mPl M) (mNw M) (fun j => q.2.2 (f + j)) n).2)) else (-12, M) := by unfold postQ; rw [if_pos hb, z1]
      rw [hv0]
      by_cases hla : q.1 = lane
      · rw [if_pos hla]
        by_cases hfi : f < 0 ∨ q.2.1 < f + 3 * n
        · rw [if_pos hfi]
          rw [show LE mX11_post [.ref 453, IV k, IV lane, IV f, IV n] = [some (.ref 453), some (IV k), some (IV lane), some (IV f), some (IV n), none, none, none] from rfl]
          refine T_iload_n dX11_post_0 rfl ?_
          refine T_iload_n dX11_post_1 rfl ?_
          refine Q_callS dX11_post_2 kX11_isSheet lX11_298 (p_R_isSheet hk hl) rfl rfl (Nat.le_of_ble_eq_true rfl) (Nat.le_of_ble_eq_true rfl) (by decide) (by decide) ?_
          rw [b2p_t hb0]
          refine I_if_eq (tgt := 21) dX11_post_5 (by decide) ⟨by omega, by omega⟩ (fun h5 => ?_) (fun h5 => ?_)
          · cases h5
          · refine T_iload dX11_post_8 rfl ?_
            refine I_i2l dX11_post_10 hn ?_
            refine I_lconst dX11_post_11 ?_
            refine I_ldc2 (n := 6) dX11_post_12 qX11_276 rfl ?_
            refine Q_callS dX11_post_15 kX11_in lX11_52 (p_in (lo := 0) ⟨by omega, by omega⟩ (by decide) (by decide)) rfl rfl (Nat.le_of_ble_eq_true rfl) (Nat.le_of_ble_eq_true rfl) (by decide) (by decide) ?_
            rw [b2p_t hin]
            refine I_if_ne (tgt := 23) dX11_post_18 (by decide) ⟨by omega, by omega⟩ (fun h18 => ?_) (fun h18 => ?_)
            · refine T_aload_n dX11_post_23 rfl rfl ?_
              refine P_getr dX11_post_24 fX11_38 (by assumption) rfl ?_
              refine T_iload_n dX11_post_27 rfl ?_
              refine P_iald dX11_post_28 (by assumption) ⟨by omega, by omega⟩ (by first | decide | omega) ?_
              rw [z2]
              refine I_bipush dX11_post_29 (by decide) ?_
              refine I_icmp_ne (tgt := 37) dX11_post_31 (by decide) ⟨by omega, by omega⟩ ⟨by omega, by omega⟩ (fun h31 => ?_) (fun h31 => ?_)
              · refine T_aload_n dX11_post_37 rfl rfl ?_
                refine P_getr dX11_post_38 fX11_38 (by assumption) rfl ?_
                refine T_iload_n dX11_post_41 rfl ?_
                refine P_iald dX11_post_42 (by assumption) ⟨by omega, by omega⟩ (by first | decide | omega) ?_
                rw [z2]
                refine T_iload_n dX11_post_43 rfl ?_
                refine I_icmp_eq (tgt := 50) dX11_post_44 (by decide) ⟨by omega, by omega⟩ hl (fun h44 => ?_) (fun h44 => ?_)
                · refine T_iload_n dX11_post_50 rfl ?_
                  refine I_if_lt (tgt := 73) dX11_post_51 (by decide) hf (fun h51 => ?_) (fun h51 => ?_)
                  · refine I_bipush dX11_post_73 (by decide) ?_
                    exact I_ireturn dX11_post_75 rfl ⟨_, _, rfl, RQ.here h⟩
                  · refine T_iload_n dX11_post_54 rfl ?_
                    refine I_i2l dX11_post_55 hf ?_
                    refine I_iconst dX11_post_56 ?_
                    refine T_iload dX11_post_57 rfl ?_
                    refine I_imul dX11_post_59 ?_
                    refine I_i2l dX11_post_60 ⟨by omega, by omega⟩ ?_
                    refine I_ladd dX11_post_61 ?_
                    refine T_aload_n dX11_post_62 rfl rfl ?_
                    refine P_getr dX11_post_63 fX11_41 (by assumption) rfl ?_
                    refine T_iload_n dX11_post_66 rfl ?_
                    refine P_iald dX11_post_67 (by assumption) ⟨by omega, by omega⟩ (by first | decide | omega) ?_
                    rw [z4]
                    refine I_i2l dX11_post_68 ⟨by omega, by omega⟩ ?_
                    refine I_lcmp dX11_post_69 ⟨by omega, by omega⟩ ⟨by omega, by omega⟩ ?_
                    refine I_if_le (tgt := 76) dX11_post_70 (by decide) (cmp_R _ _) (fun h70 => ?_) (fun h70 => ?_)
                    · exact absurd (cmp_gt.mpr (show q.2.1 < f + 3 * n by omega)) (by omega)
                    · refine I_bipush dX11_post_73 (by decide) ?_
                      exact I_ireturn dX11_post_75 rfl ⟨_, _, rfl, RQ.here h⟩
                · omega
              · omega
            · cases h18
        · rw [if_neg hfi]
          have h107 : ∀ S1, BfR S S1 → aI S1 454 = aI S 454 → P G 3 0 0 mX11_post 107 [some (.ref 453), some (IV k), some (IV lane), some (IV f), some (IV n), none, none, none] [] K S1 (RQ K S (takeM (mPl M) (mNw M) (fun j => q.2.2 (f + j)) n).1 (mNwS M (takeM (mPl M) (mNw M) (fun j => q.2.2 (f + j)) n).2)) := by
            intro S1 hbf he
            have hR1 : RS K S1 (mPl M) (mE M) (mIt M) := ⟨h.1.1, hbf.1, h.1.2.2.1, by rw [he]; exact h.1.2.2.2.1, by rw [he]; exact h.1.2.2.2.2⟩
            have w := l_R_post (G := G) (lane := lane) (f := f) (q := q) h hN hp.1 a1 hn0 ⟨by omega, by omega⟩ z5 z6 n.toNat 0 (mNw M) S1 (by omega) (by omega) hbf hR1 (by rw [show N + 2 * 0 = N by omega]; exact hp.1) h.2.2.2.1 (by omega) rfl rfl
            refine I_iconst dX11_post_107 ?_
            refine T_istore dX11_post_108 (by decide) rfl ?_
            exact w
          have w := l_R_before (G := G) (k := k) (lane := lane) (f := f) (n := n) h h107 1583 0 S (by omega) (by omega) h.1.2.1 (fun a q => Same.rf) (fun j u v => by omega)
          rw [show LE mX11_post [.ref 453, IV k, IV lane, IV f, IV n] = [some (.ref 453), some (IV k), some (IV lane), some (IV f), some (IV n), none, none, none] from rfl]
          refine T_iload_n dX11_post_0 rfl ?_
          refine T_iload_n dX11_post_1 rfl ?_
          refine Q_callS dX11_post_2 kX11_isSheet lX11_298 (p_R_isSheet hk hl) rfl rfl (Nat.le_of_ble_eq_true rfl) (Nat.le_of_ble_eq_true rfl) (by decide) (by decide) ?_
          rw [b2p_t hb0]
          refine I_if_eq (tgt := 21) dX11_post_5 (by decide) ⟨by omega, by omega⟩ (fun h5 => ?_) (fun h5 => ?_)
          · cases h5
          · refine T_iload dX11_post_8 rfl ?_
            refine I_i2l dX11_post_10 hn ?_
            refine I_lconst dX11_post_11 ?_
            refine I_ldc2 (n := 6) dX11_post_12 qX11_276 rfl ?_
            refine Q_callS dX11_post_15 kX11_in lX11_52 (p_in (lo := 0) ⟨by omega, by omega⟩ (by decide) (by decide)) rfl rfl (Nat.le_of_ble_eq_true rfl) (Nat.le_of_ble_eq_true rfl) (by decide) (by decide) ?_
            rw [b2p_t hin]
            refine I_if_ne (tgt := 23) dX11_post_18 (by decide) ⟨by omega, by omega⟩ (fun h18 => ?_) (fun h18 => ?_)
            · refine T_aload_n dX11_post_23 rfl rfl ?_
              refine P_getr dX11_post_24 fX11_38 (by assumption) rfl ?_
              refine T_iload_n dX11_post_27 rfl ?_
              refine P_iald dX11_post_28 (by assumption) ⟨by omega, by omega⟩ (by first | decide | omega) ?_
              rw [z2]
              refine I_bipush dX11_post_29 (by decide) ?_
              refine I_icmp_ne (tgt := 37) dX11_post_31 (by decide) ⟨by omega, by omega⟩ ⟨by omega, by omega⟩ (fun h31 => ?_) (fun h31 => ?_)
              · refine T_aload_n dX11_post_37 rfl rfl ?_
                refine P_getr dX11_post_38 fX11_38 (by assumption) rfl ?_
                refine T_iload_n dX11_post_41 rfl ?_
                refine P_iald dX11_post_42 (by assumption) ⟨by omega, by omega⟩ (by first | decide | omega) ?_
                rw [z2]
                refine T_iload_n dX11_post_43 rfl ?_
                refine I_icmp_eq (tgt := 50) dX11_post_44 (by decide) ⟨by omega, by omega⟩ hl (fun h44 => ?_) (fun h44 => ?_)
                · refine T_iload_n dX11_post_50 rfl ?_
                  refine I_if_lt (tgt := 73) dX11_post_51 (by decide) hf (fun h51 => ?_) (fun h51 => ?_)
                  · omega
                  · refine T_iload_n dX11_post_54 rfl ?_
                    refine I_i2l dX11_post_55 hf ?_
                    refine I_iconst dX11_post_56 ?_
                    refine T_iload dX11_post_57 rfl ?_
                    refine I_imul dX11_post_59 ?_
                    refine I_i2l dX11_post_60 ⟨by omega, by omega⟩ ?_
                    refine I_ladd dX11_post_61 ?_
                    refine T_aload_n dX11_post_62 rfl rfl ?_
                    refine P_getr dX11_post_63 fX11_41 (by assumption) rfl ?_
                    refine T_iload_n dX11_post_66 rfl ?_
                    refine P_iald dX11_post_67 (by assumption) ⟨by omega, by omega⟩ (by first | decide | omega) ?_
                    rw [z4]
                    refine I_i2l dX11_post_68 ⟨by omega, by omega⟩ ?_
                    refine I_lcmp dX11_post_69 ⟨by omega, by omega⟩ ⟨by omega, by omega⟩ ?_
                    refine I_if_le (tgt := 76) dX11_post_70 (by decide) (cmp_R _ _) (fun h70 => ?_) (fun h70 => ?_)
                    · refine I_iconst dX11_post_76 ?_
                      refine T_istore dX11_post_77 (by decide) rfl ?_
                      exact w
                    · exact absurd (cmp_gt.mp (show 0 < cmpI (f + 3 * n) q.2.1 by omega)) (by omega)
                · omega
              · omega
            · cases h18
      · rw [if_neg hla]
        rw [show LE mX11_post [.ref 453, IV k, IV lane, IV f, IV n] = [some (.ref 453), some (IV k), some (IV lane), some (IV f), some (IV n), none, none, none] from rfl]
        refine T_iload_n dX11_post_0 rfl ?_
        refine T_iload_n dX11_post_1 rfl ?_
        refine Q_callS dX11_post_2 kX11_isSheet lX11_298 (p_R_isSheet hk hl) rfl rfl (Nat.le_of_ble_eq_true rfl) (Nat.le_of_ble_eq_true rfl) (by decide) (by decide) ?_
        rw [b2p_t hb0]
        refine I_if_eq (tgt := 21) dX11_post_5 (by decide) ⟨by omega, by omega⟩ (fun h5 => ?_) (fun h5 => ?_)
        · cases h5
        · refine T_iload dX11_post_8 rfl ?_
          refine I_i2l dX11_post_10 hn ?_
          refine I_lconst dX11_post_11 ?_
          refine I_ldc2 (n := 6) dX11_post_12 qX11_276 rfl ?_
          refine Q_callS dX11_post_15 kX11_in lX11_52 (p_in (lo := 0) ⟨by omega, by omega⟩ (by decide) (by decide)) rfl rfl (Nat.le_of_ble_eq_true rfl) (Nat.le_of_ble_eq_true rfl) (by decide) (by decide) ?_
          rw [b2p_t hin]
          refine I_if_ne (tgt := 23) dX11_post_18 (by decide) ⟨by omega, by omega⟩ (fun h18 => ?_) (fun h18 => ?_)
          · refine T_aload_n dX11_post_23 rfl rfl ?_
            refine P_getr dX11_post_24 fX11_38 (by assumption) rfl ?_
            refine T_iload_n dX11_post_27 rfl ?_
            refine P_iald dX11_post_28 (by assumption) ⟨by omega, by omega⟩ (by first | decide | omega) ?_
            rw [z2]
            refine I_bipush dX11_post_29 (by decide) ?_
            refine I_icmp_ne (tgt := 37) dX11_post_31 (by decide) ⟨by omega, by omega⟩ ⟨by omega, by omega⟩ (fun h31 => ?_) (fun h31 => ?_)
            · refine T_aload_n dX11_post_37 rfl rfl ?_
              refine P_getr dX11_post_38 fX11_38 (by assumption) rfl ?_
              refine T_iload_n dX11_post_41 rfl ?_
              refine P_iald dX11_post_42 (by assumption) ⟨by omega, by omega⟩ (by first | decide | omega) ?_
              rw [z2]
              refine T_iload_n dX11_post_43 rfl ?_
              refine I_icmp_eq (tgt := 50) dX11_post_44 (by decide) ⟨by omega, by omega⟩ hl (fun h44 => ?_) (fun h44 => ?_)
              · omega
              · refine I_bipush dX11_post_47 (by decide) ?_
                exact I_ireturn dX11_post_49 rfl ⟨_, _, rfl, RQ.here h⟩
            · omega
          · cases h18
  · have hv : postQ M k lane f n = (-1, M) := if_neg hb
    rw [hv]
    by_cases hb0 : shtB k lane
    · have hin : ¬ inB n 0 6 := fun z => hb ⟨hb0, z⟩
      rw [show LE mX11_post [.ref 453, IV k, IV lane, IV f, IV n] = [some (.ref 453), some (IV k), some (IV lane), some (IV f), some (IV n), none, none, none] from rfl]
      refine T_iload_n dX11_post_0 rfl ?_
      refine T_iload_n dX11_post_1 rfl ?_
      refine Q_callS dX11_post_2 kX11_isSheet lX11_298 (p_R_isSheet hk hl) rfl rfl (Nat.le_of_ble_eq_true rfl) (Nat.le_of_ble_eq_true rfl) (by decide) (by decide) ?_
      rw [b2p_t hb0]
      refine I_if_eq (tgt := 21) dX11_post_5 (by decide) ⟨by omega, by omega⟩ (fun h5 => ?_) (fun h5 => ?_)
      · cases h5
      · refine T_iload dX11_post_8 rfl ?_
        refine I_i2l dX11_post_10 hn ?_
        refine I_lconst dX11_post_11 ?_
        refine I_ldc2 (n := 6) dX11_post_12 qX11_276 rfl ?_
        refine Q_callS dX11_post_15 kX11_in lX11_52 (p_in (lo := 0) ⟨by omega, by omega⟩ (by decide) (by decide)) rfl rfl (Nat.le_of_ble_eq_true rfl) (Nat.le_of_ble_eq_true rfl) (by decide) (by decide) ?_
        rw [b2p_f hin]
        refine I_if_ne (tgt := 23) dX11_post_18 (by decide) ⟨by omega, by omega⟩ (fun h18 => ?_) (fun h18 => ?_)
        · exact absurd rfl h18
        · refine I_iconst dX11_post_21 ?_
          exact I_ireturn dX11_post_22 rfl ⟨_, _, rfl, RQ.here h⟩
    · rw [show LE mX11_post [.ref 453, IV k, IV lane, IV f, IV n] = [some (.ref 453), some (IV k), some (IV lane), some (IV f), some (IV n), none, none, none] from rfl]
      refine T_iload_n dX11_post_0 rfl ?_
      refine T_iload_n dX11_post_1 rfl ?_
      refine Q_callS dX11_post_2 kX11_isSheet lX11_298 (p_R_isSheet hk hl) rfl rfl (Nat.le_of_ble_eq_true rfl) (Nat.le_of_ble_eq_true rfl) (by decide) (by decide) ?_
      rw [b2p_f hb0]
      refine I_if_eq (tgt := 21) dX11_post_5 (by decide) ⟨by omega, by omega⟩ (fun h5 => ?_) (fun h5 => ?_)
      · refine I_iconst dX11_post_21 ?_
        exact I_ireturn dX11_post_22 rfl ⟨_, _, rfl, RQ.here h⟩
      · exact absurd rfl h5
end RY1
