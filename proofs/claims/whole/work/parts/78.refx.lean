/-! the reference: keep, back, sheets -/
section RX1
variable {G : GT} {K : List SH} {M : MS}
theorem img_in {k : Int} : inB k 0 1 ↔ (0 ≤ k ∧ k < 2) := ⟨fun z => ⟨z.1, by have := z.2; omega⟩, fun z => ⟨z.1, by have := z.2; omega⟩⟩
theorem l_R_keep {S : SV} {k was : Int} (h : RR K S M) (hk : 0 ≤ k ∧ k < 2) (hw : was = if (mIm M k).isSome then 1 else 0) (m : Nat) : ∀ (c : Int) (S1 : SV), 0 ≤ c → 1583 - c = m → Outs S S1 456 458 → AllR S1 → (∀ j, aI S1 457 j = if j = k then 1 else aI S 457 j) → (∀ j, 0 ≤ j → j < c → aI S1 456 (1583 * k + j) = aI S 454 j) → (∀ j, ¬ (1583 * k ≤ j ∧ j < 1583 * k + 1583) → aI S1 456 j = aI S 456 j) → P G 1 0 0 mX11_keep 31 [some (.ref 453), some (IV k), some (IV was), some (IV c)] [] K S1 (RQ K S was (mImS M (fset (mIm M) k (some (mNw M))))) := by
  have m0 := h.1.1.1
  have m1 := h.1.1.2.1
  have m3 := h.1.1.2.2.2.1
  induction m with
  | zero =>
    intro c S1 h0 hm hO hA h7 h6 h6o
    have hRR : RR K S1 (mImS M (fset (mIm M) k (some (mNw M)))) := by
      have hb : RR K S1 (mImS M (mIm M)) ∨ True := Or.inr trivial
      obtain ⟨g1, g2, g3, g4, g5, g6⟩ := h
      have e : aI S1 454 = aI S 454 := funext (fun i => hO.a (by omega) i)
      refine ⟨⟨g1.1, hA, g1.2.2.1, by rw [e]; exact g1.2.2.2.1, by rw [e]; exact g1.2.2.2.2⟩, ⟨(hO.f (by omega) 6).trans g2.1, g2.2.1, fun i a b => ⟨(hO.a (by omega) i).trans (g2.2.2 i a b).1, (g2.2.2 i a b).2⟩⟩, (hO.f (by omega) 11).trans g3, g4, fun k' a b => ?_, RSh.wo g6 (fun i => hO.a (by omega) i) (fun i => hO.a (by omega) i) (fun i => hO.a (by omega) i)⟩
      show (fset (mIm M) k (some (mNw M)) k' = none ∧ _) ∨ ∃ x, fset (mIm M) k (some (mNw M)) k' = some x ∧ _
      by_cases e2 : k' = k
      · subst e2
        have ek : ∀ i, 0 ≤ i → i < 1583 → kpF S1 k' i = aI S 454 i := fun i u v => h6 i u (by omega)
        exact Or.inr ⟨mNw M, fset_t _ _ _, by rw [h7, if_pos rfl], PlC.cg g1.2.2.2.1 g1.2.2.1 (fun i z => ek i (by omega) (by omega)), EnC.cg g1.2.2.2.2 ek, g4⟩
      · rw [fset_f _ _ e2, h7, if_neg e2]
        have ek : ∀ i, 0 ≤ i → i < 1583 → kpF S1 k' i = kpF S k' i := fun i u v => h6o _ (by omega)
        rcases g5 k' a b with q | ⟨x, q1, q2, q3, q4, q5⟩
        · exact Or.inl q
        · exact Or.inr ⟨x, q1, q2, PlC.cg q3 g1.2.2.1 (fun i z => ek i (by omega) (by omega)), EnC.cg q4 ek, q5⟩
    refine T_iload_n dX11_keep_31 rfl ?_
    refine I_sipush dX11_keep_32 (by decide) ?_
    refine I_icmp_ge (tgt := 62) dX11_keep_35 (by decide) ⟨by omega, by omega⟩ ⟨by omega, by omega⟩ (fun h35 => ?_) (fun h35 => ?_)
    · refine T_iload_n dX11_keep_62 rfl ?_
      exact I_ireturn dX11_keep_63 rfl ⟨_, _, rfl, rfl, rfl, hRR, hO.sub (by omega) (by omega)⟩
    · omega
  | succ m ih =>
    intro c S1 h0 hm hO hA h7 h6 h6o
    have e : aI S1 454 c = aI S 454 c := hO.a (by omega) c
    have w := ih (c + 1) (sA S1 456 (1583 * k + c) (aI S 454 c)) (by omega) (by omega) (hO.tr (fun x y w => Same.sA (by omega))) (hA.sA (h.1.2.1.2 _ _)) (fun j => by rw [aI_sA, if_neg (by omega)]; exact h7 j) (fun j u v => by
      rw [aI_sA]
      by_cases ej : j = c
      · rw [if_pos ⟨rfl, by omega⟩, ej]
      · rw [if_neg (fun z => ej (by omega))]
        exact h6 j u (by omega)) (fun j hj => by
      rw [aI_sA, if_neg (fun z => hj (by omega))]
      exact h6o j hj)
    refine T_iload_n dX11_keep_31 rfl ?_
    refine I_sipush dX11_keep_32 (by decide) ?_
    refine I_icmp_ge (tgt := 62) dX11_keep_35 (by decide) ⟨by omega, by omega⟩ ⟨by omega, by omega⟩ (fun h35 => ?_) (fun h35 => ?_)
    · omega
    · refine T_aload_n dX11_keep_38 rfl rfl ?_
      refine P_getr dX11_keep_39 fX11_16 (by assumption) rfl ?_
      refine I_sipush dX11_keep_42 (by decide) ?_
      refine T_iload_n dX11_keep_45 rfl ?_
      refine I_imul dX11_keep_46 ?_
      refine T_iload_n dX11_keep_47 rfl ?_
      refine I_iadd dX11_keep_48 ?_
      refine T_aload_n dX11_keep_49 rfl rfl ?_
      refine P_getr dX11_keep_50 fX11_7 (by assumption) rfl ?_
      refine T_iload_n dX11_keep_53 rfl ?_
      refine P_iald dX11_keep_54 (by assumption) ⟨by omega, by omega⟩ (by first | decide | omega) ?_
      rw [e]
      refine P_iast dX11_keep_55 (by assumption) ⟨by omega, by omega⟩ (by first | decide | omega) ?_
      refine I_iinc dX11_keep_56 rfl (by decide) rfl ?_
      refine T_goto (tgt := 31) dX11_keep_59 (by decide) ?_
      exact w
theorem p_R_keep {S : SV} {k : Int} (h : RR K S M) (hk : R32 k) : P G 1 0 0 mX11_keep 0 (LE mX11_keep [.ref 453, IV k]) [] K S (RQ K S (keepM M k).1 (keepM M k).2) := by
  have m0 := h.1.1.1
  have m4 := h.1.1.2.2.2.2.1
  unfold keepM
  by_cases a1 : 0 ≤ k ∧ k < 2
  · rw [if_pos a1]
    have e0 := keptR h a1
    have q0 : (if (mIm M k).isSome then (1 : Int) else 0) = 0 ∨ (if (mIm M k).isSome then (1 : Int) else 0) = 1 := by split; exact Or.inr rfl; exact Or.inl rfl
    have w := l_R_keep (G := G) h a1 rfl 1583 0 (sA S 457 k 1) (by omega) (by omega) (fun x y w => Same.sA (by omega)) (h.1.2.1.sA (by decide)) (fun j => by
      rw [aI_sA]
      by_cases e : j = k
      · rw [if_pos ⟨rfl, e⟩, if_pos e]
      · rw [if_neg (fun z => e z.2), if_neg e]) (fun j u v => by omega) (fun j hj => by rw [aI_sA, if_neg (by omega)])
    rw [show LE mX11_keep [.ref 453, IV k] = [some (.ref 453), some (IV k), none, none] from rfl]
    refine T_iload_n dX11_keep_0 rfl ?_
    refine I_i2l dX11_keep_1 hk ?_
    refine I_lconst dX11_keep_2 ?_
    refine I_lconst dX11_keep_3 ?_
    refine Q_callS dX11_keep_4 kX11_in lX11_52 (p_in (lo := 0) (hi := 1) ⟨by omega, by omega⟩ (by decide) (by decide)) rfl rfl (Nat.le_of_ble_eq_true rfl) (Nat.le_of_ble_eq_true rfl) (by decide) (by decide) ?_
    rw [b2p_t (img_in.mpr a1)]
    refine I_if_ne (tgt := 12) dX11_keep_7 (by decide) ⟨by omega, by omega⟩ (fun h7 => ?_) (fun h7 => ?_)
    · refine T_aload_n dX11_keep_12 rfl rfl ?_
      refine P_getr dX11_keep_13 fX11_19 (by assumption) rfl ?_
      refine T_iload_n dX11_keep_16 rfl ?_
      refine P_zald dX11_keep_17 (by assumption) ⟨by omega, by omega⟩ (by first | decide | omega) ?_
      rw [e0]
      refine Q_callS dX11_keep_18 kX11_flag lX11_104 (p_flag q0) rfl rfl (Nat.le_of_ble_eq_true rfl) (Nat.le_of_ble_eq_true rfl) (by decide) (by decide) ?_
      refine T_istore_n dX11_keep_21 (by decide) rfl ?_
      refine T_aload_n dX11_keep_22 rfl rfl ?_
      refine P_getr dX11_keep_23 fX11_19 (by assumption) rfl ?_
      refine T_iload_n dX11_keep_26 rfl ?_
      refine I_iconst dX11_keep_27 ?_
      refine P_zast dX11_keep_28 (by assumption) ⟨by omega, by omega⟩ (by first | decide | omega) (Or.inr rfl) ?_
      refine I_iconst dX11_keep_29 ?_
      refine T_istore_n dX11_keep_30 (by decide) rfl ?_
      exact w
    · cases h7
  · rw [if_neg a1]
    rw [show LE mX11_keep [.ref 453, IV k] = [some (.ref 453), some (IV k), none, none] from rfl]
    refine T_iload_n dX11_keep_0 rfl ?_
    refine I_i2l dX11_keep_1 hk ?_
    refine I_lconst dX11_keep_2 ?_
    refine I_lconst dX11_keep_3 ?_
    refine Q_callS dX11_keep_4 kX11_in lX11_52 (p_in (lo := 0) (hi := 1) ⟨by omega, by omega⟩ (by decide) (by decide)) rfl rfl (Nat.le_of_ble_eq_true rfl) (Nat.le_of_ble_eq_true rfl) (by decide) (by decide) ?_
    rw [b2p_f (fun z => a1 (img_in.mp z))]
    refine I_if_ne (tgt := 12) dX11_keep_7 (by decide) ⟨by omega, by omega⟩ (fun h7 => ?_) (fun h7 => ?_)
    · exact absurd rfl h7
    · refine I_iconst dX11_keep_10 ?_
      exact I_ireturn dX11_keep_11 rfl ⟨_, _, rfl, RQ.here h⟩
theorem l_R_back {S : SV} {k : Int} {x : RND} (h : RR K S M) (hk : 0 ≤ k ∧ k < 2) (hx : mIm M k = some x) (m : Nat) : ∀ (c : Int) (S1 : SV), 0 ≤ c → 1583 - c = m → Wr S S1 → AllR S1 → (∀ j, 0 ≤ j → j < c → aI S1 454 j = kpF S k j) → P G 1 0 0 mX11_back 26 [some (.ref 453), some (IV k), some (IV c)] [] K S1 (RQ K S x.2.length (mNwS M x)) := by
  have m0 := h.1.1.1
  have m1 := h.1.1.2.1
  have m3 := h.1.1.2.2.2.1
  have hI : PlC (kpF S k) (mPl M) ∧ EnC (kpF S k) x.1 x.2 ∧ ∀ r ∈ x.2, MkOk (mPl M) r := by
    rcases h.2.2.2.2.1 k hk.1 hk.2 with ⟨z, -⟩ | ⟨y, z, -, z1, z2, z3⟩
    · rw [hx] at z; cases z
    · rw [hx] at z; injection z with z; subst z; exact ⟨z1, z2, z3⟩
  induction m with
  | zero =>
    intro c S1 h0 hm hW hA hf
    have ek : ∀ i, 0 ≤ i → i < 1583 → aI S1 454 i = kpF S k i := fun i u v => hf i u (by omega)
    have hR : RS K S1 (mPl M) x.1 x.2 := ⟨h.1.1, hA, h.1.2.2.1, PlC.cg hI.1 h.1.2.2.1 (fun i z => ek i (by omega) (by omega)), EnC.cg hI.2.1 ek⟩
    have hRR := h.now hW.o hR hI.2.2
    have e4 := hR.n4
    refine T_iload_n dX11_back_26 rfl ?_
    refine I_sipush dX11_back_27 (by decide) ?_
    refine I_icmp_ge (tgt := 57) dX11_back_30 (by decide) ⟨by omega, by omega⟩ ⟨by omega, by omega⟩ (fun h30 => ?_) (fun h30 => ?_)
    · refine T_aload_n dX11_back_57 rfl rfl ?_
      refine P_getr dX11_back_58 fX11_7 (by assumption) rfl ?_
      refine I_iconst dX11_back_61 ?_
      refine P_iald dX11_back_62 (by assumption) ⟨by omega, by omega⟩ (by first | decide | omega) ?_
      rw [e4]
      exact I_ireturn dX11_back_63 rfl ⟨_, _, rfl, rfl, rfl, hRR, hW.o.outs⟩
    · omega
  | succ m ih =>
    intro c S1 h0 hm hW hA hf
    have e : aI S1 456 (1583 * k + c) = kpF S k c := hW.a (by omega) _
    have w := ih (c + 1) (sA S1 454 c (kpF S k c)) (by omega) (by omega) (hW.tr (Wr.sA (Or.inl rfl))) (hA.sA (h.1.2.1.2 _ _)) (fun j u v => by
      rw [aI_sA]
      by_cases ej : j = c
      · rw [if_pos ⟨rfl, ej⟩, ej]
      · rw [if_neg (fun z => ej z.2)]
        exact hf j u (by omega))
    refine T_iload_n dX11_back_26 rfl ?_
    refine I_sipush dX11_back_27 (by decide) ?_
    refine I_icmp_ge (tgt := 57) dX11_back_30 (by decide) ⟨by omega, by omega⟩ ⟨by omega, by omega⟩ (fun h30 => ?_) (fun h30 => ?_)
    · omega
    · refine T_aload_n dX11_back_33 rfl rfl ?_
      refine P_getr dX11_back_34 fX11_7 (by assumption) rfl ?_
      refine T_iload_n dX11_back_37 rfl ?_
      refine T_aload_n dX11_back_38 rfl rfl ?_
      refine P_getr dX11_back_39 fX11_16 (by assumption) rfl ?_
      refine I_sipush dX11_back_42 (by decide) ?_
      refine T_iload_n dX11_back_45 rfl ?_
      refine I_imul dX11_back_46 ?_
      refine T_iload_n dX11_back_47 rfl ?_
      refine I_iadd dX11_back_48 ?_
      refine P_iald dX11_back_49 (by assumption) ⟨by omega, by omega⟩ (by first | decide | omega) ?_
      rw [e]
      refine P_iast dX11_back_50 (by assumption) ⟨by omega, by omega⟩ (by first | decide | omega) ?_
      refine I_iinc dX11_back_51 rfl (by decide) rfl ?_
      refine T_goto (tgt := 26) dX11_back_54 (by decide) ?_
      exact w
theorem p_R_back {S : SV} {k : Int} (h : RR K S M) (hk : R32 k) : P G 1 0 0 mX11_back 0 (LE mX11_back [.ref 453, IV k]) [] K S (RQ K S (backM M k).1 (backM M k).2) := by
  have m0 := h.1.1.1
  have m4 := h.1.1.2.2.2.2.1
  unfold backM
  by_cases a1 : 0 ≤ k ∧ k < 2
  · rw [if_pos a1]
    have e0 := keptR h a1
    cases hx : mIm M k with
    | none =>
      rw [hx] at e0
      have e0 : aI S 457 k = 0 := e0
      rw [show LE mX11_back [.ref 453, IV k] = [some (.ref 453), some (IV k), none] from rfl]
      refine T_iload_n dX11_back_0 rfl ?_
      refine I_i2l dX11_back_1 hk ?_
      refine I_lconst dX11_back_2 ?_
      refine I_lconst dX11_back_3 ?_
      refine Q_callS dX11_back_4 kX11_in lX11_52 (p_in (lo := 0) (hi := 1) ⟨by omega, by omega⟩ (by decide) (by decide)) rfl rfl (Nat.le_of_ble_eq_true rfl) (Nat.le_of_ble_eq_true rfl) (by decide) (by decide) ?_
      rw [b2p_t (img_in.mpr a1)]
      refine I_if_ne (tgt := 12) dX11_back_7 (by decide) ⟨by omega, by omega⟩ (fun h7 => ?_) (fun h7 => ?_)
      · refine T_aload_n dX11_back_12 rfl rfl ?_
        refine P_getr dX11_back_13 fX11_19 (by assumption) rfl ?_
        refine T_iload_n dX11_back_16 rfl ?_
        refine P_zald dX11_back_17 (by assumption) ⟨by omega, by omega⟩ (by first | decide | omega) ?_
        rw [e0]
        refine I_if_ne (tgt := 24) dX11_back_18 (by decide) ⟨by omega, by omega⟩ (fun h18 => ?_) (fun h18 => ?_)
        · exact absurd rfl h18
        · refine I_bipush dX11_back_21 (by decide) ?_
          exact I_ireturn dX11_back_23 rfl ⟨_, _, rfl, RQ.here h⟩
      · cases h7
    | some x =>
      rw [hx] at e0
      have e0 : aI S 457 k = 1 := e0
      have w := l_R_back (G := G) h a1 hx 1583 0 S (by omega) (by omega) Wr.rf h.1.2.1 (fun j u v => by omega)
      rw [show LE mX11_back [.ref 453, IV k] = [some (.ref 453), some (IV k), none] from rfl]
      refine T_iload_n dX11_back_0 rfl ?_
      refine I_i2l dX11_back_1 hk ?_
      refine I_lconst dX11_back_2 ?_
      refine I_lconst dX11_back_3 ?_
      refine Q_callS dX11_back_4 kX11_in lX11_52 (p_in (lo := 0) (hi := 1) ⟨by omega, by omega⟩ (by decide) (by decide)) rfl rfl (Nat.le_of_ble_eq_true rfl) (Nat.le_of_ble_eq_true rfl) (by decide) (by decide) ?_
      rw [b2p_t (img_in.mpr a1)]
      refine I_if_ne (tgt := 12) dX11_back_7 (by decide) ⟨by omega, by omega⟩ (fun h7 => ?_) (fun h7 => ?_)
      · refine T_aload_n dX11_back_12 rfl rfl ?_
        refine P_getr dX11_back_13 fX11_19 (by assumption) rfl ?_
        refine T_iload_n dX11_back_16 rfl ?_
        refine P_zald dX11_back_17 (by assumption) ⟨by omega, by omega⟩ (by first | decide | omega) ?_
        rw [e0]
        refine I_if_ne (tgt := 24) dX11_back_18 (by decide) ⟨by omega, by omega⟩ (fun h18 => ?_) (fun h18 => ?_)
        · refine I_iconst dX11_back_24 ?_
          refine T_istore_n dX11_back_25 (by decide) rfl ?_
          exact w
        · cases h18
      · cases h7
  · rw [if_neg a1]
    rw [show LE mX11_back [.ref 453, IV k] = [some (.ref 453), some (IV k), none] from rfl]
    refine T_iload_n dX11_back_0 rfl ?_
    refine I_i2l dX11_back_1 hk ?_
    refine I_lconst dX11_back_2 ?_
    refine I_lconst dX11_back_3 ?_
    refine Q_callS dX11_back_4 kX11_in lX11_52 (p_in (lo := 0) (hi := 1) ⟨by omega, by omega⟩ (by decide) (by decide)) rfl rfl (Nat.le_of_ble_eq_true rfl) (Nat.le_of_ble_eq_true rfl) (by decide) (by decide) ?_
    rw [b2p_f (fun z => a1 (img_in.mp z))]
    refine I_if_ne (tgt := 12) dX11_back_7 (by decide) ⟨by omega, by omega⟩ (fun h7 => ?_) (fun h7 => ?_)
    · exact absurd rfl h7
    · refine I_iconst dX11_back_10 ?_
      exact I_ireturn dX11_back_11 rfl ⟨_, _, rfl, RQ.here h⟩
def shtB (k lane : Int) : Prop := (0 ≤ k ∧ k < 4) ∧ (lane = 0 ∨ lane = 1)
theorem p_R_isSheet {S : SV} {k lane : Int} (hk : R32 k) (hl : R32 lane) : P G 1 0 0 mX11_isSheet 0 (LE mX11_isSheet [IV k, IV lane]) [] K S (Ret K (some (IV (b2p (shtB k lane)))) S) := by
  by_cases h1 : inB k 0 3
  · by_cases h2 : inB lane 0 1
    · have hq : b2p (shtB k lane) = 1 := b2p_t ⟨⟨h1.1, by have := h1.2; omega⟩, by have := h2.1; have := h2.2; omega⟩
      rw [show LE mX11_isSheet [IV k, IV lane] = [some (IV k), some (IV lane)] from rfl]
      refine T_iload_n dX11_isSheet_0 rfl ?_
      refine I_i2l dX11_isSheet_1 hk ?_
      refine I_lconst dX11_isSheet_2 ?_
      refine I_ldc2 (n := 3) dX11_isSheet_3 qX11_195 rfl ?_
      refine Q_callS dX11_isSheet_6 kX11_in lX11_52 (p_in (lo := 0) ⟨by omega, by omega⟩ (by decide) (by decide)) rfl rfl (Nat.le_of_ble_eq_true rfl) (Nat.le_of_ble_eq_true rfl) (by decide) (by decide) ?_
      rw [b2p_t h1]
      refine I_if_eq (tgt := 26) dX11_isSheet_9 (by decide) ⟨by omega, by omega⟩ (fun h9 => ?_) (fun h9 => ?_)
      · cases h9
      · refine T_iload_n dX11_isSheet_12 rfl ?_
        refine I_i2l dX11_isSheet_13 hl ?_
        refine I_lconst dX11_isSheet_14 ?_
        refine I_lconst dX11_isSheet_15 ?_
        refine Q_callS dX11_isSheet_16 kX11_in lX11_52 (p_in (lo := 0) (hi := 1) ⟨by omega, by omega⟩ (by decide) (by decide)) rfl rfl (Nat.le_of_ble_eq_true rfl) (Nat.le_of_ble_eq_true rfl) (by decide) (by decide) ?_
        rw [b2p_t h2]
        refine I_if_eq (tgt := 26) dX11_isSheet_19 (by decide) ⟨by omega, by omega⟩ (fun h19 => ?_) (fun h19 => ?_)
        · cases h19
        · refine I_iconst dX11_isSheet_22 ?_
          refine T_goto (tgt := 27) dX11_isSheet_23 (by decide) ?_
          exact I_zreturn dX11_isSheet_27 rfl (by decide) ⟨_, _, rfl, by rw [hq], rfl, rfl⟩
    · have hq : b2p (shtB k lane) = 0 := b2p_f (fun z => h2 ⟨by have := z.2; omega, by have := z.2; omega⟩)
      rw [show LE mX11_isSheet [IV k, IV lane] = [some (IV k), some (IV lane)] from rfl]
      refine T_iload_n dX11_isSheet_0 rfl ?_
      refine I_i2l dX11_isSheet_1 hk ?_
      refine I_lconst dX11_isSheet_2 ?_
      refine I_ldc2 (n := 3) dX11_isSheet_3 qX11_195 rfl ?_
      refine Q_callS dX11_isSheet_6 kX11_in lX11_52 (p_in (lo := 0) ⟨by omega, by omega⟩ (by decide) (by decide)) rfl rfl (Nat.le_of_ble_eq_true rfl) (Nat.le_of_ble_eq_true rfl) (by decide) (by decide) ?_
      rw [b2p_t h1]
      refine I_if_eq (tgt := 26) dX11_isSheet_9 (by decide) ⟨by omega, by omega⟩ (fun h9 => ?_) (fun h9 => ?_)
      · cases h9
      · refine T_iload_n dX11_isSheet_12 rfl ?_
        refine I_i2l dX11_isSheet_13 hl ?_
        refine I_lconst dX11_isSheet_14 ?_
        refine I_lconst dX11_isSheet_15 ?_
        refine Q_callS dX11_isSheet_16 kX11_in lX11_52 (p_in (lo := 0) (hi := 1) ⟨by omega, by omega⟩ (by decide) (by decide)) rfl rfl (Nat.le_of_ble_eq_true rfl) (Nat.le_of_ble_eq_true rfl) (by decide) (by decide) ?_
        rw [b2p_f h2]
        refine I_if_eq (tgt := 26) dX11_isSheet_19 (by decide) ⟨by omega, by omega⟩ (fun h19 => ?_) (fun h19 => ?_)
        · refine I_iconst dX11_isSheet_26 ?_
          exact I_zreturn dX11_isSheet_27 rfl (by decide) ⟨_, _, rfl, by rw [hq], rfl, rfl⟩
        · exact absurd rfl h19
  · have hq : b2p (shtB k lane) = 0 := b2p_f (fun z => h1 ⟨z.1.1, by have := z.1.2; omega⟩)
    rw [show LE mX11_isSheet [IV k, IV lane] = [some (IV k), some (IV lane)] from rfl]
    refine T_iload_n dX11_isSheet_0 rfl ?_
    refine I_i2l dX11_isSheet_1 hk ?_
    refine I_lconst dX11_isSheet_2 ?_
    refine I_ldc2 (n := 3) dX11_isSheet_3 qX11_195 rfl ?_
    refine Q_callS dX11_isSheet_6 kX11_in lX11_52 (p_in (lo := 0) ⟨by omega, by omega⟩ (by decide) (by decide)) rfl rfl (Nat.le_of_ble_eq_true rfl) (Nat.le_of_ble_eq_true rfl) (by decide) (by decide) ?_
    rw [b2p_f h1]
    refine I_if_eq (tgt := 26) dX11_isSheet_9 (by decide) ⟨by omega, by omega⟩ (fun h9 => ?_) (fun h9 => ?_)
    · refine I_iconst dX11_isSheet_26 ?_
      exact I_zreturn dX11_isSheet_27 rfl (by decide) ⟨_, _, rfl, by rw [hq], rfl, rfl⟩
    · exact absurd rfl h9
noncomputable def sheetQ (M : MS) (k lane n : Int) : Int × MS := @ite _ (shtB k lane ∧ n ≤ 40) (Classical.propDecidable _) (if n < 0 then (-14, M) else (1, mShS M (fset (mSh M) k (some (lane, n, fun _ => 0))))) (-1, M)
theorem l_R_sheet {S : SV} {k lane n : Int} (h : RR K S M) (hk : 0 ≤ k ∧ k < 4) (hl : lane = 0 ∨ lane = 1) (hn : 0 ≤ n ∧ n ≤ 40) (m : Nat) : ∀ (c : Int) (S1 : SV), 0 ≤ c → 40 - c = m → Outs S S1 463 466 → AllR S1 → (∀ j, aI S1 463 j = if j = k then lane else aI S 463 j) → (∀ j, aI S1 464 j = if j = k then n else aI S 464 j) → (∀ j, 0 ≤ j → j < c → aI S1 465 (40 * k + j) = 0) → (∀ j, ¬ (40 * k ≤ j ∧ j < 40 * k + 40) → aI S1 465 j = aI S 465 j) → P G 1 0 0 mX11_sheet 40 [some (.ref 453), some (IV k), some (IV lane), some (IV n), some (IV c)] [] K S1 (RQ K S 1 (mShS M (fset (mSh M) k (some (lane, n, fun _ => 0))))) := by
  have m0 := h.1.1.1
  have m12 := h.1.1.2.2.2.2.2.2.2.2.2.2.2.2
  induction m with
  | zero =>
    intro c S1 h0 hm hO hA h3 h4 h5 h5o
    have hRR : RR K S1 (mShS M (fset (mSh M) k (some (lane, n, fun _ => 0)))) := by
      obtain ⟨g1, g2, g3, g4, g5, g6⟩ := h
      have e : aI S1 454 = aI S 454 := funext (fun i => hO.a (by omega) i)
      refine ⟨⟨g1.1, hA, g1.2.2.1, by rw [e]; exact g1.2.2.2.1, by rw [e]; exact g1.2.2.2.2⟩, ⟨(hO.f (by omega) 6).trans g2.1, g2.2.1, fun i a b => ⟨(hO.a (by omega) i).trans (g2.2.2 i a b).1, (g2.2.2 i a b).2⟩⟩, (hO.f (by omega) 11).trans g3, g4, RIm.wo g5 (fun i => hO.a (by omega) i) (fun i => hO.a (by omega) i), fun k' a b => ?_⟩
      show (fset (mSh M) k (some (lane, n, fun _ => 0)) k' = none ∧ _) ∨ ∃ q, fset (mSh M) k (some (lane, n, fun _ => 0)) k' = some q ∧ _
      rw [h3, h4]
      by_cases e2 : k' = k
      · subst e2
        refine Or.inr ⟨(lane, n, fun _ => 0), fset_t _ _ _, if_pos rfl, hl, if_pos rfl, hn, fun i u v => h5 i u (by have v : i < n := v; omega)⟩
      · rw [fset_f _ _ e2, if_neg e2, if_neg e2]
        rcases g6 k' a b with q | ⟨q, q1, q2, q3, q4, q5, q6⟩
        · exact Or.inl q
        · exact Or.inr ⟨q, q1, q2, q3, q4, q5, fun i u v => (h5o _ (by omega)).trans (q6 i u v)⟩
    refine T_iload dX11_sheet_40 rfl ?_
    refine I_bipush dX11_sheet_42 (by decide) ?_
    refine I_icmp_ge (tgt := 66) dX11_sheet_44 (by decide) ⟨by omega, by omega⟩ ⟨by omega, by omega⟩ (fun h44 => ?_) (fun h44 => ?_)
    · refine I_iconst dX11_sheet_66 ?_
      exact I_ireturn dX11_sheet_67 rfl ⟨_, _, rfl, rfl, rfl, hRR, hO.sub (by omega) (by omega)⟩
    · omega
  | succ m ih =>
    intro c S1 h0 hm hO hA h3 h4 h5 h5o
    have w := ih (c + 1) (sA S1 465 (40 * k + c) 0) (by omega) (by omega) (hO.tr (fun x y w => Same.sA (by omega))) (hA.sA (by decide)) (fun j => by rw [aI_sA, if_neg (by omega)]; exact h3 j) (fun j => by rw [aI_sA, if_neg (by omega)]; exact h4 j) (fun j u v => by
      rw [aI_sA]
      by_cases ej : j = c
      · rw [if_pos ⟨rfl, by omega⟩]
      · rw [if_neg (fun z => ej (by omega))]
        exact h5 j u (by omega)) (fun j hj => by
      rw [aI_sA, if_neg (fun z => hj (by omega))]
      exact h5o j hj)
    refine T_iload dX11_sheet_40 rfl ?_
    refine I_bipush dX11_sheet_42 (by decide) ?_
    refine I_icmp_ge (tgt := 66) dX11_sheet_44 (by decide) ⟨by omega, by omega⟩ ⟨by omega, by omega⟩ (fun h44 => ?_) (fun h44 => ?_)
    · omega
    · refine T_aload_n dX11_sheet_47 rfl rfl ?_
      refine P_getr dX11_sheet_48 fX11_44 (by assumption) rfl ?_
      refine I_bipush dX11_sheet_51 (by decide) ?_
      refine T_iload_n dX11_sheet_53 rfl ?_
      refine I_imul dX11_sheet_54 ?_
      refine T_iload dX11_sheet_55 rfl ?_
      refine I_iadd dX11_sheet_57 ?_
      refine I_iconst dX11_sheet_58 ?_
      refine P_iast dX11_sheet_59 (by assumption) ⟨by omega, by omega⟩ (by first | decide | omega) ?_
      refine I_iinc dX11_sheet_60 rfl (by decide) rfl ?_
      refine T_goto (tgt := 40) dX11_sheet_63 (by decide) ?_
      exact w
theorem p_R_sheet {S : SV} {k lane n : Int} (h : RR K S M) (hk : R32 k) (hl : R32 lane) (hn : R32 n) : P G 2 0 0 mX11_sheet 0 (LE mX11_sheet [.ref 453, IV k, IV lane, IV n]) [] K S (RQ K S (sheetQ M k lane n).1 (sheetQ M k lane n).2) := by
  have m0 := h.1.1.1
  have m10 := h.1.1.2.2.2.2.2.2.2.2.2.2.1
  have m11 := h.1.1.2.2.2.2.2.2.2.2.2.2.2.1
  by_cases hb : shtB k lane ∧ n ≤ 40
  · have hv : sheetQ M k lane n = if n < 0 then (-14, M) else (1, mShS M (fset (mSh M) k (some (lane, n, fun _ => 0)))) := if_pos hb
    rw [hv]
    obtain ⟨hb0, hb1⟩ := hb
    by_cases hn0 : n < 0
    · rw [if_pos hn0]
      rw [show LE mX11_sheet [.ref 453, IV k, IV lane, IV n] = [some (.ref 453), some (IV k), some (IV lane), some (IV n), none] from rfl]
      refine T_iload_n dX11_sheet_0 rfl ?_
      refine T_iload_n dX11_sheet_1 rfl ?_
      refine Q_callS dX11_sheet_2 kX11_isSheet lX11_298 (p_R_isSheet hk hl) rfl rfl (Nat.le_of_ble_eq_true rfl) (Nat.le_of_ble_eq_true rfl) (by decide) (by decide) ?_
      rw [b2p_t hb0]
      refine I_if_eq (tgt := 14) dX11_sheet_5 (by decide) ⟨by omega, by omega⟩ (fun h5 => ?_) (fun h5 => ?_)
      · cases h5
      · refine T_iload_n dX11_sheet_8 rfl ?_
        refine I_bipush dX11_sheet_9 (by decide) ?_
        refine I_icmp_le (tgt := 16) dX11_sheet_11 (by decide) hn ⟨by omega, by omega⟩ (fun h11 => ?_) (fun h11 => ?_)
        · refine T_iload_n dX11_sheet_16 rfl ?_
          refine I_if_ge (tgt := 23) dX11_sheet_17 (by decide) hn (fun h17 => ?_) (fun h17 => ?_)
          · omega
          · refine I_bipush dX11_sheet_20 (by decide) ?_
            exact I_ireturn dX11_sheet_22 rfl ⟨_, _, rfl, RQ.here h⟩
        · omega
    · rw [if_neg hn0]
      obtain ⟨⟨k0, k1⟩, hl2⟩ := id hb0
      have w := l_R_sheet (G := G) h ⟨k0, k1⟩ hl2 ⟨by omega, hb1⟩ 40 0 (sA (sA S 463 k lane) 464 k n) (by omega) (by omega) (fun x y w => (Same.sA (by omega)).tr (Same.sA (by omega))) ((h.1.2.1.sA hl).sA hn) (fun j => by
        rw [aI_sA, if_neg (by omega), aI_sA]
        by_cases e : j = k
        · rw [if_pos ⟨rfl, e⟩, if_pos e]
        · rw [if_neg (fun z => e z.2), if_neg e]) (fun j => by
        rw [aI_sA]
        by_cases e : j = k
        · rw [if_pos ⟨rfl, e⟩, if_pos e]
        · rw [if_neg (fun z => e z.2), if_neg e, aI_sA, if_neg (by omega)]) (fun j u v => by omega) (fun j hj => by rw [aI_sA, if_neg (by omega), aI_sA, if_neg (by omega)])
      rw [show LE mX11_sheet [.ref 453, IV k, IV lane, IV n] = [some (.ref 453), some (IV k), some (IV lane), some (IV n), none] from rfl]
      refine T_iload_n dX11_sheet_0 rfl ?_
      refine T_iload_n dX11_sheet_1 rfl ?_
      refine Q_callS dX11_sheet_2 kX11_isSheet lX11_298 (p_R_isSheet hk hl) rfl rfl (Nat.le_of_ble_eq_true rfl) (Nat.le_of_ble_eq_true rfl) (by decide) (by decide) ?_
      rw [b2p_t hb0]
      refine I_if_eq (tgt := 14) dX11_sheet_5 (by decide) ⟨by omega, by omega⟩ (fun h5 => ?_) (fun h5 => ?_)
      · cases h5
      · refine T_iload_n dX11_sheet_8 rfl ?_
        refine I_bipush dX11_sheet_9 (by decide) ?_
        refine I_icmp_le (tgt := 16) dX11_sheet_11 (by decide) hn ⟨by omega, by omega⟩ (fun h11 => ?_) (fun h11 => ?_)
        · refine T_iload_n dX11_sheet_16 rfl ?_
          refine I_if_ge (tgt := 23) dX11_sheet_17 (by decide) hn (fun h17 => ?_) (fun h17 => ?_)
          · refine T_aload_n dX11_sheet_23 rfl rfl ?_
            refine P_getr dX11_sheet_24 fX11_38 (by assumption) rfl ?_
            refine T_iload_n dX11_sheet_27 rfl ?_
            refine T_iload_n dX11_sheet_28 rfl ?_
            refine P_iast dX11_sheet_29 (by assumption) ⟨by omega, by omega⟩ (by first | decide | omega) ?_
            refine T_aload_n dX11_sheet_30 rfl rfl ?_
            refine P_getr dX11_sheet_31 fX11_41 (by assumption) rfl ?_
            refine T_iload_n dX11_sheet_34 rfl ?_
            refine T_iload_n dX11_sheet_35 rfl ?_
            refine P_iast dX11_sheet_36 (by assumption) ⟨by omega, by omega⟩ (by first | decide | omega) ?_
            refine I_iconst dX11_sheet_37 ?_
            refine T_istore dX11_sheet_38 (by decide) rfl ?_
            exact P.depth w (by omega)
          · omega
        · omega
  · have hv : sheetQ M k lane n = (-1, M) := if_neg hb
    rw [hv]
    by_cases hb0 : shtB k lane
    · rw [show LE mX11_sheet [.ref 453, IV k, IV lane, IV n] = [some (.ref 453), some (IV k), some (IV lane), some (IV n), none] from rfl]
      refine T_iload_n dX11_sheet_0 rfl ?_
      refine T_iload_n dX11_sheet_1 rfl ?_
      refine Q_callS dX11_sheet_2 kX11_isSheet lX11_298 (p_R_isSheet hk hl) rfl rfl (Nat.le_of_ble_eq_true rfl) (Nat.le_of_ble_eq_true rfl) (by decide) (by decide) ?_
      rw [b2p_t hb0]
      refine I_if_eq (tgt := 14) dX11_sheet_5 (by decide) ⟨by omega, by omega⟩ (fun h5 => ?_) (fun h5 => ?_)
      · cases h5
      · refine T_iload_n dX11_sheet_8 rfl ?_
        refine I_bipush dX11_sheet_9 (by decide) ?_
        refine I_icmp_le (tgt := 16) dX11_sheet_11 (by decide) hn ⟨by omega, by omega⟩ (fun h11 => ?_) (fun h11 => ?_)
        · exact absurd ⟨hb0, by omega⟩ hb
        · refine I_iconst dX11_sheet_14 ?_
          exact I_ireturn dX11_sheet_15 rfl ⟨_, _, rfl, RQ.here h⟩
    · rw [show LE mX11_sheet [.ref 453, IV k, IV lane, IV n] = [some (.ref 453), some (IV k), some (IV lane), some (IV n), none] from rfl]
      refine T_iload_n dX11_sheet_0 rfl ?_
      refine T_iload_n dX11_sheet_1 rfl ?_
      refine Q_callS dX11_sheet_2 kX11_isSheet lX11_298 (p_R_isSheet hk hl) rfl rfl (Nat.le_of_ble_eq_true rfl) (Nat.le_of_ble_eq_true rfl) (by decide) (by decide) ?_
      rw [b2p_f hb0]
      refine I_if_eq (tgt := 14) dX11_sheet_5 (by decide) ⟨by omega, by omega⟩ (fun h5 => ?_) (fun h5 => ?_)
      · refine I_iconst dX11_sheet_14 ?_
        exact I_ireturn dX11_sheet_15 rfl ⟨_, _, rfl, RQ.here h⟩
      · exact absurd rfl h5
end RX1
