/-! the class: draw -/
theorem ex_sd (s : Int) : ∃ z : Int, z = (iv s * (1103515245 : Int32) + iv 12345).toInt := ⟨_, rfl⟩
noncomputable def sdM (s : Int) : Int := Classical.choose (ex_sd s)
theorem sdM_eq (s : Int) : sdM s = (iv s * (1103515245 : Int32) + iv 12345).toInt := Classical.choose_spec (ex_sd s)
theorem ex_got (s : Int) : ∃ z : Int, z = (ush (iv s) (iv 16) &&& iv 32767).toInt := ⟨_, rfl⟩
noncomputable def gotM (s : Int) : Int := Classical.choose (ex_got s)
theorem gotM_eq (s : Int) : gotM s = (ush (iv s) (iv 16) &&& iv 32767).toInt := Classical.choose_spec (ex_got s)
theorem gotM_b (s : Int) : 0 ≤ gotM s ∧ gotM s < 32768 := by
  have h : nn (ush (iv s) (iv 16) &&& iv 32767) ≤ 32767 := by
    rw [nn_and]
    exact Nat.and_le_right
  have e : gotM s = (nn (ush (iv s) (iv 16) &&& iv 32767) : Int) := by
    rw [gotM_eq]
    show (ush (iv s) (iv 16) &&& iv 32767).toBitVec.toInt = _
    rw [BitVec.toInt_eq_toNat_of_lt (by have h2 : (ush (iv s) (iv 16) &&& iv 32767).toBitVec.toNat ≤ 32767 := h; omega)]
    rfl
  rw [e]
  omega
noncomputable def drawL (p : PL) : Nat → Int → Int → RND → Int × RND
  | 0, _, k, x => (k, x)
  | m + 1, s, k, x => drawL p m (sdM (sdM (sdM s))) (k + if 0 ≤ (sendM p x (gotM (sdM s) % pHs p) (gotM (sdM (sdM s)) % 32) (gotM (sdM (sdM (sdM s))) % 32)).1 then 1 else 0) (sendM p x (gotM (sdM s) % pHs p) (gotM (sdM (sdM s)) % 32) (gotM (sdM (sdM (sdM s))) % 32)).2
noncomputable def drawQ (M : MS) (s n : Int) : Int × MS := if 1 ≤ n ∧ n ≤ 10 then (if pHs (mPl M) < 1 then (-2, M) else ((drawL (mPl M) n.toNat s 0 (mNw M)).1, mNwS M (drawL (mPl M) n.toNat s 0 (mNw M)).2)) else (-1, M)
section WDR
variable {G : GT} {K : List SH} {N : Int}
theorem p_nextSeed {S : SV} {s : Int} : P G 0 0 0 mX10_nextSeed 0 (LE mX10_nextSeed [IV s]) [] K S (Ret K (some (IV (sdM s))) S) := by
  rw [show LE mX10_nextSeed [IV s] = [some (IV s)] from rfl]
  refine T_iload_n dX10_nextSeed_0 rfl ?_
  refine T_ldcw dX10_nextSeed_1 qX10_259 ?_
  refine T_imul dX10_nextSeed_4 ?_
  refine I_sipush dX10_nextSeed_5 (by decide) ?_
  refine T_iadd dX10_nextSeed_8 ?_
  rw [show iv s * (1103515245 : Int32) + iv 12345 = iv (sdM s) by rw [sdM_eq, iv_of]]
  exact I_ireturn dX10_nextSeed_9 rfl ⟨_, _, rfl, rfl, rfl, rfl⟩
theorem p_got {S : SV} {s : Int} : P G 0 0 0 mX10_got 0 (LE mX10_got [IV s]) [] K S (Ret K (some (IV (gotM s))) S) := by
  rw [show LE mX10_got [IV s] = [some (IV s)] from rfl]
  refine T_iload_n dX10_got_0 rfl ?_
  refine I_bipush dX10_got_1 (by decide) ?_
  refine T_iushr dX10_got_3 rfl ?_
  refine I_sipush dX10_got_4 (by decide) ?_
  refine T_iand dX10_got_7 ?_
  rw [show ush (iv s) (iv 16) &&& iv 32767 = iv (gotM s) by rw [gotM_eq, iv_of]]
  exact I_ireturn dX10_got_8 rfl ⟨_, _, rfl, rfl, rfl, rfl⟩
theorem l_W_draw {n s0 : Int} (hn : n ≤ 10) (m : Nat) : ∀ (i k s : Int) (S : SV) (M : MS) (N : Int), 0 ≤ i → n - i = m → (0 ≤ k ∧ k ≤ i) → 1 ≤ pHs (mPl M) → WR K S M N → N + 2 * m ≤ 1000000000 → P G 4 0 0 mX10_draw 35 [some (.ref 0), some (IV s0), some (IV n), some (IV s), some (IV k), some (IV i), none, none, none] [] K S (WQ K S (drawL (mPl M) m s k (mNw M)).1 (mNwS M (drawL (mPl M) m s k (mNw M)).2) (N + 2 * m)) := by
  induction m with
  | zero =>
    intro i k s S M N h0 hm hk hp h hN
    refine T_iload dX10_draw_35 rfl ?_
    refine T_iload_n dX10_draw_37 rfl ?_
    refine I_icmp_ge (tgt := 113) dX10_draw_38 (by decide) ⟨by omega, by omega⟩ ⟨by omega, by omega⟩ (fun h38 => ?_) (fun h38 => ?_)
    · refine T_iload dX10_draw_113 rfl ?_
      exact I_ireturn dX10_draw_115 rfl ⟨_, _, rfl, rfl, rfl, h.mono (by omega) hN, Same.rf⟩
    · omega
  | succ m ih =>
    intro i k s S M N h0 hm hk hp h hN
    have w0 := h.1.1
    have w2 := h.1.2.2.1.1
    have k5 : K[165]? = some (.inr (2, [some 13, some 23])) := h.1.2.2.2.2.1
    have e0 : fI S 13 0 = pHs (mPl M) := h.2.2.1.1.1.1
    have hb5 := h.2.2.1.2.1
    have hcast : ((m + 1 : Nat) : Int) = m + 1 := by omega
    have g1 := gotM_b (sdM s)
    have g2 := gotM_b (sdM (sdM s))
    have g3 := gotM_b (sdM (sdM (sdM s)))
    have m1 : 0 ≤ gotM (sdM s) % pHs (mPl M) ∧ gotM (sdM s) % pHs (mPl M) < pHs (mPl M) := ⟨Int.emod_nonneg _ (by omega), Int.emod_lt_of_pos _ (by omega)⟩
    have hsr : (sendM (mPl M) (mNw M) (gotM (sdM s) % pHs (mPl M)) (gotM (sdM (sdM s)) % 32) (gotM (sdM (sdM (sdM s))) % 32)).1 = -3 ∨ (sendM (mPl M) (mNw M) (gotM (sdM s) % pHs (mPl M)) (gotM (sdM (sdM s)) % 32) (gotM (sdM (sdM (sdM s))) % 32)).1 = eLe (mE M) := by
      have q : letB (mPl M) (gotM (sdM s) % pHs (mPl M)) (gotM (sdM (sdM s)) % 32) (gotM (sdM (sdM (sdM s))) % 32) := ⟨m1, ⟨by omega, by omega⟩, ⟨by omega, by omega⟩⟩
      by_cases l : 60 ≤ ((mNw M).2.length : Int)
      · rw [sendM_full q l]; exact Or.inl rfl
      · rw [sendM_ok q l]; exact Or.inr rfl
    have hle : 0 ≤ eLe (mE M) ∧ eLe (mE M) < N := h.2.2.2.1.2.1.2.1
    have hv : drawL (mPl M) (m + 1) s k (mNw M) = drawL (mPl M) m (sdM (sdM (sdM s))) (k + if 0 ≤ (sendM (mPl M) (mNw M) (gotM (sdM s) % pHs (mPl M)) (gotM (sdM (sdM s)) % 32) (gotM (sdM (sdM (sdM s))) % 32)).1 then 1 else 0) (sendM (mPl M) (mNw M) (gotM (sdM s) % pHs (mPl M)) (gotM (sdM (sdM s)) % 32) (gotM (sdM (sdM (sdM s))) % 32)).2 := rfl
    rw [hv]
    have hT := p_takeLetter (G := G) (h := gotM (sdM s) % pHs (mPl M)) (f := gotM (sdM (sdM s)) % 32) (t := gotM (sdM (sdM (sdM s))) % 32) h.2.2.2.1 ⟨by omega, by omega⟩ ⟨by omega, by omega⟩ ⟨by omega, by omega⟩ (by omega)
    have hT : P G 2 0 0 mX2_takeLetter 0 (LE mX2_takeLetter [.ref 165, IV (gotM (sdM s) % pHs (mPl M)), IV (gotM (sdM (sdM s)) % 32), IV (gotM (sdM (sdM (sdM s))) % 32)]) [] K S (LQ K S 165 13 23 (mPl M) (sendM (mPl M) (mNw M) (gotM (sdM s) % pHs (mPl M)) (gotM (sdM (sdM s)) % 32) (gotM (sdM (sdM (sdM s))) % 32)) (N + 2)) := hT
    generalize sendM (mPl M) (mNw M) (gotM (sdM s) % pHs (mPl M)) (gotM (sdM (sdM s)) % 32) (gotM (sdM (sdM (sdM s))) % 32) = res at hT hsr ⊢
    refine T_iload dX10_draw_35 rfl ?_
    refine T_iload_n dX10_draw_37 rfl ?_
    refine I_icmp_ge (tgt := 113) dX10_draw_38 (by decide) ⟨by omega, by omega⟩ ⟨by omega, by omega⟩ (fun h38 => ?_) (fun h38 => ?_)
    · omega
    · refine T_iload_n dX10_draw_41 rfl ?_
      refine Q_callS dX10_draw_42 kX10_nextSeed lX10_220 p_nextSeed rfl rfl (Nat.le_of_ble_eq_true rfl) (Nat.le_of_ble_eq_true rfl) (by decide) (by decide) ?_
      refine T_istore_n dX10_draw_45 (by decide) rfl ?_
      refine T_iload_n dX10_draw_46 rfl ?_
      refine Q_callS dX10_draw_47 kX10_got lX10_223 p_got rfl rfl (Nat.le_of_ble_eq_true rfl) (Nat.le_of_ble_eq_true rfl) (by decide) (by decide) ?_
      refine T_aload_n dX10_draw_50 rfl rfl ?_
      refine P_getr dX10_draw_51 fX10_19 (by assumption) rfl ?_
      refine P_geti dX10_draw_54 fX10_87 (by assumption) rfl ?_
      rw [e0]
      refine I_irem dX10_draw_57 ⟨by omega, by omega⟩ ⟨by omega, by omega⟩ ?_
      refine T_istore dX10_draw_58 (by decide) rfl ?_
      refine T_iload_n dX10_draw_60 rfl ?_
      refine Q_callS dX10_draw_61 kX10_nextSeed lX10_220 p_nextSeed rfl rfl (Nat.le_of_ble_eq_true rfl) (Nat.le_of_ble_eq_true rfl) (by decide) (by decide) ?_
      refine T_istore_n dX10_draw_64 (by decide) rfl ?_
      refine T_iload_n dX10_draw_65 rfl ?_
      refine Q_callS dX10_draw_66 kX10_got lX10_223 p_got rfl rfl (Nat.le_of_ble_eq_true rfl) (Nat.le_of_ble_eq_true rfl) (by decide) (by decide) ?_
      refine I_bipush dX10_draw_69 (by decide) ?_
      refine I_irem dX10_draw_71 ⟨by omega, by omega⟩ ⟨by omega, by omega⟩ ?_
      refine T_istore dX10_draw_72 (by decide) rfl ?_
      refine T_iload_n dX10_draw_74 rfl ?_
      refine Q_callS dX10_draw_75 kX10_nextSeed lX10_220 p_nextSeed rfl rfl (Nat.le_of_ble_eq_true rfl) (Nat.le_of_ble_eq_true rfl) (by decide) (by decide) ?_
      refine T_istore_n dX10_draw_78 (by decide) rfl ?_
      refine T_iload_n dX10_draw_79 rfl ?_
      refine Q_callS dX10_draw_80 kX10_got lX10_223 p_got rfl rfl (Nat.le_of_ble_eq_true rfl) (Nat.le_of_ble_eq_true rfl) (by decide) (by decide) ?_
      refine I_bipush dX10_draw_83 (by decide) ?_
      refine I_irem dX10_draw_85 ⟨by omega, by omega⟩ ⟨by omega, by omega⟩ ?_
      refine T_istore dX10_draw_86 (by decide) rfl ?_
      refine T_aload_n dX10_draw_88 rfl rfl ?_
      refine P_getr dX10_draw_89 fX10_35 (by assumption) rfl ?_
      refine T_iload dX10_draw_92 rfl ?_
      refine T_iload dX10_draw_94 rfl ?_
      refine T_iload dX10_draw_96 rfl ?_
      refine R_callV dX10_draw_98 kX2_takeLetter lX10_195 (by assumption) rfl hT rfl rfl (Nat.le_of_ble_eq_true rfl) (Nat.le_of_ble_eq_true rfl) (by decide) (by decide) (fun r_ K_ S_ q_ => ?_)
      obtain ⟨rfl, hKe, hO, hC⟩ := q_
      have hKe := hKe.symm
      subst hKe
      have hW := h.now (x := res.2) hO hC (by omega) (by omega)
      refine I_if_lt (tgt := 107) dX10_draw_101 (by decide) ⟨by omega, by omega⟩ (fun h101 => ?_) (fun h101 => ?_)
      · have hx : True := trivial
        refine I_iinc dX10_draw_107 rfl (by decide) rfl ?_
        refine T_goto (tgt := 35) dX10_draw_110 (by decide) ?_
        refine T.forget 6 (T.forget 7 (T.forget 8 ?_))
        first
          | refine P.weaken z (fun r' K' S' q => ?_)
            have q2 := q.tr (hO 453 466 (by omega))
            rw [show N + 2 + 2 * (m : Int) = N + 2 * ((m + 1 : Nat) : Int) by omega] at q2
            exact q2
          | have z := ih (i + 1) (k + if 0 ≤ res.1 then 1 else 0) (sdM (sdM (sdM s))) S_ (mNwS M res.2) (N + 2) (by omega) (by omega) (by rw [if_neg (by omega)]; omega) hp hW (by omega)
            rw [if_neg (show ¬ 0 ≤ res.1 by omega), Int.add_zero] at z ⊢
            refine P.weaken z (fun r' K' S' q => ?_)
            have q2 := q.tr (hO 453 466 (by omega))
            rw [show N + 2 + 2 * (m : Int) = N + 2 * ((m + 1 : Nat) : Int) by omega] at q2
            exact q2
      · have z := ih (i + 1) (k + if 0 ≤ res.1 then 1 else 0) (sdM (sdM (sdM s))) S_ (mNwS M res.2) (N + 2) (by omega) (by omega) (by rw [if_pos (by omega)]; omega) hp hW (by omega)
        rw [if_pos (show 0 ≤ res.1 by omega)] at z ⊢
        refine I_iinc dX10_draw_104 rfl (by decide) rfl ?_
        have hx : True := trivial
        refine I_iinc dX10_draw_107 rfl (by decide) rfl ?_
        refine T_goto (tgt := 35) dX10_draw_110 (by decide) ?_
        refine T.forget 6 (T.forget 7 (T.forget 8 ?_))
        first
          | refine P.weaken z (fun r' K' S' q => ?_)
            have q2 := q.tr (hO 453 466 (by omega))
            rw [show N + 2 + 2 * (m : Int) = N + 2 * ((m + 1 : Nat) : Int) by omega] at q2
            exact q2
          | have z := ih (i + 1) (k + if 0 ≤ res.1 then 1 else 0) (sdM (sdM (sdM s))) S_ (mNwS M res.2) (N + 2) (by omega) (by omega) (by rw [if_neg (by omega)]; omega) hp hW (by omega)
            rw [if_neg (show ¬ 0 ≤ res.1 by omega), Int.add_zero] at z ⊢
            refine P.weaken z (fun r' K' S' q => ?_)
            have q2 := q.tr (hO 453 466 (by omega))
            rw [show N + 2 + 2 * (m : Int) = N + 2 * ((m + 1 : Nat) : Int) by omega] at q2
            exact q2
theorem p_W_draw {S : SV} {M : MS} {s n : Int} (h : WR K S M N) (hs : R32 s) (hn : R32 n) (hN : N + 400000 ≤ 1000000000) : P G 4 0 0 mX10_draw 0 (LE mX10_draw [.ref 0, IV s, IV n]) [] K S (WQ K S (drawQ M s n).1 (drawQ M s n).2 (N + 400000)) := by
  have w0 := h.1.1
  have w2 := h.1.2.2.1.1
  have e0 : fI S 13 0 = pHs (mPl M) := h.2.2.1.1.1.1
  have hb5 := h.2.2.1.2.1
  by_cases hb : 1 ≤ n ∧ n ≤ 10
  · by_cases hp : pHs (mPl M) < 1
    · have hv : drawQ M s n = (-2, M) := by unfold drawQ; rw [if_pos hb, if_pos hp]
      rw [hv]
      rw [show LE mX10_draw [.ref 0, IV s, IV n] = [some (.ref 0), some (IV s), some (IV n), none, none, none, none, none, none] from rfl]
      refine T_iload_n dX10_draw_0 rfl ?_
      refine I_iconst dX10_draw_1 ?_
      refine I_icmp_lt (tgt := 11) dX10_draw_2 (by decide) hn ⟨by omega, by omega⟩ (fun h2 => ?_) (fun h2 => ?_)
      · omega
      · refine T_iload_n dX10_draw_5 rfl ?_
        refine I_bipush dX10_draw_6 (by decide) ?_
        refine I_icmp_le (tgt := 13) dX10_draw_8 (by decide) hn ⟨by omega, by omega⟩ (fun h8 => ?_) (fun h8 => ?_)
        · refine T_aload_n dX10_draw_13 rfl rfl ?_
          refine P_getr dX10_draw_14 fX10_19 (by assumption) rfl ?_
          refine P_geti dX10_draw_17 fX10_87 (by assumption) rfl ?_
          rw [e0]
          refine I_iconst dX10_draw_20 ?_
          refine I_icmp_ge (tgt := 27) dX10_draw_21 (by decide) ⟨by omega, by omega⟩ ⟨by omega, by omega⟩ (fun h21 => ?_) (fun h21 => ?_)
          · omega
          · refine I_bipush dX10_draw_24 (by decide) ?_
            exact I_ireturn dX10_draw_26 rfl ⟨_, _, rfl, (WQ.here h).mono (by omega) hN⟩
        · omega
    · have hv : drawQ M s n = ((drawL (mPl M) n.toNat s 0 (mNw M)).1, mNwS M (drawL (mPl M) n.toNat s 0 (mNw M)).2) := by unfold drawQ; rw [if_pos hb, if_neg hp]
      rw [hv]
      have z := l_W_draw (G := G) (n := n) (s0 := s) hb.2 n.toNat 0 0 s S M N (by omega) (by omega) (by omega) (by omega) h (by omega)
      rw [show LE mX10_draw [.ref 0, IV s, IV n] = [some (.ref 0), some (IV s), some (IV n), none, none, none, none, none, none] from rfl]
      refine T_iload_n dX10_draw_0 rfl ?_
      refine I_iconst dX10_draw_1 ?_
      refine I_icmp_lt (tgt := 11) dX10_draw_2 (by decide) hn ⟨by omega, by omega⟩ (fun h2 => ?_) (fun h2 => ?_)
      · omega
      · refine T_iload_n dX10_draw_5 rfl ?_
        refine I_bipush dX10_draw_6 (by decide) ?_
        refine I_icmp_le (tgt := 13) dX10_draw_8 (by decide) hn ⟨by omega, by omega⟩ (fun h8 => ?_) (fun h8 => ?_)
        · refine T_aload_n dX10_draw_13 rfl rfl ?_
          refine P_getr dX10_draw_14 fX10_19 (by assumption) rfl ?_
          refine P_geti dX10_draw_17 fX10_87 (by assumption) rfl ?_
          rw [e0]
          refine I_iconst dX10_draw_20 ?_
          refine I_icmp_ge (tgt := 27) dX10_draw_21 (by decide) ⟨by omega, by omega⟩ ⟨by omega, by omega⟩ (fun h21 => ?_) (fun h21 => ?_)
          · refine T_iload_n dX10_draw_27 rfl ?_
            refine T_istore_n dX10_draw_28 (by decide) rfl ?_
            refine I_iconst dX10_draw_29 ?_
            refine T_istore dX10_draw_30 (by decide) rfl ?_
            refine I_iconst dX10_draw_32 ?_
            refine T_istore dX10_draw_33 (by decide) rfl ?_
            exact P.weaken z (fun r' K' S' q => q.mono (by omega) (by omega))
          · omega
        · omega
  · have hv : drawQ M s n = (-1, M) := if_neg hb
    rw [hv]
    rw [show LE mX10_draw [.ref 0, IV s, IV n] = [some (.ref 0), some (IV s), some (IV n), none, none, none, none, none, none] from rfl]
    refine T_iload_n dX10_draw_0 rfl ?_
    refine I_iconst dX10_draw_1 ?_
    refine I_icmp_lt (tgt := 11) dX10_draw_2 (by decide) hn ⟨by omega, by omega⟩ (fun h2 => ?_) (fun h2 => ?_)
    · refine I_iconst dX10_draw_11 ?_
      exact I_ireturn dX10_draw_12 rfl ⟨_, _, rfl, (WQ.here h).mono (by omega) hN⟩
    · refine T_iload_n dX10_draw_5 rfl ?_
      refine I_bipush dX10_draw_6 (by decide) ?_
      refine I_icmp_le (tgt := 13) dX10_draw_8 (by decide) hn ⟨by omega, by omega⟩ (fun h8 => ?_) (fun h8 => ?_)
      · exact absurd ⟨by omega, by omega⟩ hb
      · refine I_iconst dX10_draw_11 ?_
        exact I_ireturn dX10_draw_12 rfl ⟨_, _, rfl, (WQ.here h).mono (by omega) hN⟩
end WDR
