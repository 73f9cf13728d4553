/-! the reference: ticks; all that it holds -/
def TKR (K : List SH) (S : SV) (pl : PL) (x : RND) (N : Int) : Option Value → List SH → SV → Prop := fun rv K' S' => rv = none ∧ K' = K ∧ RS K S' pl x.1 x.2 ∧ EnB N x.1 ∧ TnB pl N x.2 ∧ Wo S S'
section RG1
variable {G : GT} {K : List SH} {pl : PL}
theorem l_ticksR {S0 : SV} (m : Nat) : ∀ (h : Int) (S : SV) (e : EN) (its : List Row) (N : Int), 0 ≤ h → pHs pl - h = m → Wo S0 S → RS K S pl e its → EnB N e → TnB pl N its → N + 1200 * m ≤ 1000000000 → P G 6 0 0 mX11_ticks 12 [some (.ref 453), some (IV h), none, none] [] K S (TKR K S0 pl (housesM pl m h (e, its)) (N + 1200 * m)) := by
  induction m with
  | zero =>
    intro h S e its N h0 hm hW hR hE hB hN
    have m0 := hR.1.1
    have m1 := hR.1.2.1
    have e0 : aI S 454 0 = pHs pl := hR.2.2.2.1.1.1
    have hb5 := hR.2.2.1.1
    refine T_iload_n dX11_ticks_12 rfl ?_
    refine T_aload_n dX11_ticks_13 rfl rfl ?_
    refine P_getr dX11_ticks_14 fX11_7 (by assumption) rfl ?_
    refine I_iconst dX11_ticks_17 ?_
    refine P_iald dX11_ticks_18 (by assumption) ⟨by omega, by omega⟩ (by first | decide | omega) ?_
    rw [e0]
    refine I_icmp_ge (tgt := 115) dX11_ticks_19 (by decide) ⟨by omega, by omega⟩ ⟨by omega, by omega⟩ (fun h19 => ?_) (fun h19 => ?_)
    · exact T_return dX11_ticks_115 rfl ⟨_, _, rfl, rfl, rfl, hR, hE.mono (by omega) hN, hB.mono (by omega), hW⟩
    · omega
  | succ m ih =>
    intro h S e its N h0 hm hW hR hE hB hN
    have m0 := hR.1.1
    have m1 := hR.1.2.1
    have e0 : aI S 454 0 = pHs pl := hR.2.2.2.1.1.1
    have e4 := hR.n4
    have h60 := hR.n60
    have hb5 := hR.2.2.1.1
    have hup : aI S 454 (16 + 2 * h + 1) = eUp e h := hR.2.2.2.2.2.2.2.1 h h0 (by omega) (by rw [e0]; omega)
    have hupR : R32 (eUp e h) := by rw [← hup]; exact hR.2.1.2 _ _
    have hcast : ((m + 1 : Nat) : Int) = m + 1 := by omega
    by_cases hu : eUp e h = 1
    · have hT : housesM pl (m + 1) h (e, its) = housesM pl m (h + 1) (turnM pl h [] its [] e) := by rw [housesM, if_pos hu]
      rw [hT]
      have hk : ∀ S', RS K S' pl (turnM pl h [] its [] e).1 (turnM pl h [] its [] e).2 → EnB (N + 1200) (turnM pl h [] its [] e).1 → TnB pl (N + 1200) (turnM pl h [] its [] e).2 → Wo S0 S' → P G 6 0 0 mX11_ticks 109 [some (.ref 453), some (IV h), none, none] [] K S' (TKR K S0 pl (housesM pl m (h + 1) (turnM pl h [] its [] e)) (N + 1200 * ((m + 1 : Nat) : Int))) := by
        intro S' q1 q2 q3 q4
        have z := ih (h + 1) S' _ _ (N + 1200) (by omega) (by omega) q4 q1 q2 q3 (by omega)
        rw [show N + 1200 + 1200 * (m : Int) = N + 1200 * ((m + 1 : Nat) : Int) by omega] at z
        refine I_iinc dX11_ticks_109 rfl (by decide) rfl ?_
        refine T_goto (tgt := 12) dX11_ticks_112 (by decide) ?_
        exact z
      have z := l_turnR (G := G) (S0 := S0) ⟨⟨h0, by omega⟩, by omega⟩ hk its [] [] S e N rfl hW (by rw [List.nil_append, List.append_nil]; exact hR) hE (by omega) (by omega) (by rw [List.nil_append, List.append_nil]; exact hB) (fun y hy => by cases hy) hu none (Or.inl rfl)
      refine T_iload_n dX11_ticks_12 rfl ?_
      refine T_aload_n dX11_ticks_13 rfl rfl ?_
      refine P_getr dX11_ticks_14 fX11_7 (by assumption) rfl ?_
      refine I_iconst dX11_ticks_17 ?_
      refine P_iald dX11_ticks_18 (by assumption) ⟨by omega, by omega⟩ (by first | decide | omega) ?_
      rw [e0]
      refine I_icmp_ge (tgt := 115) dX11_ticks_19 (by decide) ⟨by omega, by omega⟩ ⟨by omega, by omega⟩ (fun h19 => ?_) (fun h19 => ?_)
      · omega
      · refine I_iconst dX11_ticks_22 ?_
        refine T_istore_n dX11_ticks_23 (by decide) rfl ?_
        exact z
    · have hT : housesM pl (m + 1) h (e, its) = housesM pl m (h + 1) (e, its) := by rw [housesM, if_neg hu]
      rw [hT]
      have z := ih (h + 1) S e its (N + 1200) (by omega) (by omega) hW hR (hE.mono (by omega) (by omega)) (hB.mono (by omega)) (by omega)
      rw [show N + 1200 + 1200 * (m : Int) = N + 1200 * ((m + 1 : Nat) : Int) by omega] at z
      refine T_iload_n dX11_ticks_12 rfl ?_
      refine T_aload_n dX11_ticks_13 rfl rfl ?_
      refine P_getr dX11_ticks_14 fX11_7 (by assumption) rfl ?_
      refine I_iconst dX11_ticks_17 ?_
      refine P_iald dX11_ticks_18 (by assumption) ⟨by omega, by omega⟩ (by first | decide | omega) ?_
      rw [e0]
      refine I_icmp_ge (tgt := 115) dX11_ticks_19 (by decide) ⟨by omega, by omega⟩ ⟨by omega, by omega⟩ (fun h19 => ?_) (fun h19 => ?_)
      · omega
      · refine I_iconst dX11_ticks_22 ?_
        refine T_istore_n dX11_ticks_23 (by decide) rfl ?_
        refine T_iload_n dX11_ticks_24 rfl ?_
        refine T_aload_n dX11_ticks_25 rfl rfl ?_
        refine P_getr dX11_ticks_26 fX11_7 (by assumption) rfl ?_
        refine I_iconst dX11_ticks_29 ?_
        refine P_iald dX11_ticks_30 (by assumption) ⟨by omega, by omega⟩ (by first | decide | omega) ?_
        rw [e4]
        refine I_icmp_ge (tgt := 109) dX11_ticks_31 (by decide) ⟨by omega, by omega⟩ ⟨by omega, by omega⟩ (fun h31 => ?_) (fun h31 => ?_)
        · refine I_iinc dX11_ticks_109 rfl (by decide) rfl ?_
          refine T_goto (tgt := 12) dX11_ticks_112 (by decide) ?_
          exact T.forget 2 z
        · refine T_aload_n dX11_ticks_34 rfl rfl ?_
          refine P_getr dX11_ticks_35 fX11_7 (by assumption) rfl ?_
          refine I_bipush dX11_ticks_38 (by decide) ?_
          refine I_iconst dX11_ticks_40 ?_
          refine T_iload_n dX11_ticks_41 rfl ?_
          refine I_imul dX11_ticks_42 ?_
          refine I_iadd dX11_ticks_43 ?_
          refine I_iconst dX11_ticks_44 ?_
          refine I_iadd dX11_ticks_45 ?_
          refine P_iald dX11_ticks_46 (by assumption) ⟨by omega, by omega⟩ (by first | decide | omega) ?_
          rw [hup]
          refine I_iconst dX11_ticks_47 ?_
          refine I_icmp_ne (tgt := 109) dX11_ticks_48 (by decide) hupR ⟨by omega, by omega⟩ (fun h48 => ?_) (fun h48 => ?_)
          · refine I_iinc dX11_ticks_109 rfl (by decide) rfl ?_
            refine T_goto (tgt := 12) dX11_ticks_112 (by decide) ?_
            exact T.forget 2 z
          · exact absurd h48 hu
theorem p_R_ticks {S : SV} {e : EN} {its : List Row} {N : Int} (hR : RS K S pl e its) (hE : EnB N e) (hB : TnB pl N its) (hN : N + 6001 ≤ 1000000000) : P G 6 0 0 mX11_ticks 0 (LE mX11_ticks [.ref 453]) [] K S (TKR K S pl (tickM pl (e, its)) (N + 6001)) := by
  have m0 := hR.1.1
  have m1 := hR.1.2.1
  have hb5 := hR.2.2.1.1
  have hec := hE.1
  have e2 : aI S 454 2 = eCl e := hR.2.2.2.2.1.1
  have hE1 : EnB (N + 1) (eClS e (eCl e + 1)) := by
    obtain ⟨g1, g2, g3, g4, g5, g6, g7⟩ := hE.mono (by omega : N ≤ N + 1) (by omega)
    exact ⟨⟨by show 0 ≤ eCl e + 1; omega, by show eCl e + 1 < N + 1; omega⟩, g2, g3, g4, g5, g6, g7⟩
  have z := l_ticksR (G := G) (S0 := S) (pHs pl).toNat 0 (sA S 454 2 (eCl e + 1)) (eClS e (eCl e + 1)) its (N + 1) (by omega) (by omega) (Wo.sA (Or.inl rfl)) (hR.clN ⟨by omega, by omega⟩) hE1 (hB.mono (by omega)) (by omega)
  rw [show LE mX11_ticks [.ref 453] = [some (.ref 453), none, none, none] from rfl]
  refine T_aload_n dX11_ticks_0 rfl rfl ?_
  refine P_getr dX11_ticks_1 fX11_7 (by assumption) rfl ?_
  refine I_iconst dX11_ticks_4 ?_
  refine T_dup2 dX11_ticks_5 rfl rfl ?_
  refine P_iald dX11_ticks_6 (by assumption) ⟨by omega, by omega⟩ (by first | decide | omega) ?_
  rw [e2]
  refine I_iconst dX11_ticks_7 ?_
  refine I_iadd dX11_ticks_8 ?_
  refine P_iast dX11_ticks_9 (by assumption) ⟨by omega, by omega⟩ (by first | decide | omega) ?_
  refine I_iconst dX11_ticks_10 ?_
  refine T_istore_n dX11_ticks_11 (by decide) rfl ?_
  exact P.weaken z (fun r' K' S' q => ⟨q.1, q.2.1, q.2.2.1, q.2.2.2.1.mono (by omega) hN, q.2.2.2.2.1.mono (by omega), q.2.2.2.2.2⟩)
end RG1
def RTp (S : SV) (M : MS) : Prop := fI S 453 6 = mN M ∧ (0 ≤ mN M ∧ mN M ≤ 200) ∧ ∀ i, 0 ≤ i → i < mN M → aI S 459 i = mTp M i ∧ 0 ≤ mTp M i ∧ mTp M i ≤ 127
def kpF (S : SV) (k : Int) : Int → Int := fun c => aI S 456 (1583 * k + c)
def RIm (S : SV) (pl : PL) (im : Int → Option RND) : Prop := ∀ k, 0 ≤ k → k < 2 → (im k = none ∧ aI S 457 k = 0) ∨ ∃ x, im k = some x ∧ aI S 457 k = 1 ∧ PlC (kpF S k) pl ∧ EnC (kpF S k) x.1 x.2 ∧ ∀ r ∈ x.2, MkOk pl r
def RSh (S : SV) (sh : Int → Option SHT) : Prop := ∀ k, 0 ≤ k → k < 4 → (sh k = none ∧ aI S 463 k = -4) ∨ ∃ q, sh k = some q ∧ aI S 463 k = q.1 ∧ (q.1 = 0 ∨ q.1 = 1) ∧ aI S 464 k = q.2.1 ∧ (0 ≤ q.2.1 ∧ q.2.1 ≤ 40) ∧ ∀ i, 0 ≤ i → i < q.2.1 → aI S 465 (40 * k + i) = q.2.2 i
def RR (K : List SH) (S : SV) (M : MS) : Prop := RS K S (mPl M) (mE M) (mIt M) ∧ RTp S M ∧ fI S 453 11 = mFt M ∧ (∀ x ∈ mIt M, MkOk (mPl M) x) ∧ RIm S (mPl M) (mIm M) ∧ RSh S (mSh M)
def PU (M : MS) (N : Int) : Prop := RndOk N (mPl M) (mNw M) ∧ ∀ k x, 0 ≤ k → k < 2 → mIm M k = some x → RndOk N (mPl M) x
theorem WR.pu {K : List SH} {S : SV} {M : MS} {N : Int} (h : WR K S M N) : PU M N := ⟨h.2.2.2.1.2, fun k x a b hx => by
  obtain ⟨-, ad, -, h3⟩ := h.2.2.2.2.1 k a b
  rcases h3 with ⟨z, -⟩ | ⟨y, z, -, -, hy⟩
  · rw [z] at hx; cases hx
  · rw [z] at hx
    injection hx with hx
    rw [← hx]
    exact hy⟩
def RQ (K : List SH) (S : SV) (v : Int) (M : MS) : Option Value → List SH → SV → Prop := fun rv K' S' => rv = some (IV v) ∧ K' = K ∧ RR K S' M ∧ Outs S S' 453 466
theorem RQ.here {K : List SH} {S : SV} {v : Int} {M : MS} (h : RR K S M) : RQ K S v M (some (IV v)) K S := ⟨rfl, rfl, h, Outs.rf⟩
theorem RQ.eq {K : List SH} {S : SV} {x v : Int} {M : MS} (h : RR K S M) (e : x = v) : RQ K S v M (some (IV x)) K S := by
  subst e
  exact RQ.here h
theorem RTp.wo {S S' : SV} {M : MS} (h : RTp S M) (hW : Wo S S') (x : RND) : RTp S' (mNwS M x) := ⟨(hW.f (by omega) 6).trans h.1, h.2.1, fun i a b => ⟨(hW.a (by omega) i).trans (h.2.2 i a b).1, (h.2.2 i a b).2⟩⟩
theorem RIm.wo {S S' : SV} {pl : PL} {im : Int → Option RND} (h : RIm S pl im) (h6 : ∀ i, aI S' 456 i = aI S 456 i) (h7 : ∀ i, aI S' 457 i = aI S 457 i) : RIm S' pl im := fun k a b => by
  have e : kpF S' k = kpF S k := by funext c; exact h6 _
  rw [e, h7]
  exact h k a b
theorem RSh.wo {S S' : SV} {sh : Int → Option SHT} (h : RSh S sh) (h3 : ∀ i, aI S' 463 i = aI S 463 i) (h4 : ∀ i, aI S' 464 i = aI S 464 i) (h5 : ∀ i, aI S' 465 i = aI S 465 i) : RSh S' sh := fun k a b => by
  rw [h3, h4]
  rcases h k a b with q | ⟨q, q1, q2, q3, q4, q5, q6⟩
  · exact Or.inl q
  · exact Or.inr ⟨q, q1, q2, q3, q4, q5, fun i u v => (h5 _).trans (q6 i u v)⟩
theorem RR.now {K : List SH} {S S' : SV} {M : MS} {x : RND} (h : RR K S M) (hW : Wo S S') (hR : RS K S' (mPl M) x.1 x.2) (hm : ∀ r ∈ x.2, MkOk (mPl M) r) : RR K S' (mNwS M x) := by
  obtain ⟨h1, h2, h3, h4, h5, h6⟩ := h
  exact ⟨hR, h2.wo hW x, (hW.f (by omega) 11).trans h3, hm, RIm.wo h5 (fun i => hW.a (by omega) i) (fun i => hW.a (by omega) i), RSh.wo h6 (fun i => hW.a (by omega) i) (fun i => hW.a (by omega) i) (fun i => hW.a (by omega) i)⟩
theorem PU.tn {K : List SH} {S : SV} {M : MS} {N : Int} (h : PU M N) (hR : RR K S M) : TnB (mPl M) N (mIt M) := fun x hx => ⟨h.1.2.1 x hx, hR.2.2.2.1 x hx⟩
section RG2
variable {G : GT} {K : List SH} {N : Int}
theorem l_R_tick {n b : Int} (hn : n ≤ 20) (m : Nat) : ∀ (i : Int) (S : SV) (M : MS) (N : Int), 0 ≤ i → n - i = m → RR K S M → RndOk N (mPl M) (mNw M) → N + 6001 * m ≤ 1000000000 → P G 7 0 0 mX11_tick 24 [some (.ref 453), some (IV n), some (IV b), some (IV i)] [] K S (RQ K S (eTy (ticksM (mPl M) m (mNw M)).1 2 - b) (mNwS M (ticksM (mPl M) m (mNw M)))) := by
  induction m with
  | zero =>
    intro i S M N h0 hm h hp hN
    have m0 := h.1.1.1
    have m1 := h.1.1.2.1
    have e1 : aI S 454 9 = eTy (mE M) 2 := h.1.2.2.2.2.2.2.1.2.2.1 2 (by omega) (by omega)
    refine T_iload_n dX11_tick_24 rfl ?_
    refine T_iload_n dX11_tick_25 rfl ?_
    refine I_icmp_ge (tgt := 39) dX11_tick_26 (by decide) ⟨by omega, by omega⟩ ⟨by omega, by omega⟩ (fun h26 => ?_) (fun h26 => ?_)
    · refine T_aload_n dX11_tick_39 rfl rfl ?_
      refine P_getr dX11_tick_40 fX11_7 (by assumption) rfl ?_
      refine I_bipush dX11_tick_43 (by decide) ?_
      refine P_iald dX11_tick_45 (by assumption) ⟨by omega, by omega⟩ (by first | decide | omega) ?_
      rw [e1]
      refine T_iload_n dX11_tick_46 rfl ?_
      refine I_isub dX11_tick_47 ?_
      exact I_ireturn dX11_tick_48 rfl ⟨_, _, rfl, RQ.here h⟩
    · omega
  | succ m ih =>
    intro i S M N h0 hm h hp hN
    have m0 := h.1.1.1
    have hcast : ((m + 1 : Nat) : Int) = m + 1 := by omega
    refine T_iload_n dX11_tick_24 rfl ?_
    refine T_iload_n dX11_tick_25 rfl ?_
    refine I_icmp_ge (tgt := 39) dX11_tick_26 (by decide) ⟨by omega, by omega⟩ ⟨by omega, by omega⟩ (fun h26 => ?_) (fun h26 => ?_)
    · omega
    · refine T_aload_n dX11_tick_29 rfl rfl ?_
      refine R_callV dX11_tick_30 kX11_ticks lX11_271 (by assumption) rfl (p_R_ticks h.1 hp.1 (fun x hx => ⟨hp.2.1 x hx, h.2.2.2.1 x hx⟩) (by omega)) rfl rfl (Nat.le_of_ble_eq_true rfl) (Nat.le_of_ble_eq_true rfl) (by decide) (by decide) (fun r_ K_ S_ q_ => ?_)
      obtain ⟨rfl, hKe, hq, hE1, hB1, hw1⟩ := q_
      have hKe := hKe.symm
      subst hKe
      have hW := h.now (x := tickM (mPl M) (mNw M)) hw1 hq (fun r hr => (hB1 r hr).2)
      have z := ih (i + 1) S_ _ (N + 6001) (by omega) (by omega) hW ⟨hE1, fun r hr => (hB1 r hr).1, hq.n60⟩ (by omega)
      refine I_iinc dX11_tick_33 rfl (by decide) rfl ?_
      refine T_goto (tgt := 24) dX11_tick_36 (by decide) ?_
      exact P.weaken z (fun r' K' S' q => ⟨q.1, q.2.1, q.2.2.1, hw1.outs.tr q.2.2.2⟩)
end RG2
