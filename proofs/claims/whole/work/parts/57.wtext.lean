/-! a text is read; images -/
noncomputable def textC (M : MS) : Int × MS := match textM (mTp M) (mN M) with
  | .error e => (-10 - e.2, mFtS M e.1)
  | .ok q => (q.2, mTxS M q.1)
def imgB (k : Int) : Prop := 0 ≤ k ∧ k < 2
section WT
variable {G : GT} {K : List SH} {M : MS} {N : Int}
theorem l_forget {S0 : SV} (w0 : K[0]? = some (.inr (10, [some 1, some 13, some 23, some 165, some 166, some 167, some 168]))) (w6 : K[167]? = some (.inl (2, 2))) (m : Nat) : ∀ (i : Int) (S : SV), 0 ≤ i → 2 - i = m → Outs S0 S 167 168 → AllR S → (∀ k, 0 ≤ k → k < i → aI S 167 k = 0) → P G 0 0 0 mX10_forgetImages 2 [some (.ref 0), some (IV i)] [] K S (fun rv K' S' => rv = none ∧ K' = K ∧ Outs S0 S' 167 168 ∧ AllR S' ∧ ∀ k, 0 ≤ k → k < 2 → aI S' 167 k = 0) := by
  induction m with
  | zero =>
    intro i S h0 hm hO hr hx
    refine T_iload_n dX10_forgetImages_2 rfl ?_
    refine I_iconst dX10_forgetImages_3 ?_
    refine I_icmp_ge (tgt := 20) dX10_forgetImages_4 (by decide) ⟨by omega, by omega⟩ ⟨by omega, by omega⟩ (fun h4 => ?_) (fun h4 => ?_)
    · exact T_return dX10_forgetImages_20 rfl ⟨_, _, rfl, rfl, rfl, hO, hr, fun k a b => hx k a (by omega)⟩
    · omega
  | succ m ih =>
    intro i S h0 hm hO hr hx
    have z := ih (i + 1) (sA S 167 i 0) (by omega) (by omega) (hO.tr (fun x y w => Same.sA (by omega))) (hr.sA (by decide)) (fun k a b => by
      rw [aI_sA]
      by_cases e : k = i
      · rw [if_pos ⟨rfl, e⟩]
      · rw [if_neg (fun q => e q.2)]
        exact hx k a (by omega))
    refine T_iload_n dX10_forgetImages_2 rfl ?_
    refine I_iconst dX10_forgetImages_3 ?_
    refine I_icmp_ge (tgt := 20) dX10_forgetImages_4 (by decide) ⟨by omega, by omega⟩ ⟨by omega, by omega⟩ (fun h4 => ?_) (fun h4 => ?_)
    · omega
    · refine T_aload_n dX10_forgetImages_7 rfl rfl ?_
      refine P_getr dX10_forgetImages_8 fX10_43 (by assumption) rfl ?_
      refine T_iload_n dX10_forgetImages_11 rfl ?_
      refine I_iconst dX10_forgetImages_12 ?_
      refine P_zast dX10_forgetImages_13 (by assumption) ⟨by omega, by omega⟩ (by first | decide | omega) (Or.inl rfl) ?_
      refine I_iinc dX10_forgetImages_14 rfl (by decide) rfl ?_
      refine T_goto (tgt := 2) dX10_forgetImages_17 (by decide) ?_
      exact z
theorem p_forget {S : SV} (w0 : K[0]? = some (.inr (10, [some 1, some 13, some 23, some 165, some 166, some 167, some 168]))) (w6 : K[167]? = some (.inl (2, 2))) (hr : AllR S) : P G 0 0 0 mX10_forgetImages 0 (LE mX10_forgetImages [.ref 0]) [] K S (fun rv K' S' => rv = none ∧ K' = K ∧ Outs S S' 167 168 ∧ AllR S' ∧ ∀ k, 0 ≤ k → k < 2 → aI S' 167 k = 0) := by
  have z := l_forget (G := G) w0 w6 2 0 S (by omega) (by omega) Outs.rf hr (fun k a b => by omega)
  rw [show LE mX10_forgetImages [.ref 0] = [some (.ref 0), none] from rfl]
  refine I_iconst dX10_forgetImages_0 ?_
  refine T_istore_n dX10_forgetImages_1 (by decide) rfl ?_
  exact z
theorem e0_B {N : Int} (h : 0 < N ∧ N ≤ 1000000000) : EnB N e0M := ⟨⟨Int.le_refl 0, h.1⟩, ⟨Int.le_refl 0, h.1⟩, ⟨Int.le_refl 0, h.1⟩, fun _ _ _ => ⟨Int.le_refl 0, h.1⟩, fun _ _ _ => ⟨Int.le_refl 0, h.1⟩, fun _ _ _ x hx => (by cases hx), h.2⟩
theorem p_W_text {S : SV} (h : WR K S M N) : P G 7 0 0 mX10_text 0 (LE mX10_text [.ref 0]) [] K S (WQ K S (textC M).1 (textC M).2 N) := by
  obtain ⟨⟨w0, w1, w2, w3, w4, w5, w6, w7, w8, w9⟩, ⟨h2, h3⟩, ⟨h4, h5⟩, h6, h7, h8⟩ := id h
  have k1 := w1.1
  have k3 := w1.2.2
  have k3' := k3.1
  have w2' := w2.1
  have w3' := w3.1
  have hn := h2.2.2.2
  have hN : 0 < N ∧ N ≤ 1000000000 := by
    have := h6.2.1.1
    have := h6.2.1.2.2.2.2.2.2
    omega
  obtain ⟨adn, hW⟩ := h.nowW
  unfold textC
  cases hX : textM (mTp M) (mN M) with
  | error e =>
    show P G 7 0 0 mX10_text 0 (LE mX10_text [.ref 0]) [] K S (WQ K S (-10 - e.2) (mFtS M e.1) N)
    rw [show LE mX10_text [.ref 0] = [some (.ref 0), none] from rfl]
    refine T_aload_n dX10_text_0 rfl rfl ?_
    refine P_getr dX10_text_1 fX10_10 (by assumption) rfl ?_
    refine R_callV dX10_text_4 kX9_readText lX10_61 (by assumption) rfl (p_T_text w1 h2) rfl rfl (Nat.le_of_ble_eq_true rfl) (Nat.le_of_ble_eq_true rfl) (by decide) (by decide) (fun r_ K_ S_ q_ => ?_)
    obtain ⟨hKe, hO, hr, h1, hx⟩ := q_; have hKe := hKe.symm; subst hKe; rw [hX] at hx; obtain ⟨rfl, g8, g9⟩ := hx
    have hO2 : Outs S (sF S_ 1 1 0) 1 13 := hO.tr (fun x y w => Same.sF (by omega))
    have hA2 : AllR (sF S_ 1 1 0) := hr.sF (by decide)
    have g92 : fI (sF S_ 1 1 0) 1 9 = e.2 := by rw [fI_sF, if_neg (by omega)]; exact g9
    refine T_istore_n dX10_text_7 (by decide) rfl ?_
    refine T_aload_n dX10_text_8 rfl rfl ?_
    refine P_getr dX10_text_9 fX10_10 (by assumption) rfl ?_
    refine I_iconst dX10_text_12 ?_
    refine P_puti dX10_text_13 fX10_53 (by assumption) rfl rfl ?_
    refine T_iload_n dX10_text_16 rfl ?_
    refine I_if_ne (tgt := 31) dX10_text_17 (by decide) (by decide) (fun h17 => ?_) (fun h17 => ?_)
    · exact absurd rfl h17
    · refine I_bipush dX10_text_20 (by decide) ?_
      refine T_aload_n dX10_text_22 rfl rfl ?_
      refine P_getr dX10_text_23 fX10_10 (by assumption) rfl ?_
      refine P_geti dX10_text_26 fX10_65 (by assumption) rfl ?_
      rw [g92]
      refine I_isub dX10_text_29 ?_
      exact I_ireturn dX10_text_30 rfl ⟨_, _, rfl, rfl, rfl, ⟨h.1, ⟨⟨hA2, by rw [fI_sF, if_pos ⟨rfl, rfl⟩]; rfl, fun i u v => by have v : i < 0 := v; omega, by show (0 : Int) ≤ 0; omega, by show (0 : Int) ≤ 200; omega⟩, by rw [fI_sF, if_neg (by omega)]; exact g8⟩, ⟨h4.same (hO2 _ _ (by omega)), h5⟩, h6.outs hO2 hA2 (by omega) (by omega), h7.outs hO2 (by omega), h8.outs hO2 (by omega)⟩, hO2 _ _ (by omega)⟩
  | ok q =>
    obtain ⟨hP, hq2⟩ := textM_ok hn.1 hX
    show P G 7 0 0 mX10_text 0 (LE mX10_text [.ref 0]) [] K S (WQ K S q.2 (mTxS M q.1) N)
    rw [show LE mX10_text [.ref 0] = [some (.ref 0), none] from rfl]
    refine T_aload_n dX10_text_0 rfl rfl ?_
    refine P_getr dX10_text_1 fX10_10 (by assumption) rfl ?_
    refine R_callV dX10_text_4 kX9_readText lX10_61 (by assumption) rfl (p_T_text w1 h2) rfl rfl (Nat.le_of_ble_eq_true rfl) (Nat.le_of_ble_eq_true rfl) (by decide) (by decide) (fun r_ K_ S_ q_ => ?_)
    obtain ⟨hKe, hO, hr, h1, hx⟩ := q_; have hKe := hKe.symm; subst hKe; rw [hX] at hx; obtain ⟨rfl, g8, gP, g10⟩ := hx
    have hO2 : Outs S (sF S_ 1 1 0) 1 13 := hO.tr (fun x y w => Same.sF (by omega))
    have hA2 : AllR (sF S_ 1 1 0) := hr.sF (by decide)
    have gP2 : PlanR (sF S_ 1 1 0) 3 q.1 := PlanR.same (p := 3) gP (Same.sF (by omega))
    have g102 : fI (sF S_ 1 1 0) 1 10 = q.2 := by rw [fI_sF, if_neg (by omega)]; exact g10
    have g82 : fI (sF S_ 1 1 0) 1 8 = 0 := by rw [fI_sF, if_neg (by omega)]; exact g8
    have g12 : fI (sF S_ 1 1 0) 1 1 = 0 := by rw [fI_sF, if_pos ⟨rfl, rfl⟩]
    refine T_istore_n dX10_text_7 (by decide) rfl ?_
    refine T_aload_n dX10_text_8 rfl rfl ?_
    refine P_getr dX10_text_9 fX10_10 (by assumption) rfl ?_
    refine I_iconst dX10_text_12 ?_
    refine P_puti dX10_text_13 fX10_53 (by assumption) rfl rfl ?_
    generalize sF S_ 1 1 0 = S2 at hO2 hA2 gP2 g102 g82 g12 ⊢
    refine T_iload_n dX10_text_16 rfl ?_
    refine I_if_ne (tgt := 31) dX10_text_17 (by decide) (by decide) (fun h17 => ?_) (fun h17 => ?_)
    · refine T_aload_n dX10_text_31 rfl rfl ?_
      refine P_getr dX10_text_32 fX10_19 (by assumption) rfl ?_
      refine T_aload_n dX10_text_35 rfl rfl ?_
      refine P_getr dX10_text_36 fX10_10 (by assumption) rfl ?_
      refine P_getr dX10_text_39 fX10_68 (by assumption) rfl ?_
      refine R_callV dX10_text_42 kX5_copyFrom lX10_71 (by assumption) rfl (p_Plan_copy w2 k3 (by omega) hA2 gP2 hP.B) rfl rfl (Nat.le_of_ble_eq_true rfl) (Nat.le_of_ble_eq_true rfl) (by decide) (by decide) (fun r_ K_ S_ q_ => ?_)
      obtain ⟨rfl, hKe, i1, i2, i3⟩ := q_; have hKe := hKe.symm; subst hKe
      have hW3 : RoundW S_ 23 adn := (hW.same (hO2 _ _ (by omega))).same (i2 _ _ (by omega))
      refine T_aload_n dX10_text_45 rfl rfl ?_
      refine P_getr dX10_text_46 fX10_26 (by assumption) rfl ?_
      refine R_callV dX10_text_49 kX6_clear lX10_75 (by assumption) rfl (p_Round_clear w3 hW3 i3) rfl rfl (Nat.le_of_ble_eq_true rfl) (Nat.le_of_ble_eq_true rfl) (by decide) (by decide) (fun r_ K_ S_ q_ => ?_)
      obtain ⟨rfl, hKe, j1, j2, j3⟩ := q_; have hKe := hKe.symm; subst hKe
      refine T_aload_n dX10_text_52 rfl rfl ?_
      refine R_callV dX10_text_53 kX10_forgetImages lX10_78 (by assumption) rfl (p_forget w0 w6 j3) rfl rfl (Nat.le_of_ble_eq_true rfl) (Nat.le_of_ble_eq_true rfl) (by decide) (by decide) (fun r_ K_ S_ q_ => ?_)
      obtain ⟨rfl, hKe, l1, l2, l3⟩ := q_; have hKe := hKe.symm; subst hKe
      have t10 : fI S_ 1 10 = q.2 := (l1.f (by omega) 10).trans ((j2.f (by omega) 10).trans ((i2.f (by omega) 10).trans g102))
      have t8 : fI S_ 1 8 = 0 := (l1.f (by omega) 8).trans ((j2.f (by omega) 8).trans ((i2.f (by omega) 8).trans g82))
      have t1 : fI S_ 1 1 = 0 := (l1.f (by omega) 1).trans ((j2.f (by omega) 1).trans ((i2.f (by omega) 1).trans g12))
      have hOa : Outs S S_ 1 168 := (((hO2.sub (by omega) (by omega)).tr (i2.sub (by omega) (by omega))).tr (j2.sub (by omega) (by omega))).tr (l1.sub (by omega) (by omega))
      have hPl : PlanR S_ 13 q.1 := (i1.same (j2 _ _ (by omega))).same (l1 _ _ (by omega))
      have hRd : RoundR S_ 23 adn [] 0 e0M := j1.same hW3.1 (by simp) (l1 _ _ (by omega))
      refine T_aload_n dX10_text_56 rfl rfl ?_
      refine P_getr dX10_text_57 fX10_10 (by assumption) rfl ?_
      refine P_geti dX10_text_60 fX10_81 (by assumption) rfl ?_
      rw [t10]
      exact I_ireturn dX10_text_63 rfl ⟨_, _, rfl, rfl, rfl, ⟨h.1, ⟨⟨l2, t1, fun i u v => by have v : i < 0 := v; omega, by show (0 : Int) ≤ 0; omega, by show (0 : Int) ≤ 200; omega⟩, t8⟩, ⟨hPl, hP⟩, ⟨⟨adn, ⟨w4, w2, w3, hW3.1⟩, by omega, l2, hPl.toF hP, hRd, by simp [mTxS, mNw]⟩, e0_B hN, fun x hx => (by cases hx), by simp [mTxS, mNw]⟩, fun k a b => by
        have hb := imA_b ⟨a, b⟩
        obtain ⟨u1, ad, u2, -⟩ := h7 k a b
        exact ⟨((hO2.r (by omega) k).trans u1 |> fun z => (l1.r (by omega) k).trans ((j2.r (by omega) k).trans ((i2.r (by omega) k).trans z))), ad, (((u2.same (hO2 _ _ (by omega))).same (i2 _ _ (by omega))).same (j2 _ _ (by omega))).same (l1 _ _ (by omega)), Or.inl ⟨rfl, l3 k a b⟩⟩, h8.outs hOa (by omega)⟩, hOa _ _ (by omega)⟩
    · cases h17
theorem p_isImage {S : SV} {k : Int} (hk : R32 k) : P G 0 0 0 mX10_isImage 0 (LE mX10_isImage [IV k]) [] K S (Ret K (some (IV (b2p (imgB k)))) S) := by
  rw [show LE mX10_isImage [IV k] = [some (IV k)] from rfl]
  refine T_iload_n dX10_isImage_0 rfl ?_
  refine I_if_lt (tgt := 13) dX10_isImage_1 (by decide) hk (fun h1 => ?_) (fun h1 => ?_)
  · have hb : b2p (imgB k) = 0 := b2p_f (fun z => by have := z.1; have := z.2; omega)
    refine I_iconst dX10_isImage_13 ?_
    exact I_zreturn dX10_isImage_14 rfl (by decide) ⟨_, _, rfl, by rw [hb], rfl, rfl⟩
  · refine T_iload_n dX10_isImage_4 rfl ?_
    refine I_iconst dX10_isImage_5 ?_
    refine I_icmp_ge (tgt := 13) dX10_isImage_6 (by decide) hk ⟨by omega, by omega⟩ (fun h6 => ?_) (fun h6 => ?_)
    · have hb : b2p (imgB k) = 0 := b2p_f (fun z => by have := z.1; have := z.2; omega)
      refine I_iconst dX10_isImage_13 ?_
      exact I_zreturn dX10_isImage_14 rfl (by decide) ⟨_, _, rfl, by rw [hb], rfl, rfl⟩
    · have hb : b2p (imgB k) = 1 := b2p_t ⟨by omega, by omega⟩
      refine I_iconst dX10_isImage_9 ?_
      refine T_goto (tgt := 14) dX10_isImage_10 (by decide) ?_
      exact I_zreturn dX10_isImage_14 rfl (by decide) ⟨_, _, rfl, by rw [hb], rfl, rfl⟩
def keepM (M : MS) (k : Int) : Int × MS := if 0 ≤ k ∧ k < 2 then ((if (mIm M k).isSome then 1 else 0), mImS M (fset (mIm M) k (some (mNw M)))) else (-1, M)
theorem p_W_keep {S : SV} {k : Int} (h : WR K S M N) (hk : R32 k) : P G 3 0 0 mX10_keep 0 (LE mX10_keep [.ref 0, IV k]) [] K S (WQ K S (keepM M k).1 (keepM M k).2 N) := by
  obtain ⟨⟨w0, w1, w2, w3, w4, w5, w6, w7, w8, w9⟩, ⟨h2, h3⟩, ⟨h4, h5⟩, h6, h7, h8⟩ := id h
  unfold keepM
  by_cases a1 : 0 ≤ k ∧ k < 2
  · rw [if_pos a1]
    have hb := imA_b a1
    obtain ⟨u1, ad, u2, u3⟩ := h7 k a1.1 a1.2
    obtain ⟨adn, ⟨-, -, -, hAn⟩, c2, c3, c4, c5, c6⟩ := h6.1
    have wk : RoundAt K (imA k) := by
      rcases (show k = 0 ∨ k = 1 by omega) with rfl | rfl
      · exact w8
      · exact w9
    have wk' := wk.1
    obtain ⟨kv, hkv, hkb⟩ : ∃ kv : Int, aI S 167 k = kv ∧ ((kv = 0 ∧ mIm M k = none) ∨ (kv = 1 ∧ ∃ x, mIm M k = some x)) := by
      rcases u3 with ⟨z1, z2⟩ | ⟨x, z1, z2, -⟩
      · exact ⟨0, z2, Or.inl ⟨rfl, z1⟩⟩
      · exact ⟨1, z2, Or.inr ⟨rfl, x, z1⟩⟩
    have hres : (if (mIm M k).isSome then (1 : Int) else 0) = kv := by
      rcases hkb with ⟨z1, z2⟩ | ⟨z1, x, z2⟩
      · rw [z2, z1]; rfl
      · rw [z2, z1]; rfl
    have hfin : ∀ S1, RoundQ K S (imA k) ad (mNw M).2 (mNw M).2.length (mNw M).1 none K S1 → WQ K S kv (mImS M (fset (mIm M) k (some (mNw M)))) N (some (IV kv)) K (sA S1 167 k 1) := by
      intro S1 hq
      obtain ⟨-, -, j1, j2, j3⟩ := hq
      have hOa : Outs S (sA S1 167 k 1) 167 453 := (j2.sub (by omega) (by omega)).tr (fun x y w => Same.sA (by omega))
      have hA : AllR (sA S1 167 k 1) := j3.sA (by decide)
      refine ⟨rfl, rfl, ⟨h.1, ⟨h2.outs hOa hA (by omega), (hOa.f (by omega) 8).trans h3⟩, ⟨h4.same (hOa _ _ (by omega)), h5⟩, h6.outs hOa hA (by omega) (by omega), fun k' a b => ?_, ?_⟩, hOa _ _ (by omega)⟩
      · have hb' := imA_b ⟨a, b⟩
        obtain ⟨v1, ad', v2, v3⟩ := h7 k' a b
        by_cases e : k' = k
        · subst e
          have j1' : RoundR (sA S1 167 k' 1) (imA k') ad (mNw M).2 (mNw M).2.length (mNw M).1 := j1.same u2.1 c6 (Same.sA (by omega))
          exact ⟨(hOa.r (by omega) k').trans v1, ad, j1'.w u2.1, Or.inr ⟨mNw M, fset_t _ _ _, by rw [aI_sA, if_pos ⟨rfl, rfl⟩], j1', h6.2⟩⟩
        · have hs : Same S (sA S1 167 k 1) (imA k') (imA k' + 142) := (j2 _ _ (by unfold imA; omega)).tr (Same.sA (by omega))
          refine ⟨(hOa.r (by omega) k').trans v1, ad', v2.same hs, ?_⟩
          show (fset (mIm M) k (some (mNw M)) k' = none ∧ _) ∨ _
          rw [show mIm (mImS M (fset (mIm M) k (some (mNw M)))) k' = mIm M k' from fset_f _ _ e, fset_f _ _ e]
          have e167 : aI (sA S1 167 k 1) 167 k' = aI S 167 k' := by
            rw [aI_sA, if_neg (fun z => e z.2)]
            exact j2.a (by omega) k'
          rw [e167]
          rcases v3 with v3 | ⟨x, x1, x2, x3, x4⟩
          · exact Or.inl v3
          · exact Or.inr ⟨x, x1, x2, x3.same v2.1 (by have := x4.2.2; omega) hs, x4⟩
      · exact (h8.outs j2 (by omega)).outs (lo := 167) (hi := 168) (fun x y w => Same.sA (by omega)) (by omega)
    rw [hres]
    have hkr : kv = 0 ∨ kv = 1 := hkb.imp (fun z => z.1) (fun z => z.1)
    rcases hkr with hk0 | hk0
    · rw [show LE mX10_keep [.ref 0, IV k] = [some (.ref 0), some (IV k), none] from rfl]
      refine T_iload_n dX10_keep_0 rfl ?_
      refine Q_callS dX10_keep_1 kX10_isImage lX10_226 (p_isImage hk) rfl rfl (Nat.le_of_ble_eq_true rfl) (Nat.le_of_ble_eq_true rfl) (by decide) (by decide) ?_
      rw [b2p_t (show imgB k from a1)]
      refine I_if_ne (tgt := 9) dX10_keep_4 (by decide) (by decide) (fun h4 => ?_) (fun h4 => ?_)
      · refine T_aload_n dX10_keep_9 rfl rfl ?_
        refine P_getr dX10_keep_10 fX10_43 (by assumption) rfl ?_
        refine T_iload_n dX10_keep_13 rfl ?_
        refine P_zald dX10_keep_14 (by assumption) ⟨by omega, by omega⟩ (by first | decide | omega) ?_
        rw [hkv, hk0]
        refine I_if_eq (tgt := 22) dX10_keep_15 (by decide) (by decide) (fun h15 => ?_) (fun h15 => ?_)
        · refine I_iconst dX10_keep_22 ?_
          refine T_istore_n dX10_keep_23 (by decide) rfl ?_
          refine T_aload_n dX10_keep_24 rfl rfl ?_
          refine P_getr dX10_keep_25 fX10_39 (by assumption) rfl ?_
          refine T_iload_n dX10_keep_28 rfl ?_
          refine P_aald dX10_keep_29 (by assumption) (by decide) ⟨by omega, by omega⟩ (by decide) u1 ?_
          refine T_aload_n dX10_keep_30 rfl rfl ?_
          refine P_getr dX10_keep_31 fX10_26 (by assumption) rfl ?_
          refine R_callV dX10_keep_34 kX6_copyFrom lX10_229 (by assumption) rfl (p_Round_copy (by omega) wk w3 u2 hAn c5 c6 c3) rfl rfl (Nat.le_of_ble_eq_true rfl) (Nat.le_of_ble_eq_true rfl) (by decide) (by decide) (fun r_ K_ S_ q_ => ?_)
          have hq := q_
          obtain ⟨rfl, hKe, -⟩ := q_
          have hKe := hKe.symm
          subst hKe
          refine T_aload_n dX10_keep_37 rfl rfl ?_
          refine P_getr dX10_keep_38 fX10_43 (by assumption) rfl ?_
          refine T_iload_n dX10_keep_41 rfl ?_
          refine I_iconst dX10_keep_42 ?_
          refine P_zast dX10_keep_43 (by assumption) ⟨by omega, by omega⟩ (by first | decide | omega) (Or.inr rfl) ?_
          refine T_iload_n dX10_keep_44 rfl ?_
          have hf := hfin _ hq
          rw [hk0] at hf
          exact I_ireturn dX10_keep_45 rfl ⟨_, _, rfl, hf⟩
        · exact absurd rfl h15
      · cases h4
    · rw [show LE mX10_keep [.ref 0, IV k] = [some (.ref 0), some (IV k), none] from rfl]
      refine T_iload_n dX10_keep_0 rfl ?_
      refine Q_callS dX10_keep_1 kX10_isImage lX10_226 (p_isImage hk) rfl rfl (Nat.le_of_ble_eq_true rfl) (Nat.le_of_ble_eq_true rfl) (by decide) (by decide) ?_
      rw [b2p_t (show imgB k from a1)]
      refine I_if_ne (tgt := 9) dX10_keep_4 (by decide) (by decide) (fun h4 => ?_) (fun h4 => ?_)
      · refine T_aload_n dX10_keep_9 rfl rfl ?_
        refine P_getr dX10_keep_10 fX10_43 (by assumption) rfl ?_
        refine T_iload_n dX10_keep_13 rfl ?_
        refine P_zald dX10_keep_14 (by assumption) ⟨by omega, by omega⟩ (by first | decide | omega) ?_
        rw [hkv, hk0]
        refine I_if_eq (tgt := 22) dX10_keep_15 (by decide) (by decide) (fun h15 => ?_) (fun h15 => ?_)
        · cases h15
        · refine I_iconst dX10_keep_18 ?_
          refine T_goto (tgt := 23) dX10_keep_19 (by decide) ?_
          refine T_istore_n dX10_keep_23 (by decide) rfl ?_
          refine T_aload_n dX10_keep_24 rfl rfl ?_
          refine P_getr dX10_keep_25 fX10_39 (by assumption) rfl ?_
          refine T_iload_n dX10_keep_28 rfl ?_
          refine P_aald dX10_keep_29 (by assumption) (by decide) ⟨by omega, by omega⟩ (by decide) u1 ?_
          refine T_aload_n dX10_keep_30 rfl rfl ?_
          refine P_getr dX10_keep_31 fX10_26 (by assumption) rfl ?_
          refine R_callV dX10_keep_34 kX6_copyFrom lX10_229 (by assumption) rfl (p_Round_copy (by omega) wk w3 u2 hAn c5 c6 c3) rfl rfl (Nat.le_of_ble_eq_true rfl) (Nat.le_of_ble_eq_true rfl) (by decide) (by decide) (fun r_ K_ S_ q_ => ?_)
          have hq := q_
          obtain ⟨rfl, hKe, -⟩ := q_
          have hKe := hKe.symm
          subst hKe
          refine T_aload_n dX10_keep_37 rfl rfl ?_
          refine P_getr dX10_keep_38 fX10_43 (by assumption) rfl ?_
          refine T_iload_n dX10_keep_41 rfl ?_
          refine I_iconst dX10_keep_42 ?_
          refine P_zast dX10_keep_43 (by assumption) ⟨by omega, by omega⟩ (by first | decide | omega) (Or.inr rfl) ?_
          refine T_iload_n dX10_keep_44 rfl ?_
          have hf := hfin _ hq
          rw [hk0] at hf
          exact I_ireturn dX10_keep_45 rfl ⟨_, _, rfl, hf⟩
      · cases h4
  · rw [if_neg a1]
    rw [show LE mX10_keep [.ref 0, IV k] = [some (.ref 0), some (IV k), none] from rfl]
    refine T_iload_n dX10_keep_0 rfl ?_
    refine Q_callS dX10_keep_1 kX10_isImage lX10_226 (p_isImage hk) rfl rfl (Nat.le_of_ble_eq_true rfl) (Nat.le_of_ble_eq_true rfl) (by decide) (by decide) ?_
    rw [b2p_f (show ¬ imgB k from a1)]
    refine I_if_ne (tgt := 9) dX10_keep_4 (by decide) (by decide) (fun h4 => ?_) (fun h4 => ?_)
    · exact absurd rfl h4
    · refine I_iconst dX10_keep_7 ?_
      exact I_ireturn dX10_keep_8 rfl ⟨_, _, rfl, WQ.here h⟩
def backM (M : MS) (k : Int) : Int × MS := if 0 ≤ k ∧ k < 2 then (match mIm M k with
  | none => (-2, M)
  | some x => ((x.2.length : Int), mNwS M x)) else (-1, M)
theorem p_W_back {S : SV} {k : Int} (h : WR K S M N) (hk : R32 k) : P G 3 0 0 mX10_back 0 (LE mX10_back [.ref 0, IV k]) [] K S (WQ K S (backM M k).1 (backM M k).2 N) := by
  obtain ⟨⟨w0, w1, w2, w3, w4, w5, w6, w7, w8, w9⟩, ⟨h2, h3⟩, ⟨h4, h5⟩, h6, h7, h8⟩ := id h
  have w3' := w3.1
  have wm := w3.2.2.1.1
  unfold backM
  by_cases a1 : 0 ≤ k ∧ k < 2
  · rw [if_pos a1]
    have hb := imA_b a1
    obtain ⟨u1, ad, u2, u3⟩ := h7 k a1.1 a1.2
    obtain ⟨adn, ⟨c11, c12, c13, hAn⟩, c2, c3, c4, c5, c6⟩ := h6.1
    have wk : RoundAt K (imA k) := by
      rcases (show k = 0 ∨ k = 1 by omega) with rfl | rfl
      · exact w8
      · exact w9
    have wk' := wk.1
    rcases u3 with ⟨z1, z2⟩ | ⟨x, z1, z2, z3, z4⟩
    · rw [z1]
      rw [show LE mX10_back [.ref 0, IV k] = [some (.ref 0), some (IV k)] from rfl]
      refine T_iload_n dX10_back_0 rfl ?_
      refine Q_callS dX10_back_1 kX10_isImage lX10_226 (p_isImage hk) rfl rfl (Nat.le_of_ble_eq_true rfl) (Nat.le_of_ble_eq_true rfl) (by decide) (by decide) ?_
      rw [b2p_t (show imgB k from a1)]
      refine I_if_ne (tgt := 9) dX10_back_4 (by decide) (by decide) (fun h4 => ?_) (fun h4 => ?_)
      · refine T_aload_n dX10_back_9 rfl rfl ?_
        refine P_getr dX10_back_10 fX10_43 (by assumption) rfl ?_
        refine T_iload_n dX10_back_13 rfl ?_
        refine P_zald dX10_back_14 (by assumption) ⟨by omega, by omega⟩ (by first | decide | omega) ?_
        rw [z2]
        refine I_if_ne (tgt := 21) dX10_back_15 (by decide) (by decide) (fun h15 => ?_) (fun h15 => ?_)
        · exact absurd rfl h15
        · refine I_bipush dX10_back_18 (by decide) ?_
          exact I_ireturn dX10_back_20 rfl ⟨_, _, rfl, WQ.here h⟩
      · cases h4
    · rw [z1]
      rw [show LE mX10_back [.ref 0, IV k] = [some (.ref 0), some (IV k)] from rfl]
      refine T_iload_n dX10_back_0 rfl ?_
      refine Q_callS dX10_back_1 kX10_isImage lX10_226 (p_isImage hk) rfl rfl (Nat.le_of_ble_eq_true rfl) (Nat.le_of_ble_eq_true rfl) (by decide) (by decide) ?_
      rw [b2p_t (show imgB k from a1)]
      refine I_if_ne (tgt := 9) dX10_back_4 (by decide) (by decide) (fun h4 => ?_) (fun h4 => ?_)
      · refine T_aload_n dX10_back_9 rfl rfl ?_
        refine P_getr dX10_back_10 fX10_43 (by assumption) rfl ?_
        refine T_iload_n dX10_back_13 rfl ?_
        refine P_zald dX10_back_14 (by assumption) ⟨by omega, by omega⟩ (by first | decide | omega) ?_
        rw [z2]
        refine I_if_ne (tgt := 21) dX10_back_15 (by decide) (by decide) (fun h15 => ?_) (fun h15 => ?_)
        · refine T_aload_n dX10_back_21 rfl rfl ?_
          refine P_getr dX10_back_22 fX10_26 (by assumption) rfl ?_
          refine T_aload_n dX10_back_25 rfl rfl ?_
          refine P_getr dX10_back_26 fX10_39 (by assumption) rfl ?_
          refine T_iload_n dX10_back_29 rfl ?_
          refine P_aald dX10_back_30 (by assumption) (by decide) ⟨by omega, by omega⟩ (by decide) u1 ?_
          refine R_callV dX10_back_31 kX6_copyFrom lX10_229 (by assumption) rfl (p_Round_copy (by omega) w3 wk (c5.w hAn) u2.1 z3 (by have := z4.2.2; omega) c3) rfl rfl (Nat.le_of_ble_eq_true rfl) (Nat.le_of_ble_eq_true rfl) (by decide) (by decide) (fun r_ K_ S_ q_ => ?_)
          obtain ⟨rfl, hKe, j1, j2, j3⟩ := q_
          have hKe := hKe.symm
          subst hKe
          have hlv : fI S_ (23 + 2) 2 = x.2.length := j1.2.2.1.2.1
          have hC : CT K S_ 165 13 23 x.2 x.1 (mPl M) N := ⟨⟨adn, ⟨c11, c12, c13, hAn⟩, c2, j3, c4.same (j2 _ _ (by omega)), j1, by have := z4.2.2; omega⟩, z4⟩
          refine T_aload_n dX10_back_34 rfl rfl ?_
          refine P_getr dX10_back_35 fX10_26 (by assumption) rfl ?_
          refine P_getr dX10_back_38 fX10_103 (by assumption) rfl ?_
          refine P_geti dX10_back_41 fX10_107 (by assumption) rfl ?_
          rw [hlv]
          exact I_ireturn dX10_back_44 rfl ⟨_, _, rfl, rfl, rfl, h.now j2 hC (Int.le_refl _) z4.1.2.2.2.2.2.2, j2 _ _ (by omega)⟩
        · cases h15
      · cases h4
  · rw [if_neg a1]
    rw [show LE mX10_back [.ref 0, IV k] = [some (.ref 0), some (IV k)] from rfl]
    refine T_iload_n dX10_back_0 rfl ?_
    refine Q_callS dX10_back_1 kX10_isImage lX10_226 (p_isImage hk) rfl rfl (Nat.le_of_ble_eq_true rfl) (Nat.le_of_ble_eq_true rfl) (by decide) (by decide) ?_
    rw [b2p_f (show ¬ imgB k from a1)]
    refine I_if_ne (tgt := 9) dX10_back_4 (by decide) (by decide) (fun h4 => ?_) (fun h4 => ?_)
    · exact absurd rfl h4
    · refine I_iconst dX10_back_7 ?_
      exact I_ireturn dX10_back_8 rfl ⟨_, _, rfl, WQ.here h⟩
end WT
