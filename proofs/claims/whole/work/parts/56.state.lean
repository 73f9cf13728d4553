/-! the whole state, and what of it the class holds -/
abbrev SHT : Type := Int × Int × (Int → Int)
abbrev RND : Type := EN × List Row
abbrev MS : Type := (Int → Int) × Int × Int × PL × RND × (Int → Option RND) × (Int → Option SHT)
def mTp (M : MS) : Int → Int := M.1
def mN (M : MS) : Int := M.2.1
def mFt (M : MS) : Int := M.2.2.1
def mPl (M : MS) : PL := M.2.2.2.1
def mNw (M : MS) : RND := M.2.2.2.2.1
def mIm (M : MS) : Int → Option RND := M.2.2.2.2.2.1
def mSh (M : MS) : Int → Option SHT := M.2.2.2.2.2.2
def mTpS (M : MS) (tp : Int → Int) (n : Int) : MS := (tp, n, M.2.2)
def mFtS (M : MS) (f : Int) : MS := (M.1, 0, f, M.2.2.2)
def mNwS (M : MS) (x : RND) : MS := (M.1, M.2.1, M.2.2.1, M.2.2.2.1, x, M.2.2.2.2.2)
def mTxS (M : MS) (pl : PL) : MS := (M.1, 0, 0, pl, (e0M, []), fun _ => none, M.2.2.2.2.2.2)
def mImS (M : MS) (f : Int → Option RND) : MS := (M.1, M.2.1, M.2.2.1, M.2.2.2.1, M.2.2.2.2.1, f, M.2.2.2.2.2.2)
def mShS (M : MS) (f : Int → Option SHT) : MS := (M.1, M.2.1, M.2.2.1, M.2.2.2.1, M.2.2.2.2.1, M.2.2.2.2.2.1, f)
def imA (k : Int) : Nat := 169 + 142 * k.toNat
def WSh (K : List SH) : Prop := K[0]? = some (.inr (10, [some 1, some 13, some 23, some 165, some 166, some 167, some 168])) ∧ TapeAt K 1 ∧ PlanAt K 13 ∧ RoundAt K 23 ∧ CarAt K 165 13 23 ∧ K[166]? = some (.inl (4, 2)) ∧ K[167]? = some (.inl (2, 2)) ∧ K[168]? = some (.inl (5, 4)) ∧ RoundAt K 169 ∧ RoundAt K 311
def RndOk (N : Int) (pl : PL) (x : RND) : Prop := EnB N x.1 ∧ (∀ r ∈ x.2, okRow N pl r) ∧ x.2.length ≤ 60
def ImR (S : SV) (im : Int → Option RND) (pl : PL) (N : Int) : Prop := ∀ k : Int, 0 ≤ k → k < 2 → rI S 166 k = some (imA k) ∧ ∃ ad, RoundW S (imA k) ad ∧ ((im k = none ∧ aI S 167 k = 0) ∨ ∃ x, im k = some x ∧ aI S 167 k = 1 ∧ RoundR S (imA k) ad x.2 x.2.length x.1 ∧ RndOk N pl x)
def sheetIs (S : SV) (o nb ni : Nat) (q : SHT) : Prop := (q.1 = 0 ∨ q.1 = 1) ∧ (0 ≤ q.2.1 ∧ q.2.1 ≤ 40) ∧ fI S o 0 = q.1 ∧ fI S o 1 = q.2.1 ∧ (nb : Int) = (if q.1 = 0 then q.2.1 else 0) ∧ (ni : Int) = (if q.1 = 1 then q.2.1 else 0) ∧ (∀ i, 0 ≤ i → i < q.2.1 → cellO S o i = q.2.2 i) ∧ ∀ i, -128 ≤ aI S (o + 1) i ∧ aI S (o + 1) i < 128
def ShR (K : List SH) (S : SV) (sh : Int → Option SHT) : Prop := (∀ k : Int, 0 ≤ k → k < 4 → (sh k = none ∧ rI S 168 k = none) ∨ ∃ (q : SHT) (o nb ni : Nat), sh k = some q ∧ rI S 168 k = some o ∧ SheetAt K o nb ni ∧ 466 ≤ o ∧ sheetIs S o nb ni q) ∧ ∀ (k k' : Int) (o o' : Nat), 0 ≤ k → k < 4 → 0 ≤ k' → k' < 4 → k ≠ k' → rI S 168 k = some o → rI S 168 k' = some o' → o + 3 ≤ o' ∨ o' + 3 ≤ o
def WR (K : List SH) (S : SV) (M : MS) (N : Int) : Prop := WSh K ∧ (TB S 1 (mTp M) (mN M) ∧ fI S 1 8 = mFt M) ∧ (PlanR S 13 (mPl M) ∧ PlOk (mPl M)) ∧ CT K S 165 13 23 (mNw M).2 (mNw M).1 (mPl M) N ∧ ImR S (mIm M) (mPl M) N ∧ ShR K S (mSh M)
/-- what lies from lo to hi may change, nothing else -/
theorem Outs.f {S S' : SV} {lo hi a : Nat} (h : Outs S S' lo hi) (ha : a < lo ∨ hi ≤ a) (k : Nat) : fI S' a k = fI S a k := (h a (a + 1) (by omega) a (by omega) (by omega)).1 k
theorem Outs.a {S S' : SV} {lo hi a : Nat} (h : Outs S S' lo hi) (ha : a < lo ∨ hi ≤ a) (k : Int) : aI S' a k = aI S a k := (h a (a + 1) (by omega) a (by omega) (by omega)).2.1 k
theorem Outs.r {S S' : SV} {lo hi a : Nat} (h : Outs S S' lo hi) (ha : a < lo ∨ hi ≤ a) (k : Int) : rI S' a k = rI S a k := (h a (a + 1) (by omega) a (by omega) (by omega)).2.2 k
theorem TB.outs {S S' : SV} {t : Nat} {tp : Int → Int} {n : Int} {lo hi : Nat} (h : TB S t tp n) (hO : Outs S S' lo hi) (hr : AllR S') (hd : hi ≤ t ∨ t + 2 ≤ lo) : TB S' t tp n := ⟨hr, (hO.f (by omega) 1).trans h.2.1, fun i a b => (hO.a (by omega) i).trans (h.2.2.1 i a b), h.2.2.2⟩
theorem RndOk.mono {N N' : Int} {pl : PL} {x : RND} (h : RndOk N pl x) (hN : N ≤ N') (hM : N' ≤ 1000000000) : RndOk N' pl x := ⟨h.1.mono hN hM, fun r hr => (h.2.1 r hr).mono hN, h.2.2⟩
theorem imA_b {k : Int} (h : 0 ≤ k ∧ k < 2) : 169 ≤ imA k ∧ imA k + 142 ≤ 453 := by unfold imA; omega
theorem ImR.mono {S : SV} {im : Int → Option RND} {pl : PL} {N N' : Int} (h : ImR S im pl N) (hN : N ≤ N') (hM : N' ≤ 1000000000) : ImR S im pl N' := fun k a b => by
  obtain ⟨h1, ad, h2, h3⟩ := h k a b
  exact ⟨h1, ad, h2, h3.imp id (fun ⟨x, g1, g2, g3, g4⟩ => ⟨x, g1, g2, g3, g4.mono hN hM⟩)⟩
theorem ImR.outs {S S' : SV} {im : Int → Option RND} {pl : PL} {N : Int} {lo hi : Nat} (h : ImR S im pl N) (hO : Outs S S' lo hi) (hd : hi ≤ 166 ∨ 453 ≤ lo ∨ lo = 168 ∧ hi = 169) : ImR S' im pl N := fun k a b => by
  have hb := imA_b ⟨a, b⟩
  obtain ⟨h1, ad, h2, h3⟩ := h k a b
  have hs : Same S S' (imA k) (imA k + 142) := hO _ _ (by omega)
  exact ⟨(hO.r (by omega) k).trans h1, ad, h2.same hs, h3.imp (fun g => ⟨g.1, (hO.a (by omega) k).trans g.2⟩) (fun ⟨x, g1, g2, g3, g4⟩ => ⟨x, g1, (hO.a (by omega) k).trans g2, g3.same h2.1 (by have := g4.2.2; omega) hs, g4⟩)⟩
theorem sheetIs.same {S S' : SV} {o nb ni : Nat} {q : SHT} (h : sheetIs S o nb ni q) (hs : Same S S' o (o + 3)) : sheetIs S' o nb ni q := by
  obtain ⟨h1, h2, h3, h4, h5, h6, h7, h8⟩ := h
  have e0 := (hs o (by omega) (by omega)).1
  have e1 := (hs (o + 1) (by omega) (by omega)).2.1
  have e2 := (hs (o + 2) (by omega) (by omega)).2.1
  exact ⟨h1, h2, (e0 0).trans h3, (e0 1).trans h4, h5, h6, fun i a b => by unfold cellO; rw [e0, e1, e2]; exact h7 i a b, fun i => by rw [e1]; exact h8 i⟩
theorem ShR.outs {K : List SH} {S S' : SV} {sh : Int → Option SHT} {lo hi : Nat} (h : ShR K S sh) (hO : Outs S S' lo hi) (hd : hi ≤ 168 ∨ 169 ≤ lo ∧ hi ≤ 466) : ShR K S' sh := by
  refine ⟨fun k a b => ?_, fun k k' o o' a b c d e f g => h.2 k k' o o' a b c d e ((hO.r (by omega) k).symm.trans f) ((hO.r (by omega) k').symm.trans g)⟩
  rcases h.1 k a b with ⟨g1, g2⟩ | ⟨q, o, nb, ni, g1, g2, g3, g4, g5⟩
  · exact Or.inl ⟨g1, (hO.r (by omega) k).trans g2⟩
  · exact Or.inr ⟨q, o, nb, ni, g1, (hO.r (by omega) k).trans g2, g3, g4, g5.same (hO _ _ (by omega))⟩
theorem CT.outs {K : List SH} {S S' : SV} {c p r : Nat} {its : List Row} {e : EN} {pl : PL} {N : Int} {lo hi : Nat} (h : CT K S c p r its e pl N) (hO : Outs S S' lo hi) (hr : AllR S') (hp : hi ≤ p ∨ p + 10 ≤ lo) (hq : hi ≤ r ∨ r + 142 ≤ lo) : CT K S' c p r its e pl N := by
  obtain ⟨⟨ad, c1, c2, c3, c4, c5, c6⟩, h2⟩ := h
  exact ⟨⟨ad, c1, c2, hr, c4.same (hO _ _ (by omega)), c5.same c1.2.2.2 c6 (hO _ _ (by omega)), c6⟩, h2⟩
theorem WR.allR {K : List SH} {S : SV} {M : MS} {N : Int} (h : WR K S M N) : AllR S := h.2.1.1.1
/-- the round of now alone changes -/
theorem WR.now {K : List SH} {S S' : SV} {M : MS} {N N' : Int} {x : RND} (h : WR K S M N) (hO : Outs S S' 23 165) (hC : CT K S' 165 13 23 x.2 x.1 (mPl M) N') (hN : N ≤ N') (hM : N' ≤ 1000000000) : WR K S' (mNwS M x) N' := by
  obtain ⟨h1, ⟨h2, h3⟩, ⟨h4, h5⟩, h6, h7, h8⟩ := h
  have hr : AllR S' := hC.1.elim (fun ad z => z.2.2.1)
  exact ⟨h1, ⟨h2.outs hO hr (by omega), (hO.f (by omega) 8).trans h3⟩, ⟨h4.same (hO _ _ (by omega)), h5⟩, hC, (h7.outs hO (by omega)).mono hN hM, h8.outs hO (by omega)⟩
theorem WR.mono {K : List SH} {S : SV} {M : MS} {N N' : Int} (h : WR K S M N) (hN : N ≤ N') (hM : N' ≤ 1000000000) : WR K S M N' := ⟨h.1, h.2.1, h.2.2.1, h.2.2.2.1.mono hN hM, h.2.2.2.2.1.mono hN hM, h.2.2.2.2.2⟩
theorem WR.nowW {K : List SH} {S : SV} {M : MS} {N : Int} (h : WR K S M N) : ∃ ad, RoundW S 23 ad := by
  obtain ⟨ad, c1, c2, c3, c4, c5, c6⟩ := h.2.2.2.1.1
  exact ⟨ad, c5.w c1.2.2.2⟩
/-- answer v, state M', over the same shapes -/
def WQ (K : List SH) (S : SV) (v : Int) (M : MS) (N : Int) : Option Value → List SH → SV → Prop := fun rv K' S' => rv = some (IV v) ∧ K' = K ∧ WR K S' M N ∧ Same S S' 453 466
theorem WQ.here {K : List SH} {S : SV} {v : Int} {M : MS} {N : Int} (h : WR K S M N) : WQ K S v M N (some (IV v)) K S := ⟨rfl, rfl, h, Same.rf⟩
section WM
variable {G : GT} {K : List SH} {S : SV} {M : MS} {N : Int}
def feedM (M : MS) (c : Int) : Int × MS := if 0 ≤ c ∧ c ≤ 127 then (if mN M < 200 then (mN M + 1, mTpS M (fset (mTp M) (mN M) c) (mN M + 1)) else (-3, M)) else (-1, M)
theorem p_W_feed {c : Int} (h : WR K S M N) (hc : R32 c) : P G 0 0 0 mX10_feed 0 (LE mX10_feed [.ref 0, IV c]) [] K S (WQ K S (feedM M c).1 (feedM M c).2 N) := by
  obtain ⟨⟨w0, w1, w2, w3, w4, w5, w6, w7, w8, w9⟩, ⟨h2, h3⟩, ⟨h4, h5⟩, h6, h7, h8⟩ := id h
  have k1 := w1.1
  have k2 := w1.2.1
  have hn := h2.2.2.2
  have hl : fI S 1 1 = mN M := h2.2.1
  unfold feedM
  by_cases a1 : 0 ≤ c ∧ c ≤ 127
  · rw [if_pos a1]
    have hbi : bI c = c := by unfold bI; exact Int.bmod_eq_of_le (by omega) (by omega)
    by_cases a2 : mN M < 200
    · rw [if_pos a2]
      have hO : Outs S (sF (sA S 2 (mN M) c) 1 1 (mN M + 1)) 1 3 := fun x y w => (Same.sA (by omega)).tr (Same.sF (by omega))
      have hA : AllR (sF (sA S 2 (mN M) c) 1 1 (mN M + 1)) := (h2.1.sA hc).sF ⟨by omega, by omega⟩
      have hl2 : fI (sA S 2 (mN M) c) 1 1 = mN M := hl
      have hl3 : fI (sF (sA S 2 (mN M) c) 1 1 (mN M + 1)) 1 1 = mN M + 1 := by rw [fI_sF, if_pos ⟨rfl, rfl⟩]
      rw [show LE mX10_feed [.ref 0, IV c] = [some (.ref 0), some (IV c)] from rfl]
      refine T_iload_n dX10_feed_0 rfl ?_
      refine I_if_lt (tgt := 10) dX10_feed_1 (by decide) hc (fun q1 => ?_) (fun q1 => ?_)
      · omega
      · refine T_iload_n dX10_feed_4 rfl ?_
        refine I_bipush dX10_feed_5 (by decide) ?_
        refine I_icmp_le (tgt := 12) dX10_feed_7 (by decide) hc ⟨by omega, by omega⟩ (fun q7 => ?_) (fun q7 => ?_)
        · refine T_aload_n dX10_feed_12 rfl rfl ?_
          refine P_getr dX10_feed_13 fX10_10 (by assumption) rfl ?_
          refine P_geti dX10_feed_16 fX10_53 (by assumption) rfl ?_
          rw [hl]
          refine I_sipush dX10_feed_19 (by decide) ?_
          refine I_icmp_lt (tgt := 28) dX10_feed_22 (by decide) ⟨by omega, by omega⟩ ⟨by omega, by omega⟩ (fun h22 => ?_) (fun h22 => ?_)
          · refine T_aload_n dX10_feed_28 rfl rfl ?_
            refine P_getr dX10_feed_29 fX10_10 (by assumption) rfl ?_
            refine P_getr dX10_feed_32 fX10_57 (by assumption) rfl ?_
            refine T_aload_n dX10_feed_35 rfl rfl ?_
            refine P_getr dX10_feed_36 fX10_10 (by assumption) rfl ?_
            refine P_geti dX10_feed_39 fX10_53 (by assumption) rfl ?_
            rw [hl]
            refine T_iload_n dX10_feed_42 rfl ?_
            refine I_i2b dX10_feed_43 ?_
            rw [hbi]
            refine P_bast dX10_feed_44 (by assumption) ⟨by omega, by omega⟩ (by first | decide | omega) (by rw [← hbi]; exact bI_nar c) ?_
            refine T_aload_n dX10_feed_45 rfl rfl ?_
            refine P_getr dX10_feed_46 fX10_10 (by assumption) rfl ?_
            refine T_dup dX10_feed_49 rfl ?_
            refine P_geti dX10_feed_50 fX10_53 (by assumption) rfl ?_
            rw [hl2]
            refine I_iconst dX10_feed_53 ?_
            refine I_iadd dX10_feed_54 ?_
            refine P_puti dX10_feed_55 fX10_53 (by assumption) rfl rfl ?_
            refine T_aload_n dX10_feed_58 rfl rfl ?_
            refine P_getr dX10_feed_59 fX10_10 (by assumption) rfl ?_
            refine P_geti dX10_feed_62 fX10_53 (by assumption) rfl ?_
            rw [hl3]
            exact I_ireturn dX10_feed_65 rfl ⟨_, _, rfl, rfl, rfl, ⟨h.1, ⟨⟨hA, hl3, fun i u v => by
              have v : i < mN M + 1 := v
              show aI (sF (sA S 2 (mN M) c) 1 1 (mN M + 1)) 2 i = fset (mTp M) (mN M) c i
              rw [aI_sF, aI_sA]
              by_cases e : i = mN M
              · rw [if_pos ⟨rfl, e⟩, e, fset_t]
              · rw [if_neg (fun z => e z.2), fset_f _ _ e]
                exact h2.2.2.1 i u (by omega), by show 0 ≤ mN M + 1; omega, by show mN M + 1 ≤ 200; omega⟩, by rw [fI_sF, if_neg (by omega)]; exact h3⟩, ⟨h4.same (hO _ _ (by omega)), h5⟩, h6.outs hO hA (by omega) (by omega), h7.outs hO (by omega), h8.outs hO (by omega)⟩, hO _ _ (by omega)⟩
          · omega
        · omega
    · rw [if_neg a2]
      rw [show LE mX10_feed [.ref 0, IV c] = [some (.ref 0), some (IV c)] from rfl]
      refine T_iload_n dX10_feed_0 rfl ?_
      refine I_if_lt (tgt := 10) dX10_feed_1 (by decide) hc (fun q1 => ?_) (fun q1 => ?_)
      · omega
      · refine T_iload_n dX10_feed_4 rfl ?_
        refine I_bipush dX10_feed_5 (by decide) ?_
        refine I_icmp_le (tgt := 12) dX10_feed_7 (by decide) hc ⟨by omega, by omega⟩ (fun q7 => ?_) (fun q7 => ?_)
        · refine T_aload_n dX10_feed_12 rfl rfl ?_
          refine P_getr dX10_feed_13 fX10_10 (by assumption) rfl ?_
          refine P_geti dX10_feed_16 fX10_53 (by assumption) rfl ?_
          rw [hl]
          refine I_sipush dX10_feed_19 (by decide) ?_
          refine I_icmp_lt (tgt := 28) dX10_feed_22 (by decide) ⟨by omega, by omega⟩ ⟨by omega, by omega⟩ (fun h22 => ?_) (fun h22 => ?_)
          · omega
          · refine I_bipush dX10_feed_25 (by decide) ?_
            exact I_ireturn dX10_feed_27 rfl ⟨_, _, rfl, WQ.here h⟩
        · omega
  · rw [if_neg a1]
    rw [show LE mX10_feed [.ref 0, IV c] = [some (.ref 0), some (IV c)] from rfl]
    refine T_iload_n dX10_feed_0 rfl ?_
    refine I_if_lt (tgt := 10) dX10_feed_1 (by decide) hc (fun q1 => ?_) (fun q1 => ?_)
    · refine I_iconst dX10_feed_10 ?_
      exact I_ireturn dX10_feed_11 rfl ⟨_, _, rfl, WQ.here h⟩
    · refine T_iload_n dX10_feed_4 rfl ?_
      refine I_bipush dX10_feed_5 (by decide) ?_
      refine I_icmp_le (tgt := 12) dX10_feed_7 (by decide) hc ⟨by omega, by omega⟩ (fun q7 => ?_) (fun q7 => ?_)
      · omega
      · refine I_iconst dX10_feed_10 ?_
        exact I_ireturn dX10_feed_11 rfl ⟨_, _, rfl, WQ.here h⟩
def endC (M : MS) (n : Int) : Int × MS := if 0 ≤ n ∧ n ≤ mN M then (mN M, mTpS M (mTp M) n) else (-1, M)
theorem p_W_end {n : Int} (h : WR K S M N) (hc : R32 n) : P G 0 0 0 mX10_end 0 (LE mX10_end [.ref 0, IV n]) [] K S (WQ K S (endC M n).1 (endC M n).2 N) := by
  obtain ⟨⟨w0, w1, w2, w3, w4, w5, w6, w7, w8, w9⟩, ⟨h2, h3⟩, ⟨h4, h5⟩, h6, h7, h8⟩ := id h
  have k1 := w1.1
  have hn := h2.2.2.2
  have hl : fI S 1 1 = mN M := h2.2.1
  unfold endC
  by_cases a1 : 0 ≤ n ∧ n ≤ mN M
  · rw [if_pos a1]
    have hO : Outs S (sF S 1 1 n) 1 3 := fun x y w => Same.sF (by omega)
    have hA : AllR (sF S 1 1 n) := h2.1.sF hc
    rw [show LE mX10_end [.ref 0, IV n] = [some (.ref 0), some (IV n), none] from rfl]
    refine T_iload_n dX10_end_0 rfl ?_
    refine I_if_lt (tgt := 15) dX10_end_1 (by decide) hc (fun h1 => ?_) (fun h1 => ?_)
    · omega
    · refine T_iload_n dX10_end_4 rfl ?_
      refine T_aload_n dX10_end_5 rfl rfl ?_
      refine P_getr dX10_end_6 fX10_10 (by assumption) rfl ?_
      refine P_geti dX10_end_9 fX10_53 (by assumption) rfl ?_
      rw [hl]
      refine I_icmp_le (tgt := 17) dX10_end_12 (by decide) hc ⟨by omega, by omega⟩ (fun h12 => ?_) (fun h12 => ?_)
      · refine T_aload_n dX10_end_17 rfl rfl ?_
        refine P_getr dX10_end_18 fX10_10 (by assumption) rfl ?_
        refine P_geti dX10_end_21 fX10_53 (by assumption) rfl ?_
        rw [hl]
        refine T_istore_n dX10_end_24 (by decide) rfl ?_
        refine T_aload_n dX10_end_25 rfl rfl ?_
        refine P_getr dX10_end_26 fX10_10 (by assumption) rfl ?_
        refine T_iload_n dX10_end_29 rfl ?_
        refine P_puti dX10_end_30 fX10_53 (by assumption) rfl rfl ?_
        refine T_iload_n dX10_end_33 rfl ?_
        exact I_ireturn dX10_end_34 rfl ⟨_, _, rfl, rfl, rfl, ⟨h.1, ⟨⟨hA, by rw [fI_sF, if_pos ⟨rfl, rfl⟩]; rfl, fun i u v => h2.2.2.1 i u (by have v : i < n := v; omega), a1.1, by show n ≤ 200; omega⟩, by rw [fI_sF, if_neg (by omega)]; exact h3⟩, ⟨h4.same (hO _ _ (by omega)), h5⟩, h6.outs hO hA (by omega) (by omega), h7.outs hO (by omega), h8.outs hO (by omega)⟩, hO _ _ (by omega)⟩
      · omega
  · rw [if_neg a1]
    rw [show LE mX10_end [.ref 0, IV n] = [some (.ref 0), some (IV n), none] from rfl]
    refine T_iload_n dX10_end_0 rfl ?_
    refine I_if_lt (tgt := 15) dX10_end_1 (by decide) hc (fun h1 => ?_) (fun h1 => ?_)
    · refine I_iconst dX10_end_15 ?_
      exact I_ireturn dX10_end_16 rfl ⟨_, _, rfl, WQ.here h⟩
    · refine T_iload_n dX10_end_4 rfl ?_
      refine T_aload_n dX10_end_5 rfl rfl ?_
      refine P_getr dX10_end_6 fX10_10 (by assumption) rfl ?_
      refine P_geti dX10_end_9 fX10_53 (by assumption) rfl ?_
      rw [hl]
      refine I_icmp_le (tgt := 17) dX10_end_12 (by decide) hc ⟨by omega, by omega⟩ (fun h12 => ?_) (fun h12 => ?_)
      · omega
      · refine I_iconst dX10_end_15 ?_
        exact I_ireturn dX10_end_16 rfl ⟨_, _, rfl, WQ.here h⟩
theorem p_W_fault (h : WR K S M N) : P G 0 0 0 mX10_fault 0 (LE mX10_fault [.ref 0]) [] K S (WQ K S (mFt M) M N) := by
  have w0 := h.1.1
  have k1 := h.1.2.1.1
  have h3 := h.2.1.2
  rw [show LE mX10_fault [.ref 0] = [some (.ref 0)] from rfl]
  refine T_aload_n dX10_fault_0 rfl rfl ?_
  refine P_getr dX10_fault_1 fX10_10 (by assumption) rfl ?_
  refine P_geti dX10_fault_4 fX10_84 (by assumption) rfl ?_
  rw [h3]
  exact I_ireturn dX10_fault_7 rfl ⟨_, _, rfl, WQ.here h⟩
end WM
