/-! the reference: reaches, keep, back -/
theorem sum_lt {f g : Int → Int} : ∀ (m : Nat) (i : Int), (∀ t, i ≤ t → t < i + m → f t ≤ g t) → (∃ y, i ≤ y ∧ y < i + m ∧ f y + 1 ≤ g y) → sumF f m i + 1 ≤ sumF g m i
  | 0, i, _, ⟨y, h1, h2, _⟩ => by omega
  | m + 1, i, h, ⟨y, h1, h2, h3⟩ => by
    rw [sumF, sumF]
    have h0 := h i (by omega) (by omega)
    by_cases e : y = i
    · have := sumF_mono (f := f) (g := g) m (i + 1) (fun t a b => h t (by omega) (by omega))
      rw [e] at h3
      omega
    · have := sum_lt m (i + 1) (fun t a b => h t (by omega) (by omega)) ⟨y, by omega, by omega, h3⟩
      omega
theorem EnC.cg {f f' : Int → Int} {e : EN} {its : List Row} (h : EnC f e its) (hf : ∀ i, 0 ≤ i → i < 1583 → f' i = f i) : EnC f' e its := ⟨h.1.cg (fun i z => hf i (by omega) (by omega)), h.2.1.cg (fun i z => hf i (by omega) (by omega)), h.2.2.1.cg (fun i z => hf i (by omega) (by omega)), h.2.2.2.1.cg (fun i z => hf i (by omega) (by omega)), h.2.2.2.2.1.cg (fun i z => hf i (by omega) (by omega)), h.2.2.2.2.2.cg (fun i z => hf i (by omega) (by omega))⟩
theorem RR.oth {K : List SH} {S S' : SV} {M : MS} (h : RR K S M) (hA : AllR S') (hf : ∀ k, fI S' 453 k = fI S 453 k) (ha : ∀ a i, a = 454 ∨ a = 456 ∨ a = 457 ∨ a = 459 ∨ a = 463 ∨ a = 464 ∨ a = 465 → aI S' a i = aI S a i) : RR K S' M := by
  obtain ⟨h1, h2, h3, h4, h5, h6⟩ := h
  have e : aI S' 454 = aI S 454 := funext (fun i => ha 454 i (by omega))
  refine ⟨⟨h1.1, hA, h1.2.2.1, by rw [e]; exact h1.2.2.2.1, by rw [e]; exact h1.2.2.2.2⟩, ⟨(hf 6).trans h2.1, h2.2.1, fun i a b => ⟨(ha 459 i (by omega)).trans (h2.2.2 i a b).1, (h2.2.2 i a b).2⟩⟩, (hf 11).trans h3, h4, RIm.wo h5 (fun i => ha 456 i (by omega)) (fun i => ha 457 i (by omega)), RSh.wo h6 (fun i => ha 463 i (by omega)) (fun i => ha 464 i (by omega)) (fun i => ha 465 i (by omega))⟩
theorem RR.met {K : List SH} {S : SV} {M : MS} {i v : Int} (h : RR K S M) (hv : R32 v) : RR K (sA S 460 i v) M := h.oth (h.1.2.1.sA hv) (fun _ => rfl) (fun a j q => by rw [aI_sA, if_neg (by omega)])
/-- what is met: f; at the pass's beginning f0 -/
def MtI (pl : PL) (a : Int) (f : Int → Int) : Prop := (∀ y, 0 ≤ y → y < 32 → f y = 0 ∨ f y = 1) ∧ f a = 1 ∧ ∀ y, 0 ≤ y → y < 32 → f y = 1 → reachP pl a y
def PsI (f0 f : Int → Int) (more : Int) : Prop := (more = 0 ∨ more = 1) ∧ (∀ y, 0 ≤ y → y < 32 → f0 y ≤ f y) ∧ (more = 0 → ∀ y, 0 ≤ y → y < 32 → f y = f0 y) ∧ (more = 1 → ∃ y, 0 ≤ y ∧ y < 32 ∧ f0 y + 1 ≤ f y)
section RW1
variable {G : GT} {K : List SH} {M : MS} {S0 : SV} {a i0 : Int}
theorem l_met3 {f0 : Int → Int} {k more0 : Int} {Q : Option Value → List SH → SV → Prop} (hk : 0 ≤ k ∧ k < 32) (hc : ∀ (S : SV) (more : Int), RR K S M → Outs S0 S 453 466 → MtI (mPl M) a (aI S 460) → PsI f0 (aI S 460) more → (more = 0 → f0 k = 1 → ∀ t, 0 ≤ t → t < pLc (mPl M) k → f0 (pLd (mPl M) k t) = 1) → (more = 0 → more0 = 0) → P G 1 0 0 mX11_reaches 131 [some (.ref 453), some (IV a), some (IV i0), some (IV more), some (IV k), none] [] K S Q) (m : Nat) : ∀ (t more : Int) (S : SV), 0 ≤ t → pLc (mPl M) k - t = m → RR K S M → Outs S0 S 453 466 → MtI (mPl M) a (aI S 460) → PsI f0 (aI S 460) more → (more = 0 → f0 k = 1 → ∀ t', 0 ≤ t' → t' < t → f0 (pLd (mPl M) k t') = 1) → (more = 0 → more0 = 0) → P G 1 0 0 mX11_reaches 64 [some (.ref 453), some (IV a), some (IV i0), some (IV more), some (IV k), some (IV t)] [] K S Q := by
  induction m with
  | zero =>
    intro t more S h0 hm h hO hI hP hcl hmm
    have m0 := h.1.1.1
    have hlc := (h.1.2.2.1.2.2.2.2.2 k hk.1 hk.2).2.1
    have z := hc S more h hO hI hP (fun u v t' a b => hcl u v t' a (by omega)) hmm
    refine T_iload dX11_reaches_64 rfl ?_
    refine T_aload_n dX11_reaches_66 rfl rfl ?_
    refine T_iload dX11_reaches_67 rfl ?_
    refine Q_callV dX11_reaches_69 kX11_targets lX11_197 (by assumption) rfl (p_R_targets h.1 hk) rfl rfl (Nat.le_of_ble_eq_true rfl) (Nat.le_of_ble_eq_true rfl) (by decide) (by decide) ?_
    refine I_icmp_ge (tgt := 131) dX11_reaches_72 (by decide) ⟨by omega, by omega⟩ ⟨by omega, by omega⟩ (fun h72 => ?_) (fun h72 => ?_)
    · refine T.forget 5 ?_
      exact z
    · omega
  | succ m ih =>
    intro t more S h0 hm h hO hI hP hcl hmm
    have m0 := h.1.1.1
    have m7 := h.1.1.2.2.2.2.2.2.2.1
    have hPo := h.1.2.2.1
    have hlc := (hPo.2.2.2.2.2 k hk.1 hk.2).2.1
    have hld := (hPo.2.2.2.2.2 k hk.1 hk.2).2.2.2.2 t h0 (by omega)
    have hfk := hI.1 k hk.1 hk.2
    rcases hfk with hf0 | hf1
    · -- not met
      have z := hc S more h hO hI hP (fun u v => by
        have := hP.2.2.1 u k hk.1 hk.2
        omega) hmm
      refine T_iload dX11_reaches_64 rfl ?_
      refine T_aload_n dX11_reaches_66 rfl rfl ?_
      refine T_iload dX11_reaches_67 rfl ?_
      refine Q_callV dX11_reaches_69 kX11_targets lX11_197 (by assumption) rfl (p_R_targets h.1 hk) rfl rfl (Nat.le_of_ble_eq_true rfl) (Nat.le_of_ble_eq_true rfl) (by decide) (by decide) ?_
      refine I_icmp_ge (tgt := 131) dX11_reaches_72 (by decide) ⟨by omega, by omega⟩ ⟨by omega, by omega⟩ (fun h72 => ?_) (fun h72 => ?_)
      · omega
      · refine T_aload_n dX11_reaches_75 rfl rfl ?_
        refine P_getr dX11_reaches_76 fX11_29 (by assumption) rfl ?_
        refine T_iload dX11_reaches_79 rfl ?_
        refine P_zald dX11_reaches_81 (by assumption) ⟨by omega, by omega⟩ (by first | decide | omega) ?_
        rw [hf0]
        refine I_if_eq (tgt := 131) dX11_reaches_82 (by decide) ⟨by omega, by omega⟩ (fun h82 => ?_) (fun h82 => ?_)
        · refine T.forget 5 ?_
          exact z
        · exact absurd rfl h82
    · have hft := hI.1 _ hld.1 hld.2
      have hrk := hI.2.2 k hk.1 hk.2 hf1
      have hrt : reachP (mPl M) a (pLd (mPl M) k t) := hrk.st hk ⟨h0, by omega⟩
      have hm01 := hP.1
      -- the state behind it
      have go : ∀ more' : Int, (more' = 1 ∧ (more = 1 ∨ aI S 460 (pLd (mPl M) k t) = 0)) ∨ (more' = 0 ∧ more = 0 ∧ aI S 460 (pLd (mPl M) k t) = 1) → P G 1 0 0 mX11_reaches 64 [some (.ref 453), some (IV a), some (IV i0), some (IV more'), some (IV k), some (IV (t + 1))] [] K (sA S 460 (pLd (mPl M) k t) 1) Q := by
        intro more' hmo
        have ev : ∀ y, aI (sA S 460 (pLd (mPl M) k t) 1) 460 y = if y = pLd (mPl M) k t then 1 else aI S 460 y := fun y => by
          rw [aI_sA]
          by_cases e : y = pLd (mPl M) k t
          · rw [if_pos ⟨rfl, e⟩, if_pos e]
          · rw [if_neg (fun q => e q.2), if_neg e]
        refine ih (t + 1) more' _ (by omega) (by omega) (h.met (by decide)) (hO.tr (fun x y w => Same.sA (by omega))) ⟨fun y u v => ?_, ?_, fun y u v q => ?_⟩ ⟨by omega, fun y u v => ?_, fun q y u v => ?_, fun q => ?_⟩ (fun u v t' p q => ?_) (by omega)
        · rw [ev]; split
          · exact Or.inr rfl
          · exact hI.1 y u v
        · rw [ev]; split
          · rfl
          · exact hI.2.1
        · rw [ev] at q
          by_cases e : y = pLd (mPl M) k t
          · rw [e]; exact hrt
          · rw [if_neg e] at q; exact hI.2.2 y u v q
        · rw [ev]
          have h1 := hP.2.1 y u v
          have h2 := hI.1 y u v
          split <;> omega
        · have h1 := hP.2.2.1 (by omega) y u v
          rw [ev]
          by_cases e : y = pLd (mPl M) k t
          · rw [if_pos e, ← h1, e]
            omega
          · rw [if_neg e]; exact h1
        · rcases hm01 with z | z
          · refine ⟨_, hld.1, hld.2, ?_⟩
            rw [ev, if_pos rfl]
            have h1 := hP.2.2.1 z _ hld.1 hld.2
            omega
          · obtain ⟨y, y0, y1, y2⟩ := hP.2.2.2 z
            refine ⟨y, y0, y1, ?_⟩
            rw [ev]
            have h2 := hI.1 y y0 y1
            split <;> omega
        · by_cases e : t' = t
          · rw [e, ← hP.2.2.1 (by omega) _ hld.1 hld.2]
            omega
          · exact hcl (by omega) v t' p (by omega)
      refine T_iload dX11_reaches_64 rfl ?_
      refine T_aload_n dX11_reaches_66 rfl rfl ?_
      refine T_iload dX11_reaches_67 rfl ?_
      refine Q_callV dX11_reaches_69 kX11_targets lX11_197 (by assumption) rfl (p_R_targets h.1 hk) rfl rfl (Nat.le_of_ble_eq_true rfl) (Nat.le_of_ble_eq_true rfl) (by decide) (by decide) ?_
      refine I_icmp_ge (tgt := 131) dX11_reaches_72 (by decide) ⟨by omega, by omega⟩ ⟨by omega, by omega⟩ (fun h72 => ?_) (fun h72 => ?_)
      · omega
      · refine T_aload_n dX11_reaches_75 rfl rfl ?_
        refine P_getr dX11_reaches_76 fX11_29 (by assumption) rfl ?_
        refine T_iload dX11_reaches_79 rfl ?_
        refine P_zald dX11_reaches_81 (by assumption) ⟨by omega, by omega⟩ (by first | decide | omega) ?_
        rw [hf1]
        refine I_if_eq (tgt := 131) dX11_reaches_82 (by decide) ⟨by omega, by omega⟩ (fun h82 => ?_) (fun h82 => ?_)
        · cases h82
        · refine T_iload_n dX11_reaches_85 rfl ?_
          refine I_if_ne (tgt := 105) dX11_reaches_86 (by decide) ⟨by omega, by omega⟩ (fun h86 => ?_) (fun h86 => ?_)
          · have w := go 1 (by omega)
            refine I_iconst dX11_reaches_105 ?_
            refine T_goto (tgt := 110) dX11_reaches_106 (by decide) ?_
            refine T_istore_n dX11_reaches_110 (by decide) rfl ?_
            refine T_aload_n dX11_reaches_111 rfl rfl ?_
            refine P_getr dX11_reaches_112 fX11_29 (by assumption) rfl ?_
            refine T_aload_n dX11_reaches_115 rfl rfl ?_
            refine T_iload dX11_reaches_116 rfl ?_
            refine T_iload dX11_reaches_118 rfl ?_
            refine Q_callV dX11_reaches_120 kX11_target lX11_203 (by assumption) rfl (p_R_target h.1 hk ⟨h0, by omega⟩) rfl rfl (Nat.le_of_ble_eq_true rfl) (Nat.le_of_ble_eq_true rfl) (by decide) (by decide) ?_
            refine I_iconst dX11_reaches_123 ?_
            refine P_zast dX11_reaches_124 (by assumption) ⟨by omega, by omega⟩ (by first | decide | omega) (Or.inr rfl) ?_
            refine I_iinc dX11_reaches_125 rfl (by decide) rfl ?_
            refine T_goto (tgt := 64) dX11_reaches_128 (by decide) ?_
            exact w
          · refine T_aload_n dX11_reaches_89 rfl rfl ?_
            refine P_getr dX11_reaches_90 fX11_29 (by assumption) rfl ?_
            refine T_aload_n dX11_reaches_93 rfl rfl ?_
            refine T_iload dX11_reaches_94 rfl ?_
            refine T_iload dX11_reaches_96 rfl ?_
            refine Q_callV dX11_reaches_98 kX11_target lX11_203 (by assumption) rfl (p_R_target h.1 hk ⟨h0, by omega⟩) rfl rfl (Nat.le_of_ble_eq_true rfl) (Nat.le_of_ble_eq_true rfl) (by decide) (by decide) ?_
            refine P_zald dX11_reaches_101 (by assumption) ⟨by omega, by omega⟩ (by first | decide | omega) ?_
            refine I_if_ne (tgt := 109) dX11_reaches_102 (by decide) ⟨by omega, by omega⟩ (fun h102 => ?_) (fun h102 => ?_)
            · have w := go 0 (by omega)
              refine I_iconst dX11_reaches_109 ?_
              refine T_istore_n dX11_reaches_110 (by decide) rfl ?_
              refine T_aload_n dX11_reaches_111 rfl rfl ?_
              refine P_getr dX11_reaches_112 fX11_29 (by assumption) rfl ?_
              refine T_aload_n dX11_reaches_115 rfl rfl ?_
              refine T_iload dX11_reaches_116 rfl ?_
              refine T_iload dX11_reaches_118 rfl ?_
              refine Q_callV dX11_reaches_120 kX11_target lX11_203 (by assumption) rfl (p_R_target h.1 hk ⟨h0, by omega⟩) rfl rfl (Nat.le_of_ble_eq_true rfl) (Nat.le_of_ble_eq_true rfl) (by decide) (by decide) ?_
              refine I_iconst dX11_reaches_123 ?_
              refine P_zast dX11_reaches_124 (by assumption) ⟨by omega, by omega⟩ (by first | decide | omega) (Or.inr rfl) ?_
              refine I_iinc dX11_reaches_125 rfl (by decide) rfl ?_
              refine T_goto (tgt := 64) dX11_reaches_128 (by decide) ?_
              exact w
            · have w := go 1 (by omega)
              refine I_iconst dX11_reaches_105 ?_
              refine T_goto (tgt := 110) dX11_reaches_106 (by decide) ?_
              refine T_istore_n dX11_reaches_110 (by decide) rfl ?_
              refine T_aload_n dX11_reaches_111 rfl rfl ?_
              refine P_getr dX11_reaches_112 fX11_29 (by assumption) rfl ?_
              refine T_aload_n dX11_reaches_115 rfl rfl ?_
              refine T_iload dX11_reaches_116 rfl ?_
              refine T_iload dX11_reaches_118 rfl ?_
              refine Q_callV dX11_reaches_120 kX11_target lX11_203 (by assumption) rfl (p_R_target h.1 hk ⟨h0, by omega⟩) rfl rfl (Nat.le_of_ble_eq_true rfl) (Nat.le_of_ble_eq_true rfl) (by decide) (by decide) ?_
              refine I_iconst dX11_reaches_123 ?_
              refine P_zast dX11_reaches_124 (by assumption) ⟨by omega, by omega⟩ (by first | decide | omega) (Or.inr rfl) ?_
              refine I_iinc dX11_reaches_125 rfl (by decide) rfl ?_
              refine T_goto (tgt := 64) dX11_reaches_128 (by decide) ?_
              exact w
theorem l_met2 {f0 : Int → Int} {Q : Option Value → List SH → SV → Prop} (hc : ∀ (S : SV) (more : Int), RR K S M → Outs S0 S 453 466 → MtI (mPl M) a (aI S 460) → PsI f0 (aI S 460) more → (more = 0 → ∀ k, 0 ≤ k → k < 32 → f0 k = 1 → ∀ t, 0 ≤ t → t < pLc (mPl M) k → f0 (pLd (mPl M) k t) = 1) → P G 1 0 0 mX11_reaches 45 [some (.ref 453), some (IV a), some (IV i0), some (IV more), none, none] [] K S Q) (m : Nat) : ∀ (k more : Int) (S : SV), 0 ≤ k → 32 - k = m → RR K S M → Outs S0 S 453 466 → MtI (mPl M) a (aI S 460) → PsI f0 (aI S 460) more → (more = 0 → ∀ k', 0 ≤ k' → k' < k → f0 k' = 1 → ∀ t, 0 ≤ t → t < pLc (mPl M) k' → f0 (pLd (mPl M) k' t) = 1) → P G 1 0 0 mX11_reaches 54 [some (.ref 453), some (IV a), some (IV i0), some (IV more), some (IV k), none] [] K S Q := by
  induction m with
  | zero =>
    intro k more S h0 hm h hO hI hP hcl
    have z := hc S more h hO hI hP (fun u k' p q => hcl u k' p (by omega))
    refine T_iload dX11_reaches_54 rfl ?_
    refine I_bipush dX11_reaches_56 (by decide) ?_
    refine I_icmp_ge (tgt := 137) dX11_reaches_58 (by decide) ⟨by omega, by omega⟩ ⟨by omega, by omega⟩ (fun h58 => ?_) (fun h58 => ?_)
    · refine T_goto (tgt := 45) dX11_reaches_137 (by decide) ?_
      refine T.forget 4 ?_
      exact z
    · omega
  | succ m ih =>
    intro k more S h0 hm h hO hI hP hcl
    have hlc := (h.1.2.2.1.2.2.2.2.2 k h0 (by omega)).2.1
    have hk2 : ∀ (S1 : SV) (more1 : Int), RR K S1 M → Outs S0 S1 453 466 → MtI (mPl M) a (aI S1 460) → PsI f0 (aI S1 460) more1 → (more1 = 0 → f0 k = 1 → ∀ t, 0 ≤ t → t < pLc (mPl M) k → f0 (pLd (mPl M) k t) = 1) → (more1 = 0 → more = 0) → P G 1 0 0 mX11_reaches 131 [some (.ref 453), some (IV a), some (IV i0), some (IV more1), some (IV k), none] [] K S1 Q := by
      intro S1 more1 q1 q2 q3 q4 q5 q6
      have w := ih (k + 1) more1 S1 (by omega) (by omega) q1 q2 q3 q4 (fun u k' p q v t a b => by
        by_cases e : k' = k
        · rw [e] at v b ⊢; exact q5 u v t a b
        · exact hcl (q6 u) k' p (by omega) v t a b)
      refine I_iinc dX11_reaches_131 rfl (by decide) rfl ?_
      refine T_goto (tgt := 54) dX11_reaches_134 (by decide) ?_
      exact w
    have z := l_met3 (G := G) (K := K) (S0 := S0) (a := a) (i0 := i0) (f0 := f0) (k := k) (more0 := more) (Q := Q) ⟨h0, by omega⟩ hk2 (pLc (mPl M) k).toNat 0 more S (by omega) (by omega) h hO hI hP (fun u v t' p q => by omega) id
    refine T_iload dX11_reaches_54 rfl ?_
    refine I_bipush dX11_reaches_56 (by decide) ?_
    refine I_icmp_ge (tgt := 137) dX11_reaches_58 (by decide) ⟨by omega, by omega⟩ ⟨by omega, by omega⟩ (fun h58 => ?_) (fun h58 => ?_)
    · omega
    · refine I_iconst dX11_reaches_61 ?_
      refine T_istore dX11_reaches_62 (by decide) rfl ?_
      exact z
theorem l_met1 (ha : 0 ≤ a ∧ a < 32) {Q : Option Value → List SH → SV → Prop} (hc : ∀ S : SV, RR K S M → Outs S0 S 453 466 → (∀ y, 0 ≤ y → y < 32 → (aI S 460 y = 0 ∨ aI S 460 y = 1) ∧ (aI S 460 y = 1 ↔ reachP (mPl M) a y)) → P G 1 0 0 mX11_reaches 140 [some (.ref 453), some (IV a), some (IV i0), some (IV 0), none, none] [] K S Q) (m : Nat) : ∀ S : SV, 32 - sumF (aI S 460) 32 0 ≤ m → RR K S M → Outs S0 S 453 466 → MtI (mPl M) a (aI S 460) → P G 1 0 0 mX11_reaches 45 [some (.ref 453), some (IV a), some (IV i0), some (IV 1), none, none] [] K S Q := by
  induction m with
  | zero =>
    intro S hm h hO hI
    have hb : ∀ f : Int → Int, MtI (mPl M) a f → sumF f 32 0 ≤ 32 := fun f hf => by
      have h1 := sumF_mono (f := f) (g := fun _ => 1) 32 0 (fun t u v => by have := hf.1 t u (by omega); show f t ≤ 1; omega)
      have h2 : sumF (fun _ => (1 : Int)) 32 0 = 32 := rfl
      omega
    have hc2 : ∀ (S1 : SV) (more : Int), RR K S1 M → Outs S0 S1 453 466 → MtI (mPl M) a (aI S1 460) → PsI (aI S 460) (aI S1 460) more → (more = 0 → ∀ k, 0 ≤ k → k < 32 → aI S 460 k = 1 → ∀ t, 0 ≤ t → t < pLc (mPl M) k → aI S 460 (pLd (mPl M) k t) = 1) → P G 1 0 0 mX11_reaches 45 [some (.ref 453), some (IV a), some (IV i0), some (IV more), none, none] [] K S1 Q := by
      intro S1 more q1 q2 q3 q4 q5
      rcases q4.1 with e | e
      · subst e
        have hcl := q5 rfl
        have hfe := q4.2.2.1 rfl
        have z := hc S1 q1 q2 (fun y u v => ⟨q3.1 y u v, q3.2.2 y u v, fun r => by
          rw [hfe y u v]
          have hPo := q1.1.2.2.1
          have hr := r (fun x => 0 ≤ x ∧ x < 32 ∧ aI S 460 x = 1) ⟨ha.1, ha.2, hI.2.1⟩ (fun x t hx x0 x1 t0 t1 => by
            have hld := (hPo.2.2.2.2.2 x x0 x1).2.2.2.2 t t0 t1
            exact ⟨hld.1, hld.2, hcl x x0 x1 hx.2.2 t t0 t1⟩)
          exact hr.2.2⟩)
        refine T_iload_n dX11_reaches_45 rfl ?_
        refine I_if_eq (tgt := 140) dX11_reaches_46 (by decide) ⟨by omega, by omega⟩ (fun h46 => ?_) (fun h46 => ?_)
        · exact z
        · exact absurd rfl h46
      · obtain ⟨y, y0, y1, y2⟩ := q4.2.2.2 e
        have h1 := sum_lt (f := aI S 460) (g := aI S1 460) 32 0 (fun t u v => q4.2.1 t u (by omega)) ⟨y, y0, by omega, y2⟩
        have h2 := hb _ q3
        have h3 : (32 : Int) - sumF (aI S 460) 32 0 ≤ ((0 : Nat) : Int) := hm
        omega
    have w := l_met2 (G := G) (K := K) (S0 := S0) (a := a) (i0 := i0) (f0 := aI S 460) (Q := Q) hc2 32 0 0 S (by omega) (by omega) h hO hI ⟨Or.inl rfl, fun y u v => Int.le_refl _, fun _ y u v => rfl, fun z => by omega⟩ (fun u k' p q => by omega)
    refine T_iload_n dX11_reaches_45 rfl ?_
    refine I_if_eq (tgt := 140) dX11_reaches_46 (by decide) ⟨by omega, by omega⟩ (fun h46 => ?_) (fun h46 => ?_)
    · cases h46
    · refine I_iconst dX11_reaches_49 ?_
      refine T_istore_n dX11_reaches_50 (by decide) rfl ?_
      refine I_iconst dX11_reaches_51 ?_
      refine T_istore dX11_reaches_52 (by decide) rfl ?_
      exact w
  | succ m ih =>
    intro S hm h hO hI
    have hc2 : ∀ (S1 : SV) (more : Int), RR K S1 M → Outs S0 S1 453 466 → MtI (mPl M) a (aI S1 460) → PsI (aI S 460) (aI S1 460) more → (more = 0 → ∀ k, 0 ≤ k → k < 32 → aI S 460 k = 1 → ∀ t, 0 ≤ t → t < pLc (mPl M) k → aI S 460 (pLd (mPl M) k t) = 1) → P G 1 0 0 mX11_reaches 45 [some (.ref 453), some (IV a), some (IV i0), some (IV more), none, none] [] K S1 Q := by
      intro S1 more q1 q2 q3 q4 q5
      rcases q4.1 with e | e
      · subst e
        have hcl := q5 rfl
        have hfe := q4.2.2.1 rfl
        have z := hc S1 q1 q2 (fun y u v => ⟨q3.1 y u v, q3.2.2 y u v, fun r => by
          rw [hfe y u v]
          have hPo := q1.1.2.2.1
          have hr := r (fun x => 0 ≤ x ∧ x < 32 ∧ aI S 460 x = 1) ⟨ha.1, ha.2, hI.2.1⟩ (fun x t hx x0 x1 t0 t1 => by
            have hld := (hPo.2.2.2.2.2 x x0 x1).2.2.2.2 t t0 t1
            exact ⟨hld.1, hld.2, hcl x x0 x1 hx.2.2 t t0 t1⟩)
          exact hr.2.2⟩)
        refine T_iload_n dX11_reaches_45 rfl ?_
        refine I_if_eq (tgt := 140) dX11_reaches_46 (by decide) ⟨by omega, by omega⟩ (fun h46 => ?_) (fun h46 => ?_)
        · exact z
        · exact absurd rfl h46
      · subst e
        obtain ⟨y, y0, y1, y2⟩ := q4.2.2.2 rfl
        have h1 := sum_lt (f := aI S 460) (g := aI S1 460) 32 0 (fun t u v => q4.2.1 t u (by omega)) ⟨y, y0, by omega, y2⟩
        exact ih S1 (by omega) q1 q2 q3
    have w := l_met2 (G := G) (K := K) (S0 := S0) (a := a) (i0 := i0) (f0 := aI S 460) (Q := Q) hc2 32 0 0 S (by omega) (by omega) h hO hI ⟨Or.inl rfl, fun y u v => Int.le_refl _, fun _ y u v => rfl, fun z => by omega⟩ (fun u k' p q => by omega)
    refine T_iload_n dX11_reaches_45 rfl ?_
    refine I_if_eq (tgt := 140) dX11_reaches_46 (by decide) ⟨by omega, by omega⟩ (fun h46 => ?_) (fun h46 => ?_)
    · cases h46
    · refine I_iconst dX11_reaches_49 ?_
      refine T_istore_n dX11_reaches_50 (by decide) rfl ?_
      refine I_iconst dX11_reaches_51 ?_
      refine T_istore dX11_reaches_52 (by decide) rfl ?_
      exact w
theorem l_met0 (m : Nat) : ∀ (k : Int) (S : SV) {Q : Option Value → List SH → SV → Prop}, 0 ≤ k → 32 - k = m → RR K S M → Outs S0 S 453 466 → (∀ y, 0 ≤ y → y < k → aI S 460 y = if y = a then 1 else 0) → R32 a → (∀ S1 : SV, RR K S1 M → Outs S0 S1 453 466 → (∀ y, 0 ≤ y → y < 32 → aI S1 460 y = if y = a then 1 else 0) → P G 1 0 0 mX11_reaches 43 [some (.ref 453), some (IV a), some (IV i0), none, none, none] [] K S1 Q) → P G 1 0 0 mX11_reaches 15 [some (.ref 453), some (IV a), some (IV i0), some (IV k), none, none] [] K S Q := by
  induction m with
  | zero =>
    intro k S Q h0 hm h hO hf hra hc
    have z := hc S h hO (fun y u v => hf y u (by omega))
    refine T_iload_n dX11_reaches_15 rfl ?_
    refine I_bipush dX11_reaches_16 (by decide) ?_
    refine I_icmp_ge (tgt := 43) dX11_reaches_18 (by decide) ⟨by omega, by omega⟩ ⟨by omega, by omega⟩ (fun h18 => ?_) (fun h18 => ?_)
    · refine T.forget 3 ?_
      exact z
    · omega
  | succ m ih =>
    intro k S Q h0 hm h hO hf hra hc
    have m0 := h.1.1.1
    have m7 := h.1.1.2.2.2.2.2.2.2.1
    have go : ∀ v : Int, v = (if k = a then 1 else 0) → P G 1 0 0 mX11_reaches 15 [some (.ref 453), some (IV a), some (IV i0), some (IV (k + 1)), none, none] [] K (sA S 460 k v) Q := by
      intro v hv
      refine ih (k + 1) _ (by omega) (by omega) (h.met (by rw [hv]; split <;> decide)) (hO.tr (fun x y w => Same.sA (by omega))) (fun y p q => ?_) hra hc
      rw [aI_sA]
      by_cases e : y = k
      · rw [if_pos ⟨rfl, e⟩, hv, e]
      · rw [if_neg (fun z => e z.2)]
        exact hf y p (by omega)
    refine T_iload_n dX11_reaches_15 rfl ?_
    refine I_bipush dX11_reaches_16 (by decide) ?_
    refine I_icmp_ge (tgt := 43) dX11_reaches_18 (by decide) ⟨by omega, by omega⟩ ⟨by omega, by omega⟩ (fun h18 => ?_) (fun h18 => ?_)
    · omega
    · refine T_aload_n dX11_reaches_21 rfl rfl ?_
      refine P_getr dX11_reaches_22 fX11_29 (by assumption) rfl ?_
      refine T_iload_n dX11_reaches_25 rfl ?_
      refine T_iload_n dX11_reaches_26 rfl ?_
      refine T_iload_n dX11_reaches_27 rfl ?_
      refine I_icmp_ne (tgt := 35) dX11_reaches_28 (by decide) ⟨by omega, by omega⟩ hra (fun h28 => ?_) (fun h28 => ?_)
      · have w := go 0 (by rw [if_neg (by omega)])
        refine I_iconst dX11_reaches_35 ?_
        refine P_zast dX11_reaches_36 (by assumption) ⟨by omega, by omega⟩ (by first | decide | omega) (by decide) ?_
        refine I_iinc dX11_reaches_37 rfl (by decide) rfl ?_
        refine T_goto (tgt := 15) dX11_reaches_40 (by decide) ?_
        exact w
      · have w := go 1 (by rw [if_pos (by omega)])
        refine I_iconst dX11_reaches_31 ?_
        refine T_goto (tgt := 36) dX11_reaches_32 (by decide) ?_
        refine P_zast dX11_reaches_36 (by assumption) ⟨by omega, by omega⟩ (by first | decide | omega) (by decide) ?_
        refine I_iinc dX11_reaches_37 rfl (by decide) rfl ?_
        refine T_goto (tgt := 15) dX11_reaches_40 (by decide) ?_
        exact w
theorem l_met9 {S : SV} (h : RR K S M) (hO : Outs S0 S 453 466) (hz : ∀ y, 0 ≤ y → y < 32 → (aI S 460 y = 0 ∨ aI S 460 y = 1) ∧ (aI S 460 y = 1 ↔ reachP (mPl M) a y)) (m : Nat) : ∀ b left : Int, 0 ≤ b → 32 - b = m → R32 left → -2147483000 < left - m → P G 1 0 0 mX11_reaches 146 [some (.ref 453), some (IV a), some (IV i0), some (IV 0), some (IV left), some (IV b)] [] K S (RQ K S0 (nthF (fun b => reachP (mPl M) a b ∧ pKd (mPl M) b = 1) m b left) M) := by
  have m0 := h.1.1.1
  have m7 := h.1.1.2.2.2.2.2.2.2.1
  have hPo := h.1.2.2.1
  induction m with
  | zero =>
    intro b left h0 hm hl hl2
    refine T_iload dX11_reaches_146 rfl ?_
    refine I_bipush dX11_reaches_148 (by decide) ?_
    refine I_icmp_ge (tgt := 190) dX11_reaches_150 (by decide) ⟨by omega, by omega⟩ ⟨by omega, by omega⟩ (fun h150 => ?_) (fun h150 => ?_)
    · refine I_bipush dX11_reaches_190 (by decide) ?_
      exact I_ireturn dX11_reaches_192 rfl ⟨_, _, rfl, rfl, rfl, h, hO⟩
    · omega
  | succ m ih =>
    intro b left h0 hm hl hl2
    have hk := (hPo.2.2.2.2.2 b h0 (by omega)).1
    obtain ⟨z1, z2⟩ := hz b h0 (by omega)
    by_cases hq : reachP (mPl M) a b ∧ pKd (mPl M) b = 1
    · rw [nthF_t hq]
      have hbit := z2.mpr hq.1
      have hq2 := hq.2
      by_cases hl0 : left = 0
      · rw [if_pos hl0]
        refine T_iload dX11_reaches_146 rfl ?_
        refine I_bipush dX11_reaches_148 (by decide) ?_
        refine I_icmp_ge (tgt := 190) dX11_reaches_150 (by decide) ⟨by omega, by omega⟩ ⟨by omega, by omega⟩ (fun h150 => ?_) (fun h150 => ?_)
        · omega
        · refine T_aload_n dX11_reaches_153 rfl rfl ?_
          refine P_getr dX11_reaches_154 fX11_29 (by assumption) rfl ?_
          refine T_iload dX11_reaches_157 rfl ?_
          refine P_zald dX11_reaches_159 (by assumption) ⟨by omega, by omega⟩ (by first | decide | omega) ?_
          rw [hbit]
          refine I_if_eq (tgt := 184) dX11_reaches_160 (by decide) ⟨by omega, by omega⟩ (fun h160 => ?_) (fun h160 => ?_)
          · cases h160
          · refine T_aload_n dX11_reaches_163 rfl rfl ?_
            refine T_iload dX11_reaches_164 rfl ?_
            refine Q_callV dX11_reaches_166 kX11_kindOf lX11_156 (by assumption) rfl (p_R_kindOf h.1 ⟨h0, by omega⟩) rfl rfl (Nat.le_of_ble_eq_true rfl) (Nat.le_of_ble_eq_true rfl) (by decide) (by decide) ?_
            refine I_iconst dX11_reaches_169 ?_
            refine I_icmp_ne (tgt := 184) dX11_reaches_170 (by decide) ⟨by omega, by omega⟩ ⟨by omega, by omega⟩ (fun h170 => ?_) (fun h170 => ?_)
            · omega
            · refine T_iload dX11_reaches_173 rfl ?_
              refine I_if_ne (tgt := 181) dX11_reaches_175 (by decide) hl (fun h175 => ?_) (fun h175 => ?_)
              · omega
              · refine T_iload dX11_reaches_178 rfl ?_
                exact I_ireturn dX11_reaches_180 rfl ⟨_, _, rfl, rfl, rfl, h, hO⟩
      · rw [if_neg hl0]
        have w := ih (b + 1) (left - 1) (by omega) (by omega) ⟨by omega, by omega⟩ (by omega)
        refine T_iload dX11_reaches_146 rfl ?_
        refine I_bipush dX11_reaches_148 (by decide) ?_
        refine I_icmp_ge (tgt := 190) dX11_reaches_150 (by decide) ⟨by omega, by omega⟩ ⟨by omega, by omega⟩ (fun h150 => ?_) (fun h150 => ?_)
        · omega
        · refine T_aload_n dX11_reaches_153 rfl rfl ?_
          refine P_getr dX11_reaches_154 fX11_29 (by assumption) rfl ?_
          refine T_iload dX11_reaches_157 rfl ?_
          refine P_zald dX11_reaches_159 (by assumption) ⟨by omega, by omega⟩ (by first | decide | omega) ?_
          rw [hbit]
          refine I_if_eq (tgt := 184) dX11_reaches_160 (by decide) ⟨by omega, by omega⟩ (fun h160 => ?_) (fun h160 => ?_)
          · cases h160
          · refine T_aload_n dX11_reaches_163 rfl rfl ?_
            refine T_iload dX11_reaches_164 rfl ?_
            refine Q_callV dX11_reaches_166 kX11_kindOf lX11_156 (by assumption) rfl (p_R_kindOf h.1 ⟨h0, by omega⟩) rfl rfl (Nat.le_of_ble_eq_true rfl) (Nat.le_of_ble_eq_true rfl) (by decide) (by decide) ?_
            refine I_iconst dX11_reaches_169 ?_
            refine I_icmp_ne (tgt := 184) dX11_reaches_170 (by decide) ⟨by omega, by omega⟩ ⟨by omega, by omega⟩ (fun h170 => ?_) (fun h170 => ?_)
            · omega
            · refine T_iload dX11_reaches_173 rfl ?_
              refine I_if_ne (tgt := 181) dX11_reaches_175 (by decide) hl (fun h175 => ?_) (fun h175 => ?_)
              · refine I_iinc dX11_reaches_181 rfl (by decide) rfl ?_
                refine I_iinc dX11_reaches_184 rfl (by decide) rfl ?_
                refine T_goto (tgt := 146) dX11_reaches_187 (by decide) ?_
                exact w
              · omega
    · rw [nthF_f hq]
      have w := ih (b + 1) left (by omega) (by omega) hl (by omega)
      refine T_iload dX11_reaches_146 rfl ?_
      refine I_bipush dX11_reaches_148 (by decide) ?_
      refine I_icmp_ge (tgt := 190) dX11_reaches_150 (by decide) ⟨by omega, by omega⟩ ⟨by omega, by omega⟩ (fun h150 => ?_) (fun h150 => ?_)
      · omega
      · refine T_aload_n dX11_reaches_153 rfl rfl ?_
        refine P_getr dX11_reaches_154 fX11_29 (by assumption) rfl ?_
        refine T_iload dX11_reaches_157 rfl ?_
        refine P_zald dX11_reaches_159 (by assumption) ⟨by omega, by omega⟩ (by first | decide | omega) ?_
        refine I_if_eq (tgt := 184) dX11_reaches_160 (by decide) ⟨by omega, by omega⟩ (fun h160 => ?_) (fun h160 => ?_)
        · refine I_iinc dX11_reaches_184 rfl (by decide) rfl ?_
          refine T_goto (tgt := 146) dX11_reaches_187 (by decide) ?_
          exact w
        · refine T_aload_n dX11_reaches_163 rfl rfl ?_
          refine T_iload dX11_reaches_164 rfl ?_
          refine Q_callV dX11_reaches_166 kX11_kindOf lX11_156 (by assumption) rfl (p_R_kindOf h.1 ⟨h0, by omega⟩) rfl rfl (Nat.le_of_ble_eq_true rfl) (Nat.le_of_ble_eq_true rfl) (by decide) (by decide) ?_
          refine I_iconst dX11_reaches_169 ?_
          refine I_icmp_ne (tgt := 184) dX11_reaches_170 (by decide) ⟨by omega, by omega⟩ ⟨by omega, by omega⟩ (fun h170 => ?_) (fun h170 => ?_)
          · refine I_iinc dX11_reaches_184 rfl (by decide) rfl ?_
            refine T_goto (tgt := 146) dX11_reaches_187 (by decide) ?_
            exact w
          · exact absurd ⟨z2.mp (by omega), by omega⟩ hq
end RW1
section RW2
variable {G : GT} {K : List SH} {M : MS} {S : SV}
theorem p_R_reaches {a i : Int} (h : RR K S M) (ha : R32 a) (hi : R32 i) : P G 2 0 0 mX11_reaches 0 (LE mX11_reaches [.ref 453, IV a, IV i]) [] K S (RQ K S (reachA M a i) M) := by
  have m0 := h.1.1.1
  by_cases hb : addrB a ∧ 0 ≤ i
  · have hv : reachA M a i = nthF (fun b => reachP (mPl M) a b ∧ pKd (mPl M) b = 1) 32 0 i := if_pos hb
    rw [hv]
    obtain ⟨hb0, hb1⟩ := hb
    have hb0' : 0 ≤ a ∧ a < 32 := hb0
    have h140 : ∀ S1 : SV, RR K S1 M → Outs S S1 453 466 → (∀ y, 0 ≤ y → y < 32 → (aI S1 460 y = 0 ∨ aI S1 460 y = 1) ∧ (aI S1 460 y = 1 ↔ reachP (mPl M) a y)) → P G 1 0 0 mX11_reaches 140 [some (.ref 453), some (IV a), some (IV i), some (IV 0), none, none] [] K S1 (RQ K S (nthF (fun b => reachP (mPl M) a b ∧ pKd (mPl M) b = 1) 32 0 i) M) := by
      intro S1 q1 q2 q3
      have w := l_met9 (G := G) (i0 := i) q1 q2 q3 32 0 i (by omega) (by omega) hi (by omega)
      refine T_iload_n dX11_reaches_140 rfl ?_
      refine T_istore dX11_reaches_141 (by decide) rfl ?_
      refine I_iconst dX11_reaches_143 ?_
      refine T_istore dX11_reaches_144 (by decide) rfl ?_
      exact w
    have h43 : ∀ S1 : SV, RR K S1 M → Outs S S1 453 466 → (∀ y, 0 ≤ y → y < 32 → aI S1 460 y = if y = a then 1 else 0) → P G 1 0 0 mX11_reaches 43 [some (.ref 453), some (IV a), some (IV i), none, none, none] [] K S1 (RQ K S (nthF (fun b => reachP (mPl M) a b ∧ pKd (mPl M) b = 1) 32 0 i) M) := by
      intro S1 q1 q2 q3
      have hI : MtI (mPl M) a (aI S1 460) := ⟨fun y u v => by rw [q3 y u v]; split; exact Or.inr rfl; exact Or.inl rfl, by rw [q3 a hb0'.1 hb0'.2, if_pos rfl], fun y u v q => by
        rw [q3 y u v] at q
        by_cases e : y = a
        · rw [e]; exact reachP.rf _ _
        · rw [if_neg e] at q; omega⟩
      have hs : 0 ≤ sumF (aI S1 460) 32 0 := by
        have h1 := sumF_mono (f := fun _ => 0) (g := aI S1 460) 32 0 (fun t u v => by have := hI.1 t u (by omega); show 0 ≤ aI S1 460 t; omega)
        have h2 : sumF (fun _ => (0 : Int)) 32 0 = 0 := rfl
        omega
      have w := l_met1 (G := G) (K := K) (S0 := S) (i0 := i) hb0' h140 32 S1 (by omega) q1 q2 hI
      refine I_iconst dX11_reaches_43 ?_
      refine T_istore_n dX11_reaches_44 (by decide) rfl ?_
      exact w
    have w := l_met0 (G := G) (K := K) (M := M) (S0 := S) (a := a) (i0 := i) 32 0 S (by omega) (by omega) h Outs.rf (fun y u v => by omega) ha h43
    rw [show LE mX11_reaches [.ref 453, IV a, IV i] = [some (.ref 453), some (IV a), some (IV i), none, none, none] from rfl]
    refine T_iload_n dX11_reaches_0 rfl ?_
    refine Q_callS dX11_reaches_1 kX11_isAddress lX11_192 (p_R_isAddress ha) rfl rfl (Nat.le_of_ble_eq_true rfl) (Nat.le_of_ble_eq_true rfl) (by decide) (by decide) ?_
    rw [b2p_t hb0]
    refine I_if_eq (tgt := 11) dX11_reaches_4 (by decide) ⟨by omega, by omega⟩ (fun h4 => ?_) (fun h4 => ?_)
    · cases h4
    · refine T_iload_n dX11_reaches_7 rfl ?_
      refine I_if_ge (tgt := 13) dX11_reaches_8 (by decide) hi (fun h8 => ?_) (fun h8 => ?_)
      · refine I_iconst dX11_reaches_13 ?_
        refine T_istore_n dX11_reaches_14 (by decide) rfl ?_
        exact P.depth w (by omega)
      · omega
  · have hv : reachA M a i = -1 := if_neg hb
    rw [hv]
    by_cases hb0 : addrB a
    · rw [show LE mX11_reaches [.ref 453, IV a, IV i] = [some (.ref 453), some (IV a), some (IV i), none, none, none] from rfl]
      refine T_iload_n dX11_reaches_0 rfl ?_
      refine Q_callS dX11_reaches_1 kX11_isAddress lX11_192 (p_R_isAddress ha) rfl rfl (Nat.le_of_ble_eq_true rfl) (Nat.le_of_ble_eq_true rfl) (by decide) (by decide) ?_
      rw [b2p_t hb0]
      refine I_if_eq (tgt := 11) dX11_reaches_4 (by decide) ⟨by omega, by omega⟩ (fun h4 => ?_) (fun h4 => ?_)
      · cases h4
      · refine T_iload_n dX11_reaches_7 rfl ?_
        refine I_if_ge (tgt := 13) dX11_reaches_8 (by decide) hi (fun h8 => ?_) (fun h8 => ?_)
        · exact absurd ⟨hb0, by omega⟩ hb
        · refine I_iconst dX11_reaches_11 ?_
          exact I_ireturn dX11_reaches_12 rfl ⟨_, _, rfl, RQ.here h⟩
    · rw [show LE mX11_reaches [.ref 453, IV a, IV i] = [some (.ref 453), some (IV a), some (IV i), none, none, none] from rfl]
      refine T_iload_n dX11_reaches_0 rfl ?_
      refine Q_callS dX11_reaches_1 kX11_isAddress lX11_192 (p_R_isAddress ha) rfl rfl (Nat.le_of_ble_eq_true rfl) (Nat.le_of_ble_eq_true rfl) (by decide) (by decide) ?_
      rw [b2p_f hb0]
      refine I_if_eq (tgt := 11) dX11_reaches_4 (by decide) ⟨by omega, by omega⟩ (fun h4 => ?_) (fun h4 => ?_)
      · refine I_iconst dX11_reaches_11 ?_
        exact I_ireturn dX11_reaches_12 rfl ⟨_, _, rfl, RQ.here h⟩
      · exact absurd rfl h4
end RW2
