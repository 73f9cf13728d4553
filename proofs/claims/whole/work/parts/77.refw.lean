/-! the reference: reaches, keep, back -/
theorem sum_lt {f g : Int → Int} : ∀ (m : Nat) (i : Int), (∀ t, i ≤ t → t < i + m → f t ≤ g t) → (∃ y, i ≤ y ∧ y < i + m ∧ f y + 1 ≤ g y) → sumF f m i + 1 ≤ sumF g m i
  | 0, i, _, ⟨y, h1, h2, _⟩ => by omega
  | m + 1, i, h, ⟨y, h1, h2, h3⟩ => by
    rw [sumF, sumF]
    have h0 := h i (by omega) (by omega)
    by_cases e : y = i
    · have := sumF_mono (f := f) (g := g) m (i + 1) (fun t a b => h t (by omega) (by omega))
      rw [e] at h3
      omega
    · have := sum_lt m (i + 1) (fun t a b => h t (by omega) (by omega)) ⟨y, by omega, by omega, h3⟩
      omega
theorem EnC.cg {f f' : Int → Int} {e : EN} {its : List Row} (h : EnC f e its) (hf : ∀ i, 0 ≤ i → i < 1583 → f' i = f i) : EnC f' e its := ⟨h.1.cg (fun i z => hf i (by omega) (by omega)), h.2.1.cg (fun i z => hf i (by omega) (by omega)), h.2.2.1.cg (fun i z => hf i (by omega) (by omega)), h.2.2.2.1.cg (fun i z => hf i (by omega) (by omega)), h.2.2.2.2.1.cg (fun i z => hf i (by omega) (by omega)), h.2.2.2.2.2.cg (fun i z => hf i (by omega) (by omega))⟩
theorem RR.oth {K : List SH} {S S' : SV} {M : MS} (h : RR K S M) (hA : AllR S') (hf : ∀ k, fI S' 453 k = fI S 453 k) (ha : ∀ a i, a = 454 ∨ a = 456 ∨ a = 457 ∨ a = 459 ∨ a = 463 ∨ a = 464 ∨ a = 465 → aI S' a i = aI S a i) : RR K S' M := by
  obtain ⟨h1, h2, h3, h4, h5, h6⟩ := h
  have e : aI S' 454 = aI S 454 := funext (fun i => ha 454 i (by omega))
  refine ⟨⟨h1.1, hA, h1.2.2.1, by rw [e]; exact h1.2.2.2.1, by rw [e]; exact h1.2.2.2.2⟩, ⟨(hf 6).trans h2.1, h2.2.1, fun i a b => ⟨(ha 459 i (by omega)).trans (h2.2.2 i a b).1, (h2.2.2 i a b).2⟩⟩, (hf 11).trans h3, h4, RIm.wo h5 (fun i => ha 456 i (by omega)) (fun i => ha 457 i (by omega)), RSh.wo h6 (fun i => ha 463 i (by omega)) (fun i => ha 464 i (by omega)) (fun i => ha 465 i (by omega))⟩
theorem RR.met {K : List SH} {S : SV} {M : MS} {i v : Int} (h : RR K S M) (hv : R32 v) : RR K (sA S 460 i v) M := h.oth (h.1.2.1.sA hv) (fun _ => rfl) (fun a j q => by rw [aI_sA, if_neg (by omega)])
/-- what is met: f; at the pass's beginning f0 -/
def MtI (pl : PL) (a : Int) (f : Int → Int) : Prop := (∀ y, 0 ≤ y → y < 32 → f y = 0 ∨ f y = 1) ∧ f a = 1 ∧ ∀ y, 0 ≤ y → y < 32 → f y = 1 → reachP pl a y
def PsI (f0 f : Int → Int) (more : Int) : Prop := (more = 0 ∨ more = 1) ∧ (∀ y, 0 ≤ y → y < 32 → f0 y ≤ f y) ∧ (more = 0 → ∀ y, 0 ≤ y → y < 32 → f y = f0 y) ∧ (more = 1 → ∃ y, 0 ≤ y ∧ y < 32 ∧ f0 y + 1 ≤ f y)
section RW1
variable {G : GT} {K : List SH} {M : MS} {S0 : SV} {a i0 : Int}
theorem l_met3 {f0 : Int → Int} {k : Int} {Q : Option Value → List SH → SV → Prop} (hk : 0 ≤ k ∧ k < 32) (hc : ∀ (S : SV) (more : Int), RR K S M → Outs S0 S 453 466 → MtI (mPl M) a (aI S 460) → PsI f0 (aI S 460) more → (more = 0 → f0 k = 1 → ∀ t, 0 ≤ t → t < pLc (mPl M) k → f0 (pLd (mPl M) k t) = 1) → P G 1 0 0 mX11_reaches 131 [some (.ref 453), some (IV a), some (IV i0), some (IV more), some (IV k), none] [] K S Q) (m : Nat) : ∀ (t more : Int) (S : SV), 0 ≤ t → pLc (mPl M) k - t = m → RR K S M → Outs S0 S 453 466 → MtI (mPl M) a (aI S 460) → PsI f0 (aI S 460) more → (more = 0 → f0 k = 1 → ∀ t', 0 ≤ t' → t' < t → f0 (pLd (mPl M) k t') = 1) → P G 1 0 0 mX11_reaches 64 [some (.ref 453), some (IV a), some (IV i0), some (IV more), some (IV k), some (IV t)] [] K S Q := by
  induction m with
  | zero =>
    intro t more S h0 hm h hO hI hP hcl
    have m0 := h.1.1.1
    have hlc := (h.1.2.2.1.2.2.2.2.2 k hk.1 hk.2).2.1
    have z := hc S more h hO hI hP (fun u v t' a b => hcl u v t' a (by omega))
    refine T_iload dX11_reaches_64 rfl ?_
    refine T_aload_n dX11_reaches_66 rfl rfl ?_
    refine T_iload dX11_reaches_67 rfl ?_
    refine Q_callV dX11_reaches_69 kX11_targets lX11_197 (by assumption) rfl (p_R_targets h.1 hk) rfl rfl (Nat.le_of_ble_eq_true rfl) (Nat.le_of_ble_eq_true rfl) (by decide) (by decide) ?_
    refine I_icmp_ge (tgt := 131) dX11_reaches_72 (by decide) ⟨by omega, by omega⟩ ⟨by omega, by omega⟩ (fun h72 => ?_) (fun h72 => ?_)
    · refine T.forget 5 ?_
      exact z
    · omega
  | succ m ih =>
    intro t more S h0 hm h hO hI hP hcl
    have m0 := h.1.1.1
    have m7 := h.1.1.2.2.2.2.2.2.2.1
    have hPo := h.1.2.2.1
    have hlc := (hPo.2.2.2.2.2 k hk.1 hk.2).2.1
    have hld := (hPo.2.2.2.2.2 k hk.1 hk.2).2.2.2.2 t h0 (by omega)
    have hfk := hI.1 k hk.1 hk.2
    rcases hfk with hf0 | hf1
    · -- not met
      have z := hc S more h hO hI hP (fun u v => by
        have := hP.2.2.1 u k hk.1 hk.2
        omega)
      refine T_iload dX11_reaches_64 rfl ?_
      refine T_aload_n dX11_reaches_66 rfl rfl ?_
      refine T_iload dX11_reaches_67 rfl ?_
      refine Q_callV dX11_reaches_69 kX11_targets lX11_197 (by assumption) rfl (p_R_targets h.1 hk) rfl rfl (Nat.le_of_ble_eq_true rfl) (Nat.le_of_ble_eq_true rfl) (by decide) (by decide) ?_
      refine I_icmp_ge (tgt := 131) dX11_reaches_72 (by decide) ⟨by omega, by omega⟩ ⟨by omega, by omega⟩ (fun h72 => ?_) (fun h72 => ?_)
      · omega
      · refine T_aload_n dX11_reaches_75 rfl rfl ?_
        refine P_getr dX11_reaches_76 fX11_29 (by assumption) rfl ?_
        refine T_iload dX11_reaches_79 rfl ?_
        refine P_zald dX11_reaches_81 (by assumption) ⟨by omega, by omega⟩ (by first | decide | omega) ?_
        rw [hf0]
        refine I_if_eq (tgt := 131) dX11_reaches_82 (by decide) ⟨by omega, by omega⟩ (fun h82 => ?_) (fun h82 => ?_)
        · refine T.forget 5 ?_
          exact z
        · exact absurd rfl h82
    · have hft := hI.1 _ hld.1 hld.2
      have hrk := hI.2.2 k hk.1 hk.2 hf1
      have hrt : reachP (mPl M) a (pLd (mPl M) k t) := hrk.st hk ⟨h0, by omega⟩
      have hm01 := hP.1
      -- the state behind it
      have go : ∀ more' : Int, (more' = 1 ∧ (more = 1 ∨ aI S 460 (pLd (mPl M) k t) = 0)) ∨ (more' = 0 ∧ more = 0 ∧ aI S 460 (pLd (mPl M) k t) = 1) → P G 1 0 0 mX11_reaches 64 [some (.ref 453), some (IV a), some (IV i0), some (IV more'), some (IV k), some (IV (t + 1))] [] K (sA S 460 (pLd (mPl M) k t) 1) Q := by
        intro more' hmo
        have ev : ∀ y, aI (sA S 460 (pLd (mPl M) k t) 1) 460 y = if y = pLd (mPl M) k t then 1 else aI S 460 y := fun y => by
          rw [aI_sA]
          by_cases e : y = pLd (mPl M) k t
          · rw [if_pos ⟨rfl, e⟩, if_pos e]
          · rw [if_neg (fun q => e q.2), if_neg e]
        refine ih (t + 1) more' _ (by omega) (by omega) (h.met (by decide)) (hO.tr (fun x y w => Same.sA (by omega))) ⟨fun y u v => ?_, ?_, fun y u v q => ?_⟩ ⟨by omega, fun y u v => ?_, fun q y u v => ?_, fun q => ?_⟩ (fun u v t' p q => ?_)
        · rw [ev]; split
          · exact Or.inr rfl
          · exact hI.1 y u v
        · rw [ev]; split
          · rfl
          · exact hI.2.1
        · rw [ev] at q
          by_cases e : y = pLd (mPl M) k t
          · rw [e]; exact hrt
          · rw [if_neg e] at q; exact hI.2.2 y u v q
        · rw [ev]
          have h1 := hP.2.1 y u v
          have h2 := hI.1 y u v
          split <;> omega
        · have h1 := hP.2.2.1 (by omega) y u v
          rw [ev]
          by_cases e : y = pLd (mPl M) k t
          · rw [if_pos e, ← h1, e]
            omega
          · rw [if_neg e]; exact h1
        · rcases hm01 with z | z
          · refine ⟨_, hld.1, hld.2, ?_⟩
            rw [ev, if_pos rfl]
            have h1 := hP.2.2.1 z _ hld.1 hld.2
            omega
          · obtain ⟨y, y0, y1, y2⟩ := hP.2.2.2 z
            refine ⟨y, y0, y1, ?_⟩
            rw [ev]
            have h2 := hI.1 y y0 y1
            split <;> omega
        · by_cases e : t' = t
          · rw [e, ← hP.2.2.1 (by omega) _ hld.1 hld.2]
            omega
          · exact hcl (by omega) v t' p (by omega)
      refine T_iload dX11_reaches_64 rfl ?_
      refine T_aload_n dX11_reaches_66 rfl rfl ?_
      refine T_iload dX11_reaches_67 rfl ?_
      refine Q_callV dX11_reaches_69 kX11_targets lX11_197 (by assumption) rfl (p_R_targets h.1 hk) rfl rfl (Nat.le_of_ble_eq_true rfl) (Nat.le_of_ble_eq_true rfl) (by decide) (by decide) ?_
      refine I_icmp_ge (tgt := 131) dX11_reaches_72 (by decide) ⟨by omega, by omega⟩ ⟨by omega, by omega⟩ (fun h72 => ?_) (fun h72 => ?_)
      · omega
      · refine T_aload_n dX11_reaches_75 rfl rfl ?_
        refine P_getr dX11_reaches_76 fX11_29 (by assumption) rfl ?_
        refine T_iload dX11_reaches_79 rfl ?_
        refine P_zald dX11_reaches_81 (by assumption) ⟨by omega, by omega⟩ (by first | decide | omega) ?_
        rw [hf1]
        refine I_if_eq (tgt := 131) dX11_reaches_82 (by decide) ⟨by omega, by omega⟩ (fun h82 => ?_) (fun h82 => ?_)
        · cases h82
        · refine T_iload_n dX11_reaches_85 rfl ?_
          refine I_if_ne (tgt := 105) dX11_reaches_86 (by decide) ⟨by omega, by omega⟩ (fun h86 => ?_) (fun h86 => ?_)
          · have w := go 1 (by omega)
            refine I_iconst dX11_reaches_105 ?_
            refine T_goto (tgt := 110) dX11_reaches_106 (by decide) ?_
            refine T_istore_n dX11_reaches_110 (by decide) rfl ?_
            refine T_aload_n dX11_reaches_111 rfl rfl ?_
            refine P_getr dX11_reaches_112 fX11_29 (by assumption) rfl ?_
            refine T_aload_n dX11_reaches_115 rfl rfl ?_
            refine T_iload dX11_reaches_116 rfl ?_
            refine T_iload dX11_reaches_118 rfl ?_
            refine Q_callV dX11_reaches_120 kX11_target lX11_203 (by assumption) rfl (p_R_target h.1 hk ⟨h0, by omega⟩) rfl rfl (Nat.le_of_ble_eq_true rfl) (Nat.le_of_ble_eq_true rfl) (by decide) (by decide) ?_
            refine I_iconst dX11_reaches_123 ?_
            refine P_zast dX11_reaches_124 (by assumption) ⟨by omega, by omega⟩ (by first | decide | omega) (Or.inr rfl) ?_
            refine I_iinc dX11_reaches_125 rfl (by decide) rfl ?_
            refine T_goto (tgt := 64) dX11_reaches_128 (by decide) ?_
            exact w
          · refine T_aload_n dX11_reaches_89 rfl rfl ?_
            refine P_getr dX11_reaches_90 fX11_29 (by assumption) rfl ?_
            refine T_aload_n dX11_reaches_93 rfl rfl ?_
            refine T_iload dX11_reaches_94 rfl ?_
            refine T_iload dX11_reaches_96 rfl ?_
            refine Q_callV dX11_reaches_98 kX11_target lX11_203 (by assumption) rfl (p_R_target h.1 hk ⟨h0, by omega⟩) rfl rfl (Nat.le_of_ble_eq_true rfl) (Nat.le_of_ble_eq_true rfl) (by decide) (by decide) ?_
            refine P_zald dX11_reaches_101 (by assumption) ⟨by omega, by omega⟩ (by first | decide | omega) ?_
            refine I_if_ne (tgt := 109) dX11_reaches_102 (by decide) ⟨by omega, by omega⟩ (fun h102 => ?_) (fun h102 => ?_)
            · have w := go 0 (by omega)
              refine I_iconst dX11_reaches_109 ?_
              refine T_istore_n dX11_reaches_110 (by decide) rfl ?_
              refine T_aload_n dX11_reaches_111 rfl rfl ?_
              refine P_getr dX11_reaches_112 fX11_29 (by assumption) rfl ?_
              refine T_aload_n dX11_reaches_115 rfl rfl ?_
              refine T_iload dX11_reaches_116 rfl ?_
              refine T_iload dX11_reaches_118 rfl ?_
              refine Q_callV dX11_reaches_120 kX11_target lX11_203 (by assumption) rfl (p_R_target h.1 hk ⟨h0, by omega⟩) rfl rfl (Nat.le_of_ble_eq_true rfl) (Nat.le_of_ble_eq_true rfl) (by decide) (by decide) ?_
              refine I_iconst dX11_reaches_123 ?_
              refine P_zast dX11_reaches_124 (by assumption) ⟨by omega, by omega⟩ (by first | decide | omega) (Or.inr rfl) ?_
              refine I_iinc dX11_reaches_125 rfl (by decide) rfl ?_
              refine T_goto (tgt := 64) dX11_reaches_128 (by decide) ?_
              exact w
            · have w := go 1 (by omega)
              refine I_iconst dX11_reaches_105 ?_
              refine T_goto (tgt := 110) dX11_reaches_106 (by decide) ?_
              refine T_istore_n dX11_reaches_110 (by decide) rfl ?_
              refine T_aload_n dX11_reaches_111 rfl rfl ?_
              refine P_getr dX11_reaches_112 fX11_29 (by assumption) rfl ?_
              refine T_aload_n dX11_reaches_115 rfl rfl ?_
              refine T_iload dX11_reaches_116 rfl ?_
              refine T_iload dX11_reaches_118 rfl ?_
              refine Q_callV dX11_reaches_120 kX11_target lX11_203 (by assumption) rfl (p_R_target h.1 hk ⟨h0, by omega⟩) rfl rfl (Nat.le_of_ble_eq_true rfl) (Nat.le_of_ble_eq_true rfl) (by decide) (by decide) ?_
              refine I_iconst dX11_reaches_123 ?_
              refine P_zast dX11_reaches_124 (by assumption) ⟨by omega, by omega⟩ (by first | decide | omega) (Or.inr rfl) ?_
              refine I_iinc dX11_reaches_125 rfl (by decide) rfl ?_
              refine T_goto (tgt := 64) dX11_reaches_128 (by decide) ?_
              exact w
theorem l_met2 {f0 : Int → Int} {Q : Option Value → List SH → SV → Prop} (hc : ∀ (S : SV) (more : Int), RR K S M → Outs S0 S 453 466 → MtI (mPl M) a (aI S 460) → PsI f0 (aI S 460) more → (more = 0 → ∀ k, 0 ≤ k → k < 32 → f0 k = 1 → ∀ t, 0 ≤ t → t < pLc (mPl M) k → f0 (pLd (mPl M) k t) = 1) → P G 1 0 0 mX11_reaches 45 [some (.ref 453), some (IV a), some (IV i0), some (IV more), none, none] [] K S Q) (m : Nat) : ∀ (k more : Int) (S : SV), 0 ≤ k → 32 - k = m → RR K S M → Outs S0 S 453 466 → MtI (mPl M) a (aI S 460) → PsI f0 (aI S 460) more → (more = 0 → ∀ k', 0 ≤ k' → k' < k → f0 k' = 1 → ∀ t, 0 ≤ t → t < pLc (mPl M) k' → f0 (pLd (mPl M) k' t) = 1) → P G 1 0 0 mX11_reaches 54 [some (.ref 453), some (IV a), some (IV i0), some (IV more), some (IV k), none] [] K S Q := by
  induction m with
  | zero =>
    intro k more S h0 hm h hO hI hP hcl
    have z := hc S more h hO hI hP (fun u k' p q => hcl u k' p (by omega))
    refine T_iload dX11_reaches_54 rfl ?_
    refine I_bipush dX11_reaches_56 (by decide) ?_
    refine I_icmp_ge (tgt := 137) dX11_reaches_58 (by decide) ⟨by omega, by omega⟩ ⟨by omega, by omega⟩ (fun h58 => ?_) (fun h58 => ?_)
    · refine T_goto (tgt := 45) dX11_reaches_137 (by decide) ?_
      refine T.forget 4 ?_
      exact z
    · omega
  | succ m ih =>
    intro k more S h0 hm h hO hI hP hcl
    have hlc := (h.1.2.2.1.2.2.2.2.2 k h0 (by omega)).2.1
    have z := l_met3 (G := G) (K := K) (S0 := S0) (a := a) (i0 := i0) (f0 := f0) (k := k) (Q := Q) ⟨h0, by omega⟩ (fun S1 more1 q1 q2 q3 q4 q5 => by
      have w := ih (k + 1) more1 S1 (by omega) (by omega) q1 q2 q3 q4 (fun u k' p q v t a b => by
        by_cases e : k' = k
        · rw [e] at v b ⊢; exact q5 u v t a b
        · sorry)
      refine I_iinc dX11_reaches_131 rfl (by decide) rfl ?_
      refine T_goto (tgt := 54) dX11_reaches_134 (by decide) ?_
      exact w
    refine T_iload dX11_reaches_54 rfl ?_
    refine I_bipush dX11_reaches_56 (by decide) ?_
    refine I_icmp_ge (tgt := 137) dX11_reaches_58 (by decide) ⟨by omega, by omega⟩ ⟨by omega, by omega⟩ (fun h58 => ?_) (fun h58 => ?_)
    · omega
    · refine I_iconst dX11_reaches_61 ?_
      refine T_istore dX11_reaches_62 (by decide) rfl ?_
      exact z
end RW1
