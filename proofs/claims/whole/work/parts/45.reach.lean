/-! where a name leads -/
def reachP (pl : PL) (a b : Int) : Prop := ∀ X : Int → Prop, X a → (∀ x i, X x → 0 ≤ x → x < 32 → 0 ≤ i → i < pLc pl x → X (pLd pl x i)) → X b
theorem reachP.rf (pl : PL) (a : Int) : reachP pl a a := fun X h _ => h
theorem reachP.st {pl : PL} {a x i : Int} (h : reachP pl a x) (hx : 0 ≤ x ∧ x < 32) (hi : 0 ≤ i ∧ i < pLc pl x) : reachP pl a (pLd pl x i) := fun X h1 h2 => h2 x i (h X h1 h2) hx.1 hx.2 hi.1 hi.2
def orM (m k : Int) : Int := (iv m ||| iv k).toInt
theorem or_iv (m k : Int) : iv m ||| iv k = iv (orM m k) := by unfold orM; rw [iv_of]
theorem or_R (m k : Int) : R32 (orM m k) := toInt_R32 _
theorem bit_or {m k a : Int} : bitM (orM m k) a ↔ bitM m a ∨ bitM k a := by
  unfold bitM
  rw [← or_iv]
  show (iv m ||| iv k).toBitVec.getLsbD a.toNat = true ↔ _
  rw [Int32.toBitVec_or, BitVec.getLsbD_or, Bool.or_eq_true]
theorem bit_0 (a : Int) : ¬ bitM 0 a := by
  unfold bitM
  intro h
  have e : (iv 0).toBitVec = 0#32 := rfl
  rw [e, BitVec.getLsbD_zero] at h
  cases h
theorem bit_ext {m k : Int} (hm : R32 m) (hk : R32 k) (h : ∀ a, 0 ≤ a → a < 32 → (bitM m a ↔ bitM k a)) : m = k := by
  have e : iv m = iv k := by
    apply Int32.toBitVec_inj.mp
    apply BitVec.eq_of_getLsbD_eq
    intro i hi
    have := h (i : Int) (by omega) (by omega)
    unfold bitM at this
    rw [Int.toNat_natCast] at this
    exact Bool.eq_iff_iff.mpr this
  rw [← iv_toInt hm, ← iv_toInt hk, e]
theorem shl_iv (a : Int) : iv 1 <<< (iv a &&& 31) = iv (markM 0 a) := by
  rw [← mark_iv]
  exact (Int32.zero_or (a := _)).symm
theorem sumF_mono {f g : Int → Int} : ∀ (m : Nat) (i : Int), (∀ t, i ≤ t → t < i + m → f t ≤ g t) → sumF f m i ≤ sumF g m i
  | 0, _, _ => by show (0 : Int) ≤ 0; omega
  | m + 1, i, h => by
    rw [sumF, sumF]
    have h1 := h i (by omega) (by omega)
    have h2 := sumF_mono (f := f) (g := g) m (i + 1) (fun t a b => h t (by omega) (by omega))
    omega
theorem pop_lt {m k b : Int} (h : ∀ a, 0 ≤ a → a < 32 → bitM m a → bitM k a) (hb : 0 ≤ b ∧ b < 32) (h1 : bitM k b) (h2 : ¬ bitM m b) : popM m + 1 ≤ popM k := by
  unfold popM
  have e := sumF_up (f := fun a => if a = b then (1 : Int) else b2p (bitM m a)) (g := fun a => b2p (bitM m a)) (a := b) 32 0 hb.1 (by omega) (fun t u v w => by show (if t = b then (1 : Int) else _) = _; rw [if_neg w])
  have e2 : sumF (fun a => if a = b then (1 : Int) else b2p (bitM m a)) 32 0 ≤ sumF (fun a => b2p (bitM k a)) 32 0 := sumF_mono 32 0 (fun t u v => by
    show (if t = b then (1 : Int) else b2p (bitM m t)) ≤ b2p (bitM k t)
    split
    · rename_i z
      rw [z, b2p_t h1]
      omega
    · by_cases q : bitM m t
      · rw [b2p_t q, b2p_t (h t u (by omega) q)]
        omega
      · rw [b2p_f q]
        rcases b2p_01 (bitM k t) with y | y <;> rw [y] <;> omega)
  have e3 : b2p (bitM m b) = 0 := b2p_f h2
  simp only [if_true] at e
  omega
def leadsP (pl : PL) (a b : Int) : Prop := ∃ i, 0 ≤ i ∧ i < pLc pl a ∧ pLd pl a i = b
section Reach
variable {G : GT} {K : List SH} {S : SV} {p : Nat} {pl : PL}
def bitsQ (K : List SH) (S : SV) (X : Int → Prop) : Option Value → List SH → SV → Prop := fun rv K' S' => K' = K ∧ S' = S ∧ ∃ z, rv = some (IV z) ∧ R32 z ∧ ∀ b, 0 ≤ b → b < 32 → (bitM z b ↔ X b)
theorem l_leadBits {a : Int} (hP : PlanAt K p) (hF : PlanF S p pl) (ha : 0 ≤ a ∧ a < 32) (m : Nat) : ∀ i z : Int, 0 ≤ i → pLc pl a - i = m → R32 z → (∀ b, 0 ≤ b → b < 32 → (bitM z b ↔ ∃ t, 0 ≤ t ∧ t < i ∧ pLd pl a t = b)) → P G 1 0 0 mX5_leadBits 4 [some (.ref p), some (IV a), some (IV z), some (IV i)] [] K S (bitsQ K S (leadsP pl a)) := by
  obtain ⟨k0, k1, k2, k3, k4, k5, k6, k7, k8, k9⟩ := id hP
  obtain ⟨c1, c2, c3⟩ := hF.2.2.2.2.1 a ha.1 ha.2
  obtain ⟨-, b2, -, -, b3⟩ := hF.1.2.2.2.2.2 a ha.1 ha.2
  induction m with
  | zero =>
    intro i z h0 hm hz hb
    refine T_iload_n dX5_leadBits_4 rfl ?_
    refine T_aload_n dX5_leadBits_5 rfl rfl ?_
    refine P_getr dX5_leadBits_6 fX5_33 (by assumption) rfl ?_
    refine T_iload_n dX5_leadBits_9 rfl ?_
    refine P_iald dX5_leadBits_10 (by assumption) ⟨by omega, by omega⟩ (by first | decide | omega) ?_
    rw [c2]
    refine I_icmp_ge (tgt := 31) dX5_leadBits_11 (by decide) ⟨by omega, by omega⟩ ⟨by omega, by omega⟩ (fun h11 => ?_) (fun h11 => ?_)
    · refine T_iload_n dX5_leadBits_31 rfl ?_
      exact I_ireturn dX5_leadBits_32 rfl ⟨_, _, rfl, rfl, rfl, z, rfl, hz, fun b u v => by
        rw [hb b u v, show i = pLc pl a by omega]
        exact Iff.rfl⟩
    · omega
  | succ m ih =>
    intro i z h0 hm hz hb
    have hl := b3 i h0 (by omega)
    have hv := c3 i h0 (by omega)
    have zz := ih (i + 1) (markM z (pLd pl a i)) (by omega) (by omega) (mark_R _ _) (fun b u v => by
      rw [bit_mark hl ⟨u, v⟩, hb b u v]
      constructor
      · rintro (⟨t, t0, t1, t2⟩ | e)
        · exact ⟨t, t0, by omega, t2⟩
        · exact ⟨i, h0, by omega, e.symm⟩
      · rintro ⟨t, t0, t1, t2⟩
        by_cases e : t = i
        · exact Or.inr (by rw [← t2, e])
        · exact Or.inl ⟨t, t0, by omega, t2⟩)
    refine T_iload_n dX5_leadBits_4 rfl ?_
    refine T_aload_n dX5_leadBits_5 rfl rfl ?_
    refine P_getr dX5_leadBits_6 fX5_33 (by assumption) rfl ?_
    refine T_iload_n dX5_leadBits_9 rfl ?_
    refine P_iald dX5_leadBits_10 (by assumption) ⟨by omega, by omega⟩ (by first | decide | omega) ?_
    rw [c2]
    refine I_icmp_ge (tgt := 31) dX5_leadBits_11 (by decide) ⟨by omega, by omega⟩ ⟨by omega, by omega⟩ (fun h11 => ?_) (fun h11 => ?_)
    · omega
    · refine T_iload_n dX5_leadBits_14 rfl ?_
      refine I_iconst dX5_leadBits_15 ?_
      refine T_aload_n dX5_leadBits_16 rfl rfl ?_
      refine T_iload_n dX5_leadBits_17 rfl ?_
      refine T_iload_n dX5_leadBits_18 rfl ?_
      refine Q_callV dX5_leadBits_19 kX5_lead lX5_62 (by assumption) rfl (p_Plan_lead hP ha ⟨by omega, by omega⟩) rfl rfl (Nat.le_of_ble_eq_true rfl) (Nat.le_of_ble_eq_true rfl) (by decide) (by decide) ?_
      rw [hv]
      refine T_ishl dX5_leadBits_22 ?_
      refine T_ior dX5_leadBits_23 ?_
      rw [mark_iv]
      refine T_istore_n dX5_leadBits_24 (by decide) rfl ?_
      refine I_iinc dX5_leadBits_25 rfl (by decide) rfl ?_
      refine T_goto (tgt := 4) dX5_leadBits_28 (by decide) ?_
      exact zz
theorem p_leadBits {a : Int} (hP : PlanAt K p) (hF : PlanF S p pl) (ha : 0 ≤ a ∧ a < 32) : P G 1 0 0 mX5_leadBits 0 (LE mX5_leadBits [.ref p, IV a]) [] K S (bitsQ K S (leadsP pl a)) := by
  obtain ⟨-, b2, -, -, b3⟩ := hF.1.2.2.2.2.2 a ha.1 ha.2
  have z := l_leadBits (G := G) hP hF ha (pLc pl a).toNat 0 0 (by omega) (by omega) (by decide) (fun b u v => ⟨fun h => absurd h (bit_0 b), fun ⟨t, t0, t1, _⟩ => by omega⟩)
  rw [show LE mX5_leadBits [.ref p, IV a] = [some (.ref p), some (IV a), none, none] from rfl]
  refine I_iconst dX5_leadBits_0 ?_
  refine T_istore_n dX5_leadBits_1 (by decide) rfl ?_
  refine I_iconst dX5_leadBits_2 ?_
  refine T_istore_n dX5_leadBits_3 (by decide) rfl ?_
  exact z
/-- one round over all addresses -/
theorem l_reach2 {a seen rd : Int} (hP : PlanAt K p) (hF : PlanF S p pl) (hs : R32 seen) {Q : Option Value → List SH → SV → Prop} (hk : ∀ more, R32 more → (∀ b, 0 ≤ b → b < 32 → bitM seen b → bitM more b) → (∀ b, 0 ≤ b → b < 32 → bitM more b → reachP pl a b) → (∀ x, 0 ≤ x → x < 32 → bitM seen x → ∀ y, leadsP pl x y → bitM more y) → P G 2 0 0 mX5_reachedFrom 53 [some (.ref p), some (IV a), some (IV seen), some (IV rd), some (IV more), none] [] K S Q) (m : Nat) : ∀ b more : Int, 0 ≤ b → 32 - b = m → R32 more → (∀ y, 0 ≤ y → y < 32 → bitM seen y → bitM more y) → (∀ y, 0 ≤ y → y < 32 → bitM more y → reachP pl a y) → (∀ x, 0 ≤ x → x < b → bitM seen x → ∀ y, leadsP pl x y → bitM more y) → P G 2 0 0 mX5_reachedFrom 18 [some (.ref p), some (IV a), some (IV seen), some (IV rd), some (IV more), some (IV b)] [] K S Q := by
  have k0 := hP.1
  induction m with
  | zero =>
    intro b more h0 hm hr h1 h2 h3
    have z := hk more hr h1 h2 (fun x u v => h3 x u (by omega))
    refine T_iload dX5_reachedFrom_18 rfl ?_
    refine I_bipush dX5_reachedFrom_20 (by decide) ?_
    refine I_icmp_ge (tgt := 53) dX5_reachedFrom_22 (by decide) ⟨by omega, by omega⟩ ⟨by omega, by omega⟩ (fun h22 => ?_) (fun h22 => ?_)
    · refine T.forget 5 ?_
      exact z
    · omega
  | succ m ih =>
    intro b more h0 hm hr h1 h2 h3
    refine T_iload dX5_reachedFrom_18 rfl ?_
    refine I_bipush dX5_reachedFrom_20 (by decide) ?_
    refine I_icmp_ge (tgt := 53) dX5_reachedFrom_22 (by decide) ⟨by omega, by omega⟩ ⟨by omega, by omega⟩ (fun h22 => ?_) (fun h22 => ?_)
    · omega
    · refine T_iload dX5_reachedFrom_25 rfl ?_
      refine T_iload dX5_reachedFrom_27 rfl ?_
      refine T_iushr dX5_reachedFrom_29 rfl ?_
      refine I_iconst dX5_reachedFrom_30 ?_
      refine T_iand dX5_reachedFrom_31 ?_
      rw [bit_ushr ⟨by omega, by omega⟩]
      refine I_iconst dX5_reachedFrom_32 ?_
      refine I_icmp_ne (tgt := 47) dX5_reachedFrom_33 (by decide) (by rcases b2p_01 (bitM more b) with z | z <;> rw [z] <;> decide) (by decide) (fun h33 => ?_) (fun h33 => ?_)
      · skip
        refine I_iinc dX5_reachedFrom_47 rfl (by decide) rfl ?_
        refine T_goto (tgt := 18) dX5_reachedFrom_50 (by decide) ?_
        first
          | exact w
          | exact ih (b + 1) more (by omega) (by omega) hr h1 h2 (fun x u v q y hy => by
              by_cases e : x = b
              · rw [e] at q
                have := h1 b (by omega) (by omega) q
                rw [b2p_t this] at h33
                omega
              · exact h3 x u (by omega) q y hy)
      · have hbit : bitM more b := Classical.byContradiction (fun z => by rw [b2p_f z] at h33; omega)
        refine T_iload dX5_reachedFrom_36 rfl ?_
        refine T_aload_n dX5_reachedFrom_38 rfl rfl ?_
        refine T_iload dX5_reachedFrom_39 rfl ?_
        refine R_callV dX5_reachedFrom_41 kX5_leadBits lX5_76 (by assumption) rfl (p_leadBits hP hF ⟨by omega, by omega⟩) rfl rfl (Nat.le_of_ble_eq_true rfl) (Nat.le_of_ble_eq_true rfl) (by decide) (by decide) (fun r_ K_ S_ q_ => ?_)
        obtain ⟨hKe, hSe, z, rfl, hz, hzb⟩ := q_
        have hKe := hKe.symm
        subst hKe
        have hSe := hSe.symm
        subst hSe
        have w := ih (b + 1) (orM more z) (by omega) (by omega) (or_R _ _) (fun y u v q => bit_or.mpr (Or.inl (h1 y u v q))) (fun y u v q => by
          rcases bit_or.mp q with q | q
          · exact h2 y u v q
          · obtain ⟨i, i0, i1, i2⟩ := (hzb y u v).mp q
            rw [← i2]
            exact (h2 b (by omega) (by omega) hbit).st ⟨by omega, by omega⟩ ⟨i0, i1⟩) (fun x u v q y hy => by
          by_cases e : x = b
          · rw [e] at hy
            have hy2 := hy
            obtain ⟨i, i0, i1, i2⟩ := hy2
            obtain ⟨-, -, -, -, b3⟩ := hF.1.2.2.2.2.2 b (by omega) (by omega)
            have b4 := b3 i i0 i1
            exact bit_or.mpr (Or.inr ((hzb y (by omega) (by omega)).mpr hy))
          · exact bit_or.mpr (Or.inl (h3 x u (by omega) q y hy)))
        refine T_ior dX5_reachedFrom_44 ?_
        rw [or_iv]
        refine T_istore dX5_reachedFrom_45 (by decide) rfl ?_
        skip
        refine I_iinc dX5_reachedFrom_47 rfl (by decide) rfl ?_
        refine T_goto (tgt := 18) dX5_reachedFrom_50 (by decide) ?_
        first
          | exact w
          | exact ih (b + 1) more (by omega) (by omega) hr h1 h2 (fun x u v q y hy => by
              by_cases e : x = b
              · rw [e] at q
                have := h1 b (by omega) (by omega) q
                rw [b2p_t this] at h33
                omega
              · exact h3 x u (by omega) q y hy)
theorem l_reach {a : Int} (hA : 0 ≤ a ∧ a < 32) (hP : PlanAt K p) (hF : PlanF S p pl) (m : Nat) : ∀ rd seen : Int, 0 ≤ rd → 32 - rd = m → R32 seen → rd + 1 ≤ popM seen → bitM seen a → (∀ b, 0 ≤ b → b < 32 → bitM seen b → reachP pl a b) → P G 2 0 0 mX5_reachedFrom 6 [some (.ref p), some (IV a), some (IV seen), some (IV rd), none, none] [] K S (bitsQ K S (reachP pl a)) := by
  induction m with
  | zero =>
    intro rd seen h0 hm hr hp h1 h2
    have := popM_R seen
    omega
  | succ m ih =>
    intro rd seen h0 hm hr hp h1 h2
    have hk : ∀ more, R32 more → (∀ b, 0 ≤ b → b < 32 → bitM seen b → bitM more b) → (∀ b, 0 ≤ b → b < 32 → bitM more b → reachP pl a b) → (∀ x, 0 ≤ x → x < 32 → bitM seen x → ∀ y, leadsP pl x y → bitM more y) → P G 2 0 0 mX5_reachedFrom 53 [some (.ref p), some (IV a), some (IV seen), some (IV rd), some (IV more), none] [] K S (bitsQ K S (reachP pl a)) := by
      intro more hm1 g1 g2 g3
      refine T_iload dX5_reachedFrom_53 rfl ?_
      refine T_iload_n dX5_reachedFrom_55 rfl ?_
      refine I_icmp_ne (tgt := 61) dX5_reachedFrom_56 (by decide) hm1 hr (fun h56 => ?_) (fun h56 => ?_)
      · have hne : ∃ b, 0 ≤ b ∧ b < 32 ∧ bitM more b ∧ ¬ bitM seen b := Classical.byContradiction (fun q => h56 (bit_ext hm1 hr (fun b u v => ⟨fun w => Classical.byContradiction (fun w2 => q ⟨b, u, v, w, w2⟩), g1 b u v⟩)))
        obtain ⟨b, b0, b1, b2, b3⟩ := hne
        have hpl := pop_lt g1 ⟨b0, b1⟩ b2 b3
        have w := ih (rd + 1) more (by omega) (by omega) hm1 (by omega) (g1 a hA.1 hA.2 h1) g2
        refine T_iload dX5_reachedFrom_61 rfl ?_
        refine T_istore_n dX5_reachedFrom_63 (by decide) rfl ?_
        refine I_iinc dX5_reachedFrom_64 rfl (by decide) rfl ?_
        refine T_goto (tgt := 6) dX5_reachedFrom_67 (by decide) ?_
        refine T.forget 4 ?_
        exact w
      · subst h56
        refine T_iload_n dX5_reachedFrom_59 rfl ?_
        exact I_ireturn dX5_reachedFrom_60 rfl ⟨_, _, rfl, rfl, rfl, _, rfl, hm1, fun b u v => ⟨g2 b u v, fun q => q (bitM more) h1 (fun x i hx u0 u1 i0 i1 => g3 x u0 u1 hx _ ⟨i, i0, i1, rfl⟩)⟩⟩
    have z := l_reach2 (G := G) (a := a) (seen := seen) (rd := rd) (Q := bitsQ K S (reachP pl a)) hP hF hr hk 32 0 seen (by omega) (by omega) hr (fun y _ _ q => q) h2 (fun x u v => by omega)
    refine T_iload_n dX5_reachedFrom_6 rfl ?_
    refine I_bipush dX5_reachedFrom_7 (by decide) ?_
    refine I_icmp_ge (tgt := 70) dX5_reachedFrom_9 (by decide) ⟨by omega, by omega⟩ ⟨by omega, by omega⟩ (fun h9 => ?_) (fun h9 => ?_)
    · omega
    · refine T_iload_n dX5_reachedFrom_12 rfl ?_
      refine T_istore dX5_reachedFrom_13 (by decide) rfl ?_
      refine I_iconst dX5_reachedFrom_15 ?_
      refine T_istore dX5_reachedFrom_16 (by decide) rfl ?_
      exact z
end Reach
section Reach3
variable {G : GT} {K : List SH} {S : SV} {p : Nat} {pl : PL}
theorem p_reachedFrom {a : Int} (ha : 0 ≤ a ∧ a < 32) (hP : PlanAt K p) (hF : PlanF S p pl) : P G 2 0 0 mX5_reachedFrom 0 (LE mX5_reachedFrom [.ref p, IV a]) [] K S (bitsQ K S (reachP pl a)) := by
  have hb : ∀ b, 0 ≤ b → b < 32 → (bitM (markM 0 a) b ↔ b = a) := fun b u v => by
    rw [bit_mark ha ⟨u, v⟩]
    exact ⟨fun z => z.elim (fun q => absurd q (bit_0 b)) id, Or.inr⟩
  have hp := pop_lt (m := 0) (k := markM 0 a) (b := a) (fun x _ _ q => absurd q (bit_0 x)) ha ((hb a ha.1 ha.2).mpr rfl) (bit_0 a)
  have hp0 := popM_R 0
  have z := l_reach (G := G) ha hP hF 32 0 (markM 0 a) (by omega) (by omega) (mark_R _ _) (by omega) ((hb a ha.1 ha.2).mpr rfl) (fun b u v q => by rw [(hb b u v).mp q]; exact reachP.rf pl a)
  rw [show LE mX5_reachedFrom [.ref p, IV a] = [some (.ref p), some (IV a), none, none, none, none] from rfl]
  refine I_iconst dX5_reachedFrom_0 ?_
  refine T_iload_n dX5_reachedFrom_1 rfl ?_
  refine T_ishl dX5_reachedFrom_2 ?_
  rw [shl_iv]
  refine T_istore_n dX5_reachedFrom_3 (by decide) rfl ?_
  refine I_iconst dX5_reachedFrom_4 ?_
  refine T_istore_n dX5_reachedFrom_5 (by decide) rfl ?_
  exact z
end Reach3
