/-! the reference: who is asked -/
noncomputable def innL (pl : PL) (d pr : Int) : Nat → Int → List Int
  | 0, _ => []
  | m + 1, t => @ite _ (prefM pl t d = pr) (Classical.propDecidable _) (t :: innL pl d pr m (t + 1)) (innL pl d pr m (t + 1))
theorem innL_t {pl : PL} {d pr t : Int} {m : Nat} (h : prefM pl t d = pr) : innL pl d pr (m + 1) t = t :: innL pl d pr m (t + 1) := by rw [innL]; exact if_pos h
theorem innL_f {pl : PL} {d pr t : Int} {m : Nat} (h : ¬ prefM pl t d = pr) : innL pl d pr (m + 1) t = innL pl d pr m (t + 1) := by rw [innL]; exact if_neg h
noncomputable def outL (pl : PL) (d : Int) : Nat → Int → List Int
  | 0, _ => []
  | m + 1, pr => innL pl d pr (pHs pl).toNat 0 ++ outL pl d m (pr + 1)
def getI (l : List Int) (k : Int) : Int := (l[k.toNat]?).getD (-4)
theorem getI_0 {x : Int} {l : List Int} {k : Int} (h : k = 0) : getI (x :: l) k = x := by rw [h]; rfl
theorem getI_1 {x : Int} {l : List Int} {k : Int} (h : 0 < k) : getI (x :: l) k = getI l (k - 1) := by
  unfold getI
  obtain ⟨n, rfl⟩ : ∃ n : Nat, k = n + 1 := ⟨(k - 1).toNat, by omega⟩
  rw [show ((n : Int) + 1).toNat = n + 1 by omega, show ((n : Int) + 1 - 1).toNat = n by omega]
  rfl
theorem innL_eq (pl : PL) (d pr : Int) : ∀ (m t : Nat), ((List.range' t m).map (fun t : Nat => (t : Int))).filter (fun t => @decide (prefM pl t d = pr) (Classical.propDecidable _)) = innL pl d pr m t
  | 0, t => rfl
  | m + 1, t => by
    rw [List.range'_succ, List.map_cons]
    have ih := innL_eq pl d pr m (t + 1)
    by_cases h : prefM pl t d = pr
    · rw [innL_t h, List.filter_cons_of_pos (p := fun t : Int => @decide (prefM pl t d = pr) (Classical.propDecidable _)) (pdec_i h), ih]
      rfl
    · rw [innL_f h, List.filter_cons_of_neg (p := fun t : Int => @decide (prefM pl t d = pr) (Classical.propDecidable _)) (fun z => h (pdec_t z)), ih]
      rfl
theorem outL_eq (pl : PL) (d : Int) : ∀ (m pr : Nat), (List.range' pr m).flatMap (fun pr : Nat => ((List.range (pHs pl).toNat).map (fun t : Nat => (t : Int))).filter (fun t => @decide (prefM pl t d = (pr : Int)) (Classical.propDecidable _))) = outL pl d m pr
  | 0, pr => rfl
  | m + 1, pr => by
    rw [List.range'_succ, List.flatMap_cons, outL_eq pl d m (pr + 1), List.range_eq_range', innL_eq]
    rfl
theorem asksM_out (pl : PL) (h d : Int) : asksM pl h d = outL pl d (if prefM pl h d = -4 then 10 else (prefM pl h d).toNat) 0 := by
  unfold asksM
  generalize (if prefM pl h d = -4 then 10 else (prefM pl h d).toNat) = B
  rw [show List.range B = List.range' 0 B from List.range_eq_range', outL_eq]
  rfl
section RF4
variable {G : GT} {K : List SH} {S : SV} {pl : PL} {e : EN} {its : List Row}
theorem l_ask2 {h d i own pr : Int} {R : List Int} (hR : RS K S pl e its) (hd : 0 ≤ d ∧ d < 4) (hpr : 0 ≤ pr ∧ pr ≤ 9) (hk : ∀ left, 0 ≤ left → left < 2147483648 → P G 2 0 0 mX11_asked 14 [some (.ref 453), some (IV h), some (IV d), some (IV i), some (IV own), some (IV left), some (IV (pr + 1)), none] [] K S (Ret K (some (IV (getI R left))) S)) (m : Nat) : ∀ t left : Int, 0 ≤ t → pHs pl - t = m → 0 ≤ left → left < 2147483648 → P G 2 0 0 mX11_asked 38 [some (.ref 453), some (IV h), some (IV d), some (IV i), some (IV own), some (IV left), some (IV pr), some (IV t)] [] K S (Ret K (some (IV (getI (innL pl d pr m t ++ R) left))) S) := by
  have m0 := hR.1.1
  have m1 := hR.1.2.1
  have e0 : aI S 454 0 = pHs pl := hR.2.2.2.1.1.1
  have hb5 := hR.2.2.1.1
  induction m with
  | zero =>
    intro t left h0 hm hl hl2
    have z := hk left hl hl2
    refine T_iload dX11_asked_38 rfl ?_
    refine T_aload_n dX11_asked_40 rfl rfl ?_
    refine P_getr dX11_asked_41 fX11_7 (by assumption) rfl ?_
    refine I_iconst dX11_asked_44 ?_
    refine P_iald dX11_asked_45 (by assumption) ⟨by omega, by omega⟩ (by first | decide | omega) ?_
    rw [e0]
    refine I_icmp_ge (tgt := 78) dX11_asked_46 (by decide) ⟨by omega, by omega⟩ ⟨by omega, by omega⟩ (fun h46 => ?_) (fun h46 => ?_)
    · refine I_iinc dX11_asked_78 rfl (by decide) rfl ?_
      refine T_goto (tgt := 14) dX11_asked_81 (by decide) ?_
      refine T.forget 7 ?_
      exact z
    · omega
  | succ m ih =>
    intro t left h0 hm hl hl2
    have hpb := prefM_b (h := t) hR.2.2.1 hd
    have hp := p_R_pref (G := G) (h := t) hR hd ⟨by omega, by omega⟩
    by_cases hq : prefM pl t d = pr
    · rw [innL_t hq, List.cons_append]
      by_cases hl0 : left = 0
      · rw [getI_0 hl0]
        refine T_iload dX11_asked_38 rfl ?_
        refine T_aload_n dX11_asked_40 rfl rfl ?_
        refine P_getr dX11_asked_41 fX11_7 (by assumption) rfl ?_
        refine I_iconst dX11_asked_44 ?_
        refine P_iald dX11_asked_45 (by assumption) ⟨by omega, by omega⟩ (by first | decide | omega) ?_
        rw [e0]
        refine I_icmp_ge (tgt := 78) dX11_asked_46 (by decide) ⟨by omega, by omega⟩ ⟨by omega, by omega⟩ (fun h46 => ?_) (fun h46 => ?_)
        · omega
        · refine T_aload_n dX11_asked_49 rfl rfl ?_
          refine T_iload dX11_asked_50 rfl ?_
          refine T_iload_n dX11_asked_52 rfl ?_
          refine Q_callV dX11_asked_53 kX11_preferenceOf lX11_152 (by assumption) rfl hp rfl rfl (Nat.le_of_ble_eq_true rfl) (Nat.le_of_ble_eq_true rfl) (by decide) (by decide) ?_
          refine T_iload dX11_asked_56 rfl ?_
          refine I_icmp_ne (tgt := 72) dX11_asked_58 (by decide) ⟨by omega, by omega⟩ ⟨by omega, by omega⟩ (fun h58 => ?_) (fun h58 => ?_)
          · omega
          · refine T_iload dX11_asked_61 rfl ?_
            refine I_if_ne (tgt := 69) dX11_asked_63 (by decide) ⟨by omega, by omega⟩ (fun h63 => ?_) (fun h63 => ?_)
            · omega
            · refine T_iload dX11_asked_66 rfl ?_
              exact I_ireturn dX11_asked_68 rfl ⟨_, _, rfl, rfl, rfl, rfl⟩
      · rw [getI_1 (by omega)]
        have z := ih (t + 1) (left - 1) (by omega) (by omega) (by omega) (by omega)
        refine T_iload dX11_asked_38 rfl ?_
        refine T_aload_n dX11_asked_40 rfl rfl ?_
        refine P_getr dX11_asked_41 fX11_7 (by assumption) rfl ?_
        refine I_iconst dX11_asked_44 ?_
        refine P_iald dX11_asked_45 (by assumption) ⟨by omega, by omega⟩ (by first | decide | omega) ?_
        rw [e0]
        refine I_icmp_ge (tgt := 78) dX11_asked_46 (by decide) ⟨by omega, by omega⟩ ⟨by omega, by omega⟩ (fun h46 => ?_) (fun h46 => ?_)
        · omega
        · refine T_aload_n dX11_asked_49 rfl rfl ?_
          refine T_iload dX11_asked_50 rfl ?_
          refine T_iload_n dX11_asked_52 rfl ?_
          refine Q_callV dX11_asked_53 kX11_preferenceOf lX11_152 (by assumption) rfl hp rfl rfl (Nat.le_of_ble_eq_true rfl) (Nat.le_of_ble_eq_true rfl) (by decide) (by decide) ?_
          refine T_iload dX11_asked_56 rfl ?_
          refine I_icmp_ne (tgt := 72) dX11_asked_58 (by decide) ⟨by omega, by omega⟩ ⟨by omega, by omega⟩ (fun h58 => ?_) (fun h58 => ?_)
          · omega
          · refine T_iload dX11_asked_61 rfl ?_
            refine I_if_ne (tgt := 69) dX11_asked_63 (by decide) ⟨by omega, by omega⟩ (fun h63 => ?_) (fun h63 => ?_)
            · refine I_iinc dX11_asked_69 rfl (by decide) rfl ?_
              refine I_iinc dX11_asked_72 rfl (by decide) rfl ?_
              refine T_goto (tgt := 38) dX11_asked_75 (by decide) ?_
              exact z
            · omega
    · rw [innL_f hq]
      have z := ih (t + 1) left (by omega) (by omega) hl hl2
      refine T_iload dX11_asked_38 rfl ?_
      refine T_aload_n dX11_asked_40 rfl rfl ?_
      refine P_getr dX11_asked_41 fX11_7 (by assumption) rfl ?_
      refine I_iconst dX11_asked_44 ?_
      refine P_iald dX11_asked_45 (by assumption) ⟨by omega, by omega⟩ (by first | decide | omega) ?_
      rw [e0]
      refine I_icmp_ge (tgt := 78) dX11_asked_46 (by decide) ⟨by omega, by omega⟩ ⟨by omega, by omega⟩ (fun h46 => ?_) (fun h46 => ?_)
      · omega
      · refine T_aload_n dX11_asked_49 rfl rfl ?_
        refine T_iload dX11_asked_50 rfl ?_
        refine T_iload_n dX11_asked_52 rfl ?_
        refine Q_callV dX11_asked_53 kX11_preferenceOf lX11_152 (by assumption) rfl hp rfl rfl (Nat.le_of_ble_eq_true rfl) (Nat.le_of_ble_eq_true rfl) (by decide) (by decide) ?_
        refine T_iload dX11_asked_56 rfl ?_
        refine I_icmp_ne (tgt := 72) dX11_asked_58 (by decide) ⟨by omega, by omega⟩ ⟨by omega, by omega⟩ (fun h58 => ?_) (fun h58 => ?_)
        · refine I_iinc dX11_asked_72 rfl (by decide) rfl ?_
          refine T_goto (tgt := 38) dX11_asked_75 (by decide) ?_
          exact z
        · omega
theorem l_ask1 {h d i : Int} (hR : RS K S pl e its) (hd : 0 ≤ d ∧ d < 4) (m : Nat) : ∀ pr left : Int, 0 ≤ pr → (if prefM pl h d = -4 then 10 else prefM pl h d) - pr = m → 0 ≤ left → left < 2147483648 → P G 2 0 0 mX11_asked 14 [some (.ref 453), some (IV h), some (IV d), some (IV i), some (IV (prefM pl h d)), some (IV left), some (IV pr), none] [] K S (Ret K (some (IV (getI (outL pl d m pr) left))) S) := by
  have m0 := hR.1.1
  have hpb := prefM_b (h := h) hR.2.2.1 hd
  have hb5 := hR.2.2.1.1
  induction m with
  | zero =>
    intro pr left h0 hm hl hl2
    by_cases h4 : prefM pl h d = -4
    · rw [if_pos h4] at hm
      refine T_iload dX11_asked_14 rfl ?_
      refine I_bipush dX11_asked_16 (by decide) ?_
      refine I_icmp_gt (tgt := 84) dX11_asked_18 (by decide) ⟨by omega, by omega⟩ ⟨by omega, by omega⟩ (fun h18 => ?_) (fun h18 => ?_)
      · refine I_bipush dX11_asked_84 (by decide) ?_
        exact I_ireturn dX11_asked_86 rfl ⟨_, _, rfl, rfl, rfl, rfl⟩
      · omega
    · rw [if_neg h4] at hm
      refine T_iload dX11_asked_14 rfl ?_
      refine I_bipush dX11_asked_16 (by decide) ?_
      refine I_icmp_gt (tgt := 84) dX11_asked_18 (by decide) ⟨by omega, by omega⟩ ⟨by omega, by omega⟩ (fun h18 => ?_) (fun h18 => ?_)
      · omega
      · refine T_iload dX11_asked_21 rfl ?_
        refine I_bipush dX11_asked_23 (by decide) ?_
        refine I_icmp_eq (tgt := 35) dX11_asked_25 (by decide) ⟨by omega, by omega⟩ ⟨by omega, by omega⟩ (fun h25 => ?_) (fun h25 => ?_)
        · omega
        · refine T_iload dX11_asked_28 rfl ?_
          refine T_iload dX11_asked_30 rfl ?_
          refine I_icmp_ge (tgt := 84) dX11_asked_32 (by decide) ⟨by omega, by omega⟩ ⟨by omega, by omega⟩ (fun h32 => ?_) (fun h32 => ?_)
          · refine I_bipush dX11_asked_84 (by decide) ?_
            exact I_ireturn dX11_asked_86 rfl ⟨_, _, rfl, rfl, rfl, rfl⟩
          · omega
  | succ m ih =>
    intro pr left h0 hm hl hl2
    have hpr9 : pr ≤ 9 ∧ (prefM pl h d = -4 ∨ pr < prefM pl h d) := by
      by_cases h4 : prefM pl h d = -4
      · rw [if_pos h4] at hm; omega
      · rw [if_neg h4] at hm; omega
    have z := l_ask2 (G := G) (h := h) (i := i) (own := prefM pl h d) (pr := pr) (R := outL pl d m (pr + 1)) hR hd ⟨h0, hpr9.1⟩ (fun left u v => ih (pr + 1) left (by omega) (by omega) u v) (pHs pl).toNat 0 left (by omega) (by omega) hl hl2
    refine T_iload dX11_asked_14 rfl ?_
    refine I_bipush dX11_asked_16 (by decide) ?_
    refine I_icmp_gt (tgt := 84) dX11_asked_18 (by decide) ⟨by omega, by omega⟩ ⟨by omega, by omega⟩ (fun h18 => ?_) (fun h18 => ?_)
    · omega
    · refine T_iload dX11_asked_21 rfl ?_
      refine I_bipush dX11_asked_23 (by decide) ?_
      refine I_icmp_eq (tgt := 35) dX11_asked_25 (by decide) ⟨by omega, by omega⟩ ⟨by omega, by omega⟩ (fun h25 => ?_) (fun h25 => ?_)
      · refine I_iconst dX11_asked_35 ?_
        refine T_istore dX11_asked_36 (by decide) rfl ?_
        exact z
      · refine T_iload dX11_asked_28 rfl ?_
        refine T_iload dX11_asked_30 rfl ?_
        refine I_icmp_ge (tgt := 84) dX11_asked_32 (by decide) ⟨by omega, by omega⟩ ⟨by omega, by omega⟩ (fun h32 => ?_) (fun h32 => ?_)
        · omega
        · refine I_iconst dX11_asked_35 ?_
          refine T_istore dX11_asked_36 (by decide) rfl ?_
          exact z
theorem p_R_asked {h d i : Int} (hR : RS K S pl e its) (hd : 0 ≤ d ∧ d < 4) (hh : R32 h) (hi : 0 ≤ i ∧ i < 2147483648) : P G 2 0 0 mX11_asked 0 (LE mX11_asked [.ref 453, IV h, IV d, IV i]) [] K S (Ret K (some (IV (getI (asksM pl h d) i))) S) := by
  have m0 := hR.1.1
  have hpb := prefM_b (h := h) hR.2.2.1 hd
  have z := l_ask1 (G := G) (h := h) (i := i) hR hd (if prefM pl h d = -4 then 10 else (prefM pl h d).toNat) 0 i (by omega) (by split <;> omega) hi.1 hi.2
  rw [← asksM_out] at z
  rw [show LE mX11_asked [.ref 453, IV h, IV d, IV i] = [some (.ref 453), some (IV h), some (IV d), some (IV i), none, none, none, none] from rfl]
  refine T_aload_n dX11_asked_0 rfl rfl ?_
  refine T_iload_n dX11_asked_1 rfl ?_
  refine T_iload_n dX11_asked_2 rfl ?_
  refine Q_callV dX11_asked_3 kX11_preferenceOf lX11_152 (by assumption) rfl (p_R_pref hR hd hh) rfl rfl (Nat.le_of_ble_eq_true rfl) (Nat.le_of_ble_eq_true rfl) (by decide) (by decide) ?_
  refine T_istore dX11_asked_6 (by decide) rfl ?_
  refine T_iload_n dX11_asked_8 rfl ?_
  refine T_istore dX11_asked_9 (by decide) rfl ?_
  refine I_iconst dX11_asked_11 ?_
  refine T_istore dX11_asked_12 (by decide) rfl ?_
  exact z
theorem asks_last {h d : Int} (hP : PlOk pl) (hd : 0 ≤ d ∧ d < 4) (hl : lastM pl h d) : asksM pl h d = [] := by
  apply List.eq_nil_iff_forall_not_mem.mpr
  intro z hz
  unfold asksM at hz
  rw [if_neg hl.1] at hz
  obtain ⟨pr, hpr, hz2⟩ := List.mem_flatMap.mp hz
  obtain ⟨-, hz3⟩ := List.mem_filter.mp hz2
  have hz4 := pdec_t hz3
  have hlt := List.mem_range.mp hpr
  rcases prefM_cases pl z d with q | ⟨t, t0, t1, t2, t3⟩
  · omega
  · have := hl.2 t t0 t1
    omega
end RF4
