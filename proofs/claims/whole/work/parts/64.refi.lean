/-! the reference: items, the log -/
theorem fset_e {α : Type} (f : Int → α) {k k' : Int} (v : α) (h : k' = k) : fset f k v k' = v := if_pos h
def shfF (f : Int → Int) (lo hi d : Int) : Int → Int := fun i => if lo ≤ i ∧ i < hi then f (i + d) else f i
theorem shfF_i {f : Int → Int} {lo hi d i : Int} (h : lo ≤ i ∧ i < hi) : shfF f lo hi d i = f (i + d) := if_pos h
theorem shfF_o {f : Int → Int} {lo hi d i : Int} (h : ¬ (lo ≤ i ∧ i < hi)) : shfF f lo hi d i = f i := if_neg h
theorem shfF_0 (f : Int → Int) (lo d : Int) : shfF f lo lo d = f := by
  funext i
  exact shfF_o (by omega)
theorem shfF_1 (f : Int → Int) {lo c d : Int} (h : lo ≤ c) : fset (shfF f lo c d) c (f (c + d)) = shfF f lo (c + 1) d := by
  funext i
  by_cases h1 : i = c
  · rw [fset_e _ _ h1, shfF_i (by omega), h1]
  · rw [fset_f _ _ h1]
    by_cases h2 : lo ≤ i ∧ i < c
    · rw [shfF_i h2, shfF_i (by omega)]
    · rw [shfF_o h2, shfF_o (by omega)]
section RF2
variable {G : GT} {K : List SH} {S : SV} {pl : PL} {e : EN} {its : List Row}
theorem RS.item {i : Nat} {x : Row} (hR : RS K S pl e its) (hi : its[i]? = some x) {k : Nat} (hk : k < 8) : aI S 454 (803 + 8 * i + k) = x k := hR.2.2.2.2.2.1.2.2 i x hi k hk
theorem RS.n4 (hR : RS K S pl e its) : aI S 454 4 = its.length := hR.2.2.2.2.2.1.1
theorem RS.n60 (hR : RS K S pl e its) : its.length ≤ 60 := hR.2.2.2.2.2.1.2.1
theorem p_R_ofItem {i : Nat} {x : Row} {k : Int} (hR : RS K S pl e its) (hi : its[i]? = some x) (hk : 0 ≤ k ∧ k < 8) : P G 0 0 0 mX11_ofItem 0 (LE mX11_ofItem [.ref 453, IV i, IV k]) [] K S (Ret K (some (IV (x k.toNat))) S) := by
  have m0 := hR.1.1
  have m1 := hR.1.2.1
  have h60 := hR.n60
  have hl := (List.getElem?_eq_some_iff.mp hi).1
  have ev := hR.item hi (k := k.toNat) (by omega)
  rw [Int.toNat_of_nonneg hk.1] at ev
  rw [show LE mX11_ofItem [.ref 453, IV i, IV k] = [some (.ref 453), some (IV i), some (IV k)] from rfl]
  refine T_aload_n dX11_ofItem_0 rfl rfl ?_
  refine P_getr dX11_ofItem_1 fX11_7 (by assumption) rfl ?_
  refine I_sipush dX11_ofItem_4 (by decide) ?_
  refine I_bipush dX11_ofItem_7 (by decide) ?_
  refine T_iload_n dX11_ofItem_9 rfl ?_
  refine I_imul dX11_ofItem_10 ?_
  refine I_iadd dX11_ofItem_11 ?_
  refine T_iload_n dX11_ofItem_12 rfl ?_
  refine I_iadd dX11_ofItem_13 ?_
  refine P_iald dX11_ofItem_14 (by assumption) ⟨by omega, by omega⟩ (by first | decide | omega) ?_
  rw [ev]
  exact I_ireturn dX11_ofItem_15 rfl ⟨_, _, rfl, rfl, rfl, rfl⟩
theorem p_R_lays {i k v : Int} (hM : MoAt K) (hi : 0 ≤ i ∧ i < 60) (hk : 0 ≤ k ∧ k < 8) : P G 0 0 0 mX11_lays 0 (LE mX11_lays [.ref 453, IV i, IV k, IV v]) [] K S (Ret K none (sA S 454 (803 + 8 * i + k) v)) := by
  have m0 := hM.1
  have m1 := hM.2.1
  rw [show LE mX11_lays [.ref 453, IV i, IV k, IV v] = [some (.ref 453), some (IV i), some (IV k), some (IV v)] from rfl]
  refine T_aload_n dX11_lays_0 rfl rfl ?_
  refine P_getr dX11_lays_1 fX11_7 (by assumption) rfl ?_
  refine I_sipush dX11_lays_4 (by decide) ?_
  refine I_bipush dX11_lays_7 (by decide) ?_
  refine T_iload_n dX11_lays_9 rfl ?_
  refine I_imul dX11_lays_10 ?_
  refine I_iadd dX11_lays_11 ?_
  refine T_iload_n dX11_lays_12 rfl ?_
  refine I_iadd dX11_lays_13 ?_
  refine T_iload_n dX11_lays_14 rfl ?_
  refine P_iast dX11_lays_15 (by assumption) ⟨by omega, by omega⟩ (by first | decide | omega) ?_
  exact T_return dX11_lays_16 rfl ⟨_, _, rfl, rfl, rfl, rfl⟩
/-- the rest stays -/
theorem RS.itm {S' : SV} {its' : List Row} (hR : RS K S pl e its) (ha : AllR S') (hi : ItC (aI S' 454) its') (ho : ∀ i, i ≠ 4 → ¬ (803 ≤ i ∧ i < 1283) → aI S' 454 i = aI S 454 i) : RS K S' pl e its' := by
  obtain ⟨h1, h2, h3, h4, h5, h6, h7, h8, h9, h10⟩ := hR
  exact ⟨h1, ha, h3, h4.cg h3 (fun i z => ho i (by omega) (by omega)), h5.cg (fun i z => ho i (by omega) (by omega)), hi, h7.cg (fun i z => ho i (by omega) (by omega)), h8.cg (fun i z => ho i (by omega) (by omega)), h9.cg (fun i z => ho i (by omega) (by omega)), h10.cg (fun i z => ho i (by omega) (by omega))⟩
def comS (S : SV) (n h l f t p c m : Int) : SV := sA (sA (sA (sA (sA (sA (sA (sA (sA S 454 (803 + 8 * n + 0) h) 454 (803 + 8 * n + 1) l) 454 (803 + 8 * n + 2) f) 454 (803 + 8 * n + 3) t) 454 (803 + 8 * n + 4) 0) 454 (803 + 8 * n + 5) p) 454 (803 + 8 * n + 6) c) 454 (803 + 8 * n + 7) m) 454 4 (n + 1)
theorem comS_R {h l f t p c m : Int} (hR : RS K S pl e its) (hl : its.length < 60) (r1 : R32 h) (r2 : R32 l) (r3 : R32 f) (r4 : R32 t) (r5 : R32 p) (r6 : R32 c) (r7 : R32 m) : RS K (comS S its.length h l f t p c m) pl e (its ++ [row8 h l f t 0 p c m]) ∧ Wr S (comS S its.length h l f t p c m) := by
  refine ⟨hR.itm ?_ ⟨?_, ?_, ?_⟩ ?_, ?_⟩
  · exact ((((((((hR.2.1.sA r1).sA r2).sA r3).sA r4).sA (by decide)).sA r5).sA r6).sA r7).sA ⟨by omega, by omega⟩
  · unfold comS
    rw [aS, fset_e _ _ rfl]
    simp
  · simp; omega
  · intro i r hi k hk
    unfold comS
    repeat rw [aS]
    by_cases hj : i < its.length
    · rw [List.getElem?_append_left hj] at hi
      repeat rw [fset_f _ _ (by omega)]
      exact hR.item hi hk
    · have hlt := (List.getElem?_eq_some_iff.mp hi).1
      have hie : i = its.length := by simp at hlt; omega
      subst hie
      simp at hi
      subst hi
      rcases (show k = 0 ∨ k = 1 ∨ k = 2 ∨ k = 3 ∨ k = 4 ∨ k = 5 ∨ k = 6 ∨ k = 7 by omega) with rfl | rfl | rfl | rfl | rfl | rfl | rfl | rfl <;> (repeat rw [fset_f _ _ (by omega)]) <;> rw [fset_e _ _ (by omega)] <;> rfl
  · intro i h1 h2
    have h60 := hR.n60
    unfold comS
    repeat rw [aS]
    repeat rw [fset_f _ _ (by omega)]
  · unfold comS
    exact ((((((((Wr.sA (Or.inl rfl)).tr (Wr.sA (Or.inl rfl))).tr (Wr.sA (Or.inl rfl))).tr (Wr.sA (Or.inl rfl))).tr (Wr.sA (Or.inl rfl))).tr (Wr.sA (Or.inl rfl))).tr (Wr.sA (Or.inl rfl))).tr (Wr.sA (Or.inl rfl))).tr (Wr.sA (Or.inl rfl))
theorem p_R_comes {h l f t p m : Int} (hR : RS K S pl e its) (hl : its.length < 60) (r1 : R32 h) (r2 : R32 l) (r3 : R32 f) (r4 : R32 t) (r5 : R32 p) (r6 : R32 (eCl e + 1)) (r7 : R32 m) : P G 1 0 0 mX11_comes 0 (LE mX11_comes [.ref 453, IV h, IV l, IV f, IV t, IV p, IV m]) [] K S (RSQ K S pl e (its ++ [row8 h l f t 0 p (eCl e + 1) m])) := by
  have m0 := hR.1.1
  have m1 := hR.1.2.1
  have e4 := hR.n4
  have e2 : aI S 454 2 = eCl e := hR.2.2.2.2.1.1
  obtain ⟨c1, c2⟩ := comS_R hR hl r1 r2 r3 r4 r5 r6 r7
  rw [show LE mX11_comes [.ref 453, IV h, IV l, IV f, IV t, IV p, IV m] = [some (.ref 453), some (IV h), some (IV l), some (IV f), some (IV t), some (IV p), some (IV m), none] from rfl]
  refine T_aload_n dX11_comes_0 rfl rfl ?_
  refine P_getr dX11_comes_1 fX11_7 (by assumption) rfl ?_
  refine I_iconst dX11_comes_4 ?_
  refine P_iald dX11_comes_5 (by assumption) ⟨by omega, by omega⟩ (by first | decide | omega) ?_
  rw [e4]
  refine T_istore dX11_comes_6 (by decide) rfl ?_
  refine T_aload_n dX11_comes_8 rfl rfl ?_
  refine T_iload dX11_comes_9 rfl ?_
  refine I_iconst dX11_comes_11 ?_
  refine T_iload_n dX11_comes_12 rfl ?_
  refine Q_callV dX11_comes_13 kX11_lays lX11_206 (by assumption) rfl (p_R_lays hR.1 ⟨by omega, by omega⟩ ⟨by omega, by omega⟩) rfl rfl (Nat.le_of_ble_eq_true rfl) (Nat.le_of_ble_eq_true rfl) (by decide) (by decide) ?_
  refine T_aload_n dX11_comes_16 rfl rfl ?_
  refine T_iload dX11_comes_17 rfl ?_
  refine I_iconst dX11_comes_19 ?_
  refine T_iload_n dX11_comes_20 rfl ?_
  refine Q_callV dX11_comes_21 kX11_lays lX11_206 (by assumption) rfl (p_R_lays hR.1 ⟨by omega, by omega⟩ ⟨by omega, by omega⟩) rfl rfl (Nat.le_of_ble_eq_true rfl) (Nat.le_of_ble_eq_true rfl) (by decide) (by decide) ?_
  refine T_aload_n dX11_comes_24 rfl rfl ?_
  refine T_iload dX11_comes_25 rfl ?_
  refine I_iconst dX11_comes_27 ?_
  refine T_iload_n dX11_comes_28 rfl ?_
  refine Q_callV dX11_comes_29 kX11_lays lX11_206 (by assumption) rfl (p_R_lays hR.1 ⟨by omega, by omega⟩ ⟨by omega, by omega⟩) rfl rfl (Nat.le_of_ble_eq_true rfl) (Nat.le_of_ble_eq_true rfl) (by decide) (by decide) ?_
  refine T_aload_n dX11_comes_32 rfl rfl ?_
  refine T_iload dX11_comes_33 rfl ?_
  refine I_iconst dX11_comes_35 ?_
  refine T_iload dX11_comes_36 rfl ?_
  refine Q_callV dX11_comes_38 kX11_lays lX11_206 (by assumption) rfl (p_R_lays hR.1 ⟨by omega, by omega⟩ ⟨by omega, by omega⟩) rfl rfl (Nat.le_of_ble_eq_true rfl) (Nat.le_of_ble_eq_true rfl) (by decide) (by decide) ?_
  refine T_aload_n dX11_comes_41 rfl rfl ?_
  refine T_iload dX11_comes_42 rfl ?_
  refine I_iconst dX11_comes_44 ?_
  refine I_iconst dX11_comes_45 ?_
  refine Q_callV dX11_comes_46 kX11_lays lX11_206 (by assumption) rfl (p_R_lays hR.1 ⟨by omega, by omega⟩ ⟨by omega, by omega⟩) rfl rfl (Nat.le_of_ble_eq_true rfl) (Nat.le_of_ble_eq_true rfl) (by decide) (by decide) ?_
  refine T_aload_n dX11_comes_49 rfl rfl ?_
  refine T_iload dX11_comes_50 rfl ?_
  refine I_iconst dX11_comes_52 ?_
  refine T_iload dX11_comes_53 rfl ?_
  refine Q_callV dX11_comes_55 kX11_lays lX11_206 (by assumption) rfl (p_R_lays hR.1 ⟨by omega, by omega⟩ ⟨by omega, by omega⟩) rfl rfl (Nat.le_of_ble_eq_true rfl) (Nat.le_of_ble_eq_true rfl) (by decide) (by decide) ?_
  refine T_aload_n dX11_comes_58 rfl rfl ?_
  refine T_iload dX11_comes_59 rfl ?_
  refine I_bipush dX11_comes_61 (by decide) ?_
  refine T_aload_n dX11_comes_63 rfl rfl ?_
  refine P_getr dX11_comes_64 fX11_7 (by assumption) rfl ?_
  refine I_iconst dX11_comes_67 ?_
  refine P_iald dX11_comes_68 (by assumption) ⟨by omega, by omega⟩ (by first | decide | omega) ?_
  repeat rw [aS]
  repeat rw [fset_f _ _ (by omega)]
  rw [e2]
  refine I_iconst dX11_comes_69 ?_
  refine I_iadd dX11_comes_70 ?_
  refine Q_callV dX11_comes_71 kX11_lays lX11_206 (by assumption) rfl (p_R_lays hR.1 ⟨by omega, by omega⟩ ⟨by omega, by omega⟩) rfl rfl (Nat.le_of_ble_eq_true rfl) (Nat.le_of_ble_eq_true rfl) (by decide) (by decide) ?_
  refine T_aload_n dX11_comes_74 rfl rfl ?_
  refine T_iload dX11_comes_75 rfl ?_
  refine I_bipush dX11_comes_77 (by decide) ?_
  refine T_iload dX11_comes_79 rfl ?_
  refine Q_callV dX11_comes_81 kX11_lays lX11_206 (by assumption) rfl (p_R_lays hR.1 ⟨by omega, by omega⟩ ⟨by omega, by omega⟩) rfl rfl (Nat.le_of_ble_eq_true rfl) (Nat.le_of_ble_eq_true rfl) (by decide) (by decide) ?_
  refine T_aload_n dX11_comes_84 rfl rfl ?_
  refine P_getr dX11_comes_85 fX11_7 (by assumption) rfl ?_
  refine I_iconst dX11_comes_88 ?_
  refine T_dup2 dX11_comes_89 rfl rfl ?_
  refine P_iald dX11_comes_90 (by assumption) ⟨by omega, by omega⟩ (by first | decide | omega) ?_
  repeat rw [aS]
  repeat rw [fset_f _ _ (by omega)]
  rw [e4]
  refine I_iconst dX11_comes_91 ?_
  refine I_iadd dX11_comes_92 ?_
  refine P_iast dX11_comes_93 (by assumption) ⟨by omega, by omega⟩ (by first | decide | omega) ?_
  exact T_return dX11_comes_94 rfl ⟨_, _, rfl, rfl, rfl, c1, c2⟩
theorem ItC.leave {f f' : Int → Int} {i : Nat} (h : ItC f its) (hi : i < its.length) (h4 : f' 4 = (its.length : Int) - 1) (hlo : ∀ j : Int, 803 ≤ j → j < 803 + 8 * (i : Int) → f' j = f j) (hhi : ∀ j : Int, 803 + 8 * (i : Int) ≤ j → j < 803 + 8 * ((its.length : Int) - 1) → f' j = f (j + 8)) : ItC f' (its.eraseIdx i) := by
  obtain ⟨h1, h2, h3⟩ := h
  have hl := List.length_eraseIdx_of_lt hi
  refine ⟨by rw [hl, h4]; omega, by omega, fun j r hj k hk => ?_⟩
  have hjl := (List.getElem?_eq_some_iff.mp hj).1
  rw [List.getElem?_eraseIdx] at hj
  by_cases hji : j < i
  · rw [if_pos hji] at hj
    rw [hlo _ (by omega) (by omega)]
    exact h3 j r hj k hk
  · rw [if_neg hji] at hj
    rw [hhi _ (by omega) (by omega)]
    have := h3 (j + 1) r hj k hk
    rw [← this]
    congr 1
    omega
theorem l_leaves {i : Nat} (hR : RS K S pl e its) (hi : i < its.length) (m : Nat) : ∀ (c : Int) (S1 : SV), 803 + 8 * (i : Int) ≤ c → 803 + 8 * ((its.length : Int) - 1) - c = m → Wr S S1 → AllR S1 → aI S1 454 = shfF (aI S 454) (803 + 8 * i) c 8 → P G 0 0 0 mX11_leaves 9 [some (.ref 453), some (IV i), some (IV c)] [] K S1 (RSQ K S pl e (its.eraseIdx i)) := by
  have m0 := hR.1.1
  have m1 := hR.1.2.1
  have e4 := hR.n4
  have h60 := hR.n60
  induction m with
  | zero =>
    intro c S1 h0 hm hw ha hf
    have g4 : aI S1 454 4 = its.length := by rw [hf, shfF_o (by omega)]; exact e4
    have hc : c = 803 + 8 * ((its.length : Int) - 1) := by omega
    subst hc
    have hq : RS K (sA S1 454 4 ((its.length : Int) - 1)) pl e (its.eraseIdx i) := by
      refine hR.itm (ha.sA ⟨by omega, by omega⟩) (hR.2.2.2.2.2.1.leave hi ?_ ?_ ?_) ?_
      · rw [aS, fset_e _ _ rfl]
      · intro j a b
        rw [aS, fset_f _ _ (by omega), hf, shfF_o (by omega)]
      · intro j a b
        rw [aS, fset_f _ _ (by omega), hf, shfF_i (by omega)]
      · intro j a b
        rw [aS, fset_f _ _ (by omega), hf, shfF_o (by omega)]
    refine T_iload_n dX11_leaves_9 rfl ?_
    refine I_sipush dX11_leaves_10 (by decide) ?_
    refine I_bipush dX11_leaves_13 (by decide) ?_
    refine T_aload_n dX11_leaves_15 rfl rfl ?_
    refine P_getr dX11_leaves_16 fX11_7 (by assumption) rfl ?_
    refine I_iconst dX11_leaves_19 ?_
    refine P_iald dX11_leaves_20 (by assumption) ⟨by omega, by omega⟩ (by first | decide | omega) ?_
    rw [g4]
    refine I_iconst dX11_leaves_21 ?_
    refine I_isub dX11_leaves_22 ?_
    refine I_imul dX11_leaves_23 ?_
    refine I_iadd dX11_leaves_24 ?_
    refine I_icmp_ge (tgt := 49) dX11_leaves_25 (by decide) ⟨by omega, by omega⟩ ⟨by omega, by omega⟩ (fun h25 => ?_) (fun h25 => ?_)
    · refine T_aload_n dX11_leaves_49 rfl rfl ?_
      refine P_getr dX11_leaves_50 fX11_7 (by assumption) rfl ?_
      refine I_iconst dX11_leaves_53 ?_
      refine T_dup2 dX11_leaves_54 rfl rfl ?_
      refine P_iald dX11_leaves_55 (by assumption) ⟨by omega, by omega⟩ (by first | decide | omega) ?_
      rw [g4]
      refine I_iconst dX11_leaves_56 ?_
      refine I_isub dX11_leaves_57 ?_
      refine P_iast dX11_leaves_58 (by assumption) ⟨by omega, by omega⟩ (by first | decide | omega) ?_
      exact T_return dX11_leaves_59 rfl ⟨_, _, rfl, rfl, rfl, hq, hw.tr (Wr.sA (Or.inl rfl))⟩
    · omega
  | succ m ih =>
    intro c S1 h0 hm hw ha hf
    have g4 : aI S1 454 4 = its.length := by rw [hf, shfF_o (by omega)]; exact e4
    have gc : aI S1 454 (c + 8) = aI S 454 (c + 8) := by rw [hf, shfF_o (by omega)]
    have w := ih (c + 1) (sA S1 454 c (aI S 454 (c + 8))) (by omega) (by omega) (hw.tr (Wr.sA (Or.inl rfl))) (ha.sA (hR.2.1.2 _ _)) (by rw [aS, hf, shfF_1 _ h0])
    refine T_iload_n dX11_leaves_9 rfl ?_
    refine I_sipush dX11_leaves_10 (by decide) ?_
    refine I_bipush dX11_leaves_13 (by decide) ?_
    refine T_aload_n dX11_leaves_15 rfl rfl ?_
    refine P_getr dX11_leaves_16 fX11_7 (by assumption) rfl ?_
    refine I_iconst dX11_leaves_19 ?_
    refine P_iald dX11_leaves_20 (by assumption) ⟨by omega, by omega⟩ (by first | decide | omega) ?_
    rw [g4]
    refine I_iconst dX11_leaves_21 ?_
    refine I_isub dX11_leaves_22 ?_
    refine I_imul dX11_leaves_23 ?_
    refine I_iadd dX11_leaves_24 ?_
    refine I_icmp_ge (tgt := 49) dX11_leaves_25 (by decide) ⟨by omega, by omega⟩ ⟨by omega, by omega⟩ (fun h25 => ?_) (fun h25 => ?_)
    · omega
    · refine T_aload_n dX11_leaves_28 rfl rfl ?_
      refine P_getr dX11_leaves_29 fX11_7 (by assumption) rfl ?_
      refine T_iload_n dX11_leaves_32 rfl ?_
      refine T_aload_n dX11_leaves_33 rfl rfl ?_
      refine P_getr dX11_leaves_34 fX11_7 (by assumption) rfl ?_
      refine T_iload_n dX11_leaves_37 rfl ?_
      refine I_bipush dX11_leaves_38 (by decide) ?_
      refine I_iadd dX11_leaves_40 ?_
      refine P_iald dX11_leaves_41 (by assumption) ⟨by omega, by omega⟩ (by first | decide | omega) ?_
      rw [gc]
      refine P_iast dX11_leaves_42 (by assumption) ⟨by omega, by omega⟩ (by first | decide | omega) ?_
      refine I_iinc dX11_leaves_43 rfl (by decide) rfl ?_
      refine T_goto (tgt := 9) dX11_leaves_46 (by decide) ?_
      exact w
theorem p_R_leaves {i : Nat} (hR : RS K S pl e its) (hi : i < its.length) : P G 0 0 0 mX11_leaves 0 (LE mX11_leaves [.ref 453, IV i]) [] K S (RSQ K S pl e (its.eraseIdx i)) := by
  have h60 := hR.n60
  have w := l_leaves (G := G) hR hi (8 * (its.length - 1 - i)) (803 + 8 * i) S (by omega) (by omega) Wr.rf hR.2.1 (shfF_0 _ _ _).symm
  rw [show LE mX11_leaves [.ref 453, IV i] = [some (.ref 453), some (IV i), none] from rfl]
  refine I_sipush dX11_leaves_0 (by decide) ?_
  refine I_bipush dX11_leaves_3 (by decide) ?_
  refine T_iload_n dX11_leaves_5 rfl ?_
  refine I_imul dX11_leaves_6 ?_
  refine I_iadd dX11_leaves_7 ?_
  refine T_istore_n dX11_leaves_8 (by decide) rfl ?_
  exact w
/-- the rest stays -/
theorem RS.lgs {S' : SV} {ty : Int → Int} {lg : List Row} (hR : RS K S pl e its) (ha : AllR S') (hi : LgC (aI S' 454) ty lg) (ho : ∀ i, i ≠ 5 → ¬ (7 ≤ i ∧ i < 16) → ¬ (1283 ≤ i ∧ i < 1583) → aI S' 454 i = aI S 454 i) : RS K S' pl (eLgS e ty lg) its := by
  obtain ⟨h1, h2, h3, h4, h5, h6, h7, h8, h9, h10⟩ := hR
  exact ⟨h1, ha, h3, h4.cg h3 (fun i z => ho i (by omega) (by omega) (by omega)), NuC.cg h5 (fun i z => ho i (by omega) (by omega) (by omega)), h6.cg (fun i z => ho i (by omega) (by omega) (by omega)), hi, h8.cg (fun i z => ho i (by omega) (by omega) (by omega)), h9.cg (fun i z => ho i (by omega) (by omega) (by omega)), h10.cg (fun i z => ho i (by omega) (by omega) (by omega))⟩
def lgW (S : SV) (c w cl l h t n ty : Int) : SV := sA (sA (sA (sA (sA (sA (sA S 454 c w) 454 (c + 1) cl) 454 (c + 2) l) 454 (c + 3) h) 454 (c + 4) t) 454 5 (n + 1)) 454 (7 + w) (ty + 1)
theorem lgW_R {w l h t : Int} (hR : RS K S pl e its) (hl : (eLg e).length < 60) (hw : 0 ≤ w ∧ w < 9) (r1 : R32 l) (r2 : R32 h) (r3 : R32 t) (r4 : R32 (eCl e)) (r5 : R32 (eTy e w + 1)) : RS K (lgW S (1283 + 5 * (eLg e).length) w (eCl e) l h t (eLg e).length (eTy e w)) pl (eLgS e (fset (eTy e) w (eTy e w + 1)) (eLg e ++ [row5 w (eCl e) l h t])) its ∧ Wr S (lgW S (1283 + 5 * (eLg e).length) w (eCl e) l h t (eLg e).length (eTy e w)) := by
  have hL := hR.2.2.2.2.2.2.1
  refine ⟨hR.lgs ?_ ⟨?_, ?_, ?_, ?_⟩ ?_, ?_⟩
  · exact ((((((hR.2.1.sA ⟨by omega, by omega⟩).sA r4).sA r1).sA r2).sA r3).sA ⟨by omega, by omega⟩).sA r5
  · unfold lgW
    repeat rw [aS]
    rw [fset_f _ _ (by omega), fset_e _ _ rfl]
    simp
  · simp; omega
  · intro k a b
    unfold lgW
    repeat rw [aS]
    by_cases hk : k = w
    · rw [fset_e _ _ (by omega), hk, fset_t]
    · rw [fset_f _ _ hk]
      repeat rw [fset_f _ _ (by omega)]
      exact hL.2.2.1 k a b
  · intro i r hi k hk
    unfold lgW
    repeat rw [aS]
    by_cases hj : i < (eLg e).length
    · rw [List.getElem?_append_left hj] at hi
      repeat rw [fset_f _ _ (by omega)]
      exact hL.2.2.2 i r hi k hk
    · have hlt := (List.getElem?_eq_some_iff.mp hi).1
      have hie : i = (eLg e).length := by simp at hlt; omega
      subst hie
      simp at hi
      subst hi
      rcases (show k = 0 ∨ k = 1 ∨ k = 2 ∨ k = 3 ∨ k = 4 by omega) with rfl | rfl | rfl | rfl | rfl <;> (repeat rw [fset_f _ _ (by omega)]) <;> rw [fset_e _ _ (by omega)] <;> rfl
  · intro i h1 h2 h3
    unfold lgW
    repeat rw [aS]
    repeat rw [fset_f _ _ (by omega)]
  · unfold lgW
    exact ((((((Wr.sA (Or.inl rfl)).tr (Wr.sA (Or.inl rfl))).tr (Wr.sA (Or.inl rfl))).tr (Wr.sA (Or.inl rfl))).tr (Wr.sA (Or.inl rfl))).tr (Wr.sA (Or.inl rfl))).tr (Wr.sA (Or.inl rfl))
theorem l_logs2 {w l h t : Int} {x5 : Option Value} (h5 : x5 = none ∨ ∃ z, x5 = some (IV z)) (hR : RS K S pl e its) (hl : (eLg e).length < 60) (hw : 0 ≤ w ∧ w < 9) (r1 : R32 l) (r2 : R32 h) (r3 : R32 t) (r4 : R32 (eCl e)) (r5 : R32 (eTy e w + 1)) : P G 0 0 0 mX11_logs 56 [some (.ref 453), some (IV w), some (IV l), some (IV h), some (IV t), x5] [] K S (RSQ K S pl (eLgS e (fset (eTy e) w (eTy e w + 1)) (eLg e ++ [row5 w (eCl e) l h t])) its) := by
  have m0 := hR.1.1
  have m1 := hR.1.2.1
  have e5 : aI S 454 5 = (eLg e).length := hR.2.2.2.2.2.2.1.1
  have e2 : aI S 454 2 = eCl e := hR.2.2.2.2.1.1
  have e7 : aI S 454 (7 + w) = eTy e w := hR.2.2.2.2.2.2.1.2.2.1 w hw.1 hw.2
  obtain ⟨c1, c2⟩ := lgW_R hR hl hw r1 r2 r3 r4 r5
  have hn2 : noL2 [some (.ref 453), some (IV w), some (IV l), some (IV h), some (IV t), x5] = true := by rcases h5 with rfl | ⟨z, rfl⟩ <;> rfl
  refine I_sipush dX11_logs_56 (by decide) ?_
  refine I_iconst dX11_logs_59 ?_
  refine T_aload_n dX11_logs_60 rfl rfl ?_
  refine P_getr dX11_logs_61 fX11_7 (by assumption) rfl ?_
  refine I_iconst dX11_logs_64 ?_
  refine P_iald dX11_logs_65 (by assumption) ⟨by omega, by omega⟩ (by first | decide | omega) ?_
  rw [e5]
  refine I_imul dX11_logs_66 ?_
  refine I_iadd dX11_logs_67 ?_
  refine T_istore dX11_logs_68 (by decide) hn2 ?_
  refine T_aload_n dX11_logs_70 rfl rfl ?_
  refine P_getr dX11_logs_71 fX11_7 (by assumption) rfl ?_
  refine T_iload dX11_logs_74 rfl ?_
  refine T_iload_n dX11_logs_76 rfl ?_
  refine P_iast dX11_logs_77 (by assumption) ⟨by omega, by omega⟩ (by first | decide | omega) ?_
  refine T_aload_n dX11_logs_78 rfl rfl ?_
  refine P_getr dX11_logs_79 fX11_7 (by assumption) rfl ?_
  refine T_iload dX11_logs_82 rfl ?_
  refine I_iconst dX11_logs_84 ?_
  refine I_iadd dX11_logs_85 ?_
  refine T_aload_n dX11_logs_86 rfl rfl ?_
  refine P_getr dX11_logs_87 fX11_7 (by assumption) rfl ?_
  refine I_iconst dX11_logs_90 ?_
  refine P_iald dX11_logs_91 (by assumption) ⟨by omega, by omega⟩ (by first | decide | omega) ?_
  repeat rw [aS]
  repeat rw [fset_f _ _ (by omega)]
  rw [e2]
  refine P_iast dX11_logs_92 (by assumption) ⟨by omega, by omega⟩ (by first | decide | omega) ?_
  refine T_aload_n dX11_logs_93 rfl rfl ?_
  refine P_getr dX11_logs_94 fX11_7 (by assumption) rfl ?_
  refine T_iload dX11_logs_97 rfl ?_
  refine I_iconst dX11_logs_99 ?_
  refine I_iadd dX11_logs_100 ?_
  refine T_iload_n dX11_logs_101 rfl ?_
  refine P_iast dX11_logs_102 (by assumption) ⟨by omega, by omega⟩ (by first | decide | omega) ?_
  refine T_aload_n dX11_logs_103 rfl rfl ?_
  refine P_getr dX11_logs_104 fX11_7 (by assumption) rfl ?_
  refine T_iload dX11_logs_107 rfl ?_
  refine I_iconst dX11_logs_109 ?_
  refine I_iadd dX11_logs_110 ?_
  refine T_iload_n dX11_logs_111 rfl ?_
  refine P_iast dX11_logs_112 (by assumption) ⟨by omega, by omega⟩ (by first | decide | omega) ?_
  refine T_aload_n dX11_logs_113 rfl rfl ?_
  refine P_getr dX11_logs_114 fX11_7 (by assumption) rfl ?_
  refine T_iload dX11_logs_117 rfl ?_
  refine I_iconst dX11_logs_119 ?_
  refine I_iadd dX11_logs_120 ?_
  refine T_iload dX11_logs_121 rfl ?_
  refine P_iast dX11_logs_123 (by assumption) ⟨by omega, by omega⟩ (by first | decide | omega) ?_
  refine T_aload_n dX11_logs_124 rfl rfl ?_
  refine P_getr dX11_logs_125 fX11_7 (by assumption) rfl ?_
  refine I_iconst dX11_logs_128 ?_
  refine T_dup2 dX11_logs_129 rfl rfl ?_
  refine P_iald dX11_logs_130 (by assumption) ⟨by omega, by omega⟩ (by first | decide | omega) ?_
  repeat rw [aS]
  repeat rw [fset_f _ _ (by omega)]
  rw [e5]
  refine I_iconst dX11_logs_131 ?_
  refine I_iadd dX11_logs_132 ?_
  refine P_iast dX11_logs_133 (by assumption) ⟨by omega, by omega⟩ (by first | decide | omega) ?_
  refine T_aload_n dX11_logs_134 rfl rfl ?_
  refine P_getr dX11_logs_135 fX11_7 (by assumption) rfl ?_
  refine I_bipush dX11_logs_138 (by decide) ?_
  refine T_iload_n dX11_logs_140 rfl ?_
  refine I_iadd dX11_logs_141 ?_
  refine T_dup2 dX11_logs_142 rfl rfl ?_
  refine P_iald dX11_logs_143 (by assumption) ⟨by omega, by omega⟩ (by first | decide | omega) ?_
  repeat rw [aS]
  repeat rw [fset_f _ _ (by omega)]
  rw [e7]
  refine I_iconst dX11_logs_144 ?_
  refine I_iadd dX11_logs_145 ?_
  refine P_iast dX11_logs_146 (by assumption) ⟨by omega, by omega⟩ (by first | decide | omega) ?_
  exact T_return dX11_logs_147 rfl ⟨_, _, rfl, rfl, rfl, c1, c2⟩
theorem l_logs1 {w l h t : Int} (hR : RS K S pl e its) (hl : (eLg e).length = 60) (hw : 0 ≤ w ∧ w < 9) (r1 : R32 l) (r2 : R32 h) (r3 : R32 t) (r4 : R32 (eCl e)) (r5 : R32 (eTy e w + 1)) (m : Nat) : ∀ (c : Int) (S1 : SV), 1283 ≤ c → 1578 - c = m → Wr S S1 → AllR S1 → aI S1 454 = shfF (aI S 454) 1283 c 5 → P G 0 0 0 mX11_logs 16 [some (.ref 453), some (IV w), some (IV l), some (IV h), some (IV t), some (IV c)] [] K S1 (RSQ K S pl (eLgS e (fset (eTy e) w (eTy e w + 1)) ((eLg e).drop 1 ++ [row5 w (eCl e) l h t])) its) := by
  have m0 := hR.1.1
  have m1 := hR.1.2.1
  have e5 : aI S 454 5 = (eLg e).length := hR.2.2.2.2.2.2.1.1
  induction m with
  | zero =>
    intro c S1 h0 hm hw' ha hf
    have g5 : aI S1 454 5 = 60 := by rw [hf, shfF_o (by omega), e5, hl]; rfl
    have hc : c = 1578 := by omega
    subst hc
    have hL := hR.2.2.2.2.2.2.1
    have hq : RS K (sA S1 454 5 59) pl (eLgS e (eTy e) ((eLg e).drop 1)) its := by
      refine hR.lgs (ha.sA (by decide)) ⟨?_, ?_, ?_, ?_⟩ ?_
      · rw [aS, fset_e _ _ rfl, List.length_drop, hl]; rfl
      · rw [List.length_drop]; omega
      · intro k a b
        rw [aS, fset_f _ _ (by omega), hf, shfF_o (by omega)]
        exact hL.2.2.1 k a b
      · intro i r hi k hk
        have hlt := (List.getElem?_eq_some_iff.mp hi).1
        rw [List.length_drop] at hlt
        rw [List.getElem?_drop] at hi
        rw [aS, fset_f _ _ (by omega), hf, shfF_i (by omega)]
        have := hL.2.2.2 (1 + i) r hi k hk
        rw [← this]
        congr 1
        omega
      · intro i h1 h2 h3
        rw [aS, fset_f _ _ (by omega), hf, shfF_o (by omega)]
    have z := l_logs2 (G := G) (w := w) (l := l) (h := h) (t := t) (x5 := some (IV 1578)) (Or.inr ⟨_, rfl⟩) hq (by show ((eLg e).drop 1).length < 60; rw [List.length_drop]; omega) hw r1 r2 r3 r4 r5
    refine T_iload dX11_logs_16 rfl ?_
    refine I_sipush dX11_logs_18 (by decide) ?_
    refine I_icmp_ge (tgt := 46) dX11_logs_21 (by decide) ⟨by omega, by omega⟩ ⟨by omega, by omega⟩ (fun h21 => ?_) (fun h21 => ?_)
    · refine T_aload_n dX11_logs_46 rfl rfl ?_
      refine P_getr dX11_logs_47 fX11_7 (by assumption) rfl ?_
      refine I_iconst dX11_logs_50 ?_
      refine T_dup2 dX11_logs_51 rfl rfl ?_
      refine P_iald dX11_logs_52 (by assumption) ⟨by omega, by omega⟩ (by first | decide | omega) ?_
      rw [g5]
      refine I_iconst dX11_logs_53 ?_
      refine I_isub dX11_logs_54 ?_
      refine P_iast dX11_logs_55 (by assumption) ⟨by omega, by omega⟩ (by first | decide | omega) ?_
      refine P.weaken z (fun r' K' S' q => ?_)
      exact ⟨q.1, q.2.1, q.2.2.1, (hw'.tr (Wr.sA (Or.inl rfl))).tr q.2.2.2⟩
    · omega
  | succ m ih =>
    intro c S1 h0 hm hw' ha hf
    have gc : aI S1 454 (c + 5) = aI S 454 (c + 5) := by rw [hf, shfF_o (by omega)]
    have z := ih (c + 1) (sA S1 454 c (aI S 454 (c + 5))) (by omega) (by omega) (hw'.tr (Wr.sA (Or.inl rfl))) (ha.sA (hR.2.1.2 _ _)) (by rw [aS, hf, shfF_1 _ h0])
    refine T_iload dX11_logs_16 rfl ?_
    refine I_sipush dX11_logs_18 (by decide) ?_
    refine I_icmp_ge (tgt := 46) dX11_logs_21 (by decide) ⟨by omega, by omega⟩ ⟨by omega, by omega⟩ (fun h21 => ?_) (fun h21 => ?_)
    · omega
    · refine T_aload_n dX11_logs_24 rfl rfl ?_
      refine P_getr dX11_logs_25 fX11_7 (by assumption) rfl ?_
      refine T_iload dX11_logs_28 rfl ?_
      refine T_aload_n dX11_logs_30 rfl rfl ?_
      refine P_getr dX11_logs_31 fX11_7 (by assumption) rfl ?_
      refine T_iload dX11_logs_34 rfl ?_
      refine I_iconst dX11_logs_36 ?_
      refine I_iadd dX11_logs_37 ?_
      refine P_iald dX11_logs_38 (by assumption) ⟨by omega, by omega⟩ (by first | decide | omega) ?_
      rw [gc]
      refine P_iast dX11_logs_39 (by assumption) ⟨by omega, by omega⟩ (by first | decide | omega) ?_
      refine I_iinc dX11_logs_40 rfl (by decide) rfl ?_
      refine T_goto (tgt := 16) dX11_logs_43 (by decide) ?_
      exact z
theorem p_R_logs {w l h t : Int} (hR : RS K S pl e its) (hw : 0 ≤ w ∧ w < 9) (r1 : R32 l) (r2 : R32 h) (r3 : R32 t) (r4 : R32 (eCl e)) (r5 : R32 (eTy e w + 1)) : P G 0 0 0 mX11_logs 0 (LE mX11_logs [.ref 453, IV w, IV l, IV h, IV t]) [] K S (RSQ K S pl (logM e w l h t) its) := by
  have m0 := hR.1.1
  have m1 := hR.1.2.1
  have e5 : aI S 454 5 = (eLg e).length := hR.2.2.2.2.2.2.1.1
  have hl := hR.2.2.2.2.2.2.1.2.1
  unfold logM pushN
  by_cases h6 : (eLg e).length < 60
  · rw [if_pos h6]
    have z := l_logs2 (G := G) (w := w) (l := l) (h := h) (t := t) (x5 := none) (Or.inl rfl) hR h6 hw r1 r2 r3 r4 r5
    rw [show LE mX11_logs [.ref 453, IV w, IV l, IV h, IV t] = [some (.ref 453), some (IV w), some (IV l), some (IV h), some (IV t), none] from rfl]
    refine T_aload_n dX11_logs_0 rfl rfl ?_
    refine P_getr dX11_logs_1 fX11_7 (by assumption) rfl ?_
    refine I_iconst dX11_logs_4 ?_
    refine P_iald dX11_logs_5 (by assumption) ⟨by omega, by omega⟩ (by first | decide | omega) ?_
    rw [e5]
    refine I_bipush dX11_logs_6 (by decide) ?_
    refine I_icmp_ne (tgt := 56) dX11_logs_8 (by decide) ⟨by omega, by omega⟩ ⟨by omega, by omega⟩ (fun h8 => ?_) (fun h8 => ?_)
    · exact z
    · omega
  · rw [if_neg h6]
    have z := l_logs1 (G := G) (w := w) (l := l) (h := h) (t := t) hR (by omega) hw r1 r2 r3 r4 r5 295 1283 S (by omega) (by omega) Wr.rf hR.2.1 (shfF_0 _ _ _).symm
    rw [show LE mX11_logs [.ref 453, IV w, IV l, IV h, IV t] = [some (.ref 453), some (IV w), some (IV l), some (IV h), some (IV t), none] from rfl]
    refine T_aload_n dX11_logs_0 rfl rfl ?_
    refine P_getr dX11_logs_1 fX11_7 (by assumption) rfl ?_
    refine I_iconst dX11_logs_4 ?_
    refine P_iald dX11_logs_5 (by assumption) ⟨by omega, by omega⟩ (by first | decide | omega) ?_
    rw [e5]
    refine I_bipush dX11_logs_6 (by decide) ?_
    refine I_icmp_ne (tgt := 56) dX11_logs_8 (by decide) ⟨by omega, by omega⟩ ⟨by omega, by omega⟩ (fun h8 => ?_) (fun h8 => ?_)
    · omega
    · refine I_sipush dX11_logs_11 (by decide) ?_
      refine T_istore dX11_logs_14 (by decide) rfl ?_
      exact z
theorem p_R_logsItem {i : Nat} {x : Row} {w h : Int} (hR : RS K S pl e its) (hi : its[i]? = some x) (hw : 0 ≤ w ∧ w < 9) (r2 : R32 h) (r4 : R32 (eCl e)) (r5 : R32 (eTy e w + 1)) : P G 1 0 0 mX11_logsItem 0 (LE mX11_logsItem [.ref 453, IV w, IV i, IV h]) [] K S (RSQ K S pl (logI e w x h) its) := by
  have m0 := hR.1.1
  have r1 : R32 (x 1) := by rw [← hR.item hi (k := 1) (by omega)]; exact hR.2.1.2 _ _
  have r3 : R32 (x 3) := by rw [← hR.item hi (k := 3) (by omega)]; exact hR.2.1.2 _ _
  have z := p_R_logs (G := G) (w := w) (l := x 1) (h := h) (t := x 3) hR hw r1 r2 r3 r4 r5
  rw [show LE mX11_logsItem [.ref 453, IV w, IV i, IV h] = [some (.ref 453), some (IV w), some (IV i), some (IV h)] from rfl]
  refine T_aload_n dX11_logsItem_0 rfl rfl ?_
  refine T_iload_n dX11_logsItem_1 rfl ?_
  refine T_aload_n dX11_logsItem_2 rfl rfl ?_
  refine T_iload_n dX11_logsItem_3 rfl ?_
  refine I_iconst dX11_logsItem_4 ?_
  refine Q_callV dX11_logsItem_5 kX11_ofItem lX11_164 (by assumption) rfl (p_R_ofItem (k := 1) hR hi ⟨by omega, by omega⟩) rfl rfl (Nat.le_of_ble_eq_true rfl) (Nat.le_of_ble_eq_true rfl) (by decide) (by decide) ?_
  refine T_iload_n dX11_logsItem_8 rfl ?_
  refine T_aload_n dX11_logsItem_9 rfl rfl ?_
  refine T_iload_n dX11_logsItem_10 rfl ?_
  refine I_iconst dX11_logsItem_11 ?_
  refine Q_callV dX11_logsItem_12 kX11_ofItem lX11_164 (by assumption) rfl (p_R_ofItem (k := 3) hR hi ⟨by omega, by omega⟩) rfl rfl (Nat.le_of_ble_eq_true rfl) (Nat.le_of_ble_eq_true rfl) (by decide) (by decide) ?_
  refine R_callV dX11_logsItem_15 kX11_logs lX11_210 (by assumption) rfl z rfl rfl (Nat.le_of_ble_eq_true rfl) (Nat.le_of_ble_eq_true rfl) (by decide) (by decide) (fun r_ K_ S_ q_ => ?_)
  obtain ⟨rfl, hKe, hq⟩ := q_
  have hKe := hKe.symm
  subst hKe
  exact T_return dX11_logsItem_18 rfl ⟨_, _, rfl, rfl, rfl, hq⟩
end RF2
