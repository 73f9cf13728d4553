/-! the reference: strangers, who is asked -/
section RF3
variable {G : GT} {K : List SH} {S : SV} {pl : PL} {e : EN} {its : List Row}
theorem RS.sgs {S' : SV} {h : Int} {l : List Row} (hR : RS K S pl e its) (hh : 0 ≤ h ∧ h < 5) (ha : AllR S') (h0 : aI S' 454 (598 + 41 * h) = l.length) (hl : l.length ≤ 8) (hr : ∀ (i : Nat) (r : Row), l[i]? = some r → ∀ k : Nat, k < 5 → aI S' 454 (598 + 41 * h + 1 + 5 * i + k) = r k) (ho : ∀ i, ¬ (598 + 41 * h ≤ i ∧ i < 598 + 41 * h + 41) → aI S' 454 i = aI S 454 i) : RS K S' pl (eSgS e (fset (eSg e) h l)) its := by
  obtain ⟨h1, h2, h3, h4, h5, h6, h7, h8, h9, h10⟩ := hR
  refine ⟨h1, ha, h3, h4.cg h3 (fun i z => ho i (by omega)), NuC.cg h5 (fun i z => ho i (by omega)), h6.cg (fun i z => ho i (by omega)), LgC.cg h7 (fun i z => ho i (by omega)), UpC.cg h8 (fun i z => ho i (by omega)), BxC.cg h9 (fun i z => ho i (by omega)), fun x a b => ?_⟩
  show aI S' 454 (598 + 41 * x) = (fset (eSg e) h l x).length ∧ (fset (eSg e) h l x).length ≤ 8 ∧ ∀ (i : Nat) (r : Row), (fset (eSg e) h l x)[i]? = some r → ∀ k : Nat, k < 5 → aI S' 454 (598 + 41 * x + 1 + 5 * i + k) = r k
  by_cases hx : x = h
  · rw [hx, fset_t]
    exact ⟨h0, hl, hr⟩
  · rw [fset_f _ _ hx]
    obtain ⟨g1, g2, g3⟩ := h10 x a b
    refine ⟨(ho _ (by omega)).trans g1, g2, fun i r hi k hk => ?_⟩
    have hlt := (List.getElem?_eq_some_iff.mp hi).1
    exact (ho _ (by omega)).trans (g3 i r hi k hk)
theorem RS.sg (hR : RS K S pl e its) {h : Int} (hh : 0 ≤ h ∧ h < 5) : aI S 454 (598 + 41 * h) = (eSg e h).length ∧ (eSg e h).length ≤ 8 ∧ ∀ (i : Nat) (r : Row), (eSg e h)[i]? = some r → ∀ k : Nat, k < 5 → aI S 454 (598 + 41 * h + 1 + 5 * i + k) = r k := hR.2.2.2.2.2.2.2.2.2 h hh.1 hh.2
theorem p_R_known {h : Int} (hR : RS K S pl e its) (hh : 0 ≤ h ∧ h < 5) : P G 0 0 0 mX11_known 0 (LE mX11_known [.ref 453, IV h]) [] K S (Ret K (some (IV (eSg e h).length)) S) := by
  have m0 := hR.1.1
  have m1 := hR.1.2.1
  have e1 := (hR.sg hh).1
  rw [show LE mX11_known [.ref 453, IV h] = [some (.ref 453), some (IV h)] from rfl]
  refine T_aload_n dX11_known_0 rfl rfl ?_
  refine P_getr dX11_known_1 fX11_7 (by assumption) rfl ?_
  refine I_sipush dX11_known_4 (by decide) ?_
  refine I_bipush dX11_known_7 (by decide) ?_
  refine T_iload_n dX11_known_9 rfl ?_
  refine I_imul dX11_known_10 ?_
  refine I_iadd dX11_known_11 ?_
  refine P_iald dX11_known_12 (by assumption) ⟨by omega, by omega⟩ (by first | decide | omega) ?_
  rw [e1]
  exact I_ireturn dX11_known_13 rfl ⟨_, _, rfl, rfl, rfl, rfl⟩
theorem p_R_strangerAt {h i : Int} : P G 0 0 0 mX11_strangerAt 0 (LE mX11_strangerAt [.ref 453, IV h, IV i]) [] K S (Ret K (some (IV (598 + 41 * h + 1 + 5 * i))) S) := by
  rw [show LE mX11_strangerAt [.ref 453, IV h, IV i] = [some (.ref 453), some (IV h), some (IV i)] from rfl]
  refine I_sipush dX11_strangerAt_0 (by decide) ?_
  refine I_bipush dX11_strangerAt_3 (by decide) ?_
  refine T_iload_n dX11_strangerAt_5 rfl ?_
  refine I_imul dX11_strangerAt_6 ?_
  refine I_iadd dX11_strangerAt_7 ?_
  refine I_iconst dX11_strangerAt_8 ?_
  refine I_iadd dX11_strangerAt_9 ?_
  refine I_iconst dX11_strangerAt_10 ?_
  refine T_iload_n dX11_strangerAt_11 rfl ?_
  refine I_imul dX11_strangerAt_12 ?_
  refine I_iadd dX11_strangerAt_13 ?_
  exact I_ireturn dX11_strangerAt_14 rfl ⟨_, _, rfl, rfl, rfl, rfl⟩
theorem p_R_ofStranger {h k : Int} {i : Nat} {x : Row} (hR : RS K S pl e its) (hh : 0 ≤ h ∧ h < 5) (hi : (eSg e h)[i]? = some x) (hk : 0 ≤ k ∧ k < 5) : P G 1 0 0 mX11_ofStranger 0 (LE mX11_ofStranger [.ref 453, IV h, IV i, IV k]) [] K S (Ret K (some (IV (x k.toNat))) S) := by
  have m0 := hR.1.1
  have m1 := hR.1.2.1
  obtain ⟨g1, g2, g3⟩ := hR.sg hh
  have hl := (List.getElem?_eq_some_iff.mp hi).1
  have ev := g3 i x hi k.toNat (by omega)
  rw [Int.toNat_of_nonneg hk.1] at ev
  rw [show LE mX11_ofStranger [.ref 453, IV h, IV i, IV k] = [some (.ref 453), some (IV h), some (IV i), some (IV k)] from rfl]
  refine T_aload_n dX11_ofStranger_0 rfl rfl ?_
  refine P_getr dX11_ofStranger_1 fX11_7 (by assumption) rfl ?_
  refine T_aload_n dX11_ofStranger_4 rfl rfl ?_
  refine T_iload_n dX11_ofStranger_5 rfl ?_
  refine T_iload_n dX11_ofStranger_6 rfl ?_
  refine Q_callV dX11_ofStranger_7 kX11_strangerAt lX11_218 (by assumption) rfl p_R_strangerAt rfl rfl (Nat.le_of_ble_eq_true rfl) (Nat.le_of_ble_eq_true rfl) (by decide) (by decide) ?_
  refine T_iload_n dX11_ofStranger_10 rfl ?_
  refine I_iadd dX11_ofStranger_11 ?_
  refine P_iald dX11_ofStranger_12 (by assumption) ⟨by omega, by omega⟩ (by first | decide | omega) ?_
  rw [ev]
  exact I_ireturn dX11_ofStranger_13 rfl ⟨_, _, rfl, rfl, rfl, rfl⟩
theorem l_forgets {h : Int} {i : Nat} (hR : RS K S pl e its) (hh : 0 ≤ h ∧ h < 5) (hi : i < (eSg e h).length) (m : Nat) : ∀ (c : Int) (S1 : SV), 598 + 41 * h + 1 + 5 * (i : Int) ≤ c → 598 + 41 * h + 1 + 5 * (((eSg e h).length : Int) - 1) - c = m → Wr S S1 → AllR S1 → aI S1 454 = shfF (aI S 454) (598 + 41 * h + 1 + 5 * i) c 5 → P G 1 0 0 mX11_forgets 7 [some (.ref 453), some (IV h), some (IV i), some (IV c)] [] K S1 (RSQ K S pl (eSgS e (fset (eSg e) h ((eSg e h).eraseIdx i))) its) := by
  have m0 := hR.1.1
  have m1 := hR.1.2.1
  obtain ⟨g1, g2, g3⟩ := hR.sg hh
  induction m with
  | zero =>
    intro c S1 h0 hm hw ha hf
    have q1 : aI S1 454 (598 + 41 * h) = (eSg e h).length := by rw [hf, shfF_o (by omega)]; exact g1
    have hkn : P G 0 0 0 mX11_known 0 (LE mX11_known [.ref 453, IV h]) [] K S1 (Ret K (some (IV (eSg e h).length)) S1) := by
      rw [show LE mX11_known [.ref 453, IV h] = [some (.ref 453), some (IV h)] from rfl]
      refine T_aload_n dX11_known_0 rfl rfl ?_
      refine P_getr dX11_known_1 fX11_7 (by assumption) rfl ?_
      refine I_sipush dX11_known_4 (by decide) ?_
      refine I_bipush dX11_known_7 (by decide) ?_
      refine T_iload_n dX11_known_9 rfl ?_
      refine I_imul dX11_known_10 ?_
      refine I_iadd dX11_known_11 ?_
      refine P_iald dX11_known_12 (by assumption) ⟨by omega, by omega⟩ (by first | decide | omega) ?_
      rw [q1]
      exact I_ireturn dX11_known_13 rfl ⟨_, _, rfl, rfl, rfl, rfl⟩
    have hc : c = 598 + 41 * h + 1 + 5 * (((eSg e h).length : Int) - 1) := by omega
    subst hc
    have hel : ((eSg e h).eraseIdx i).length = (eSg e h).length - 1 := by rw [List.length_eraseIdx, if_pos hi]
    have hq : RS K (sA S1 454 (598 + 41 * h) (((eSg e h).length : Int) - 1)) pl (eSgS e (fset (eSg e) h ((eSg e h).eraseIdx i))) its := by
      refine hR.sgs hh (ha.sA ⟨by omega, by omega⟩) ?_ (by omega) ?_ ?_
      · rw [aS, fset_e _ _ rfl, hel]; omega
      · intro j r hj k hk
        have hjl := (List.getElem?_eq_some_iff.mp hj).1
        rw [List.getElem?_eraseIdx] at hj
        rw [aS, fset_f _ _ (by omega), hf]
        by_cases hji : j < i
        · rw [if_pos hji] at hj
          rw [shfF_o (by omega)]
          exact g3 j r hj k hk
        · rw [if_neg hji] at hj
          rw [shfF_i (by omega), ← g3 (j + 1) r hj k hk]
          congr 1
          omega
      · intro j a
        rw [aS, fset_f _ _ (by omega), hf, shfF_o (by omega)]
    refine T_iload_n dX11_forgets_7 rfl ?_
    refine T_aload_n dX11_forgets_8 rfl rfl ?_
    refine T_iload_n dX11_forgets_9 rfl ?_
    refine T_aload_n dX11_forgets_10 rfl rfl ?_
    refine T_iload_n dX11_forgets_11 rfl ?_
    refine Q_callV dX11_forgets_12 kX11_known lX11_167 (by assumption) rfl hkn rfl rfl (Nat.le_of_ble_eq_true rfl) (Nat.le_of_ble_eq_true rfl) (by decide) (by decide) ?_
    refine I_iconst dX11_forgets_15 ?_
    refine I_isub dX11_forgets_16 ?_
    refine Q_callV dX11_forgets_17 kX11_strangerAt lX11_218 (by assumption) rfl p_R_strangerAt rfl rfl (Nat.le_of_ble_eq_true rfl) (Nat.le_of_ble_eq_true rfl) (by decide) (by decide) ?_
    refine I_icmp_ge (tgt := 43) dX11_forgets_20 (by decide) ⟨by omega, by omega⟩ ⟨by omega, by omega⟩ (fun h20 => ?_) (fun h20 => ?_)
    · refine T_aload_n dX11_forgets_43 rfl rfl ?_
      refine P_getr dX11_forgets_44 fX11_7 (by assumption) rfl ?_
      refine I_sipush dX11_forgets_47 (by decide) ?_
      refine I_bipush dX11_forgets_50 (by decide) ?_
      refine T_iload_n dX11_forgets_52 rfl ?_
      refine I_imul dX11_forgets_53 ?_
      refine I_iadd dX11_forgets_54 ?_
      refine T_dup2 dX11_forgets_55 rfl rfl ?_
      refine P_iald dX11_forgets_56 (by assumption) ⟨by omega, by omega⟩ (by first | decide | omega) ?_
      rw [q1]
      refine I_iconst dX11_forgets_57 ?_
      refine I_isub dX11_forgets_58 ?_
      refine P_iast dX11_forgets_59 (by assumption) ⟨by omega, by omega⟩ (by first | decide | omega) ?_
      exact T_return dX11_forgets_60 rfl ⟨_, _, rfl, rfl, rfl, hq, hw.tr (Wr.sA (Or.inl rfl))⟩
    · omega
  | succ m ih =>
    intro c S1 h0 hm hw ha hf
    have q1 : aI S1 454 (598 + 41 * h) = (eSg e h).length := by rw [hf, shfF_o (by omega)]; exact g1
    have hkn : P G 0 0 0 mX11_known 0 (LE mX11_known [.ref 453, IV h]) [] K S1 (Ret K (some (IV (eSg e h).length)) S1) := by
      rw [show LE mX11_known [.ref 453, IV h] = [some (.ref 453), some (IV h)] from rfl]
      refine T_aload_n dX11_known_0 rfl rfl ?_
      refine P_getr dX11_known_1 fX11_7 (by assumption) rfl ?_
      refine I_sipush dX11_known_4 (by decide) ?_
      refine I_bipush dX11_known_7 (by decide) ?_
      refine T_iload_n dX11_known_9 rfl ?_
      refine I_imul dX11_known_10 ?_
      refine I_iadd dX11_known_11 ?_
      refine P_iald dX11_known_12 (by assumption) ⟨by omega, by omega⟩ (by first | decide | omega) ?_
      rw [q1]
      exact I_ireturn dX11_known_13 rfl ⟨_, _, rfl, rfl, rfl, rfl⟩
    have gc : aI S1 454 (c + 5) = aI S 454 (c + 5) := by rw [hf, shfF_o (by omega)]
    have w := ih (c + 1) (sA S1 454 c (aI S 454 (c + 5))) (by omega) (by omega) (hw.tr (Wr.sA (Or.inl rfl))) (ha.sA (hR.2.1.2 _ _)) (by rw [aS, hf, shfF_1 _ h0])
    refine T_iload_n dX11_forgets_7 rfl ?_
    refine T_aload_n dX11_forgets_8 rfl rfl ?_
    refine T_iload_n dX11_forgets_9 rfl ?_
    refine T_aload_n dX11_forgets_10 rfl rfl ?_
    refine T_iload_n dX11_forgets_11 rfl ?_
    refine Q_callV dX11_forgets_12 kX11_known lX11_167 (by assumption) rfl hkn rfl rfl (Nat.le_of_ble_eq_true rfl) (Nat.le_of_ble_eq_true rfl) (by decide) (by decide) ?_
    refine I_iconst dX11_forgets_15 ?_
    refine I_isub dX11_forgets_16 ?_
    refine Q_callV dX11_forgets_17 kX11_strangerAt lX11_218 (by assumption) rfl p_R_strangerAt rfl rfl (Nat.le_of_ble_eq_true rfl) (Nat.le_of_ble_eq_true rfl) (by decide) (by decide) ?_
    refine I_icmp_ge (tgt := 43) dX11_forgets_20 (by decide) ⟨by omega, by omega⟩ ⟨by omega, by omega⟩ (fun h20 => ?_) (fun h20 => ?_)
    · omega
    · refine T_aload_n dX11_forgets_23 rfl rfl ?_
      refine P_getr dX11_forgets_24 fX11_7 (by assumption) rfl ?_
      refine T_iload_n dX11_forgets_27 rfl ?_
      refine T_aload_n dX11_forgets_28 rfl rfl ?_
      refine P_getr dX11_forgets_29 fX11_7 (by assumption) rfl ?_
      refine T_iload_n dX11_forgets_32 rfl ?_
      refine I_iconst dX11_forgets_33 ?_
      refine I_iadd dX11_forgets_34 ?_
      refine P_iald dX11_forgets_35 (by assumption) ⟨by omega, by omega⟩ (by first | decide | omega) ?_
      rw [gc]
      refine P_iast dX11_forgets_36 (by assumption) ⟨by omega, by omega⟩ (by first | decide | omega) ?_
      refine I_iinc dX11_forgets_37 rfl (by decide) rfl ?_
      refine T_goto (tgt := 7) dX11_forgets_40 (by decide) ?_
      exact w
theorem p_R_forgets {h : Int} {i : Nat} (hR : RS K S pl e its) (hh : 0 ≤ h ∧ h < 5) (hi : i < (eSg e h).length) : P G 1 0 0 mX11_forgets 0 (LE mX11_forgets [.ref 453, IV h, IV i]) [] K S (RSQ K S pl (eSgS e (fset (eSg e) h ((eSg e h).eraseIdx i))) its) := by
  have m0 := hR.1.1
  have g2 := (hR.sg hh).2.1
  have w := l_forgets (G := G) hR hh hi (5 * ((eSg e h).length - 1 - i)) (598 + 41 * h + 1 + 5 * i) S (by omega) (by omega) Wr.rf hR.2.1 (shfF_0 _ _ _).symm
  rw [show LE mX11_forgets [.ref 453, IV h, IV i] = [some (.ref 453), some (IV h), some (IV i), none] from rfl]
  refine T_aload_n dX11_forgets_0 rfl rfl ?_
  refine T_iload_n dX11_forgets_1 rfl ?_
  refine T_iload_n dX11_forgets_2 rfl ?_
  refine Q_callV dX11_forgets_3 kX11_strangerAt lX11_218 (by assumption) rfl p_R_strangerAt rfl rfl (Nat.le_of_ble_eq_true rfl) (Nat.le_of_ble_eq_true rfl) (by decide) (by decide) ?_
  refine T_istore_n dX11_forgets_6 (by decide) rfl ?_
  exact w
def pdW (S : SV) (h n w f t c : Int) : SV := sA (sA (sA (sA (sA (sA S 454 (598 + 41 * h + 1 + 5 * n) w) 454 (598 + 41 * h + 1 + 5 * n + 1) f) 454 (598 + 41 * h + 1 + 5 * n + 2) t) 454 (598 + 41 * h + 1 + 5 * n + 3) c) 454 (598 + 41 * h + 1 + 5 * n + 4) 0) 454 (598 + 41 * h) (n + 1)
theorem pdW_R {h w f t : Int} (hR : RS K S pl e its) (hh : 0 ≤ h ∧ h < 5) (hl : (eSg e h).length < 8) (r1 : R32 w) (r2 : R32 f) (r3 : R32 t) (r4 : R32 (eCl e)) : RS K (pdW S h (eSg e h).length w f t (eCl e)) pl (eSgS e (fset (eSg e) h (eSg e h ++ [row5 w f t (eCl e) 0]))) its ∧ Wr S (pdW S h (eSg e h).length w f t (eCl e)) := by
  obtain ⟨g1, g2, g3⟩ := hR.sg hh
  refine ⟨hR.sgs hh ?_ ?_ ?_ ?_ ?_, ?_⟩
  · exact (((((hR.2.1.sA r1).sA r2).sA r3).sA r4).sA (by decide)).sA ⟨by omega, by omega⟩
  · unfold pdW
    rw [aS, fset_e _ _ rfl]
    simp
  · simp; omega
  · intro i r hi k hk
    unfold pdW
    repeat rw [aS]
    by_cases hj : i < (eSg e h).length
    · rw [List.getElem?_append_left hj] at hi
      repeat rw [fset_f _ _ (by omega)]
      exact g3 i r hi k hk
    · have hlt := (List.getElem?_eq_some_iff.mp hi).1
      have hie : i = (eSg e h).length := by simp at hlt; omega
      subst hie
      simp at hi
      subst hi
      rcases (show k = 0 ∨ k = 1 ∨ k = 2 ∨ k = 3 ∨ k = 4 by omega) with rfl | rfl | rfl | rfl | rfl <;> (repeat rw [fset_f _ _ (by omega)]) <;> rw [fset_e _ _ (by omega)] <;> rfl
  · intro i h1
    unfold pdW
    repeat rw [aS]
    repeat rw [fset_f _ _ (by omega)]
  · unfold pdW
    exact (((((Wr.sA (Or.inl rfl)).tr (Wr.sA (Or.inl rfl))).tr (Wr.sA (Or.inl rfl))).tr (Wr.sA (Or.inl rfl))).tr (Wr.sA (Or.inl rfl))).tr (Wr.sA (Or.inl rfl))
theorem l_putsDown {h w f t : Int} (hR : RS K S pl e its) (hh : 0 ≤ h ∧ h < 5) (hl : (eSg e h).length < 8) (r1 : R32 w) (r2 : R32 f) (r3 : R32 t) (r4 : R32 (eCl e)) : P G 1 0 0 mX11_putsDown 16 [some (.ref 453), some (IV h), some (IV w), some (IV f), some (IV t), none] [] K S (RSQ K S pl (eSgS e (fset (eSg e) h (eSg e h ++ [row5 w f t (eCl e) 0]))) its) := by
  have m0 := hR.1.1
  have m1 := hR.1.2.1
  have e2 : aI S 454 2 = eCl e := hR.2.2.2.2.1.1
  have e1 := (hR.sg hh).1
  obtain ⟨c1, c2⟩ := pdW_R hR hh hl r1 r2 r3 r4
  refine T_aload_n dX11_putsDown_16 rfl rfl ?_
  refine T_iload_n dX11_putsDown_17 rfl ?_
  refine T_aload_n dX11_putsDown_18 rfl rfl ?_
  refine T_iload_n dX11_putsDown_19 rfl ?_
  refine Q_callV dX11_putsDown_20 kX11_known lX11_167 (by assumption) rfl (p_R_known hR hh) rfl rfl (Nat.le_of_ble_eq_true rfl) (Nat.le_of_ble_eq_true rfl) (by decide) (by decide) ?_
  refine Q_callV dX11_putsDown_23 kX11_strangerAt lX11_218 (by assumption) rfl p_R_strangerAt rfl rfl (Nat.le_of_ble_eq_true rfl) (Nat.le_of_ble_eq_true rfl) (by decide) (by decide) ?_
  refine T_istore dX11_putsDown_26 (by decide) rfl ?_
  refine T_aload_n dX11_putsDown_28 rfl rfl ?_
  refine P_getr dX11_putsDown_29 fX11_7 (by assumption) rfl ?_
  refine T_iload dX11_putsDown_32 rfl ?_
  refine T_iload_n dX11_putsDown_34 rfl ?_
  refine P_iast dX11_putsDown_35 (by assumption) ⟨by omega, by omega⟩ (by first | decide | omega) ?_
  refine T_aload_n dX11_putsDown_36 rfl rfl ?_
  refine P_getr dX11_putsDown_37 fX11_7 (by assumption) rfl ?_
  refine T_iload dX11_putsDown_40 rfl ?_
  refine I_iconst dX11_putsDown_42 ?_
  refine I_iadd dX11_putsDown_43 ?_
  refine T_iload_n dX11_putsDown_44 rfl ?_
  refine P_iast dX11_putsDown_45 (by assumption) ⟨by omega, by omega⟩ (by first | decide | omega) ?_
  refine T_aload_n dX11_putsDown_46 rfl rfl ?_
  refine P_getr dX11_putsDown_47 fX11_7 (by assumption) rfl ?_
  refine T_iload dX11_putsDown_50 rfl ?_
  refine I_iconst dX11_putsDown_52 ?_
  refine I_iadd dX11_putsDown_53 ?_
  refine T_iload dX11_putsDown_54 rfl ?_
  refine P_iast dX11_putsDown_56 (by assumption) ⟨by omega, by omega⟩ (by first | decide | omega) ?_
  refine T_aload_n dX11_putsDown_57 rfl rfl ?_
  refine P_getr dX11_putsDown_58 fX11_7 (by assumption) rfl ?_
  refine T_iload dX11_putsDown_61 rfl ?_
  refine I_iconst dX11_putsDown_63 ?_
  refine I_iadd dX11_putsDown_64 ?_
  refine T_aload_n dX11_putsDown_65 rfl rfl ?_
  refine P_getr dX11_putsDown_66 fX11_7 (by assumption) rfl ?_
  refine I_iconst dX11_putsDown_69 ?_
  refine P_iald dX11_putsDown_70 (by assumption) ⟨by omega, by omega⟩ (by first | decide | omega) ?_
  repeat rw [aS]
  repeat rw [fset_f _ _ (by omega)]
  rw [e2]
  refine P_iast dX11_putsDown_71 (by assumption) ⟨by omega, by omega⟩ (by first | decide | omega) ?_
  refine T_aload_n dX11_putsDown_72 rfl rfl ?_
  refine P_getr dX11_putsDown_73 fX11_7 (by assumption) rfl ?_
  refine T_iload dX11_putsDown_76 rfl ?_
  refine I_iconst dX11_putsDown_78 ?_
  refine I_iadd dX11_putsDown_79 ?_
  refine I_iconst dX11_putsDown_80 ?_
  refine P_iast dX11_putsDown_81 (by assumption) ⟨by omega, by omega⟩ (by first | decide | omega) ?_
  refine T_aload_n dX11_putsDown_82 rfl rfl ?_
  refine P_getr dX11_putsDown_83 fX11_7 (by assumption) rfl ?_
  refine I_sipush dX11_putsDown_86 (by decide) ?_
  refine I_bipush dX11_putsDown_89 (by decide) ?_
  refine T_iload_n dX11_putsDown_91 rfl ?_
  refine I_imul dX11_putsDown_92 ?_
  refine I_iadd dX11_putsDown_93 ?_
  refine T_dup2 dX11_putsDown_94 rfl rfl ?_
  refine P_iald dX11_putsDown_95 (by assumption) ⟨by omega, by omega⟩ (by first | decide | omega) ?_
  repeat rw [aS]
  repeat rw [fset_f _ _ (by omega)]
  rw [e1]
  refine I_iconst dX11_putsDown_96 ?_
  refine I_iadd dX11_putsDown_97 ?_
  refine P_iast dX11_putsDown_98 (by assumption) ⟨by omega, by omega⟩ (by first | decide | omega) ?_
  exact T_return dX11_putsDown_99 rfl ⟨_, _, rfl, rfl, rfl, c1, c2⟩
theorem fset2 {α : Type} (f : Int → α) (k : Int) (u v : α) : fset (fset f k u) k v = fset f k v := by
  funext x
  by_cases h : x = k
  · rw [fset_e _ _ h, fset_e _ _ h]
  · rw [fset_f _ _ h, fset_f _ _ h, fset_f _ _ h]
theorem p_R_putsDown {h w f t : Int} (hR : RS K S pl e its) (hh : 0 ≤ h ∧ h < 5) (r1 : R32 w) (r2 : R32 f) (r3 : R32 t) (r4 : R32 (eCl e)) : P G 2 0 0 mX11_putsDown 0 (LE mX11_putsDown [.ref 453, IV h, IV w, IV f, IV t]) [] K S (RSQ K S pl (eSgS e (fset (eSg e) h (pushN 8 (eSg e h) (row5 w f t (eCl e) 0)))) its) := by
  have m0 := hR.1.1
  have g2 := (hR.sg hh).2.1
  unfold pushN
  by_cases h8 : (eSg e h).length < 8
  · rw [if_pos h8]
    have z := l_putsDown (G := G) (w := w) (f := f) (t := t) hR hh h8 r1 r2 r3 r4
    rw [show LE mX11_putsDown [.ref 453, IV h, IV w, IV f, IV t] = [some (.ref 453), some (IV h), some (IV w), some (IV f), some (IV t), none] from rfl]
    refine T_aload_n dX11_putsDown_0 rfl rfl ?_
    refine T_iload_n dX11_putsDown_1 rfl ?_
    refine Q_callV dX11_putsDown_2 kX11_known lX11_167 (by assumption) rfl (p_R_known hR hh) rfl rfl (Nat.le_of_ble_eq_true rfl) (Nat.le_of_ble_eq_true rfl) (by decide) (by decide) ?_
    refine I_bipush dX11_putsDown_5 (by decide) ?_
    refine I_icmp_ne (tgt := 16) dX11_putsDown_7 (by decide) ⟨by omega, by omega⟩ ⟨by omega, by omega⟩ (fun h7 => ?_) (fun h7 => ?_)
    · exact P.depth z (by omega)
    · omega
  · rw [if_neg h8]
    have hf := p_R_forgets (G := G) (i := 0) hR hh (by omega)
    rw [List.eraseIdx_zero, ← List.drop_one] at hf
    rw [show LE mX11_putsDown [.ref 453, IV h, IV w, IV f, IV t] = [some (.ref 453), some (IV h), some (IV w), some (IV f), some (IV t), none] from rfl]
    refine T_aload_n dX11_putsDown_0 rfl rfl ?_
    refine T_iload_n dX11_putsDown_1 rfl ?_
    refine Q_callV dX11_putsDown_2 kX11_known lX11_167 (by assumption) rfl (p_R_known hR hh) rfl rfl (Nat.le_of_ble_eq_true rfl) (Nat.le_of_ble_eq_true rfl) (by decide) (by decide) ?_
    refine I_bipush dX11_putsDown_5 (by decide) ?_
    refine I_icmp_ne (tgt := 16) dX11_putsDown_7 (by decide) ⟨by omega, by omega⟩ ⟨by omega, by omega⟩ (fun h7 => ?_) (fun h7 => ?_)
    · omega
    · refine T_aload_n dX11_putsDown_10 rfl rfl ?_
      refine T_iload_n dX11_putsDown_11 rfl ?_
      refine I_iconst dX11_putsDown_12 ?_
      refine R_callV dX11_putsDown_13 kX11_forgets lX11_221 (by assumption) rfl hf rfl rfl (Nat.le_of_ble_eq_true rfl) (Nat.le_of_ble_eq_true rfl) (by decide) (by decide) (fun r_ K_ S_ q_ => ?_)
      obtain ⟨rfl, hKe, hq, hw1⟩ := q_
      have hKe := hKe.symm
      subst hKe
      have e1 : eSg (eSgS e (fset (eSg e) h ((eSg e h).drop 1))) h = (eSg e h).drop 1 := fset_t _ _ _
      have z := l_putsDown (G := G) (w := w) (f := f) (t := t) hq hh (by rw [e1, List.length_drop]; omega) r1 r2 r3 r4
      rw [e1] at z
      have z : P G 1 0 0 mX11_putsDown 16 [some (.ref 453), some (IV h), some (IV w), some (IV f), some (IV t), none] [] K S_ (RSQ K S_ pl (eSgS e (fset (fset (eSg e) h ((eSg e h).drop 1)) h ((eSg e h).drop 1 ++ [row5 w f t (eCl e) 0]))) its) := z
      rw [fset2] at z
      exact P.depth (P.weaken z (fun r' K' S' q => ⟨q.1, q.2.1, q.2.2.1, hw1.tr q.2.2.2⟩)) (by omega)
def whichI (o : Option Nat) : Int := match o with
  | none => -4
  | some i => (i : Int)
theorem l_which {h w f t : Int} (hR : RS K S pl e its) (hh : 0 ≤ h ∧ h < 5) (r1 : R32 w) (r2 : R32 f) (r3 : R32 t) (m : Nat) : ∀ i : Nat, ((eSg e h).length : Int) - i = m → (∀ (j : Nat) (x : Row), j < i → (eSg e h)[j]? = some x → strIs w f t x = false) → P G 2 0 0 mX11_whichStranger 3 [some (.ref 453), some (IV h), some (IV w), some (IV f), some (IV t), some (IV i)] [] K S (Ret K (some (IV (whichI ((eSg e h).findIdx? (strIs w f t))))) S) := by
  have m0 := hR.1.1
  obtain ⟨g1, g2, g3⟩ := hR.sg hh
  induction m with
  | zero =>
    intro i hm hb
    have hv : (eSg e h).findIdx? (strIs w f t) = none := by
      rw [List.findIdx?_eq_none_iff]
      intro x hx
      obtain ⟨j, hj⟩ := List.getElem?_of_mem hx
      have hlt := (List.getElem?_eq_some_iff.mp hj).1
      exact hb j x (by omega) hj
    refine T_iload dX11_whichStranger_3 rfl ?_
    refine T_aload_n dX11_whichStranger_5 rfl rfl ?_
    refine T_iload_n dX11_whichStranger_6 rfl ?_
    refine Q_callV dX11_whichStranger_7 kX11_known lX11_167 (by assumption) rfl (p_R_known hR hh) rfl rfl (Nat.le_of_ble_eq_true rfl) (Nat.le_of_ble_eq_true rfl) (by decide) (by decide) ?_
    refine I_icmp_ge (tgt := 59) dX11_whichStranger_10 (by decide) ⟨by omega, by omega⟩ ⟨by omega, by omega⟩ (fun h10 => ?_) (fun h10 => ?_)
    · refine I_bipush dX11_whichStranger_59 (by decide) ?_
      exact I_ireturn dX11_whichStranger_61 rfl ⟨_, _, rfl, by rw [hv]; rfl, rfl, rfl⟩
    · omega
  | succ m ih =>
    intro i hm hb
    have hlt : i < (eSg e h).length := by omega
    have hg := getD_at hlt
    have w0 := p_R_ofStranger (G := G) (k := 0) hR hh hg ⟨by omega, by omega⟩
    have w1 := p_R_ofStranger (G := G) (k := 1) hR hh hg ⟨by omega, by omega⟩
    have w2 := p_R_ofStranger (G := G) (k := 2) hR hh hg ⟨by omega, by omega⟩
    have q0 : R32 (((eSg e h).getD i z0R) 0) := by rw [← g3 i _ hg 0 (by omega)]; exact hR.2.1.2 _ _
    have q1 : R32 (((eSg e h).getD i z0R) 1) := by rw [← g3 i _ hg 1 (by omega)]; exact hR.2.1.2 _ _
    have q2 : R32 (((eSg e h).getD i z0R) 2) := by rw [← g3 i _ hg 2 (by omega)]; exact hR.2.1.2 _ _
    have w0 : P G 1 0 0 mX11_ofStranger 0 (LE mX11_ofStranger [.ref 453, IV h, IV i, IV 0]) [] K S (Ret K (some (IV (((eSg e h).getD i z0R) 0))) S) := w0
    have w1 : P G 1 0 0 mX11_ofStranger 0 (LE mX11_ofStranger [.ref 453, IV h, IV i, IV 1]) [] K S (Ret K (some (IV (((eSg e h).getD i z0R) 1))) S) := w1
    have w2 : P G 1 0 0 mX11_ofStranger 0 (LE mX11_ofStranger [.ref 453, IV h, IV i, IV 2]) [] K S (Ret K (some (IV (((eSg e h).getD i z0R) 2))) S) := w2
    generalize (eSg e h).getD i z0R = x at hg w0 w1 w2 q0 q1 q2
    by_cases hx : x 0 = w ∧ x 1 = f ∧ x 2 = t
    · have hv : (eSg e h).findIdx? (strIs w f t) = some i := by
        rw [List.findIdx?_eq_some_iff_getElem]
        have hge : (eSg e h)[i] = x := (List.getElem?_eq_some_iff.mp hg).2
        refine ⟨hlt, by rw [hge]; exact decide_eq_true hx, fun j hj => ?_⟩
        have := hb j _ hj (List.getElem?_eq_getElem (by omega))
        simp [this]
      refine T_iload dX11_whichStranger_3 rfl ?_
      refine T_aload_n dX11_whichStranger_5 rfl rfl ?_
      refine T_iload_n dX11_whichStranger_6 rfl ?_
      refine Q_callV dX11_whichStranger_7 kX11_known lX11_167 (by assumption) rfl (p_R_known hR hh) rfl rfl (Nat.le_of_ble_eq_true rfl) (Nat.le_of_ble_eq_true rfl) (by decide) (by decide) ?_
      refine I_icmp_ge (tgt := 59) dX11_whichStranger_10 (by decide) ⟨by omega, by omega⟩ ⟨by omega, by omega⟩ (fun h10 => ?_) (fun h10 => ?_)
      · omega
      · refine T_aload_n dX11_whichStranger_13 rfl rfl ?_
        refine T_iload_n dX11_whichStranger_14 rfl ?_
        refine T_iload dX11_whichStranger_15 rfl ?_
        refine I_iconst dX11_whichStranger_17 ?_
        refine Q_callV dX11_whichStranger_18 kX11_ofStranger lX11_170 (by assumption) rfl w0 rfl rfl (Nat.le_of_ble_eq_true rfl) (Nat.le_of_ble_eq_true rfl) (by decide) (by decide) ?_
        refine T_iload_n dX11_whichStranger_21 rfl ?_
        refine I_icmp_ne (tgt := 53) dX11_whichStranger_22 (by decide) q0 r1 (fun h22 => ?_) (fun h22 => ?_)
        · exact absurd hx.1 h22
        · refine T_aload_n dX11_whichStranger_25 rfl rfl ?_
          refine T_iload_n dX11_whichStranger_26 rfl ?_
          refine T_iload dX11_whichStranger_27 rfl ?_
          refine I_iconst dX11_whichStranger_29 ?_
          refine Q_callV dX11_whichStranger_30 kX11_ofStranger lX11_170 (by assumption) rfl w1 rfl rfl (Nat.le_of_ble_eq_true rfl) (Nat.le_of_ble_eq_true rfl) (by decide) (by decide) ?_
          refine T_iload_n dX11_whichStranger_33 rfl ?_
          refine I_icmp_ne (tgt := 53) dX11_whichStranger_34 (by decide) q1 r2 (fun h34 => ?_) (fun h34 => ?_)
          · exact absurd hx.2.1 h34
          · refine T_aload_n dX11_whichStranger_37 rfl rfl ?_
            refine T_iload_n dX11_whichStranger_38 rfl ?_
            refine T_iload dX11_whichStranger_39 rfl ?_
            refine I_iconst dX11_whichStranger_41 ?_
            refine Q_callV dX11_whichStranger_42 kX11_ofStranger lX11_170 (by assumption) rfl w2 rfl rfl (Nat.le_of_ble_eq_true rfl) (Nat.le_of_ble_eq_true rfl) (by decide) (by decide) ?_
            refine T_iload dX11_whichStranger_45 rfl ?_
            refine I_icmp_ne (tgt := 53) dX11_whichStranger_47 (by decide) q2 r3 (fun h47 => ?_) (fun h47 => ?_)
            · exact absurd hx.2.2 h47
            · refine T_iload dX11_whichStranger_50 rfl ?_
              exact I_ireturn dX11_whichStranger_52 rfl ⟨_, _, rfl, by rw [hv]; rfl, rfl, rfl⟩
    · have z := ih (i + 1) (by omega) (fun j y hj hy => by
        by_cases hji : j = i
        · rw [hji, hg] at hy
          injection hy with hy
          rw [← hy]
          exact decide_eq_false hx
        · exact hb j y (by omega) hy)
      refine T_iload dX11_whichStranger_3 rfl ?_
      refine T_aload_n dX11_whichStranger_5 rfl rfl ?_
      refine T_iload_n dX11_whichStranger_6 rfl ?_
      refine Q_callV dX11_whichStranger_7 kX11_known lX11_167 (by assumption) rfl (p_R_known hR hh) rfl rfl (Nat.le_of_ble_eq_true rfl) (Nat.le_of_ble_eq_true rfl) (by decide) (by decide) ?_
      refine I_icmp_ge (tgt := 59) dX11_whichStranger_10 (by decide) ⟨by omega, by omega⟩ ⟨by omega, by omega⟩ (fun h10 => ?_) (fun h10 => ?_)
      · omega
      · refine T_aload_n dX11_whichStranger_13 rfl rfl ?_
        refine T_iload_n dX11_whichStranger_14 rfl ?_
        refine T_iload dX11_whichStranger_15 rfl ?_
        refine I_iconst dX11_whichStranger_17 ?_
        refine Q_callV dX11_whichStranger_18 kX11_ofStranger lX11_170 (by assumption) rfl w0 rfl rfl (Nat.le_of_ble_eq_true rfl) (Nat.le_of_ble_eq_true rfl) (by decide) (by decide) ?_
        refine T_iload_n dX11_whichStranger_21 rfl ?_
        refine I_icmp_ne (tgt := 53) dX11_whichStranger_22 (by decide) q0 r1 (fun h22 => ?_) (fun h22 => ?_)
        · refine I_iinc dX11_whichStranger_53 rfl (by decide) rfl ?_
          refine T_goto (tgt := 3) dX11_whichStranger_56 (by decide) ?_
          exact z
        · refine T_aload_n dX11_whichStranger_25 rfl rfl ?_
          refine T_iload_n dX11_whichStranger_26 rfl ?_
          refine T_iload dX11_whichStranger_27 rfl ?_
          refine I_iconst dX11_whichStranger_29 ?_
          refine Q_callV dX11_whichStranger_30 kX11_ofStranger lX11_170 (by assumption) rfl w1 rfl rfl (Nat.le_of_ble_eq_true rfl) (Nat.le_of_ble_eq_true rfl) (by decide) (by decide) ?_
          refine T_iload_n dX11_whichStranger_33 rfl ?_
          refine I_icmp_ne (tgt := 53) dX11_whichStranger_34 (by decide) q1 r2 (fun h34 => ?_) (fun h34 => ?_)
          · refine I_iinc dX11_whichStranger_53 rfl (by decide) rfl ?_
            refine T_goto (tgt := 3) dX11_whichStranger_56 (by decide) ?_
            exact z
          · refine T_aload_n dX11_whichStranger_37 rfl rfl ?_
            refine T_iload_n dX11_whichStranger_38 rfl ?_
            refine T_iload dX11_whichStranger_39 rfl ?_
            refine I_iconst dX11_whichStranger_41 ?_
            refine Q_callV dX11_whichStranger_42 kX11_ofStranger lX11_170 (by assumption) rfl w2 rfl rfl (Nat.le_of_ble_eq_true rfl) (Nat.le_of_ble_eq_true rfl) (by decide) (by decide) ?_
            refine T_iload dX11_whichStranger_45 rfl ?_
            refine I_icmp_ne (tgt := 53) dX11_whichStranger_47 (by decide) q2 r3 (fun h47 => ?_) (fun h47 => ?_)
            · refine I_iinc dX11_whichStranger_53 rfl (by decide) rfl ?_
              refine T_goto (tgt := 3) dX11_whichStranger_56 (by decide) ?_
              exact z
            · exact absurd ⟨h22, h34, h47⟩ hx
theorem p_R_which {h w f t : Int} (hR : RS K S pl e its) (hh : 0 ≤ h ∧ h < 5) (r1 : R32 w) (r2 : R32 f) (r3 : R32 t) : P G 2 0 0 mX11_whichStranger 0 (LE mX11_whichStranger [.ref 453, IV h, IV w, IV f, IV t]) [] K S (Ret K (some (IV (whichI ((eSg e h).findIdx? (strIs w f t))))) S) := by
  have z := l_which (G := G) (w := w) (f := f) (t := t) hR hh r1 r2 r3 (eSg e h).length 0 (by omega) (fun j x hj => by omega)
  rw [show LE mX11_whichStranger [.ref 453, IV h, IV w, IV f, IV t] = [some (.ref 453), some (IV h), some (IV w), some (IV f), some (IV t), none] from rfl]
  refine I_iconst dX11_whichStranger_0 ?_
  refine T_istore dX11_whichStranger_1 (by decide) rfl ?_
  exact z
def TKQ (K : List SH) (S : SV) (pl : PL) (e : EN) (its : List Row) (v : Int) : Option Value → List SH → SV → Prop := fun rv K' S' => rv = some (IV v) ∧ K' = K ∧ RS K S' pl e its ∧ Wr S S'
theorem p_R_takes0 {h w f t : Int} (hR : RS K S pl e its) (hh : 0 ≤ h ∧ h < 5) (h0 : pWa pl h = 0) : P G 3 0 0 mX11_takes 0 (LE mX11_takes [.ref 453, IV h, IV w, IV f, IV t]) [] K S (TKQ K S pl e its 1) := by
  have m0 := hR.1.1
  have m1 := hR.1.2.1
  have e1 := hR.2.2.2.1.2.1 h hh.1 hh.2
  rw [h0] at e1
  rw [show LE mX11_takes [.ref 453, IV h, IV w, IV f, IV t] = [some (.ref 453), some (IV h), some (IV w), some (IV f), some (IV t), none, none] from rfl]
  refine T_aload_n dX11_takes_0 rfl rfl ?_
  refine P_getr dX11_takes_1 fX11_7 (by assumption) rfl ?_
  refine I_bipush dX11_takes_4 (by decide) ?_
  refine I_iconst dX11_takes_6 ?_
  refine T_iload_n dX11_takes_7 rfl ?_
  refine I_imul dX11_takes_8 ?_
  refine I_iadd dX11_takes_9 ?_
  refine P_iald dX11_takes_10 (by assumption) ⟨by omega, by omega⟩ (by first | decide | omega) ?_
  rw [e1]
  refine I_if_ne (tgt := 16) dX11_takes_11 (by decide) ⟨by omega, by omega⟩ (fun h11 => ?_) (fun h11 => ?_)
  · exact absurd rfl h11
  · refine I_iconst dX11_takes_14 ?_
    exact I_zreturn dX11_takes_15 rfl (by decide) ⟨_, _, rfl, rfl, rfl, hR, Wr.rf⟩
theorem p_R_takes1 {h w f t : Int} (hR : RS K S pl e its) (hh : 0 ≤ h ∧ h < 5) (h0 : pWa pl h ≠ 0) (r1 : R32 w) (r2 : R32 f) (r3 : R32 t) (hc : 0 ≤ eCl e ∧ eCl e < 1073741824) (hb : ∀ r ∈ eSg e h, 0 ≤ r 3 ∧ r 3 < 1073741824) : P G 3 0 0 mX11_takes 0 (LE mX11_takes [.ref 453, IV h, IV w, IV f, IV t]) [] K S (TKQ K S pl (eSgS e (fset (eSg e) h (letsM (eSg e h) w f t (eCl e)).1)) its (if (letsM (eSg e h) w f t (eCl e)).2 then 1 else 0)) := by
  have m0 := hR.1.1
  have m1 := hR.1.2.1
  have e1 := hR.2.2.2.1.2.1 h hh.1 hh.2
  have e2 : aI S 454 2 = eCl e := hR.2.2.2.2.1.1
  have r0 : R32 (pWa pl h) := by rw [← e1]; exact hR.2.1.2 _ _
  obtain ⟨g1, g2, g3⟩ := hR.sg hh
  cases hi : (eSg e h).findIdx? (strIs w f t) with
  | none =>
    have hl : letsM (eSg e h) w f t (eCl e) = (pushN 8 (eSg e h) (row5 w f t (eCl e) 0), false) := by simp only [letsM, hi]
    rw [hl]
    rw [show LE mX11_takes [.ref 453, IV h, IV w, IV f, IV t] = [some (.ref 453), some (IV h), some (IV w), some (IV f), some (IV t), none, none] from rfl]
    refine T_aload_n dX11_takes_0 rfl rfl ?_
    refine P_getr dX11_takes_1 fX11_7 (by assumption) rfl ?_
    refine I_bipush dX11_takes_4 (by decide) ?_
    refine I_iconst dX11_takes_6 ?_
    refine T_iload_n dX11_takes_7 rfl ?_
    refine I_imul dX11_takes_8 ?_
    refine I_iadd dX11_takes_9 ?_
    refine P_iald dX11_takes_10 (by assumption) ⟨by omega, by omega⟩ (by first | decide | omega) ?_
    rw [e1]
    refine I_if_ne (tgt := 16) dX11_takes_11 (by decide) r0 (fun h11 => ?_) (fun h11 => ?_)
    · refine T_aload_n dX11_takes_16 rfl rfl ?_
      refine T_iload_n dX11_takes_17 rfl ?_
      refine T_iload_n dX11_takes_18 rfl ?_
      refine T_iload_n dX11_takes_19 rfl ?_
      refine T_iload dX11_takes_20 rfl ?_
      refine Q_callV dX11_takes_22 kX11_whichStranger lX11_225 (by assumption) rfl (p_R_which hR hh r1 r2 r3) rfl rfl (Nat.le_of_ble_eq_true rfl) (Nat.le_of_ble_eq_true rfl) (by decide) (by decide) ?_
      rw [hi]
      refine T_istore dX11_takes_25 (by decide) rfl ?_
      refine T_iload dX11_takes_27 rfl ?_
      refine I_bipush dX11_takes_29 (by decide) ?_
      refine I_icmp_ne (tgt := 45) dX11_takes_31 (by decide) (by decide) ⟨by omega, by omega⟩ (fun h31 => ?_) (fun h31 => ?_)
      · exact absurd rfl h31
      · refine T_aload_n dX11_takes_34 rfl rfl ?_
        refine T_iload_n dX11_takes_35 rfl ?_
        refine T_iload_n dX11_takes_36 rfl ?_
        refine T_iload_n dX11_takes_37 rfl ?_
        refine T_iload dX11_takes_38 rfl ?_
        refine R_callV dX11_takes_40 kX11_putsDown lX11_229 (by assumption) rfl (p_R_putsDown hR hh r1 r2 r3 ⟨by omega, by omega⟩) rfl rfl (Nat.le_of_ble_eq_true rfl) (Nat.le_of_ble_eq_true rfl) (by decide) (by decide) (fun r_ K_ S_ q_ => ?_)
        obtain ⟨rfl, hKe, hq⟩ := q_
        have hKe := hKe.symm
        subst hKe
        refine I_iconst dX11_takes_43 ?_
        exact I_zreturn dX11_takes_44 rfl (by decide) ⟨_, _, rfl, rfl, rfl, hq⟩
    · exact absurd h11 h0
  | some i =>
    have hlt : i < (eSg e h).length := (List.findIdx?_eq_some_iff_getElem.mp hi).1
    have hg : (eSg e h)[i]? = some ((eSg e h).getD i (fun _ => 0)) := by rw [List.getD_eq_getElem?_getD, List.getElem?_eq_getElem hlt]; rfl
    have hle : letsM (eSg e h) w f t (eCl e) = if ((eSg e h).getD i (fun _ => 0)) 4 = 1 ∨ 3 ≤ eCl e - ((eSg e h).getD i (fun _ => 0)) 3 ∧ eCl e - ((eSg e h).getD i (fun _ => 0)) 3 ≤ 20 then ((eSg e h).set i (rset ((eSg e h).getD i (fun _ => 0)) 4 1), true) else if 20 < eCl e - ((eSg e h).getD i (fun _ => 0)) 3 then ((eSg e h).eraseIdx i ++ [row5 w f t (eCl e) 0], false) else (eSg e h, false) := by simp only [letsM, hi]
    generalize (eSg e h).getD i (fun _ => 0) = x at hle hg
    have hb3 := hb _ (List.mem_of_getElem? hg)
    have e4r : R32 (x 4) := by rw [← g3 i x hg 4 (by omega)]; exact hR.2.1.2 _ _
    have w3 : P G 1 0 0 mX11_ofStranger 0 (LE mX11_ofStranger [.ref 453, IV h, IV i, IV 3]) [] K S (Ret K (some (IV (x 3))) S) := p_R_ofStranger (G := G) (k := 3) hR hh hg ⟨by omega, by omega⟩
    have w4 : P G 1 0 0 mX11_ofStranger 0 (LE mX11_ofStranger [.ref 453, IV h, IV i, IV 4]) [] K S (Ret K (some (IV (x 4))) S) := p_R_ofStranger (G := G) (k := 4) hR hh hg ⟨by omega, by omega⟩
    have hw : whichI ((eSg e h).findIdx? (strIs w f t)) = i := by rw [hi]; rfl
    have hmk : RS K (sA S 454 (598 + 41 * h + 1 + 5 * (i : Int) + 4) 1) pl (eSgS e (fset (eSg e) h ((eSg e h).set i (rset x 4 1)))) its := by
      refine hR.sgs hh (hR.2.1.sA (by decide)) ?_ ?_ ?_ ?_
      · rw [aS, fset_f _ _ (by omega), List.length_set]; exact g1
      · rw [List.length_set]; exact g2
      · intro j r hj k hk
        have hjl := (List.getElem?_eq_some_iff.mp hj).1
        rw [List.length_set] at hjl
        rw [aS]
        by_cases hji : i = j
        · subst hji
          rw [List.getElem?_set_self hlt] at hj
          injection hj with hj
          subst hj
          unfold rset
          by_cases hk4 : k = 4
          · rw [if_pos hk4, fset_e _ _ (by omega)]
          · rw [if_neg hk4, fset_f _ _ (by omega)]
            exact g3 i x hg k hk
        · rw [List.getElem?_set_ne hji] at hj
          rw [fset_f _ _ (by omega)]
          exact g3 j r hj k hk
      · intro j a
        rw [aS, fset_f _ _ (by omega)]
    by_cases hcd : x 4 = 1 ∨ 3 ≤ eCl e - x 3 ∧ eCl e - x 3 ≤ 20
    · rw [if_pos hcd] at hle
      rw [hle]
      rw [show LE mX11_takes [.ref 453, IV h, IV w, IV f, IV t] = [some (.ref 453), some (IV h), some (IV w), some (IV f), some (IV t), none, none] from rfl]
      refine T_aload_n dX11_takes_0 rfl rfl ?_
      refine P_getr dX11_takes_1 fX11_7 (by assumption) rfl ?_
      refine I_bipush dX11_takes_4 (by decide) ?_
      refine I_iconst dX11_takes_6 ?_
      refine T_iload_n dX11_takes_7 rfl ?_
      refine I_imul dX11_takes_8 ?_
      refine I_iadd dX11_takes_9 ?_
      refine P_iald dX11_takes_10 (by assumption) ⟨by omega, by omega⟩ (by first | decide | omega) ?_
      rw [e1]
      refine I_if_ne (tgt := 16) dX11_takes_11 (by decide) r0 (fun h11 => ?_) (fun h11 => ?_)
      · refine T_aload_n dX11_takes_16 rfl rfl ?_
        refine T_iload_n dX11_takes_17 rfl ?_
        refine T_iload_n dX11_takes_18 rfl ?_
        refine T_iload_n dX11_takes_19 rfl ?_
        refine T_iload dX11_takes_20 rfl ?_
        refine Q_callV dX11_takes_22 kX11_whichStranger lX11_225 (by assumption) rfl (p_R_which hR hh r1 r2 r3) rfl rfl (Nat.le_of_ble_eq_true rfl) (Nat.le_of_ble_eq_true rfl) (by decide) (by decide) ?_
        rw [hw]
        refine T_istore dX11_takes_25 (by decide) rfl ?_
        refine T_iload dX11_takes_27 rfl ?_
        refine I_bipush dX11_takes_29 (by decide) ?_
        refine I_icmp_ne (tgt := 45) dX11_takes_31 (by decide) ⟨by omega, by omega⟩ ⟨by omega, by omega⟩ (fun h31 => ?_) (fun h31 => ?_)
        · refine T_aload_n dX11_takes_45 rfl rfl ?_
          refine P_getr dX11_takes_46 fX11_7 (by assumption) rfl ?_
          refine I_iconst dX11_takes_49 ?_
          refine P_iald dX11_takes_50 (by assumption) ⟨by omega, by omega⟩ (by first | decide | omega) ?_
          rw [e2]
          refine T_aload_n dX11_takes_51 rfl rfl ?_
          refine T_iload_n dX11_takes_52 rfl ?_
          refine T_iload dX11_takes_53 rfl ?_
          refine I_iconst dX11_takes_55 ?_
          refine Q_callV dX11_takes_56 kX11_ofStranger lX11_170 (by assumption) rfl w3 rfl rfl (Nat.le_of_ble_eq_true rfl) (Nat.le_of_ble_eq_true rfl) (by decide) (by decide) ?_
          refine I_isub dX11_takes_59 ?_
          refine T_istore dX11_takes_60 (by decide) rfl ?_
          refine T_aload_n dX11_takes_62 rfl rfl ?_
          refine T_iload_n dX11_takes_63 rfl ?_
          refine T_iload dX11_takes_64 rfl ?_
          refine I_iconst dX11_takes_66 ?_
          refine Q_callV dX11_takes_67 kX11_ofStranger lX11_170 (by assumption) rfl w4 rfl rfl (Nat.le_of_ble_eq_true rfl) (Nat.le_of_ble_eq_true rfl) (by decide) (by decide) ?_
          refine I_iconst dX11_takes_70 ?_
          refine I_icmp_eq (tgt := 89) dX11_takes_71 (by decide) e4r ⟨by omega, by omega⟩ (fun h71 => ?_) (fun h71 => ?_)
          · refine T_aload_n dX11_takes_89 rfl rfl ?_
            refine P_getr dX11_takes_90 fX11_7 (by assumption) rfl ?_
            refine T_aload_n dX11_takes_93 rfl rfl ?_
            refine T_iload_n dX11_takes_94 rfl ?_
            refine T_iload dX11_takes_95 rfl ?_
            refine Q_callV dX11_takes_97 kX11_strangerAt lX11_218 (by assumption) rfl p_R_strangerAt rfl rfl (Nat.le_of_ble_eq_true rfl) (Nat.le_of_ble_eq_true rfl) (by decide) (by decide) ?_
            refine I_iconst dX11_takes_100 ?_
            refine I_iadd dX11_takes_101 ?_
            refine I_iconst dX11_takes_102 ?_
            refine P_iast dX11_takes_103 (by assumption) ⟨by omega, by omega⟩ (by first | decide | omega) ?_
            refine I_iconst dX11_takes_104 ?_
            exact I_zreturn dX11_takes_105 rfl (by decide) ⟨_, _, rfl, rfl, rfl, hmk, Wr.sA (Or.inl rfl)⟩
          · refine T_iload dX11_takes_74 rfl ?_
            refine I_i2l dX11_takes_76 ⟨by omega, by omega⟩ ?_
            refine I_ldc2 (n := 3) dX11_takes_77 qX11_195 rfl ?_
            refine I_ldc2 (n := 20) dX11_takes_80 qX11_232 rfl ?_
            refine Q_callS dX11_takes_83 kX11_in lX11_52 (p_in ⟨by omega, by omega⟩ (by decide) (by decide)) rfl rfl (Nat.le_of_ble_eq_true rfl) (Nat.le_of_ble_eq_true rfl) (by decide) (by decide) ?_
            refine I_if_eq (tgt := 106) dX11_takes_86 (by decide) (by rcases b2p_01 (inB (eCl e - x 3) 3 20) with z | z <;> rw [z] <;> decide) (fun h86 => ?_) (fun h86 => ?_)
            · exact absurd (b2p_t (show inB (eCl e - x 3) 3 20 from hcd.resolve_left h71)) (by omega)
            · refine T_aload_n dX11_takes_89 rfl rfl ?_
              refine P_getr dX11_takes_90 fX11_7 (by assumption) rfl ?_
              refine T_aload_n dX11_takes_93 rfl rfl ?_
              refine T_iload_n dX11_takes_94 rfl ?_
              refine T_iload dX11_takes_95 rfl ?_
              refine Q_callV dX11_takes_97 kX11_strangerAt lX11_218 (by assumption) rfl p_R_strangerAt rfl rfl (Nat.le_of_ble_eq_true rfl) (Nat.le_of_ble_eq_true rfl) (by decide) (by decide) ?_
              refine I_iconst dX11_takes_100 ?_
              refine I_iadd dX11_takes_101 ?_
              refine I_iconst dX11_takes_102 ?_
              refine P_iast dX11_takes_103 (by assumption) ⟨by omega, by omega⟩ (by first | decide | omega) ?_
              refine I_iconst dX11_takes_104 ?_
              exact I_zreturn dX11_takes_105 rfl (by decide) ⟨_, _, rfl, rfl, rfl, hmk, Wr.sA (Or.inl rfl)⟩
        · omega
      · exact absurd h11 h0
    · rw [if_neg hcd] at hle
      have hnb : b2p (inB (eCl e - x 3) 3 20) = 0 := b2p_f (fun z => hcd (Or.inr z))
      by_cases h20 : 20 < eCl e - x 3
      · rw [if_pos h20] at hle
        rw [hle]
        rw [show LE mX11_takes [.ref 453, IV h, IV w, IV f, IV t] = [some (.ref 453), some (IV h), some (IV w), some (IV f), some (IV t), none, none] from rfl]
        refine T_aload_n dX11_takes_0 rfl rfl ?_
        refine P_getr dX11_takes_1 fX11_7 (by assumption) rfl ?_
        refine I_bipush dX11_takes_4 (by decide) ?_
        refine I_iconst dX11_takes_6 ?_
        refine T_iload_n dX11_takes_7 rfl ?_
        refine I_imul dX11_takes_8 ?_
        refine I_iadd dX11_takes_9 ?_
        refine P_iald dX11_takes_10 (by assumption) ⟨by omega, by omega⟩ (by first | decide | omega) ?_
        rw [e1]
        refine I_if_ne (tgt := 16) dX11_takes_11 (by decide) r0 (fun h11 => ?_) (fun h11 => ?_)
        · refine T_aload_n dX11_takes_16 rfl rfl ?_
          refine T_iload_n dX11_takes_17 rfl ?_
          refine T_iload_n dX11_takes_18 rfl ?_
          refine T_iload_n dX11_takes_19 rfl ?_
          refine T_iload dX11_takes_20 rfl ?_
          refine Q_callV dX11_takes_22 kX11_whichStranger lX11_225 (by assumption) rfl (p_R_which hR hh r1 r2 r3) rfl rfl (Nat.le_of_ble_eq_true rfl) (Nat.le_of_ble_eq_true rfl) (by decide) (by decide) ?_
          rw [hw]
          refine T_istore dX11_takes_25 (by decide) rfl ?_
          refine T_iload dX11_takes_27 rfl ?_
          refine I_bipush dX11_takes_29 (by decide) ?_
          refine I_icmp_ne (tgt := 45) dX11_takes_31 (by decide) ⟨by omega, by omega⟩ ⟨by omega, by omega⟩ (fun h31 => ?_) (fun h31 => ?_)
          · refine T_aload_n dX11_takes_45 rfl rfl ?_
            refine P_getr dX11_takes_46 fX11_7 (by assumption) rfl ?_
            refine I_iconst dX11_takes_49 ?_
            refine P_iald dX11_takes_50 (by assumption) ⟨by omega, by omega⟩ (by first | decide | omega) ?_
            rw [e2]
            refine T_aload_n dX11_takes_51 rfl rfl ?_
            refine T_iload_n dX11_takes_52 rfl ?_
            refine T_iload dX11_takes_53 rfl ?_
            refine I_iconst dX11_takes_55 ?_
            refine Q_callV dX11_takes_56 kX11_ofStranger lX11_170 (by assumption) rfl w3 rfl rfl (Nat.le_of_ble_eq_true rfl) (Nat.le_of_ble_eq_true rfl) (by decide) (by decide) ?_
            refine I_isub dX11_takes_59 ?_
            refine T_istore dX11_takes_60 (by decide) rfl ?_
            refine T_aload_n dX11_takes_62 rfl rfl ?_
            refine T_iload_n dX11_takes_63 rfl ?_
            refine T_iload dX11_takes_64 rfl ?_
            refine I_iconst dX11_takes_66 ?_
            refine Q_callV dX11_takes_67 kX11_ofStranger lX11_170 (by assumption) rfl w4 rfl rfl (Nat.le_of_ble_eq_true rfl) (Nat.le_of_ble_eq_true rfl) (by decide) (by decide) ?_
            refine I_iconst dX11_takes_70 ?_
            refine I_icmp_eq (tgt := 89) dX11_takes_71 (by decide) e4r ⟨by omega, by omega⟩ (fun h71 => ?_) (fun h71 => ?_)
            · exact absurd (Or.inl h71) hcd
            · refine T_iload dX11_takes_74 rfl ?_
              refine I_i2l dX11_takes_76 ⟨by omega, by omega⟩ ?_
              refine I_ldc2 (n := 3) dX11_takes_77 qX11_195 rfl ?_
              refine I_ldc2 (n := 20) dX11_takes_80 qX11_232 rfl ?_
              refine Q_callS dX11_takes_83 kX11_in lX11_52 (p_in ⟨by omega, by omega⟩ (by decide) (by decide)) rfl rfl (Nat.le_of_ble_eq_true rfl) (Nat.le_of_ble_eq_true rfl) (by decide) (by decide) ?_
              rw [hnb]
              refine I_if_eq (tgt := 106) dX11_takes_86 (by decide) ⟨by omega, by omega⟩ (fun h86 => ?_) (fun h86 => ?_)
              · refine T_iload dX11_takes_106 rfl ?_
                refine I_bipush dX11_takes_108 (by decide) ?_
                refine I_icmp_le (tgt := 129) dX11_takes_110 (by decide) ⟨by omega, by omega⟩ ⟨by omega, by omega⟩ (fun h110 => ?_) (fun h110 => ?_)
                · omega
                · refine T_aload_n dX11_takes_113 rfl rfl ?_
                  refine T_iload_n dX11_takes_114 rfl ?_
                  refine T_iload dX11_takes_115 rfl ?_
                  refine R_callV dX11_takes_117 kX11_forgets lX11_221 (by assumption) rfl (p_R_forgets hR hh hlt) rfl rfl (Nat.le_of_ble_eq_true rfl) (Nat.le_of_ble_eq_true rfl) (by decide) (by decide) (fun r_ K_ S_ q_ => ?_)
                  obtain ⟨rfl, hKe, hq, hw1⟩ := q_
                  have hKe := hKe.symm
                  subst hKe
                  have es : eSg (eSgS e (fset (eSg e) h ((eSg e h).eraseIdx i))) h = (eSg e h).eraseIdx i := fset_t _ _ _
                  have zz := p_R_putsDown (G := G) (w := w) (f := f) (t := t) hq hh r1 r2 r3 (show R32 (eCl e) from ⟨by omega, by omega⟩)
                  rw [es, pushN, if_pos (by rw [List.length_eraseIdx, if_pos hlt]; omega)] at zz
                  have zz : P G 2 0 0 mX11_putsDown 0 (LE mX11_putsDown [.ref 453, IV h, IV w, IV f, IV t]) [] K S_ (RSQ K S_ pl (eSgS e (fset (fset (eSg e) h ((eSg e h).eraseIdx i)) h ((eSg e h).eraseIdx i ++ [row5 w f t (eCl e) 0]))) its) := zz
                  rw [fset2] at zz
                  refine T_aload_n dX11_takes_120 rfl rfl ?_
                  refine T_iload_n dX11_takes_121 rfl ?_
                  refine T_iload_n dX11_takes_122 rfl ?_
                  refine T_iload_n dX11_takes_123 rfl ?_
                  refine T_iload dX11_takes_124 rfl ?_
                  refine R_callV dX11_takes_126 kX11_putsDown lX11_229 (by assumption) rfl zz rfl rfl (Nat.le_of_ble_eq_true rfl) (Nat.le_of_ble_eq_true rfl) (by decide) (by decide) (fun r_ K_ S_ q_ => ?_)
                  obtain ⟨rfl, hKe, hq2, hw2⟩ := q_
                  have hKe := hKe.symm
                  subst hKe
                  refine I_iconst dX11_takes_129 ?_
                  exact I_zreturn dX11_takes_130 rfl (by decide) ⟨_, _, rfl, rfl, rfl, hq2, hw1.tr hw2⟩
              · exact absurd rfl h86
          · omega
        · exact absurd h11 h0
      · rw [if_neg h20] at hle
        rw [hle]
        have hid : eSgS e (fset (eSg e) h (eSg e h)) = e := by
          have : fset (eSg e) h (eSg e h) = eSg e := by
            funext y
            by_cases hy : y = h
            · rw [fset_e _ _ hy, hy]
            · rw [fset_f _ _ hy]
          rw [this]
          rfl
        rw [show LE mX11_takes [.ref 453, IV h, IV w, IV f, IV t] = [some (.ref 453), some (IV h), some (IV w), some (IV f), some (IV t), none, none] from rfl]
        refine T_aload_n dX11_takes_0 rfl rfl ?_
        refine P_getr dX11_takes_1 fX11_7 (by assumption) rfl ?_
        refine I_bipush dX11_takes_4 (by decide) ?_
        refine I_iconst dX11_takes_6 ?_
        refine T_iload_n dX11_takes_7 rfl ?_
        refine I_imul dX11_takes_8 ?_
        refine I_iadd dX11_takes_9 ?_
        refine P_iald dX11_takes_10 (by assumption) ⟨by omega, by omega⟩ (by first | decide | omega) ?_
        rw [e1]
        refine I_if_ne (tgt := 16) dX11_takes_11 (by decide) r0 (fun h11 => ?_) (fun h11 => ?_)
        · refine T_aload_n dX11_takes_16 rfl rfl ?_
          refine T_iload_n dX11_takes_17 rfl ?_
          refine T_iload_n dX11_takes_18 rfl ?_
          refine T_iload_n dX11_takes_19 rfl ?_
          refine T_iload dX11_takes_20 rfl ?_
          refine Q_callV dX11_takes_22 kX11_whichStranger lX11_225 (by assumption) rfl (p_R_which hR hh r1 r2 r3) rfl rfl (Nat.le_of_ble_eq_true rfl) (Nat.le_of_ble_eq_true rfl) (by decide) (by decide) ?_
          rw [hw]
          refine T_istore dX11_takes_25 (by decide) rfl ?_
          refine T_iload dX11_takes_27 rfl ?_
          refine I_bipush dX11_takes_29 (by decide) ?_
          refine I_icmp_ne (tgt := 45) dX11_takes_31 (by decide) ⟨by omega, by omega⟩ ⟨by omega, by omega⟩ (fun h31 => ?_) (fun h31 => ?_)
          · refine T_aload_n dX11_takes_45 rfl rfl ?_
            refine P_getr dX11_takes_46 fX11_7 (by assumption) rfl ?_
            refine I_iconst dX11_takes_49 ?_
            refine P_iald dX11_takes_50 (by assumption) ⟨by omega, by omega⟩ (by first | decide | omega) ?_
            rw [e2]
            refine T_aload_n dX11_takes_51 rfl rfl ?_
            refine T_iload_n dX11_takes_52 rfl ?_
            refine T_iload dX11_takes_53 rfl ?_
            refine I_iconst dX11_takes_55 ?_
            refine Q_callV dX11_takes_56 kX11_ofStranger lX11_170 (by assumption) rfl w3 rfl rfl (Nat.le_of_ble_eq_true rfl) (Nat.le_of_ble_eq_true rfl) (by decide) (by decide) ?_
            refine I_isub dX11_takes_59 ?_
            refine T_istore dX11_takes_60 (by decide) rfl ?_
            refine T_aload_n dX11_takes_62 rfl rfl ?_
            refine T_iload_n dX11_takes_63 rfl ?_
            refine T_iload dX11_takes_64 rfl ?_
            refine I_iconst dX11_takes_66 ?_
            refine Q_callV dX11_takes_67 kX11_ofStranger lX11_170 (by assumption) rfl w4 rfl rfl (Nat.le_of_ble_eq_true rfl) (Nat.le_of_ble_eq_true rfl) (by decide) (by decide) ?_
            refine I_iconst dX11_takes_70 ?_
            refine I_icmp_eq (tgt := 89) dX11_takes_71 (by decide) e4r ⟨by omega, by omega⟩ (fun h71 => ?_) (fun h71 => ?_)
            · exact absurd (Or.inl h71) hcd
            · refine T_iload dX11_takes_74 rfl ?_
              refine I_i2l dX11_takes_76 ⟨by omega, by omega⟩ ?_
              refine I_ldc2 (n := 3) dX11_takes_77 qX11_195 rfl ?_
              refine I_ldc2 (n := 20) dX11_takes_80 qX11_232 rfl ?_
              refine Q_callS dX11_takes_83 kX11_in lX11_52 (p_in ⟨by omega, by omega⟩ (by decide) (by decide)) rfl rfl (Nat.le_of_ble_eq_true rfl) (Nat.le_of_ble_eq_true rfl) (by decide) (by decide) ?_
              rw [hnb]
              refine I_if_eq (tgt := 106) dX11_takes_86 (by decide) ⟨by omega, by omega⟩ (fun h86 => ?_) (fun h86 => ?_)
              · refine T_iload dX11_takes_106 rfl ?_
                refine I_bipush dX11_takes_108 (by decide) ?_
                refine I_icmp_le (tgt := 129) dX11_takes_110 (by decide) ⟨by omega, by omega⟩ ⟨by omega, by omega⟩ (fun h110 => ?_) (fun h110 => ?_)
                · refine I_iconst dX11_takes_129 ?_
                  exact I_zreturn dX11_takes_130 rfl (by decide) ⟨_, _, rfl, rfl, rfl, by rw [hid]; exact hR, Wr.rf⟩
                · omega
              · exact absurd rfl h86
          · omega
        · exact absurd h11 h0
end RF3
