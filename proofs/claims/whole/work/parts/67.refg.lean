/-! the reference: it bounces, it is given -/
section RF5
variable {G : GT} {K : List SH} {S : SV} {pl : PL} {e : EN} {its : List Row} {N : Int} {i : Nat} {x : Row}
theorem p_of0 (hR : RS K S pl e its) (hi : its[i]? = some x) : P G 0 0 0 mX11_ofItem 0 (LE mX11_ofItem [.ref 453, IV i, IV 0]) [] K S (Ret K (some (IV (x 0))) S) := p_R_ofItem (k := 0) hR hi ⟨by omega, by omega⟩
theorem p_of1 (hR : RS K S pl e its) (hi : its[i]? = some x) : P G 0 0 0 mX11_ofItem 0 (LE mX11_ofItem [.ref 453, IV i, IV 1]) [] K S (Ret K (some (IV (x 1))) S) := p_R_ofItem (k := 1) hR hi ⟨by omega, by omega⟩
theorem p_of2 (hR : RS K S pl e its) (hi : its[i]? = some x) : P G 0 0 0 mX11_ofItem 0 (LE mX11_ofItem [.ref 453, IV i, IV 2]) [] K S (Ret K (some (IV (x 2))) S) := p_R_ofItem (k := 2) hR hi ⟨by omega, by omega⟩
theorem p_of3 (hR : RS K S pl e its) (hi : its[i]? = some x) : P G 0 0 0 mX11_ofItem 0 (LE mX11_ofItem [.ref 453, IV i, IV 3]) [] K S (Ret K (some (IV (x 3))) S) := p_R_ofItem (k := 3) hR hi ⟨by omega, by omega⟩
theorem p_of4 (hR : RS K S pl e its) (hi : its[i]? = some x) : P G 0 0 0 mX11_ofItem 0 (LE mX11_ofItem [.ref 453, IV i, IV 4]) [] K S (Ret K (some (IV (x 4))) S) := p_R_ofItem (k := 4) hR hi ⟨by omega, by omega⟩
theorem p_of5 (hR : RS K S pl e its) (hi : its[i]? = some x) : P G 0 0 0 mX11_ofItem 0 (LE mX11_ofItem [.ref 453, IV i, IV 5]) [] K S (Ret K (some (IV (x 5))) S) := p_R_ofItem (k := 5) hR hi ⟨by omega, by omega⟩
theorem p_of6 (hR : RS K S pl e its) (hi : its[i]? = some x) : P G 0 0 0 mX11_ofItem 0 (LE mX11_ofItem [.ref 453, IV i, IV 6]) [] K S (Ret K (some (IV (x 6))) S) := p_R_ofItem (k := 6) hR hi ⟨by omega, by omega⟩
theorem p_of7 (hR : RS K S pl e its) (hi : its[i]? = some x) : P G 0 0 0 mX11_ofItem 0 (LE mX11_ofItem [.ref 453, IV i, IV 7]) [] K S (Ret K (some (IV (x 7))) S) := p_R_ofItem (k := 7) hR hi ⟨by omega, by omega⟩
theorem RS.leN {v : Int} (hR : RS K S pl e its) (hv : R32 v) : RS K (sA S 454 3 v) pl (eLeS e v) its := by
  obtain ⟨h1, h2, h3, h4, h5, h6, h7, h8, h9, h10⟩ := hR
  have ho : ∀ j, j ≠ 3 → aI (sA S 454 3 v) 454 j = aI S 454 j := fun j z => by rw [aS, fset_f _ _ z]
  exact ⟨h1, h2.sA hv, h3, h4.cg h3 (fun j z => ho j (by omega)), ⟨(ho _ (by omega)).trans h5.1, by rw [aS, fset_t]; rfl, (ho _ (by omega)).trans h5.2.2⟩, h6.cg (fun j z => ho j (by omega)), LgC.cg h7 (fun j z => ho j (by omega)), UpC.cg h8 (fun j z => ho j (by omega)), BxC.cg h9 (fun j z => ho j (by omega)), SgC.cg h10 (fun j z => ho j (by omega))⟩
theorem RS.olN {v : Int} (hR : RS K S pl e its) (hv : R32 v) : RS K (sA S 454 6 v) pl (eOlS e v) its := by
  obtain ⟨h1, h2, h3, h4, h5, h6, h7, h8, h9, h10⟩ := hR
  have ho : ∀ j, j ≠ 6 → aI (sA S 454 6 v) 454 j = aI S 454 j := fun j z => by rw [aS, fset_f _ _ z]
  exact ⟨h1, h2.sA hv, h3, h4.cg h3 (fun j z => ho j (by omega)), ⟨(ho _ (by omega)).trans h5.1, (ho _ (by omega)).trans h5.2.1, by rw [aS, fset_t]; rfl⟩, h6.cg (fun j z => ho j (by omega)), LgC.cg h7 (fun j z => ho j (by omega)), UpC.cg h8 (fun j z => ho j (by omega)), BxC.cg h9 (fun j z => ho j (by omega)), SgC.cg h10 (fun j z => ho j (by omega))⟩
theorem RS.clN {v : Int} (hR : RS K S pl e its) (hv : R32 v) : RS K (sA S 454 2 v) pl (eClS e v) its := by
  obtain ⟨h1, h2, h3, h4, h5, h6, h7, h8, h9, h10⟩ := hR
  have ho : ∀ j, j ≠ 2 → aI (sA S 454 2 v) 454 j = aI S 454 j := fun j z => by rw [aS, fset_f _ _ z]
  exact ⟨h1, h2.sA hv, h3, h4.cg h3 (fun j z => ho j (by omega)), ⟨by rw [aS, fset_t]; rfl, (ho _ (by omega)).trans h5.2.1, (ho _ (by omega)).trans h5.2.2⟩, h6.cg (fun j z => ho j (by omega)), LgC.cg h7 (fun j z => ho j (by omega)), UpC.cg h8 (fun j z => ho j (by omega)), BxC.cg h9 (fun j z => ho j (by omega)), SgC.cg h10 (fun j z => ho j (by omega))⟩
/-- what of the numbers a log needs -/
theorem EnB.lg (hE : EnB N e) {w : Int} (hw : 0 ≤ w ∧ w < 9) : R32 (eCl e) ∧ R32 (eCl e + 1) ∧ R32 (eTy e w + 1) ∧ R32 (eLe e) ∧ R32 (eLe e + 1) := by
  have h1 := hE.1
  have h2 := hE.2.1
  have h3 := hE.2.2.2.2.1 w hw.1 hw.2
  have h4 := hE.2.2.2.2.2.2
  exact ⟨⟨by omega, by omega⟩, ⟨by omega, by omega⟩, ⟨by omega, by omega⟩, ⟨by omega, by omega⟩, ⟨by omega, by omega⟩⟩
theorem p_R_bounces (hR : RS K S pl e its) (hi : its[i]? = some x) (hx : RowB N pl x) (hE : EnB N e) : P G 2 0 0 mX11_bounces 0 (LE mX11_bounces [.ref 453, IV i]) [] K S (RSQ K S pl (bounceM e x).1 (its.eraseIdx i ++ (bounceM e x).2)) := by
  have m0 := hR.1.1
  have m1 := hR.1.2.1
  have hlt := (List.getElem?_eq_some_iff.mp hi).1
  have h60 := hR.n60
  obtain ⟨x0, x1, x2, x3, x4, x5, x6, x7⟩ := hx
  have hb5 := hR.2.2.1.1
  have hel : (its.eraseIdx i).length = its.length - 1 := List.length_eraseIdx_of_lt hlt
  unfold bounceM
  by_cases h2 : x 2 = -4
  · rw [if_pos h2]
    obtain ⟨l1, l2, l3, l4, l5⟩ := hE.lg (w := 8) ⟨by omega, by omega⟩
    show P G 2 0 0 mX11_bounces 0 (LE mX11_bounces [.ref 453, IV i]) [] K S (RSQ K S pl (logI e 8 x (x 0)) (its.eraseIdx i ++ []))
    rw [List.append_nil]
    rw [show LE mX11_bounces [.ref 453, IV i] = [some (.ref 453), some (IV i), none, none] from rfl]
    refine T_aload_n dX11_bounces_0 rfl rfl ?_
    refine T_iload_n dX11_bounces_1 rfl ?_
    refine I_iconst dX11_bounces_2 ?_
    refine Q_callV dX11_bounces_3 kX11_ofItem lX11_164 (by assumption) rfl (p_of0 hR hi) rfl rfl (Nat.le_of_ble_eq_true rfl) (Nat.le_of_ble_eq_true rfl) (by decide) (by decide) ?_
    refine T_istore_n dX11_bounces_6 (by decide) rfl ?_
    refine T_aload_n dX11_bounces_7 rfl rfl ?_
    refine T_iload_n dX11_bounces_8 rfl ?_
    refine I_iconst dX11_bounces_9 ?_
    refine Q_callV dX11_bounces_10 kX11_ofItem lX11_164 (by assumption) rfl (p_of2 hR hi) rfl rfl (Nat.le_of_ble_eq_true rfl) (Nat.le_of_ble_eq_true rfl) (by decide) (by decide) ?_
    refine T_istore_n dX11_bounces_13 (by decide) rfl ?_
    refine T_aload_n dX11_bounces_14 rfl rfl ?_
    refine T_iload_n dX11_bounces_15 rfl ?_
    refine I_bipush dX11_bounces_16 (by decide) ?_
    refine I_icmp_ne (tgt := 26) dX11_bounces_18 (by decide) ⟨by omega, by omega⟩ ⟨by omega, by omega⟩ (fun h18 => ?_) (fun h18 => ?_)
    · omega
    · refine I_bipush dX11_bounces_21 (by decide) ?_
      refine T_goto (tgt := 28) dX11_bounces_23 (by decide) ?_
      refine T_iload_n dX11_bounces_28 rfl ?_
      refine T_iload_n dX11_bounces_29 rfl ?_
      refine R_callV dX11_bounces_30 kX11_logsItem lX11_234 (by assumption) rfl (p_R_logsItem hR hi ⟨by omega, by omega⟩ ⟨by omega, by omega⟩ l1 l3) rfl rfl (Nat.le_of_ble_eq_true rfl) (Nat.le_of_ble_eq_true rfl) (by decide) (by decide) (fun r_ K_ S_ q_ => ?_)
      obtain ⟨rfl, hKe, hq, hw1⟩ := q_
      have hKe := hKe.symm
      subst hKe
      refine T_aload_n dX11_bounces_33 rfl rfl ?_
      refine T_iload_n dX11_bounces_34 rfl ?_
      refine R_callV dX11_bounces_35 kX11_leaves lX11_237 (by assumption) rfl (p_R_leaves hq hlt) rfl rfl (Nat.le_of_ble_eq_true rfl) (Nat.le_of_ble_eq_true rfl) (by decide) (by decide) (fun r_ K_ S_ q_ => ?_)
      obtain ⟨rfl, hKe, hq2, hw2⟩ := q_
      have hKe := hKe.symm
      subst hKe
      refine T_iload_n dX11_bounces_38 rfl ?_
      refine I_bipush dX11_bounces_39 (by decide) ?_
      refine I_icmp_eq (tgt := 70) dX11_bounces_41 (by decide) ⟨by omega, by omega⟩ ⟨by omega, by omega⟩ (fun h41 => ?_) (fun h41 => ?_)
      · exact T_return dX11_bounces_70 rfl ⟨_, _, rfl, rfl, rfl, hq2, hw1.tr hw2⟩
      · omega
  · rw [if_neg h2]
    obtain ⟨l1, l2, l3, l4, l5⟩ := hE.lg (w := 7) ⟨by omega, by omega⟩
    rw [show LE mX11_bounces [.ref 453, IV i] = [some (.ref 453), some (IV i), none, none] from rfl]
    refine T_aload_n dX11_bounces_0 rfl rfl ?_
    refine T_iload_n dX11_bounces_1 rfl ?_
    refine I_iconst dX11_bounces_2 ?_
    refine Q_callV dX11_bounces_3 kX11_ofItem lX11_164 (by assumption) rfl (p_of0 hR hi) rfl rfl (Nat.le_of_ble_eq_true rfl) (Nat.le_of_ble_eq_true rfl) (by decide) (by decide) ?_
    refine T_istore_n dX11_bounces_6 (by decide) rfl ?_
    refine T_aload_n dX11_bounces_7 rfl rfl ?_
    refine T_iload_n dX11_bounces_8 rfl ?_
    refine I_iconst dX11_bounces_9 ?_
    refine Q_callV dX11_bounces_10 kX11_ofItem lX11_164 (by assumption) rfl (p_of2 hR hi) rfl rfl (Nat.le_of_ble_eq_true rfl) (Nat.le_of_ble_eq_true rfl) (by decide) (by decide) ?_
    refine T_istore_n dX11_bounces_13 (by decide) rfl ?_
    refine T_aload_n dX11_bounces_14 rfl rfl ?_
    refine T_iload_n dX11_bounces_15 rfl ?_
    refine I_bipush dX11_bounces_16 (by decide) ?_
    refine I_icmp_ne (tgt := 26) dX11_bounces_18 (by decide) ⟨by omega, by omega⟩ ⟨by omega, by omega⟩ (fun h18 => ?_) (fun h18 => ?_)
    · refine I_bipush dX11_bounces_26 (by decide) ?_
      refine T_iload_n dX11_bounces_28 rfl ?_
      refine T_iload_n dX11_bounces_29 rfl ?_
      refine R_callV dX11_bounces_30 kX11_logsItem lX11_234 (by assumption) rfl (p_R_logsItem hR hi ⟨by omega, by omega⟩ ⟨by omega, by omega⟩ l1 l3) rfl rfl (Nat.le_of_ble_eq_true rfl) (Nat.le_of_ble_eq_true rfl) (by decide) (by decide) (fun r_ K_ S_ q_ => ?_)
      obtain ⟨rfl, hKe, hq, hw1⟩ := q_
      have hKe := hKe.symm
      subst hKe
      refine T_aload_n dX11_bounces_33 rfl rfl ?_
      refine T_iload_n dX11_bounces_34 rfl ?_
      refine R_callV dX11_bounces_35 kX11_leaves lX11_237 (by assumption) rfl (p_R_leaves hq hlt) rfl rfl (Nat.le_of_ble_eq_true rfl) (Nat.le_of_ble_eq_true rfl) (by decide) (by decide) (fun r_ K_ S_ q_ => ?_)
      obtain ⟨rfl, hKe, hq2, hw2⟩ := q_
      have hKe := hKe.symm
      subst hKe
      have e3 : aI S_ 454 3 = eLe e := hq2.2.2.2.2.1.2.1
      refine T_iload_n dX11_bounces_38 rfl ?_
      refine I_bipush dX11_bounces_39 (by decide) ?_
      refine I_icmp_eq (tgt := 70) dX11_bounces_41 (by decide) ⟨by omega, by omega⟩ ⟨by omega, by omega⟩ (fun h41 => ?_) (fun h41 => ?_)
      · omega
      · refine T_aload_n dX11_bounces_44 rfl rfl ?_
        refine T_iload_n dX11_bounces_45 rfl ?_
        refine T_aload_n dX11_bounces_46 rfl rfl ?_
        refine P_getr dX11_bounces_47 fX11_7 (by assumption) rfl ?_
        refine I_iconst dX11_bounces_50 ?_
        refine P_iald dX11_bounces_51 (by assumption) ⟨by omega, by omega⟩ (by first | decide | omega) ?_
        rw [e3]
        refine I_bipush dX11_bounces_52 (by decide) ?_
        refine T_iload_n dX11_bounces_54 rfl ?_
        refine I_iconst dX11_bounces_55 ?_
        refine I_iconst dX11_bounces_56 ?_
        refine R_callV dX11_bounces_57 kX11_comes lX11_214 (by assumption) rfl (p_R_comes hq2 (by omega) ⟨by omega, by omega⟩ l4 (by decide) ⟨by omega, by omega⟩ (by decide) l2 (by decide)) rfl rfl (Nat.le_of_ble_eq_true rfl) (Nat.le_of_ble_eq_true rfl) (by decide) (by decide) (fun r_ K_ S_ q_ => ?_)
        obtain ⟨rfl, hKe, hq3, hw3⟩ := q_
        have hKe := hKe.symm
        subst hKe
        have e33 : aI S_ 454 3 = eLe e := hq3.2.2.2.2.1.2.1
        refine T_aload_n dX11_bounces_60 rfl rfl ?_
        refine P_getr dX11_bounces_61 fX11_7 (by assumption) rfl ?_
        refine I_iconst dX11_bounces_64 ?_
        refine T_dup2 dX11_bounces_65 rfl rfl ?_
        refine P_iald dX11_bounces_66 (by assumption) ⟨by omega, by omega⟩ (by first | decide | omega) ?_
        rw [e33]
        refine I_iconst dX11_bounces_67 ?_
        refine I_iadd dX11_bounces_68 ?_
        refine P_iast dX11_bounces_69 (by assumption) ⟨by omega, by omega⟩ (by first | decide | omega) ?_
        exact T_return dX11_bounces_70 rfl ⟨_, _, rfl, rfl, rfl, hq3.leN l5, ((hw1.tr hw2).tr hw3).tr (Wr.sA (Or.inl rfl))⟩
    · omega
theorem RS.bx (hR : RS K S pl e its) {a : Int} (ha : 0 ≤ a ∧ a < 32) : aI S 454 (246 + 11 * a) = eGv e a ∧ (eGv e a ≠ 0 → aI S 454 (246 + 11 * a + 1) = eBf e a) ∧ aI S 454 (246 + 11 * a + 2) = (eWn e a).length ∧ (eWn e a).length ≤ 8 ∧ (0 ≤ eGv e a ∧ ((eWn e a).length : Int) = if eGv e a < 8 then eGv e a else 8) ∧ ∀ (t : Nat) (x : Int), (eWn e a)[t]? = some x → aI S 454 (246 + 11 * a + 3 + t) = x := hR.2.2.2.2.2.2.2.2.1 a ha.1 ha.2
theorem p_R_ofBox {a k v : Int} (hM : MoAt K) (ha : 0 ≤ a ∧ a < 32) (hk : 0 ≤ k ∧ k < 11) (hv : aI S 454 (246 + 11 * a + k) = v) : P G 0 0 0 mX11_ofBox 0 (LE mX11_ofBox [.ref 453, IV a, IV k]) [] K S (Ret K (some (IV v)) S) := by
  have m0 := hM.1
  have m1 := hM.2.1
  rw [show LE mX11_ofBox [.ref 453, IV a, IV k] = [some (.ref 453), some (IV a), some (IV k)] from rfl]
  refine T_aload_n dX11_ofBox_0 rfl rfl ?_
  refine P_getr dX11_ofBox_1 fX11_7 (by assumption) rfl ?_
  refine I_sipush dX11_ofBox_4 (by decide) ?_
  refine I_bipush dX11_ofBox_7 (by decide) ?_
  refine T_iload_n dX11_ofBox_9 rfl ?_
  refine I_imul dX11_ofBox_10 ?_
  refine I_iadd dX11_ofBox_11 ?_
  refine T_iload_n dX11_ofBox_12 rfl ?_
  refine I_iadd dX11_ofBox_13 ?_
  refine P_iald dX11_ofBox_14 (by assumption) ⟨by omega, by omega⟩ (by first | decide | omega) ?_
  rw [hv]
  exact I_ireturn dX11_ofBox_15 rfl ⟨_, _, rfl, rfl, rfl, rfl⟩
theorem l_hasHad {a l : Int} (hR : RS K S pl e its) (ha : 0 ≤ a ∧ a < 32) (hl : R32 l) (m : Nat) : ∀ (k : Nat) (z : Int), ((eWn e a).length : Int) - k = m → z = b2p (l ∈ (eWn e a).take k) → P G 1 0 0 mX11_hasHad 5 [some (.ref 453), some (IV a), some (IV l), some (IV z), some (IV k)] [] K S (Ret K (some (IV (b2p (l ∈ eWn e a)))) S) := by
  have m0 := hR.1.1
  obtain ⟨b1, b2, b3, b4, b5, b6⟩ := hR.bx ha
  induction m with
  | zero =>
    intro k z hm hz
    have hv : b2p (l ∈ eWn e a) = z := by rw [hz, List.take_of_length_le (by omega)]
    refine T_iload dX11_hasHad_5 rfl ?_
    refine T_aload_n dX11_hasHad_7 rfl rfl ?_
    refine T_iload_n dX11_hasHad_8 rfl ?_
    refine I_iconst dX11_hasHad_9 ?_
    refine Q_callV dX11_hasHad_10 kX11_ofBox lX11_200 (by assumption) rfl (p_R_ofBox hR.1 ha ⟨by omega, by omega⟩ b3) rfl rfl (Nat.le_of_ble_eq_true rfl) (Nat.le_of_ble_eq_true rfl) (by decide) (by decide) ?_
    refine I_icmp_ge (tgt := 45) dX11_hasHad_13 (by decide) ⟨by omega, by omega⟩ ⟨by omega, by omega⟩ (fun h13 => ?_) (fun h13 => ?_)
    · refine T_iload_n dX11_hasHad_45 rfl ?_
      exact I_zreturn dX11_hasHad_46 rfl (by rw [hz]; exact b2p_01 _) ⟨_, _, rfl, by rw [hv], rfl, rfl⟩
    · omega
  | succ m ih =>
    intro k z hm hz
    have hlt : k < (eWn e a).length := by omega
    have hg : (eWn e a)[k]? = some (eWn e a)[k] := List.getElem?_eq_getElem hlt
    have hc := b6 k _ hg
    have hrc : R32 (eWn e a)[k] := by rw [← hc]; exact hR.2.1.2 _ _
    have ht : (eWn e a).take (k + 1) = (eWn e a).take k ++ [(eWn e a)[k]] := by rw [List.take_succ, hg]; rfl
    have hmem : l ∈ (eWn e a).take (k + 1) ↔ l ∈ (eWn e a).take k ∨ (eWn e a)[k] = l := by
      rw [ht, List.mem_append, List.mem_singleton]
      exact ⟨fun q => q.imp id Eq.symm, fun q => q.imp id Eq.symm⟩
    have hz01 := b2p_01 (l ∈ (eWn e a).take k)
    have hof := p_R_ofBox (G := G) (S := S) (k := 3 + (k : Int)) (v := (eWn e a)[k]) hR.1 ha ⟨by omega, by omega⟩ (by rw [← hc]; congr 1; omega)
    have w1 : z = 1 ∨ (eWn e a)[k] = l → 1 = b2p (l ∈ (eWn e a).take (k + 1)) := fun q => by
      refine (b2p_t (hmem.mpr ?_)).symm
      rcases q with q | q
      · exact Or.inl (Classical.byContradiction (fun y => by rw [b2p_f y] at hz; omega))
      · exact Or.inr q
    have w0 : z = 0 → ¬ (eWn e a)[k] = l → 0 = b2p (l ∈ (eWn e a).take (k + 1)) := fun q q2 => by
      refine (b2p_f (fun y => ?_)).symm
      rcases hmem.mp y with y | y
      · rw [b2p_t y] at hz; omega
      · exact q2 y
    generalize (eWn e a)[k] = y at hof hrc w0 w1
    refine T_iload dX11_hasHad_5 rfl ?_
    refine T_aload_n dX11_hasHad_7 rfl rfl ?_
    refine T_iload_n dX11_hasHad_8 rfl ?_
    refine I_iconst dX11_hasHad_9 ?_
    refine Q_callV dX11_hasHad_10 kX11_ofBox lX11_200 (by assumption) rfl (p_R_ofBox hR.1 ha ⟨by omega, by omega⟩ b3) rfl rfl (Nat.le_of_ble_eq_true rfl) (Nat.le_of_ble_eq_true rfl) (by decide) (by decide) ?_
    refine I_icmp_ge (tgt := 45) dX11_hasHad_13 (by decide) ⟨by omega, by omega⟩ ⟨by omega, by omega⟩ (fun h13 => ?_) (fun h13 => ?_)
    · omega
    · refine T_iload_n dX11_hasHad_16 rfl ?_
      refine I_if_ne (tgt := 33) dX11_hasHad_17 (by decide) ⟨by omega, by omega⟩ (fun h17 => ?_) (fun h17 => ?_)
      · have w := ih (k + 1) 1 (by omega) (w1 (by omega))
        refine I_iconst dX11_hasHad_33 ?_
        refine T_goto (tgt := 38) dX11_hasHad_34 (by decide) ?_
        refine T_istore_n dX11_hasHad_38 (by decide) rfl ?_
        refine I_iinc dX11_hasHad_39 rfl (by decide) rfl ?_
        refine T_goto (tgt := 5) dX11_hasHad_42 (by decide) ?_
        exact w
      · refine T_aload_n dX11_hasHad_20 rfl rfl ?_
        refine T_iload_n dX11_hasHad_21 rfl ?_
        refine I_iconst dX11_hasHad_22 ?_
        refine T_iload dX11_hasHad_23 rfl ?_
        refine I_iadd dX11_hasHad_25 ?_
        refine Q_callV dX11_hasHad_26 kX11_ofBox lX11_200 (by assumption) rfl hof rfl rfl (Nat.le_of_ble_eq_true rfl) (Nat.le_of_ble_eq_true rfl) (by decide) (by decide) ?_
        refine T_iload_n dX11_hasHad_29 rfl ?_
        refine I_icmp_ne (tgt := 37) dX11_hasHad_30 (by decide) hrc hl (fun h30 => ?_) (fun h30 => ?_)
        · have w := ih (k + 1) 0 (by omega) (w0 (by omega) (by omega))
          refine I_iconst dX11_hasHad_37 ?_
          refine T_istore_n dX11_hasHad_38 (by decide) rfl ?_
          refine I_iinc dX11_hasHad_39 rfl (by decide) rfl ?_
          refine T_goto (tgt := 5) dX11_hasHad_42 (by decide) ?_
          exact w
        · have w := ih (k + 1) 1 (by omega) (w1 (by omega))
          refine I_iconst dX11_hasHad_33 ?_
          refine T_goto (tgt := 38) dX11_hasHad_34 (by decide) ?_
          refine T_istore_n dX11_hasHad_38 (by decide) rfl ?_
          refine I_iinc dX11_hasHad_39 rfl (by decide) rfl ?_
          refine T_goto (tgt := 5) dX11_hasHad_42 (by decide) ?_
          exact w
theorem p_R_hasHad {a l : Int} (hR : RS K S pl e its) (ha : 0 ≤ a ∧ a < 32) (hl : R32 l) : P G 1 0 0 mX11_hasHad 0 (LE mX11_hasHad [.ref 453, IV a, IV l]) [] K S (Ret K (some (IV (b2p (l ∈ eWn e a)))) S) := by
  have w := l_hasHad (G := G) hR ha hl (eWn e a).length 0 0 (by omega) (b2p_f (by simp)).symm
  rw [show LE mX11_hasHad [.ref 453, IV a, IV l] = [some (.ref 453), some (IV a), some (IV l), none, none] from rfl]
  refine I_iconst dX11_hasHad_0 ?_
  refine T_istore_n dX11_hasHad_1 (by decide) rfl ?_
  refine I_iconst dX11_hasHad_2 ?_
  refine T_istore dX11_hasHad_3 (by decide) rfl ?_
  exact w
/-- one box changes -/
theorem RS.bxs {S' : SV} {a g b : Int} {w : List Int} (hR : RS K S pl e its) (ha : 0 ≤ a ∧ a < 32) (hA : AllR S') (h0 : aI S' 454 (246 + 11 * a) = g) (h1 : g ≠ 0 → aI S' 454 (246 + 11 * a + 1) = b) (h2 : aI S' 454 (246 + 11 * a + 2) = w.length) (h3 : w.length ≤ 8) (h4 : 0 ≤ g ∧ (w.length : Int) = if g < 8 then g else 8) (h5 : ∀ (t : Nat) (y : Int), w[t]? = some y → aI S' 454 (246 + 11 * a + 3 + t) = y) (ho : ∀ j, ¬ (246 + 11 * a ≤ j ∧ j < 246 + 11 * a + 11) → aI S' 454 j = aI S 454 j) : RS K S' pl (eBxS e (fset (eGv e) a g) (fset (eBf e) a b) (fset (eWn e) a w)) its := by
  obtain ⟨k1, k2, k3, k4, k5, k6, k7, k8, k9, k10⟩ := hR
  refine ⟨k1, hA, k3, k4.cg k3 (fun i z => ho i (by omega)), NuC.cg k5 (fun i z => ho i (by omega)), k6.cg (fun i z => ho i (by omega)), LgC.cg k7 (fun i z => ho i (by omega)), UpC.cg k8 (fun i z => ho i (by omega)), fun y u v => ?_, SgC.cg k10 (fun i z => ho i (by omega))⟩
  show aI S' 454 (246 + 11 * y) = fset (eGv e) a g y ∧ (fset (eGv e) a g y ≠ 0 → aI S' 454 (246 + 11 * y + 1) = fset (eBf e) a b y) ∧ aI S' 454 (246 + 11 * y + 2) = (fset (eWn e) a w y).length ∧ (fset (eWn e) a w y).length ≤ 8 ∧ (0 ≤ fset (eGv e) a g y ∧ ((fset (eWn e) a w y).length : Int) = if fset (eGv e) a g y < 8 then fset (eGv e) a g y else 8) ∧ ∀ (t : Nat) (z : Int), (fset (eWn e) a w y)[t]? = some z → aI S' 454 (246 + 11 * y + 3 + t) = z
  by_cases hy : y = a
  · rw [hy, fset_t, fset_t, fset_t]
    exact ⟨h0, h1, h2, h3, h4, h5⟩
  · rw [fset_f _ _ hy, fset_f _ _ hy, fset_f _ _ hy]
    obtain ⟨g1, g2, g3, g4, g5, g6⟩ := k9 y u v
    refine ⟨(ho _ (by omega)).trans g1, fun z => (ho _ (by omega)).trans (g2 z), (ho _ (by omega)).trans g3, g4, g5, fun t z ht => ?_⟩
    have hlt := (List.getElem?_eq_some_iff.mp ht).1
    exact (ho _ (by omega)).trans (g6 t z ht)
def gvW (S : SV) (a n l g f : Int) : SV := sA (sA (sA (sA S 454 (246 + 11 * a + 3 + n) l) 454 (246 + 11 * a + 2) (n + 1)) 454 (246 + 11 * a) (g + 1)) 454 (246 + 11 * a + 1) f
/-- the letter is put behind those there are: f1 is the row, with its first one gone if there were 8 -/
theorem gvW_R {S1 : SV} {a l f : Int} {w : List Int} (hR : RS K S pl e its) (ha : 0 ≤ a ∧ a < 32) (hA : AllR S1) (hw : w.length < 8) (hwp : w ++ [l] = pushN 8 (eWn e a) l) (h2 : aI S1 454 (246 + 11 * a + 2) = w.length) (h5 : ∀ (t : Nat) (y : Int), w[t]? = some y → aI S1 454 (246 + 11 * a + 3 + t) = y) (ho : ∀ j, ¬ (246 + 11 * a + 2 ≤ j ∧ j < 246 + 11 * a + 11) → aI S1 454 j = aI S 454 j) (r1 : R32 l) (r2 : R32 f) (r3 : R32 (eGv e a + 1)) : RS K (gvW S1 a w.length l (eGv e a) f) pl (eBxS e (fset (eGv e) a (eGv e a + 1)) (fset (eBf e) a f) (fset (eWn e) a (pushN 8 (eWn e a) l))) its := by
  obtain ⟨b1, b2, b3, b4, b5, b6⟩ := hR.bx ha
  rw [← hwp]
  have hlen : ((w ++ [l]).length : Int) = if eGv e a + 1 < 8 then eGv e a + 1 else 8 := by
    rw [hwp]
    unfold pushN
    have b52 := b5.2
    by_cases h8 : (eWn e a).length < 8
    · rw [if_pos h8]
      rw [List.length_append]
      by_cases hg : eGv e a < 8
      · rw [if_pos hg] at b52
        by_cases hg7 : eGv e a + 1 < 8
        · rw [if_pos hg7]; simp; omega
        · rw [if_neg hg7]; simp; omega
      · rw [if_neg hg] at b52; omega
    · rw [if_neg h8]
      rw [List.length_append, List.length_drop]
      by_cases hg : eGv e a < 8
      · rw [if_pos hg] at b52; omega
      · rw [if_neg (by omega)]; simp; omega
  refine hR.bxs ha ?_ ?_ ?_ ?_ ?_ ⟨by omega, hlen⟩ ?_ ?_
  · exact (((hA.sA r1).sA ⟨by omega, by omega⟩).sA r3).sA r2
  · unfold gvW
    repeat rw [aS]
    rw [fset_f _ _ (by omega), fset_e _ _ rfl]
  · intro _
    unfold gvW
    rw [aS, fset_e _ _ rfl]
  · unfold gvW
    repeat rw [aS]
    rw [fset_f _ _ (by omega), fset_f _ _ (by omega), fset_e _ _ rfl]
    simp
  · simp; omega
  · intro t y ht
    unfold gvW
    repeat rw [aS]
    rw [fset_f _ _ (by omega), fset_f _ _ (by omega), fset_f _ _ (by omega)]
    by_cases htl : t < w.length
    · rw [List.getElem?_append_left htl] at ht
      rw [fset_f _ _ (by omega)]
      exact h5 t y ht
    · have hlt := (List.getElem?_eq_some_iff.mp ht).1
      have hte : t = w.length := by simp at hlt; omega
      subst hte
      simp at ht
      subst ht
      rw [fset_e _ _ (by omega)]
  · intro j hj
    unfold gvW
    repeat rw [aS]
    repeat rw [fset_f _ _ (by omega)]
    exact ho j (by omega)
theorem gvW_w {S1 : SV} {a n l g f : Int} : Wr S1 (gvW S1 a n l g f) := by
  unfold gvW
  exact (((Wr.sA (Or.inl rfl)).tr (Wr.sA (Or.inl rfl))).tr (Wr.sA (Or.inl rfl))).tr (Wr.sA (Or.inl rfl))
theorem l_gives3 {S1 : SV} {w : List Int} {z : Int} {x5 : Option Value} (h5l : x5 = none ∨ ∃ q, x5 = some (IV q)) (hR : RS K S pl e its) (hi : its[i]? = some x) (ha : 0 ≤ x 3 ∧ x 3 < 32) (hW : Wr S S1) (hA : AllR S1) (hw : w.length < 8) (hwp : w ++ [x 1] = pushN 8 (eWn e (x 3)) (x 1)) (h2 : aI S1 454 (246 + 11 * x 3 + 2) = w.length) (h5 : ∀ (t : Nat) (y : Int), w[t]? = some y → aI S1 454 (246 + 11 * x 3 + 3 + t) = y) (ho : ∀ j, ¬ (246 + 11 * x 3 + 2 ≤ j ∧ j < 246 + 11 * x 3 + 11) → aI S1 454 j = aI S 454 j) (r1 : R32 (x 1)) (r2 : R32 (x 2)) (r3 : R32 (eGv e (x 3) + 1)) : P G 1 0 0 mX11_gives 116 [some (.ref 453), some (IV i), some (IV (x 3)), some (IV (246 + 11 * x 3)), some (IV z), x5] [] K S1 (RSQ K S pl (eBxS e (fset (eGv e) (x 3) (eGv e (x 3) + 1)) (fset (eBf e) (x 3) (x 2)) (fset (eWn e) (x 3) (pushN 8 (eWn e (x 3)) (x 1)))) (its.eraseIdx i)) := by
  have m0 := hR.1.1
  have m1 := hR.1.2.1
  have hlt := (List.getElem?_eq_some_iff.mp hi).1
  have h60 := hR.n60
  have hof : ∀ (S2 : SV) (k : Nat), k < 8 → (∀ j, 803 ≤ j → aI S2 454 j = aI S 454 j) → P G 0 0 0 mX11_ofItem 0 (LE mX11_ofItem [.ref 453, IV i, IV k]) [] K S2 (Ret K (some (IV (x k))) S2) := by
    intro S2 k hk hj
    have ev : aI S2 454 (803 + 8 * (i : Int) + (k : Int)) = x k := by rw [hj _ (by omega)]; exact hR.item hi hk
    rw [show LE mX11_ofItem [.ref 453, IV i, IV k] = [some (.ref 453), some (IV i), some (IV k)] from rfl]
    refine T_aload_n dX11_ofItem_0 rfl rfl ?_
    refine P_getr dX11_ofItem_1 fX11_7 (by assumption) rfl ?_
    refine I_sipush dX11_ofItem_4 (by decide) ?_
    refine I_bipush dX11_ofItem_7 (by decide) ?_
    refine T_iload_n dX11_ofItem_9 rfl ?_
    refine I_imul dX11_ofItem_10 ?_
    refine I_iadd dX11_ofItem_11 ?_
    refine T_iload_n dX11_ofItem_12 rfl ?_
    refine I_iadd dX11_ofItem_13 ?_
    refine P_iald dX11_ofItem_14 (by assumption) ⟨by omega, by omega⟩ (by first | decide | omega) ?_
    rw [ev]
    exact I_ireturn dX11_ofItem_15 rfl ⟨_, _, rfl, rfl, rfl, rfl⟩
  have hq := gvW_R (f := x 2) hR ha hA hw hwp h2 h5 ho r1 r2 r3
  have g0 : aI S1 454 (246 + 11 * x 3) = eGv e (x 3) := by rw [ho _ (by omega)]; exact (hR.bx ha).1
  have c1 := hof S1 1 (by omega) (fun j hj => ho j (by omega))
  have c2 := hof (sA (sA (sA S1 454 (246 + 11 * x 3 + 3 + w.length) (x 1)) 454 (246 + 11 * x 3 + 2) (w.length + 1)) 454 (246 + 11 * x 3) (eGv e (x 3) + 1)) 2 (by omega) (fun j hj => by
    repeat rw [aS]
    repeat rw [fset_f _ _ (by omega)]
    exact ho j (by omega))
  have hlv := p_R_leaves (G := G) hq hlt
  refine T_aload_n dX11_gives_116 rfl rfl ?_
  refine P_getr dX11_gives_117 fX11_7 (by assumption) rfl ?_
  refine T_iload_n dX11_gives_120 rfl ?_
  refine I_iconst dX11_gives_121 ?_
  refine I_iadd dX11_gives_122 ?_
  refine T_aload_n dX11_gives_123 rfl rfl ?_
  refine P_getr dX11_gives_124 fX11_7 (by assumption) rfl ?_
  refine T_iload_n dX11_gives_127 rfl ?_
  refine I_iconst dX11_gives_128 ?_
  refine I_iadd dX11_gives_129 ?_
  refine P_iald dX11_gives_130 (by assumption) ⟨by omega, by omega⟩ (by first | decide | omega) ?_
  rw [h2]
  refine I_iadd dX11_gives_131 ?_
  refine T_aload_n dX11_gives_132 rfl rfl ?_
  refine T_iload_n dX11_gives_133 rfl ?_
  refine I_iconst dX11_gives_134 ?_
  refine Q_callV dX11_gives_135 kX11_ofItem lX11_164 (by assumption) rfl c1 rfl rfl (Nat.le_of_ble_eq_true rfl) (Nat.le_of_ble_eq_true rfl) (by decide) (by decide) ?_
  refine P_iast dX11_gives_138 (by assumption) ⟨by omega, by omega⟩ (by first | decide | omega) ?_
  refine T_aload_n dX11_gives_139 rfl rfl ?_
  refine P_getr dX11_gives_140 fX11_7 (by assumption) rfl ?_
  refine T_iload_n dX11_gives_143 rfl ?_
  refine I_iconst dX11_gives_144 ?_
  refine I_iadd dX11_gives_145 ?_
  refine T_dup2 dX11_gives_146 rfl rfl ?_
  refine P_iald dX11_gives_147 (by assumption) ⟨by omega, by omega⟩ (by first | decide | omega) ?_
  repeat rw [aS]
  repeat rw [fset_f _ _ (by omega)]
  rw [h2]
  refine I_iconst dX11_gives_148 ?_
  refine I_iadd dX11_gives_149 ?_
  refine P_iast dX11_gives_150 (by assumption) ⟨by omega, by omega⟩ (by first | decide | omega) ?_
  refine T_aload_n dX11_gives_151 rfl rfl ?_
  refine P_getr dX11_gives_152 fX11_7 (by assumption) rfl ?_
  refine T_iload_n dX11_gives_155 rfl ?_
  refine T_dup2 dX11_gives_156 rfl rfl ?_
  refine P_iald dX11_gives_157 (by assumption) ⟨by omega, by omega⟩ (by first | decide | omega) ?_
  repeat rw [aS]
  repeat rw [fset_f _ _ (by omega)]
  rw [g0]
  refine I_iconst dX11_gives_158 ?_
  refine I_iadd dX11_gives_159 ?_
  refine P_iast dX11_gives_160 (by assumption) ⟨by omega, by omega⟩ (by first | decide | omega) ?_
  refine T_aload_n dX11_gives_161 rfl rfl ?_
  refine P_getr dX11_gives_162 fX11_7 (by assumption) rfl ?_
  refine T_iload_n dX11_gives_165 rfl ?_
  refine I_iconst dX11_gives_166 ?_
  refine I_iadd dX11_gives_167 ?_
  refine T_aload_n dX11_gives_168 rfl rfl ?_
  refine T_iload_n dX11_gives_169 rfl ?_
  refine I_iconst dX11_gives_170 ?_
  refine Q_callV dX11_gives_171 kX11_ofItem lX11_164 (by assumption) rfl c2 rfl rfl (Nat.le_of_ble_eq_true rfl) (Nat.le_of_ble_eq_true rfl) (by decide) (by decide) ?_
  refine P_iast dX11_gives_174 (by assumption) ⟨by omega, by omega⟩ (by first | decide | omega) ?_
  refine T_aload_n dX11_gives_175 rfl rfl ?_
  refine T_iload_n dX11_gives_176 rfl ?_
  refine R_callV dX11_gives_177 kX11_leaves lX11_237 (by assumption) rfl hlv rfl rfl (Nat.le_of_ble_eq_true rfl) (Nat.le_of_ble_eq_true rfl) (by decide) (by decide) (fun r_ K_ S_ q_ => ?_)
  obtain ⟨rfl, hKe, hq2, hw2⟩ := q_
  have hKe := hKe.symm
  subst hKe
  exact T_return dX11_gives_180 rfl ⟨_, _, rfl, rfl, rfl, hq2, (hW.tr gvW_w).tr hw2⟩
theorem l_gives2 {z : Int} (hR : RS K S pl e its) (hi : its[i]? = some x) (ha : 0 ≤ x 3 ∧ x 3 < 32) (h8 : (eWn e (x 3)).length = 8) (r1 : R32 (x 1)) (r2 : R32 (x 2)) (r3 : R32 (eGv e (x 3) + 1)) (m : Nat) : ∀ (c : Int) (S1 : SV), 3 ≤ c → 10 - c = m → Wr S S1 → AllR S1 → aI S1 454 = shfF (aI S 454) (246 + 11 * x 3 + 3) (246 + 11 * x 3 + c) 1 → P G 1 0 0 mX11_gives 71 [some (.ref 453), some (IV i), some (IV (x 3)), some (IV (246 + 11 * x 3)), some (IV z), some (IV c)] [] K S1 (RSQ K S pl (eBxS e (fset (eGv e) (x 3) (eGv e (x 3) + 1)) (fset (eBf e) (x 3) (x 2)) (fset (eWn e) (x 3) (pushN 8 (eWn e (x 3)) (x 1)))) (its.eraseIdx i)) := by
  have m0 := hR.1.1
  have m1 := hR.1.2.1
  obtain ⟨b1, b2, b3, b4, b5, b6⟩ := hR.bx ha
  induction m with
  | zero =>
    intro c S1 h0 hm hw hA hf
    have hc : c = 10 := by omega
    subst hc
    have g2 : aI S1 454 (246 + 11 * x 3 + 2) = 8 := by rw [hf, shfF_o (by omega), b3, h8]; rfl
    have hd : ((eWn e (x 3)).drop 1).length = 7 := by rw [List.length_drop]; omega
    have w := l_gives3 (G := G) (S1 := sA S1 454 (246 + 11 * x 3 + 2) 7) (w := (eWn e (x 3)).drop 1) (z := z) (x5 := some (IV 10)) (Or.inr ⟨_, rfl⟩) hR hi ha (hw.tr (Wr.sA (Or.inl rfl))) (hA.sA (by decide)) (by omega) (by unfold pushN; rw [if_neg (by omega)]) (by rw [aS, fset_e _ _ rfl, hd]; rfl) (fun t y ht => by
      have htl := (List.getElem?_eq_some_iff.mp ht).1
      rw [List.getElem?_drop] at ht
      rw [aS, fset_f _ _ (by omega), hf, shfF_i (by omega), ← b6 (1 + t) y ht]
      congr 1
      omega) (fun j hj => by rw [aS, fset_f _ _ (by omega), hf, shfF_o (by omega)]) r1 r2 r3
    refine T_iload dX11_gives_71 rfl ?_
    refine I_bipush dX11_gives_73 (by decide) ?_
    refine I_icmp_ge (tgt := 104) dX11_gives_75 (by decide) ⟨by omega, by omega⟩ ⟨by omega, by omega⟩ (fun h75 => ?_) (fun h75 => ?_)
    · refine T_aload_n dX11_gives_104 rfl rfl ?_
      refine P_getr dX11_gives_105 fX11_7 (by assumption) rfl ?_
      refine T_iload_n dX11_gives_108 rfl ?_
      refine I_iconst dX11_gives_109 ?_
      refine I_iadd dX11_gives_110 ?_
      refine T_dup2 dX11_gives_111 rfl rfl ?_
      refine P_iald dX11_gives_112 (by assumption) ⟨by omega, by omega⟩ (by first | decide | omega) ?_
      rw [g2]
      refine I_iconst dX11_gives_113 ?_
      refine I_isub dX11_gives_114 ?_
      refine P_iast dX11_gives_115 (by assumption) ⟨by omega, by omega⟩ (by first | decide | omega) ?_
      exact w
    · omega
  | succ m ih =>
    intro c S1 h0 hm hw hA hf
    have gc : aI S1 454 (246 + 11 * x 3 + c + 1) = aI S 454 (246 + 11 * x 3 + c + 1) := by rw [hf, shfF_o (by omega)]
    have w := ih (c + 1) (sA S1 454 (246 + 11 * x 3 + c) (aI S 454 (246 + 11 * x 3 + c + 1))) (by omega) (by omega) (hw.tr (Wr.sA (Or.inl rfl))) (hA.sA (hR.2.1.2 _ _)) (by rw [aS, hf, shfF_1 _ (by omega)]; congr 1; omega)
    refine T_iload dX11_gives_71 rfl ?_
    refine I_bipush dX11_gives_73 (by decide) ?_
    refine I_icmp_ge (tgt := 104) dX11_gives_75 (by decide) ⟨by omega, by omega⟩ ⟨by omega, by omega⟩ (fun h75 => ?_) (fun h75 => ?_)
    · omega
    · refine T_aload_n dX11_gives_78 rfl rfl ?_
      refine P_getr dX11_gives_79 fX11_7 (by assumption) rfl ?_
      refine T_iload_n dX11_gives_82 rfl ?_
      refine T_iload dX11_gives_83 rfl ?_
      refine I_iadd dX11_gives_85 ?_
      refine T_aload_n dX11_gives_86 rfl rfl ?_
      refine P_getr dX11_gives_87 fX11_7 (by assumption) rfl ?_
      refine T_iload_n dX11_gives_90 rfl ?_
      refine T_iload dX11_gives_91 rfl ?_
      refine I_iadd dX11_gives_93 ?_
      refine I_iconst dX11_gives_94 ?_
      refine I_iadd dX11_gives_95 ?_
      refine P_iald dX11_gives_96 (by assumption) ⟨by omega, by omega⟩ (by first | decide | omega) ?_
      rw [gc]
      refine P_iast dX11_gives_97 (by assumption) ⟨by omega, by omega⟩ (by first | decide | omega) ?_
      refine I_iinc dX11_gives_98 rfl (by decide) rfl ?_
      refine T_goto (tgt := 71) dX11_gives_101 (by decide) ?_
      exact w
theorem p_R_gives (hR : RS K S pl e its) (hi : its[i]? = some x) (hx : RowB N pl x) (hE : EnB N e) : P G 2 0 0 mX11_gives 0 (LE mX11_gives [.ref 453, IV i]) [] K S (RSQ K S pl (giveM e x) (its.eraseIdx i)) := by
  have m0 := hR.1.1
  have m1 := hR.1.2.1
  have hlt := (List.getElem?_eq_some_iff.mp hi).1
  have hb5 := hR.2.2.1.1
  have hN := hE.2.2.2.2.2.2
  have hgv := hE.2.2.2.1
  obtain ⟨x0, x1, x2, x3, x4, x5, x6, x7⟩ := hx
  have hgv := hgv (x 3) x3.1 x3.2
  by_cases hm : x 1 ∈ eWn e (x 3)
  · have hv : giveM e x = logI e 3 x (x 0) := if_pos hm
    rw [hv]
    obtain ⟨l1, l2, l3, l4, l5⟩ := hE.lg (w := 3) ⟨by omega, by omega⟩
    rw [show LE mX11_gives [.ref 453, IV i] = [some (.ref 453), some (IV i), none, none, none, none] from rfl]
    refine T_aload_n dX11_gives_0 rfl rfl ?_
    refine T_iload_n dX11_gives_1 rfl ?_
    refine I_iconst dX11_gives_2 ?_
    refine Q_callV dX11_gives_3 kX11_ofItem lX11_164 (by assumption) rfl (p_of3 hR hi) rfl rfl (Nat.le_of_ble_eq_true rfl) (Nat.le_of_ble_eq_true rfl) (by decide) (by decide) ?_
    refine T_istore_n dX11_gives_6 (by decide) rfl ?_
    refine I_sipush dX11_gives_7 (by decide) ?_
    refine I_bipush dX11_gives_10 (by decide) ?_
    refine T_iload_n dX11_gives_12 rfl ?_
    refine I_imul dX11_gives_13 ?_
    refine I_iadd dX11_gives_14 ?_
    refine T_istore_n dX11_gives_15 (by decide) rfl ?_
    refine T_aload_n dX11_gives_16 rfl rfl ?_
    refine T_iload_n dX11_gives_17 rfl ?_
    refine T_aload_n dX11_gives_18 rfl rfl ?_
    refine T_iload_n dX11_gives_19 rfl ?_
    refine I_iconst dX11_gives_20 ?_
    refine Q_callV dX11_gives_21 kX11_ofItem lX11_164 (by assumption) rfl (p_of1 hR hi) rfl rfl (Nat.le_of_ble_eq_true rfl) (Nat.le_of_ble_eq_true rfl) (by decide) (by decide) ?_
    refine Q_callV dX11_gives_24 kX11_hasHad lX11_240 (by assumption) rfl (p_R_hasHad hR x3 ⟨by omega, by omega⟩) rfl rfl (Nat.le_of_ble_eq_true rfl) (Nat.le_of_ble_eq_true rfl) (by decide) (by decide) ?_
    rw [b2p_t hm]
    refine T_istore dX11_gives_27 (by decide) rfl ?_
    refine T_aload_n dX11_gives_29 rfl rfl ?_
    refine T_iload dX11_gives_30 rfl ?_
    refine I_if_eq (tgt := 39) dX11_gives_32 (by decide) ⟨by omega, by omega⟩ (fun h32 => ?_) (fun h32 => ?_)
    · cases h32
    · refine I_iconst dX11_gives_35 ?_
      refine T_goto (tgt := 40) dX11_gives_36 (by decide) ?_
      refine T_iload_n dX11_gives_40 rfl ?_
      refine T_aload_n dX11_gives_41 rfl rfl ?_
      refine T_iload_n dX11_gives_42 rfl ?_
      refine I_iconst dX11_gives_43 ?_
      refine Q_callV dX11_gives_44 kX11_ofItem lX11_164 (by assumption) rfl (p_of0 hR hi) rfl rfl (Nat.le_of_ble_eq_true rfl) (Nat.le_of_ble_eq_true rfl) (by decide) (by decide) ?_
      refine R_callV dX11_gives_47 kX11_logsItem lX11_234 (by assumption) rfl (p_R_logsItem hR hi ⟨by omega, by omega⟩ ⟨by omega, by omega⟩ l1 l3) rfl rfl (Nat.le_of_ble_eq_true rfl) (Nat.le_of_ble_eq_true rfl) (by decide) (by decide) (fun r_ K_ S_ q_ => ?_)
      obtain ⟨rfl, hKe, hq, hw1⟩ := q_
      have hKe := hKe.symm
      subst hKe
      refine T_iload dX11_gives_50 rfl ?_
      refine I_if_ne (tgt := 175) dX11_gives_52 (by decide) ⟨by omega, by omega⟩ (fun h52 => ?_) (fun h52 => ?_)
      · refine T_aload_n dX11_gives_175 rfl rfl ?_
        refine T_iload_n dX11_gives_176 rfl ?_
        refine R_callV dX11_gives_177 kX11_leaves lX11_237 (by assumption) rfl (p_R_leaves hq hlt) rfl rfl (Nat.le_of_ble_eq_true rfl) (Nat.le_of_ble_eq_true rfl) (by decide) (by decide) (fun r_ K_ S_ q_ => ?_)
        obtain ⟨rfl, hKe, hq2, hw2⟩ := q_
        have hKe := hKe.symm
        subst hKe
        exact T_return dX11_gives_180 rfl ⟨_, _, rfl, rfl, rfl, hq2, hw1.tr hw2⟩
      · cases h52
  · have hv : giveM e x = logI (eBxS e (fset (eGv e) (x 3) (eGv e (x 3) + 1)) (fset (eBf e) (x 3) (x 2)) (fset (eWn e) (x 3) (pushN 8 (eWn e (x 3)) (x 1)))) 2 x (x 0) := if_neg hm
    rw [hv]
    obtain ⟨l1, l2, l3, l4, l5⟩ := hE.lg (w := 2) ⟨by omega, by omega⟩
    have hwl := (hR.bx x3).2.2.2.1
    rw [show LE mX11_gives [.ref 453, IV i] = [some (.ref 453), some (IV i), none, none, none, none] from rfl]
    refine T_aload_n dX11_gives_0 rfl rfl ?_
    refine T_iload_n dX11_gives_1 rfl ?_
    refine I_iconst dX11_gives_2 ?_
    refine Q_callV dX11_gives_3 kX11_ofItem lX11_164 (by assumption) rfl (p_of3 hR hi) rfl rfl (Nat.le_of_ble_eq_true rfl) (Nat.le_of_ble_eq_true rfl) (by decide) (by decide) ?_
    refine T_istore_n dX11_gives_6 (by decide) rfl ?_
    refine I_sipush dX11_gives_7 (by decide) ?_
    refine I_bipush dX11_gives_10 (by decide) ?_
    refine T_iload_n dX11_gives_12 rfl ?_
    refine I_imul dX11_gives_13 ?_
    refine I_iadd dX11_gives_14 ?_
    refine T_istore_n dX11_gives_15 (by decide) rfl ?_
    refine T_aload_n dX11_gives_16 rfl rfl ?_
    refine T_iload_n dX11_gives_17 rfl ?_
    refine T_aload_n dX11_gives_18 rfl rfl ?_
    refine T_iload_n dX11_gives_19 rfl ?_
    refine I_iconst dX11_gives_20 ?_
    refine Q_callV dX11_gives_21 kX11_ofItem lX11_164 (by assumption) rfl (p_of1 hR hi) rfl rfl (Nat.le_of_ble_eq_true rfl) (Nat.le_of_ble_eq_true rfl) (by decide) (by decide) ?_
    refine Q_callV dX11_gives_24 kX11_hasHad lX11_240 (by assumption) rfl (p_R_hasHad hR x3 ⟨by omega, by omega⟩) rfl rfl (Nat.le_of_ble_eq_true rfl) (Nat.le_of_ble_eq_true rfl) (by decide) (by decide) ?_
    rw [b2p_f hm]
    refine T_istore dX11_gives_27 (by decide) rfl ?_
    refine T_aload_n dX11_gives_29 rfl rfl ?_
    refine T_iload dX11_gives_30 rfl ?_
    refine I_if_eq (tgt := 39) dX11_gives_32 (by decide) ⟨by omega, by omega⟩ (fun h32 => ?_) (fun h32 => ?_)
    · refine I_iconst dX11_gives_39 ?_
      refine T_iload_n dX11_gives_40 rfl ?_
      refine T_aload_n dX11_gives_41 rfl rfl ?_
      refine T_iload_n dX11_gives_42 rfl ?_
      refine I_iconst dX11_gives_43 ?_
      refine Q_callV dX11_gives_44 kX11_ofItem lX11_164 (by assumption) rfl (p_of0 hR hi) rfl rfl (Nat.le_of_ble_eq_true rfl) (Nat.le_of_ble_eq_true rfl) (by decide) (by decide) ?_
      refine R_callV dX11_gives_47 kX11_logsItem lX11_234 (by assumption) rfl (p_R_logsItem hR hi ⟨by omega, by omega⟩ ⟨by omega, by omega⟩ l1 l3) rfl rfl (Nat.le_of_ble_eq_true rfl) (Nat.le_of_ble_eq_true rfl) (by decide) (by decide) (fun r_ K_ S_ q_ => ?_)
      obtain ⟨rfl, hKe, hq, hw1⟩ := q_
      have hKe := hKe.symm
      subst hKe
      have g3 : aI S_ 454 (246 + 11 * x 3 + 2) = (eWn e (x 3)).length := (hq.bx x3).2.2.1
      have g6 : ∀ (t : Nat) (y : Int), (eWn e (x 3))[t]? = some y → aI S_ 454 (246 + 11 * x 3 + 3 + t) = y := (hq.bx x3).2.2.2.2.2
      refine T_iload dX11_gives_50 rfl ?_
      refine I_if_ne (tgt := 175) dX11_gives_52 (by decide) ⟨by omega, by omega⟩ (fun h52 => ?_) (fun h52 => ?_)
      · exact absurd rfl h52
      · refine T_aload_n dX11_gives_55 rfl rfl ?_
        refine P_getr dX11_gives_56 fX11_7 (by assumption) rfl ?_
        refine T_iload_n dX11_gives_59 rfl ?_
        refine I_iconst dX11_gives_60 ?_
        refine I_iadd dX11_gives_61 ?_
        refine P_iald dX11_gives_62 (by assumption) ⟨by omega, by omega⟩ (by first | decide | omega) ?_
        rw [g3]
        refine I_bipush dX11_gives_63 (by decide) ?_
        refine I_icmp_ne (tgt := 116) dX11_gives_65 (by decide) ⟨by omega, by omega⟩ ⟨by omega, by omega⟩ (fun h65 => ?_) (fun h65 => ?_)
        · have w := l_gives3 (G := G) (S1 := S_) (w := eWn e (x 3)) (z := 0) (x5 := none) (Or.inl rfl) hq hi x3 Wr.rf hq.2.1 (by omega) (show eWn e (x 3) ++ [x 1] = pushN 8 (eWn e (x 3)) (x 1) by unfold pushN; rw [if_pos (by omega)]) g3 g6 (fun j hj => rfl) ⟨by omega, by omega⟩ ⟨by omega, by omega⟩ (show R32 (eGv e (x 3) + 1) from ⟨by omega, by omega⟩)
          exact P.depth (P.weaken w (fun r' K' S' q => ⟨q.1, q.2.1, q.2.2.1, hw1.tr q.2.2.2⟩)) (by omega)
        · refine I_iconst dX11_gives_68 ?_
          refine T_istore dX11_gives_69 (by decide) rfl ?_
          have w := l_gives2 (G := G) (z := 0) hq hi x3 (show (eWn e (x 3)).length = 8 by omega) ⟨by omega, by omega⟩ ⟨by omega, by omega⟩ (show R32 (eGv e (x 3) + 1) from ⟨by omega, by omega⟩) 7 3 S_ (by omega) (by omega) Wr.rf hq.2.1 (shfF_0 _ _ _).symm
          exact P.depth (P.weaken w (fun r' K' S' q => ⟨q.1, q.2.1, q.2.2.1, hw1.tr q.2.2.2⟩)) (by omega)
    · exact absurd rfl h32
end RF5
