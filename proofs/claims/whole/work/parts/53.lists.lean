/-! Tape: lists, domains -/
theorem TPQ.tr {α : Type} {K : List SH} {S S' : SV} {t : Nat} {X : Except ER α} {Rel : α → SV → Prop} {rv : Option Value} {K' : List SH} {S2 : SV} (hC : CM S S' t) (h8 : fI S' t 8 = fI S t 8) (h : TPQ K S' t X Rel rv K' S2) : TPQ K S t X Rel rv K' S2 := by
  obtain ⟨h1, h2, h3⟩ := h
  refine ⟨h1, hC.tr h2, ?_⟩
  cases X with
  | error e => exact h3
  | ok a => exact ⟨h3.1, h3.2.1.trans h8, h3.2.2⟩
theorem DrB.addRc {pl : PL} (h : DrB pl) {d x w : Int} (hd : 0 ≤ d ∧ d < pDm pl) (hn : pRc pl d < 3) (hx : 0 ≤ x ∧ x ≤ 4) (hw : 0 ≤ w ∧ w ≤ 9) (hh : ∀ i, 0 ≤ i → i < pRc pl d → pRh pl d i ≠ x) : DrB (addRcM pl d x w) := by
  obtain ⟨h1, ⟨h2, h2'⟩, h3, h4, h5, h6⟩ := h
  have eR : ∀ y, pRc (addRcM pl d x w) y = if y = d then pRc pl d + 1 else pRc pl y := fun y => rfl
  have eH : ∀ y, pRh (addRcM pl d x w) y = if y = d then fset (pRh pl d) (pRc pl d) x else pRh pl y := fun y => rfl
  have eP : ∀ y, pRp (addRcM pl d x w) y = if y = d then fset (pRp pl d) (pRc pl d) w else pRp pl y := fun y => rfl
  refine ⟨h1, ⟨fun y u v => ?_, h2'⟩, fun y i u v i0 i1 => ?_, h4, fun y u v z => ?_, h6⟩
  · rw [eR]
    have := h2 y u v
    split
    · rename_i e; rw [e] at this; omega
    · exact this
  · rw [eR] at i1
    rw [eH, eP, eR]
    by_cases e : y = d
    · rw [if_pos e] at i1
      rw [if_pos e, if_pos e, if_pos e]
      rw [e] at u v
      by_cases e2 : i = pRc pl d
      · rw [e2, fset_t, fset_t]
        refine ⟨hx, hw, fun i' a b c => ?_⟩
        by_cases e3 : i' = pRc pl d
        · exact e3.symm
        · rw [fset_f _ _ e3] at c
          exact absurd c.symm (hh i' a (by omega))
      · rw [fset_f _ _ e2, fset_f _ _ e2]
        obtain ⟨g1, g2, g3⟩ := h3 d i u v i0 (by omega)
        refine ⟨g1, g2, fun i' a b c => ?_⟩
        by_cases e3 : i' = pRc pl d
        · rw [e3, fset_t] at c
          exact absurd c (hh i i0 (by omega))
        · rw [fset_f _ _ e3] at c
          exact g3 i' a (by omega) c
    · rw [if_neg e] at i1
      rw [if_neg e, if_neg e, if_neg e]
      exact h3 y i u v i0 i1
  · have z : pDm pl ≤ y := z
    rw [eR, if_neg (by omega)]
    exact h5 y u v z
theorem rcvM_b {tp : Int → Int} {n d : Int} {pl : PL} {k : TK} {q : PL × TK} (hD : DrB pl) (hb : TkB n k) (hd : 0 ≤ d ∧ d < pDm pl) (hn : pRc pl d < 3) (h : rcvM tp n pl d k = .ok q) : k.1 = 2 ∧ DrB q.1 ∧ TkB n q.2 ∧ k.2.2.1 ≤ q.2.2.1 ∧ pRc q.1 d = pRc pl d + 1 ∧ pDm q.1 = pDm pl ∧ pLc q.1 = pLc pl ∧ pKd q.1 = pKd pl := by
  have hdm := hD.1.2
  unfold rcvM at h
  obtain ⟨x, h1, h⟩ := bind_ok h
  have b1 := numM_b h1 hb
  by_cases e : prefM pl x d = -4
  · rw [if_neg (fun z => z e)] at h
    obtain ⟨t2, h2, h⟩ := bind_ok h
    obtain ⟨w, h3, h⟩ := bind_ok h
    injection h with h
    subst h
    have hb1 := hb.1
    have b2 := tkM_b ⟨by omega, by omega⟩ h2
    have b3 := numM_b h3 b2.1
    have hh : ∀ i, 0 ≤ i → i < pRc pl d → pRh pl d i ≠ x := by
      rcases prefM_cases pl x d with ⟨-, z⟩ | ⟨i, i0, i1, i2, i3⟩
      · exact z
      · have := (hD.2.2.1 d i hd.1 (by omega) i0 i1).2.1
        omega
    exact ⟨b1.1, hD.addRc hd hn b1.2.2 b3.2.2 hh, b2.1, b2.2, by show fset (pRc pl) d (pRc pl d + 1) d = _; rw [fset_t], rfl, rfl, rfl⟩
  · rw [if_pos e] at h
    cases h
theorem tgtM_b {tp : Int → Int} {n a : Int} {pl : PL} {k : TK} {q : PL × TK} (hD : DrB pl) (hb : TkB n k) (ha : 0 ≤ a ∧ a < 32) (hk : pKd pl a ≠ 0) (hn : pLc pl a < 4) (h : tgtM tp n pl a k = .ok q) : k.1 = 2 ∧ DrB q.1 ∧ TkB n q.2 ∧ k.2.2.1 ≤ q.2.2.1 ∧ pLc q.1 a = pLc pl a + 1 ∧ pKd q.1 = pKd pl := by
  unfold tgtM at h
  obtain ⟨r, h1, h⟩ := bind_ok h
  have b := addrM_b hb h1
  by_cases e : leadsP pl a r.1
  · rw [if_pos e] at h
    cases h
  · rw [if_neg e] at h
    injection h with h
    subst h
    exact ⟨b.2.2.2.2, hD.addLd ha hk hn b.1, b.2.1, b.2.2.1, by show fset (pLc pl) a (pLc pl a + 1) a = _; rw [fset_t], rfl⟩
noncomputable def lstC (tp : Int → Int) (n a : Int) (m : Nat) (pl : PL) (pos : Int) : Except ER (PL × Int) := (tkM tp n pos).bind fun t6 => (lstM tp n a m pl t6).bind signM
noncomputable def rcvC (tp : Int → Int) (n d : Int) (m : Nat) (pl : PL) (pos : Int) : Except ER (PL × Int) := (tkM tp n pos).bind fun t6 => (rcvsM tp n d m pl t6).bind signM
theorem lstC_0 (tp : Int → Int) (n a : Int) (pl : PL) (pos : Int) : lstC tp n a 0 pl pos = (endM tp n pos).bind fun e => .ok (pl, e) := by
  rw [← endM_sign]
  unfold lstC
  cases tkM tp n pos with
  | error e => rfl
  | ok k =>
    show ((lstM tp n a 0 pl k).bind signM) = signM (pl, k)
    rw [lstM]
    by_cases e : k.1 = 2
    · rw [if_pos e]
      unfold signM
      rw [if_neg (by show ¬ k.1 = 3; omega)]
      rfl
    · rw [if_neg e]
      rfl
theorem rcvC_0 (tp : Int → Int) (n d : Int) (pl : PL) (pos : Int) : rcvC tp n d 0 pl pos = (endM tp n pos).bind fun e => .ok (pl, e) := by
  rw [← endM_sign]
  unfold rcvC
  cases tkM tp n pos with
  | error e => rfl
  | ok k =>
    show ((rcvsM tp n d 0 pl k).bind signM) = signM (pl, k)
    rw [rcvsM]
    by_cases e : k.1 = 2
    · rw [if_pos e]
      unfold signM
      rw [if_neg (by show ¬ k.1 = 3; omega)]
      rfl
    · rw [if_neg e]
      rfl
theorem num_no {k : TK} (most : Int) (h : k.1 ≠ 2) : numM k most = .error (2, k.2.1) := if_neg h
theorem sign_no {pl : PL} {k : TK} (h : k.1 ≠ 3) : signM (pl, k) = .error (2, k.2.1) := if_neg h
/-- behind a token that is no sign, one more target -/
theorem lst_1 {tp : Int → Int} {n a : Int} {m : Nat} {pl : PL} {k : TK} (h : k.1 ≠ 3) : ((lstM tp n a (m + 1) pl k).bind signM) = (tgtM tp n pl a k).bind fun r => lstC tp n a m r.1 r.2.2.2.1 := by
  rw [lstM]
  by_cases e : k.1 = 2
  · rw [if_pos e]
    cases tgtM tp n pl a k with
    | error e => rfl
    | ok r =>
      show (((tkM tp n r.2.2.2.1).bind fun t3 => lstM tp n a m r.1 t3).bind signM) = lstC tp n a m r.1 r.2.2.2.1
      unfold lstC
      cases tkM tp n r.2.2.2.1 <;> rfl
  · rw [if_neg e]
    show signM (pl, k) = _
    rw [sign_no h]
    unfold tgtM addrM
    rw [num_no 3 e]
    rfl
theorem rcv_1 {tp : Int → Int} {n d : Int} {m : Nat} {pl : PL} {k : TK} (h : k.1 ≠ 3) : ((rcvsM tp n d (m + 1) pl k).bind signM) = (rcvM tp n pl d k).bind fun r => rcvC tp n d m r.1 r.2.2.2.1 := by
  rw [rcvsM]
  by_cases e : k.1 = 2
  · rw [if_pos e]
    cases rcvM tp n pl d k with
    | error e => rfl
    | ok r =>
      show (((tkM tp n r.2.2.2.1).bind fun t3 => rcvsM tp n d m r.1 t3).bind signM) = rcvC tp n d m r.1 r.2.2.2.1
      unfold rcvC
      cases tkM tp n r.2.2.2.1 <;> rfl
  · rw [if_neg e]
    show signM (pl, k) = _
    rw [sign_no h]
    unfold rcvM
    rw [num_no 4 e]
    rfl
theorem lst_sg {tp : Int → Int} {n a : Int} {m : Nat} {pl : PL} {k : TK} (h : k.1 = 3) : ((lstM tp n a m pl k).bind signM) = .ok (pl, k.2.2.1) := by
  have e : lstM tp n a m pl k = .ok (pl, k) := by
    cases m <;> rw [lstM, if_neg (by omega)]
  rw [e]
  show signM (pl, k) = _
  unfold signM
  rw [if_pos h]
theorem rcv_sg {tp : Int → Int} {n d : Int} {m : Nat} {pl : PL} {k : TK} (h : k.1 = 3) : ((rcvsM tp n d m pl k).bind signM) = .ok (pl, k.2.2.1) := by
  have e : rcvsM tp n d m pl k = .ok (pl, k) := by
    cases m <;> rw [rcvsM, if_neg (by omega)]
  rw [e]
  show signM (pl, k) = _
  unfold signM
  rw [if_pos h]
section Lists
variable {G : GT} {K : List SH} {t : Nat} {tp : Int → Int} {n : Int}
def lineR (t : Nat) : PL × Int → SV → Prop := fun q S' => PlanR S' (t + 2) q.1 ∧ fI S' t 3 = q.2
theorem s_T_list {a i : Int} {m : Nat} {S : SV} {pl : PL} {k : TK} (hT : TapeAt K t) (hB : TB S t tp n) (hk : TokR S t k) (hb : TkB n k) (hR : PlanR S (t + 2) pl) (hD : DrB pl) (ha : 0 ≤ a ∧ a < 32) (hka : pKd pl a ≠ 0) (hla : pLc pl a = i) (hi : 0 ≤ i ∧ i < 4) (z : ∀ (r : PL × TK) (S' : SV), tgtM tp n pl a k = .ok r → CM S S' t → PlanR S' (t + 2) r.1 → fI S' t 3 = r.2.2.2.1 → P G 4 0 0 mX9_readList 17 [some (.ref t), some (IV a), some (IV (i + 1))] [] K S' (TPQ K S' t (lstC tp n a m r.1 r.2.2.2.1) (lineR t))) : P G 4 0 0 mX9_readList 45 [some (.ref t), some (IV a), some (IV i)] [] K S (TPQ K S t ((tgtM tp n pl a k).bind fun r => lstC tp n a m r.1 r.2.2.2.1) (lineR t)) := by
  have k0 := hT.1
  have kp := hT.2.2
  have kp0 := kp.1
  cases hX : addrM tp n k with
  | error e =>
    have hY : tgtM tp n pl a k = .error e := by unfold tgtM; rw [hX]; rfl
    rw [hY]
    refine T_aload_n dX9_readList_45 rfl rfl ?_
    refine R_callV dX9_readList_46 kX9_addressStands lX9_116 (by assumption) rfl (p_T_addr hT hB hk hb) rfl rfl (Nat.le_of_ble_eq_true rfl) (Nat.le_of_ble_eq_true rfl) (by decide) (by decide) (fun r_ K_ S_ q_ => ?_)
    obtain ⟨hKe, hC1, hx⟩ := q_; have hKe := hKe.symm; subst hKe; rw [hX] at hx; obtain ⟨rfl, h8, h9⟩ := hx
    refine I_if_ne (tgt := 54) dX9_readList_49 (by decide) (by decide) (fun h49 => ?_) (fun h49 => ?_)
    · exact absurd rfl h49
    · refine I_iconst dX9_readList_52 ?_
      exact I_zreturn dX9_readList_53 rfl (by decide) ⟨_, _, rfl, rfl, hC1, rfl, h8, h9⟩
  | ok q =>
    have bq := addrM_b hb hX
    by_cases hl : leadsP pl a q.1
    · have hY : tgtM tp n pl a k = .error (4, q.2.2.1) := by
        unfold tgtM
        rw [hX]
        exact if_pos hl
      rw [hY]
      refine T_aload_n dX9_readList_45 rfl rfl ?_
      refine R_callV dX9_readList_46 kX9_addressStands lX9_116 (by assumption) rfl (p_T_addr hT hB hk hb) rfl rfl (Nat.le_of_ble_eq_true rfl) (Nat.le_of_ble_eq_true rfl) (by decide) (by decide) (fun r_ K_ S_ q_ => ?_)
      obtain ⟨hKe, hC1, hx⟩ := q_; have hKe := hKe.symm; subst hKe; rw [hX] at hx; obtain ⟨rfl, h8, hk2, h7, hs⟩ := hx
      have hR1 := hR.same hs
      obtain ⟨v1, v2, v3⟩ := hR1.2.2.2.1 a ha.1 ha.2
      have hbb : b2p (∃ t_1, 0 ≤ t_1 ∧ t_1 < aI S_ (t + 2 + 8) a ∧ aI S_ (t + 2 + 9) (a * 4 + t_1) = q.1) = 1 := b2p_t (by
        obtain ⟨i, i0, i1, i2⟩ := hl
        exact ⟨i, i0, by rw [v2]; exact i1, by rw [v3 i i0 i1]; exact i2⟩)
      refine I_if_ne (tgt := 54) dX9_readList_49 (by decide) (by decide) (fun h49 => ?_) (fun h49 => ?_)
      · refine T_aload_n dX9_readList_54 rfl rfl ?_
        refine P_getr dX9_readList_55 fX9_18 (by assumption) rfl ?_
        refine T_iload_n dX9_readList_58 rfl ?_
        refine T_aload_n dX9_readList_59 rfl rfl ?_
        refine P_geti dX9_readList_60 fX9_123 (by assumption) rfl ?_
        rw [h7]
        refine Q_callV dX9_readList_63 kX5_hasLead lX9_136 (by assumption) rfl (p_Plan_hasLead kp hC1.2.2.1 ha (by rw [v2]; omega) ⟨by omega, by omega⟩) rfl rfl (Nat.le_of_ble_eq_true rfl) (Nat.le_of_ble_eq_true rfl) (by decide) (by decide) ?_
        rw [hbb]
        refine I_if_eq (tgt := 75) dX9_readList_66 (by decide) (by decide) (fun h66 => ?_) (fun h66 => ?_)
        · cases h66
        · refine T_aload_n dX9_readList_69 rfl rfl ?_
          refine I_iconst dX9_readList_70 ?_
          refine Q_callV dX9_readList_71 kX9_refuse lX9_77 (by assumption) rfl (p_T_refuse hT) rfl rfl (Nat.le_of_ble_eq_true rfl) (Nat.le_of_ble_eq_true rfl) (by decide) (by decide) ?_
          exact I_zreturn dX9_readList_74 rfl (by decide) ⟨_, _, rfl, rfl, hC1.tr (ref_CM hC1.2.2.1 (by decide)), rfl, ref_8, ref_9.trans hk2.2.2.1⟩
      · cases h49
    · have hY : tgtM tp n pl a k = .ok (addLdM pl a q.1, q.2) := by
        unfold tgtM
        rw [hX]
        exact if_neg hl
      refine T_aload_n dX9_readList_45 rfl rfl ?_
      refine R_callV dX9_readList_46 kX9_addressStands lX9_116 (by assumption) rfl (p_T_addr hT hB hk hb) rfl rfl (Nat.le_of_ble_eq_true rfl) (Nat.le_of_ble_eq_true rfl) (by decide) (by decide) (fun r_ K_ S_ q_ => ?_)
      obtain ⟨hKe, hC1, hx⟩ := q_; have hKe := hKe.symm; subst hKe; rw [hX] at hx; obtain ⟨rfl, h8, hk2, h7, hs⟩ := hx
      have hR1 := hR.same hs
      obtain ⟨v1, v2, v3⟩ := hR1.2.2.2.1 a ha.1 ha.2
      have hbb : b2p (∃ t_1, 0 ≤ t_1 ∧ t_1 < aI S_ (t + 2 + 8) a ∧ aI S_ (t + 2 + 9) (a * 4 + t_1) = q.1) = 0 := b2p_f (fun ⟨i, i0, i1, i2⟩ => hl ⟨i, i0, by rw [← v2]; exact i1, by rw [← i2, v3 i i0 (by rw [← v2]; exact i1)]⟩)
      refine I_if_ne (tgt := 54) dX9_readList_49 (by decide) (by decide) (fun h49 => ?_) (fun h49 => ?_)
      · refine T_aload_n dX9_readList_54 rfl rfl ?_
        refine P_getr dX9_readList_55 fX9_18 (by assumption) rfl ?_
        refine T_iload_n dX9_readList_58 rfl ?_
        refine T_aload_n dX9_readList_59 rfl rfl ?_
        refine P_geti dX9_readList_60 fX9_123 (by assumption) rfl ?_
        rw [h7]
        refine Q_callV dX9_readList_63 kX5_hasLead lX9_136 (by assumption) rfl (p_Plan_hasLead kp hC1.2.2.1 ha (by rw [v2]; omega) ⟨by omega, by omega⟩) rfl rfl (Nat.le_of_ble_eq_true rfl) (Nat.le_of_ble_eq_true rfl) (by decide) (by decide) ?_
        rw [hbb]
        refine I_if_eq (tgt := 75) dX9_readList_66 (by decide) (by decide) (fun h66 => ?_) (fun h66 => ?_)
        · refine T_aload_n dX9_readList_75 rfl rfl ?_
          refine P_getr dX9_readList_76 fX9_18 (by assumption) rfl ?_
          refine T_iload_n dX9_readList_79 rfl ?_
          refine T_aload_n dX9_readList_80 rfl rfl ?_
          refine P_geti dX9_readList_81 fX9_123 (by assumption) rfl ?_
          rw [h7]
          refine R_callV dX9_readList_84 kX5_addLead lX9_133 (by assumption) rfl (p_Plan_addLead kp hC1.2.2.1 hR1 ha hD.2.1 (by omega) ⟨by omega, by omega⟩) rfl rfl (Nat.le_of_ble_eq_true rfl) (Nat.le_of_ble_eq_true rfl) (by decide) (by decide) (fun r_ K_ S_ q_ => ?_)
          obtain ⟨rfl, hKe, i1, i2, i3⟩ := q_; have hKe := hKe.symm; subst hKe; obtain ⟨c4, c5⟩ := CM.pl i2 i3
          have zz := z _ S_ hY (hC1.tr c4) i1 ((c5 3).trans hk2.1)
          refine I_iinc dX9_readList_87 rfl (by decide) rfl ?_
          refine T_goto (tgt := 17) dX9_readList_90 (by decide) ?_
          rw [hY]
          exact P.weaken zz (fun rv K' S' w => TPQ.tr (hC1.tr c4) ((c5 8).trans h8) w)
        · exact absurd rfl h66
      · cases h49
theorem l_T_list {a : Int} (hT : TapeAt K t) (ha : 0 ≤ a ∧ a < 32) (m : Nat) : ∀ (i pos : Int) (S : SV) (pl : PL), 1 ≤ i → 4 - i = m → TB S t tp n → PlanR S (t + 2) pl → DrB pl → pKd pl a ≠ 0 → pLc pl a = i → fI S t 3 = pos → 0 ≤ pos ∧ pos ≤ n → P G 4 0 0 mX9_readList 17 [some (.ref t), some (IV a), some (IV i)] [] K S (TPQ K S t (lstC tp n a m pl pos) (lineR t)) := by
  have k0 := hT.1
  induction m with
  | zero =>
    intro i pos S pl h1 hm hB hR hD hka hla hp h0
    rw [lstC_0]
    cases hX : endM tp n pos with
    | error e =>
      refine T_iload_n dX9_readList_17 rfl ?_
      refine I_iconst dX9_readList_18 ?_
      refine I_icmp_ge (tgt := 93) dX9_readList_19 (by decide) ⟨by omega, by omega⟩ ⟨by omega, by omega⟩ (fun h19 => ?_) (fun h19 => ?_)
      · refine T_aload_n dX9_readList_93 rfl rfl ?_
        refine R_callV dX9_readList_94 kX9_readSign lX9_99 (by assumption) rfl (p_T_sign hT hB hp h0) rfl rfl (Nat.le_of_ble_eq_true rfl) (Nat.le_of_ble_eq_true rfl) (by decide) (by decide) (fun r_ K_ S_ q_ => ?_)
        obtain ⟨hKe, hC1, hx⟩ := q_; have hKe := hKe.symm; subst hKe; rw [hX] at hx; obtain ⟨rfl, h8, h9⟩ := hx
        exact I_zreturn dX9_readList_97 rfl (by decide) ⟨_, _, rfl, rfl, hC1, rfl, h8, h9⟩
      · omega
    | ok e =>
      refine T_iload_n dX9_readList_17 rfl ?_
      refine I_iconst dX9_readList_18 ?_
      refine I_icmp_ge (tgt := 93) dX9_readList_19 (by decide) ⟨by omega, by omega⟩ ⟨by omega, by omega⟩ (fun h19 => ?_) (fun h19 => ?_)
      · refine T_aload_n dX9_readList_93 rfl rfl ?_
        refine R_callV dX9_readList_94 kX9_readSign lX9_99 (by assumption) rfl (p_T_sign hT hB hp h0) rfl rfl (Nat.le_of_ble_eq_true rfl) (Nat.le_of_ble_eq_true rfl) (by decide) (by decide) (fun r_ K_ S_ q_ => ?_)
        obtain ⟨hKe, hC1, hx⟩ := q_; have hKe := hKe.symm; subst hKe; rw [hX] at hx; obtain ⟨rfl, h8, h3, hs⟩ := hx
        exact I_zreturn dX9_readList_97 rfl (by decide) ⟨_, _, rfl, rfl, hC1, rfl, h8, hR.same hs, h3⟩
      · omega
  | succ m ih =>
    intro i pos S pl h1 hm hB hR hD hka hla hp h0
    unfold lstC
    cases hX : tkM tp n pos with
    | error e =>
      refine T_iload_n dX9_readList_17 rfl ?_
      refine I_iconst dX9_readList_18 ?_
      refine I_icmp_ge (tgt := 93) dX9_readList_19 (by decide) ⟨by omega, by omega⟩ ⟨by omega, by omega⟩ (fun h19 => ?_) (fun h19 => ?_)
      · omega
      · refine T_aload_n dX9_readList_22 rfl rfl ?_
        refine R_callV dX9_readList_23 kX9_readToken lX9_38 (by assumption) rfl (p_T_token hT hB hp h0) rfl rfl (Nat.le_of_ble_eq_true rfl) (Nat.le_of_ble_eq_true rfl) (by decide) (by decide) (fun r_ K_ S_ q_ => ?_)
        obtain ⟨hKe, hC1, hx⟩ := q_; have hKe := hKe.symm; subst hKe; rw [hX] at hx; obtain ⟨rfl, h8, h9⟩ := hx
        refine I_if_ne (tgt := 31) dX9_readList_26 (by decide) (by decide) (fun h26 => ?_) (fun h26 => ?_)
        · exact absurd rfl h26
        · refine I_iconst dX9_readList_29 ?_
          exact I_zreturn dX9_readList_30 rfl (by decide) ⟨_, _, rfl, rfl, hC1, rfl, h8, h9⟩
    | ok k =>
      have bk := tkM_b h0 hX
      have r4 : R32 k.1 := by rcases bk.1.2.1 with z | z | z | z <;> rw [z] <;> decide
      show P G 4 0 0 mX9_readList 17 [some (.ref t), some (IV a), some (IV i)] [] K S (TPQ K S t ((lstM tp n a (m + 1) pl k).bind signM) (lineR t))
      by_cases h3 : k.1 = 3
      · rw [lst_sg h3]
        refine T_iload_n dX9_readList_17 rfl ?_
        refine I_iconst dX9_readList_18 ?_
        refine I_icmp_ge (tgt := 93) dX9_readList_19 (by decide) ⟨by omega, by omega⟩ ⟨by omega, by omega⟩ (fun h19 => ?_) (fun h19 => ?_)
        · omega
        · refine T_aload_n dX9_readList_22 rfl rfl ?_
          refine R_callV dX9_readList_23 kX9_readToken lX9_38 (by assumption) rfl (p_T_token hT hB hp h0) rfl rfl (Nat.le_of_ble_eq_true rfl) (Nat.le_of_ble_eq_true rfl) (by decide) (by decide) (fun r_ K_ S_ q_ => ?_)
          obtain ⟨hKe, hC1, hx⟩ := q_; have hKe := hKe.symm; subst hKe; rw [hX] at hx; obtain ⟨rfl, h8, hk, hs⟩ := hx
          refine I_if_ne (tgt := 31) dX9_readList_26 (by decide) (by decide) (fun h26 => ?_) (fun h26 => ?_)
          · refine T_aload_n dX9_readList_31 rfl rfl ?_
            refine P_geti dX9_readList_32 fX9_42 (by assumption) rfl ?_
            rw [hk.2.1]
            refine I_iconst dX9_readList_35 ?_
            refine I_icmp_ne (tgt := 45) dX9_readList_36 (by decide) r4 (by decide) (fun h36 => ?_) (fun h36 => ?_)
            · exact absurd h3 h36
            · refine T_iload_n dX9_readList_39 rfl ?_
              refine I_if_le (tgt := 45) dX9_readList_40 (by decide) ⟨by omega, by omega⟩ (fun h40 => ?_) (fun h40 => ?_)
              · omega
              · refine I_iconst dX9_readList_43 ?_
                exact I_zreturn dX9_readList_44 rfl (by decide) ⟨_, _, rfl, rfl, hC1, rfl, h8, hR.same hs, hk.1⟩
          · cases h26
      · rw [lst_1 h3]
        refine T_iload_n dX9_readList_17 rfl ?_
        refine I_iconst dX9_readList_18 ?_
        refine I_icmp_ge (tgt := 93) dX9_readList_19 (by decide) ⟨by omega, by omega⟩ ⟨by omega, by omega⟩ (fun h19 => ?_) (fun h19 => ?_)
        · omega
        · refine T_aload_n dX9_readList_22 rfl rfl ?_
          refine R_callV dX9_readList_23 kX9_readToken lX9_38 (by assumption) rfl (p_T_token hT hB hp h0) rfl rfl (Nat.le_of_ble_eq_true rfl) (Nat.le_of_ble_eq_true rfl) (by decide) (by decide) (fun r_ K_ S_ q_ => ?_)
          obtain ⟨hKe, hC1, hx⟩ := q_; have hKe := hKe.symm; subst hKe; rw [hX] at hx; obtain ⟨rfl, h8, hk, hs⟩ := hx
          have z := s_T_list (G := G) (i := i) (m := m) hT (hB.cm hC1) hk bk.1 (hR.same hs) hD ha hka hla ⟨by omega, by omega⟩ (fun r S' hr hC hPR hf => by
            have br := tgtM_b hD bk.1 ha hka (by omega) hr
            have br1 := br.2.2.1.1
            exact ih (i + 1) _ S' r.1 (by omega) (by omega) ((hB.cm hC1).cm hC) hPR br.2.1 (by rw [br.2.2.2.2.2]; exact hka) (by rw [br.2.2.2.2.1]; omega) hf ⟨by omega, by omega⟩)
          refine I_if_ne (tgt := 31) dX9_readList_26 (by decide) (by decide) (fun h26 => ?_) (fun h26 => ?_)
          · refine T_aload_n dX9_readList_31 rfl rfl ?_
            refine P_geti dX9_readList_32 fX9_42 (by assumption) rfl ?_
            rw [hk.2.1]
            refine I_iconst dX9_readList_35 ?_
            refine I_icmp_ne (tgt := 45) dX9_readList_36 (by decide) r4 (by decide) (fun h36 => ?_) (fun h36 => ?_)
            · exact P.weaken z (fun rv K' S' w => TPQ.tr hC1 h8 w)
            · exact absurd h36 h3
          · cases h26
theorem p_T_list {S : SV} {pl : PL} {k : TK} (hT : TapeAt K t) (hB : TB S t tp n) (hk : TokR S t k) (hb : TkB n k) (hR : PlanR S (t + 2) pl) (hD : DrB pl) : P G 4 0 0 mX9_readList 0 (LE mX9_readList [.ref t]) [] K S (TPQ K S t (lisM tp n pl k) (lineR t)) := by
  have k0 := hT.1
  have hb1 := hb.1
  have eL : lisM tp n pl k = (rtoldM tp n pl 3 k.2.2.1).bind fun q => (tkM tp n q.2.2.2.2.1).bind fun t4 => (tgtM tp n q.1 q.2.1 t4).bind fun r => lstC tp n q.2.1 3 r.1 r.2.2.2.1 := by
    unfold lisM rtoldM
    cases tkM tp n k.2.2.1 <;> rfl
  rw [eL]
  cases hX : rtoldM tp n pl 3 k.2.2.1 with
  | error e =>
    rw [show LE mX9_readList [.ref t] = [some (.ref t), none, none] from rfl]
    refine T_aload_n dX9_readList_0 rfl rfl ?_
    refine I_iconst dX9_readList_1 ?_
    refine R_callV dX9_readList_2 kX9_readTold lX9_130 (by assumption) rfl (p_T_told hT hB hk.1 ⟨by omega, by omega⟩ hR hD (by decide)) rfl rfl (Nat.le_of_ble_eq_true rfl) (Nat.le_of_ble_eq_true rfl) (by decide) (by decide) (fun r_ K_ S_ q_ => ?_)
    obtain ⟨hKe, hC1, hx⟩ := q_; have hKe := hKe.symm; subst hKe; rw [hX] at hx; obtain ⟨rfl, h8, h9⟩ := hx
    refine I_if_ne (tgt := 10) dX9_readList_5 (by decide) (by decide) (fun h5 => ?_) (fun h5 => ?_)
    · exact absurd rfl h5
    · refine I_iconst dX9_readList_8 ?_
      exact I_zreturn dX9_readList_9 rfl (by decide) ⟨_, _, rfl, rfl, hC1, rfl, h8, h9⟩
  | ok q =>
    have bq := rtoldM_b ⟨by omega, by omega⟩ hX
    have bq1 := bq.2.1.1
    have hDq : DrB q.1 := by rw [bq.2.2.2.2]; exact hD.tell bq.1 (by decide)
    have hLq : pLc q.1 q.2.1 = 0 := by
      rw [bq.2.2.2.2]
      exact (hD.2.2.2.1 q.2.1 bq.1.1 bq.1.2).2.1 bq.2.2.2.1
    have hKq : pKd q.1 q.2.1 ≠ 0 := by
      rw [bq.2.2.2.2]
      show fset (pKd pl) q.2.1 3 q.2.1 ≠ 0
      rw [fset_t]
      decide
    show P G 4 0 0 mX9_readList 0 (LE mX9_readList [.ref t]) [] K S (TPQ K S t ((tkM tp n q.2.2.2.2.1).bind fun t4 => (tgtM tp n q.1 q.2.1 t4).bind fun r => lstC tp n q.2.1 3 r.1 r.2.2.2.1) _)
    cases hY : tkM tp n q.2.2.2.2.1 with
    | error e =>
      rw [show LE mX9_readList [.ref t] = [some (.ref t), none, none] from rfl]
      refine T_aload_n dX9_readList_0 rfl rfl ?_
      refine I_iconst dX9_readList_1 ?_
      refine R_callV dX9_readList_2 kX9_readTold lX9_130 (by assumption) rfl (p_T_told hT hB hk.1 ⟨by omega, by omega⟩ hR hD (by decide)) rfl rfl (Nat.le_of_ble_eq_true rfl) (Nat.le_of_ble_eq_true rfl) (by decide) (by decide) (fun r_ K_ S_ q_ => ?_)
      obtain ⟨hKe, hC1, hx⟩ := q_; have hKe := hKe.symm; subst hKe; rw [hX] at hx; obtain ⟨rfl, h8, hq1, hq2, hq3⟩ := hx
      refine I_if_ne (tgt := 10) dX9_readList_5 (by decide) (by decide) (fun h5 => ?_) (fun h5 => ?_)
      · refine T_aload_n dX9_readList_10 rfl rfl ?_
        refine P_geti dX9_readList_11 fX9_123 (by assumption) rfl ?_
        rw [hq3]
        refine T_istore_n dX9_readList_14 (by decide) rfl ?_
        refine I_iconst dX9_readList_15 ?_
        refine T_istore_n dX9_readList_16 (by decide) rfl ?_
        refine T_iload_n dX9_readList_17 rfl ?_
        refine I_iconst dX9_readList_18 ?_
        refine I_icmp_ge (tgt := 93) dX9_readList_19 (by decide) ⟨by omega, by omega⟩ ⟨by omega, by omega⟩ (fun h19 => ?_) (fun h19 => ?_)
        · omega
        · refine T_aload_n dX9_readList_22 rfl rfl ?_
          refine R_callV dX9_readList_23 kX9_readToken lX9_38 (by assumption) rfl (p_T_token hT (hB.cm hC1) hq2.1 ⟨by omega, by omega⟩) rfl rfl (Nat.le_of_ble_eq_true rfl) (Nat.le_of_ble_eq_true rfl) (by decide) (by decide) (fun r_ K_ S_ q_ => ?_)
          obtain ⟨hKe, hC2, hx⟩ := q_; have hKe := hKe.symm; subst hKe; rw [hY] at hx; obtain ⟨rfl, g8, g9⟩ := hx
          refine I_if_ne (tgt := 31) dX9_readList_26 (by decide) (by decide) (fun h26 => ?_) (fun h26 => ?_)
          · exact absurd rfl h26
          · refine I_iconst dX9_readList_29 ?_
            exact I_zreturn dX9_readList_30 rfl (by decide) ⟨_, _, rfl, rfl, hC1.tr hC2, rfl, g8, g9⟩
      · cases h5
    | ok t4 =>
      have b4 := tkM_b ⟨by omega, by omega⟩ hY
      have r4 : R32 t4.1 := by rcases b4.1.2.1 with z | z | z | z <;> rw [z] <;> decide
      show P G 4 0 0 mX9_readList 0 (LE mX9_readList [.ref t]) [] K S (TPQ K S t ((tgtM tp n q.1 q.2.1 t4).bind fun r => lstC tp n q.2.1 3 r.1 r.2.2.2.1) _)
      rw [show LE mX9_readList [.ref t] = [some (.ref t), none, none] from rfl]
      refine T_aload_n dX9_readList_0 rfl rfl ?_
      refine I_iconst dX9_readList_1 ?_
      refine R_callV dX9_readList_2 kX9_readTold lX9_130 (by assumption) rfl (p_T_told hT hB hk.1 ⟨by omega, by omega⟩ hR hD (by decide)) rfl rfl (Nat.le_of_ble_eq_true rfl) (Nat.le_of_ble_eq_true rfl) (by decide) (by decide) (fun r_ K_ S_ q_ => ?_)
      obtain ⟨hKe, hC1, hx⟩ := q_; have hKe := hKe.symm; subst hKe; rw [hX] at hx; obtain ⟨rfl, h8, hq1, hq2, hq3⟩ := hx
      refine I_if_ne (tgt := 10) dX9_readList_5 (by decide) (by decide) (fun h5 => ?_) (fun h5 => ?_)
      · refine T_aload_n dX9_readList_10 rfl rfl ?_
        refine P_geti dX9_readList_11 fX9_123 (by assumption) rfl ?_
        rw [hq3]
        refine T_istore_n dX9_readList_14 (by decide) rfl ?_
        refine I_iconst dX9_readList_15 ?_
        refine T_istore_n dX9_readList_16 (by decide) rfl ?_
        refine T_iload_n dX9_readList_17 rfl ?_
        refine I_iconst dX9_readList_18 ?_
        refine I_icmp_ge (tgt := 93) dX9_readList_19 (by decide) ⟨by omega, by omega⟩ ⟨by omega, by omega⟩ (fun h19 => ?_) (fun h19 => ?_)
        · omega
        · refine T_aload_n dX9_readList_22 rfl rfl ?_
          refine R_callV dX9_readList_23 kX9_readToken lX9_38 (by assumption) rfl (p_T_token hT (hB.cm hC1) hq2.1 ⟨by omega, by omega⟩) rfl rfl (Nat.le_of_ble_eq_true rfl) (Nat.le_of_ble_eq_true rfl) (by decide) (by decide) (fun r_ K_ S_ q_ => ?_)
          obtain ⟨hKe, hC2, hx⟩ := q_; have hKe := hKe.symm; subst hKe; rw [hY] at hx; obtain ⟨rfl, g8, gk, gs⟩ := hx
          have hB2 := (hB.cm hC1).cm hC2
          have z := s_T_list (G := G) (i := 0) (m := 3) hT hB2 gk b4.1 (hq1.same gs) hDq bq.1 hKq hLq ⟨by omega, by omega⟩ (fun r S' hr hC hPR hf => by
            have br := tgtM_b hDq b4.1 bq.1 hKq (by omega) hr
            have br1 := br.2.2.1.1
            exact l_T_list hT bq.1 3 1 _ S' r.1 (by omega) (by omega) (hB2.cm hC) hPR br.2.1 (by rw [br.2.2.2.2.2]; exact hKq) (by rw [br.2.2.2.2.1]; omega) hf ⟨by omega, by omega⟩)
          refine I_if_ne (tgt := 31) dX9_readList_26 (by decide) (by decide) (fun h26 => ?_) (fun h26 => ?_)
          · refine T_aload_n dX9_readList_31 rfl rfl ?_
            refine P_geti dX9_readList_32 fX9_42 (by assumption) rfl ?_
            rw [gk.2.1]
            refine I_iconst dX9_readList_35 ?_
            refine I_icmp_ne (tgt := 45) dX9_readList_36 (by decide) r4 (by decide) (fun h36 => ?_) (fun h36 => ?_)
            · exact P.weaken z (fun rv K' S' w => TPQ.tr (hC1.tr hC2) (g8.trans h8) w)
            · refine T_iload_n dX9_readList_39 rfl ?_
              refine I_if_le (tgt := 45) dX9_readList_40 (by decide) ⟨by omega, by omega⟩ (fun h40 => ?_) (fun h40 => ?_)
              · exact P.weaken z (fun rv K' S' w => TPQ.tr (hC1.tr hC2) (g8.trans h8) w)
              · omega
          · cases h26
      · cases h5
theorem l_T_dom {d : Int} (hT : TapeAt K t) (hd : 0 ≤ d ∧ d < 4) (m : Nat) : ∀ (i pos : Int) (S : SV) (pl : PL), 0 ≤ i → 3 - i = m → TB S t tp n → PlanR S (t + 2) pl → DrB pl → d < pDm pl → pRc pl d = i → fI S t 3 = pos → 0 ≤ pos ∧ pos ≤ n → P G 3 0 0 mX9_readDomain 40 [some (.ref t), some (IV d), some (IV i)] [] K S (TPQ K S t (rcvC tp n d m pl pos) (lineR t)) := by
  have k0 := hT.1
  induction m with
  | zero =>
    intro i pos S pl h1 hm hB hR hD hdm hla hp h0
    rw [rcvC_0]
    cases hX : endM tp n pos with
    | error e =>
      refine T_iload_n dX9_readDomain_40 rfl ?_
      refine I_iconst dX9_readDomain_41 ?_
      refine I_icmp_ge (tgt := 80) dX9_readDomain_42 (by decide) ⟨by omega, by omega⟩ ⟨by omega, by omega⟩ (fun h42 => ?_) (fun h42 => ?_)
      · refine T_aload_n dX9_readDomain_80 rfl rfl ?_
        refine R_callV dX9_readDomain_81 kX9_readSign lX9_99 (by assumption) rfl (p_T_sign hT hB hp h0) rfl rfl (Nat.le_of_ble_eq_true rfl) (Nat.le_of_ble_eq_true rfl) (by decide) (by decide) (fun r_ K_ S_ q_ => ?_)
        obtain ⟨hKe, hC1, hx⟩ := q_; have hKe := hKe.symm; subst hKe; rw [hX] at hx; obtain ⟨rfl, h8, h9⟩ := hx
        exact I_zreturn dX9_readDomain_84 rfl (by decide) ⟨_, _, rfl, rfl, hC1, rfl, h8, h9⟩
      · omega
    | ok e =>
      refine T_iload_n dX9_readDomain_40 rfl ?_
      refine I_iconst dX9_readDomain_41 ?_
      refine I_icmp_ge (tgt := 80) dX9_readDomain_42 (by decide) ⟨by omega, by omega⟩ ⟨by omega, by omega⟩ (fun h42 => ?_) (fun h42 => ?_)
      · refine T_aload_n dX9_readDomain_80 rfl rfl ?_
        refine R_callV dX9_readDomain_81 kX9_readSign lX9_99 (by assumption) rfl (p_T_sign hT hB hp h0) rfl rfl (Nat.le_of_ble_eq_true rfl) (Nat.le_of_ble_eq_true rfl) (by decide) (by decide) (fun r_ K_ S_ q_ => ?_)
        obtain ⟨hKe, hC1, hx⟩ := q_; have hKe := hKe.symm; subst hKe; rw [hX] at hx; obtain ⟨rfl, h8, h3, hs⟩ := hx
        exact I_zreturn dX9_readDomain_84 rfl (by decide) ⟨_, _, rfl, rfl, hC1, rfl, h8, hR.same hs, h3⟩
      · omega
  | succ m ih =>
    intro i pos S pl h1 hm hB hR hD hdm hla hp h0
    unfold rcvC
    cases hX : tkM tp n pos with
    | error e =>
      refine T_iload_n dX9_readDomain_40 rfl ?_
      refine I_iconst dX9_readDomain_41 ?_
      refine I_icmp_ge (tgt := 80) dX9_readDomain_42 (by decide) ⟨by omega, by omega⟩ ⟨by omega, by omega⟩ (fun h42 => ?_) (fun h42 => ?_)
      · omega
      · refine T_aload_n dX9_readDomain_45 rfl rfl ?_
        refine R_callV dX9_readDomain_46 kX9_readToken lX9_38 (by assumption) rfl (p_T_token hT hB hp h0) rfl rfl (Nat.le_of_ble_eq_true rfl) (Nat.le_of_ble_eq_true rfl) (by decide) (by decide) (fun r_ K_ S_ q_ => ?_)
        obtain ⟨hKe, hC1, hx⟩ := q_; have hKe := hKe.symm; subst hKe; rw [hX] at hx; obtain ⟨rfl, h8, h9⟩ := hx
        refine I_if_ne (tgt := 54) dX9_readDomain_49 (by decide) (by decide) (fun h49 => ?_) (fun h49 => ?_)
        · exact absurd rfl h49
        · refine I_iconst dX9_readDomain_52 ?_
          exact I_zreturn dX9_readDomain_53 rfl (by decide) ⟨_, _, rfl, rfl, hC1, rfl, h8, h9⟩
    | ok k =>
      have bk := tkM_b h0 hX
      have r4 : R32 k.1 := by rcases bk.1.2.1 with z | z | z | z <;> rw [z] <;> decide
      show P G 3 0 0 mX9_readDomain 40 [some (.ref t), some (IV d), some (IV i)] [] K S (TPQ K S t ((rcvsM tp n d (m + 1) pl k).bind signM) (lineR t))
      by_cases h3 : k.1 = 3
      · rw [rcv_sg h3]
        refine T_iload_n dX9_readDomain_40 rfl ?_
        refine I_iconst dX9_readDomain_41 ?_
        refine I_icmp_ge (tgt := 80) dX9_readDomain_42 (by decide) ⟨by omega, by omega⟩ ⟨by omega, by omega⟩ (fun h42 => ?_) (fun h42 => ?_)
        · omega
        · refine T_aload_n dX9_readDomain_45 rfl rfl ?_
          refine R_callV dX9_readDomain_46 kX9_readToken lX9_38 (by assumption) rfl (p_T_token hT hB hp h0) rfl rfl (Nat.le_of_ble_eq_true rfl) (Nat.le_of_ble_eq_true rfl) (by decide) (by decide) (fun r_ K_ S_ q_ => ?_)
          obtain ⟨hKe, hC1, hx⟩ := q_; have hKe := hKe.symm; subst hKe; rw [hX] at hx; obtain ⟨rfl, h8, hk, hs⟩ := hx
          refine I_if_ne (tgt := 54) dX9_readDomain_49 (by decide) (by decide) (fun h49 => ?_) (fun h49 => ?_)
          · refine T_aload_n dX9_readDomain_54 rfl rfl ?_
            refine P_geti dX9_readDomain_55 fX9_42 (by assumption) rfl ?_
            rw [hk.2.1]
            refine I_iconst dX9_readDomain_58 ?_
            refine I_icmp_ne (tgt := 64) dX9_readDomain_59 (by decide) r4 (by decide) (fun h59 => ?_) (fun h59 => ?_)
            · exact absurd h3 h59
            · refine I_iconst dX9_readDomain_62 ?_
              exact I_zreturn dX9_readDomain_63 rfl (by decide) ⟨_, _, rfl, rfl, hC1, rfl, h8, hR.same hs, hk.1⟩
          · cases h49
      · rw [rcv_1 h3]
        cases hY : rcvM tp n pl d k with
        | error e =>
          refine T_iload_n dX9_readDomain_40 rfl ?_
          refine I_iconst dX9_readDomain_41 ?_
          refine I_icmp_ge (tgt := 80) dX9_readDomain_42 (by decide) ⟨by omega, by omega⟩ ⟨by omega, by omega⟩ (fun h42 => ?_) (fun h42 => ?_)
          · omega
          · refine T_aload_n dX9_readDomain_45 rfl rfl ?_
            refine R_callV dX9_readDomain_46 kX9_readToken lX9_38 (by assumption) rfl (p_T_token hT hB hp h0) rfl rfl (Nat.le_of_ble_eq_true rfl) (Nat.le_of_ble_eq_true rfl) (by decide) (by decide) (fun r_ K_ S_ q_ => ?_)
            obtain ⟨hKe, hC1, hx⟩ := q_; have hKe := hKe.symm; subst hKe; rw [hX] at hx; obtain ⟨rfl, h8, hk, hs⟩ := hx
            refine I_if_ne (tgt := 54) dX9_readDomain_49 (by decide) (by decide) (fun h49 => ?_) (fun h49 => ?_)
            · refine T_aload_n dX9_readDomain_54 rfl rfl ?_
              refine P_geti dX9_readDomain_55 fX9_42 (by assumption) rfl ?_
              rw [hk.2.1]
              refine I_iconst dX9_readDomain_58 ?_
              refine I_icmp_ne (tgt := 64) dX9_readDomain_59 (by decide) r4 (by decide) (fun h59 => ?_) (fun h59 => ?_)
              · refine T_aload_n dX9_readDomain_64 rfl rfl ?_
                refine T_iload_n dX9_readDomain_65 rfl ?_
                refine R_callV dX9_readDomain_66 kX9_readReceiver lX9_96 (by assumption) rfl (p_T_rcv hT (hB.cm hC1) hk bk.1 (hR.same hs) hD hd (by omega)) rfl rfl (Nat.le_of_ble_eq_true rfl) (Nat.le_of_ble_eq_true rfl) (by decide) (by decide) (fun r_ K_ S_ q_ => ?_)
                obtain ⟨hKe, hC2, hx⟩ := q_; have hKe := hKe.symm; subst hKe; rw [hY] at hx; obtain ⟨rfl, g8, g9⟩ := hx
                refine I_if_ne (tgt := 74) dX9_readDomain_69 (by decide) (by decide) (fun h69 => ?_) (fun h69 => ?_)
                · exact absurd rfl h69
                · refine I_iconst dX9_readDomain_72 ?_
                  exact I_zreturn dX9_readDomain_73 rfl (by decide) ⟨_, _, rfl, rfl, hC1.tr hC2, rfl, g8, g9⟩
              · exact absurd h59 h3
            · cases h49
        | ok r =>
          have br := rcvM_b hD bk.1 ⟨hd.1, hdm⟩ (by omega) hY
          have br1 := br.2.2.1.1
          show P G 3 0 0 mX9_readDomain 40 [some (.ref t), some (IV d), some (IV i)] [] K S (TPQ K S t (rcvC tp n d m r.1 r.2.2.2.1) (lineR t))
          refine T_iload_n dX9_readDomain_40 rfl ?_
          refine I_iconst dX9_readDomain_41 ?_
          refine I_icmp_ge (tgt := 80) dX9_readDomain_42 (by decide) ⟨by omega, by omega⟩ ⟨by omega, by omega⟩ (fun h42 => ?_) (fun h42 => ?_)
          · omega
          · refine T_aload_n dX9_readDomain_45 rfl rfl ?_
            refine R_callV dX9_readDomain_46 kX9_readToken lX9_38 (by assumption) rfl (p_T_token hT hB hp h0) rfl rfl (Nat.le_of_ble_eq_true rfl) (Nat.le_of_ble_eq_true rfl) (by decide) (by decide) (fun r_ K_ S_ q_ => ?_)
            obtain ⟨hKe, hC1, hx⟩ := q_; have hKe := hKe.symm; subst hKe; rw [hX] at hx; obtain ⟨rfl, h8, hk, hs⟩ := hx
            refine I_if_ne (tgt := 54) dX9_readDomain_49 (by decide) (by decide) (fun h49 => ?_) (fun h49 => ?_)
            · refine T_aload_n dX9_readDomain_54 rfl rfl ?_
              refine P_geti dX9_readDomain_55 fX9_42 (by assumption) rfl ?_
              rw [hk.2.1]
              refine I_iconst dX9_readDomain_58 ?_
              refine I_icmp_ne (tgt := 64) dX9_readDomain_59 (by decide) r4 (by decide) (fun h59 => ?_) (fun h59 => ?_)
              · refine T_aload_n dX9_readDomain_64 rfl rfl ?_
                refine T_iload_n dX9_readDomain_65 rfl ?_
                refine R_callV dX9_readDomain_66 kX9_readReceiver lX9_96 (by assumption) rfl (p_T_rcv hT (hB.cm hC1) hk bk.1 (hR.same hs) hD hd (by omega)) rfl rfl (Nat.le_of_ble_eq_true rfl) (Nat.le_of_ble_eq_true rfl) (by decide) (by decide) (fun r_ K_ S_ q_ => ?_)
                obtain ⟨hKe, hC2, hx⟩ := q_; have hKe := hKe.symm; subst hKe; rw [hY] at hx; obtain ⟨rfl, g8, g1, g2⟩ := hx
                have z := ih (i + 1) _ S_ r.1 (by omega) (by omega) ((hB.cm hC1).cm hC2) g1 br.2.1 (by rw [br.2.2.2.2.2.1]; exact hdm) (by rw [br.2.2.2.2.1]; omega) g2.1 ⟨by omega, by omega⟩
                refine I_if_ne (tgt := 74) dX9_readDomain_69 (by decide) (by decide) (fun h69 => ?_) (fun h69 => ?_)
                · refine I_iinc dX9_readDomain_74 rfl (by decide) rfl ?_
                  refine T_goto (tgt := 40) dX9_readDomain_77 (by decide) ?_
                  exact P.weaken z (fun rv K' S' w => TPQ.tr (hC1.tr hC2) (g8.trans h8) w)
                · cases h69
              · exact absurd h59 h3
            · cases h49
end Lists
