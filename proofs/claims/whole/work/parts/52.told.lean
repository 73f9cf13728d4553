/-! Tape: what is told of an address; boxes, other names -/
noncomputable def rtoldM (tp : Int → Int) (n : Int) (pl : PL) (kd pos : Int) : Except ER (PL × Int × TK) := (tkM tp n pos).bind fun t2 => toldM tp n pl kd t2
theorem toldM_b {tp : Int → Int} {n kd : Int} {pl : PL} {k : TK} {q : PL × Int × TK} (hb : TkB n k) (h : toldM tp n pl kd k = .ok q) : (0 ≤ q.2.1 ∧ q.2.1 < 32) ∧ TkB n q.2.2 ∧ k.2.2.1 ≤ q.2.2.2.1 ∧ pKd pl q.2.1 = 0 ∧ q.1 = tellM pl q.2.1 kd := by
  unfold toldM at h
  obtain ⟨r, h1, h⟩ := bind_ok h
  have b := addrM_b hb h1
  by_cases e : pKd pl r.1 ≠ 0
  · rw [if_pos e] at h
    cases h
  · rw [if_neg e] at h
    injection h with h
    subst h
    exact ⟨b.1, b.2.1, b.2.2.1, Classical.not_not.mp e, rfl⟩
theorem rtoldM_b {tp : Int → Int} {n kd pos : Int} {pl : PL} {q : PL × Int × TK} (h0 : 0 ≤ pos ∧ pos ≤ n) (h : rtoldM tp n pl kd pos = .ok q) : (0 ≤ q.2.1 ∧ q.2.1 < 32) ∧ TkB n q.2.2 ∧ pos ≤ q.2.2.2.1 ∧ pKd pl q.2.1 = 0 ∧ q.1 = tellM pl q.2.1 kd := by
  unfold rtoldM at h
  obtain ⟨t2, h1, h⟩ := bind_ok h
  have b := tkM_b h0 h1
  have c := toldM_b b.1 h
  have := b.1.1
  exact ⟨c.1, c.2.1, by omega, c.2.2.2.1, c.2.2.2.2⟩
theorem endM_sign (tp : Int → Int) (n pos : Int) (pl : PL) : ((tkM tp n pos).bind fun t4 => signM (pl, t4)) = (endM tp n pos).bind fun e => .ok (pl, e) := by
  unfold endM
  cases tkM tp n pos with
  | error e => rfl
  | ok k =>
    show signM (pl, k) = ((sgnM k).bind fun _ => .ok k.2.2.1).bind fun e => .ok (pl, e)
    rw [signM_eq]
    cases sgnM k <;> rfl
theorem endM_b {tp : Int → Int} {n pos e : Int} (h0 : 0 ≤ pos ∧ pos ≤ n) (h : endM tp n pos = .ok e) : pos < e ∧ e ≤ n := by
  unfold endM at h
  obtain ⟨k, h1, h⟩ := bind_ok h
  obtain ⟨u, h2, h⟩ := bind_ok h
  injection h with h
  have b := tkM_b h0 h1
  have hs : k.1 = 3 := by
    unfold sgnM at h2
    by_cases e : k.1 = 3
    · exact e
    · rw [if_neg e] at h2
      cases h2
  have := b.1.2.2.2.1 (by omega)
  have := b.1.1
  subst h
  omega
theorem boxM_eq (tp : Int → Int) (n : Int) (pl : PL) (t : TK) : boxM tp n pl t = (rtoldM tp n pl 1 t.2.2.1).bind fun q => (endM tp n q.2.2.2.2.1).bind fun e => .ok (q.1, e) := by
  unfold boxM rtoldM
  cases tkM tp n t.2.2.1 with
  | error e => rfl
  | ok k =>
    show ((toldM tp n pl 1 k).bind fun q => (tkM tp n q.2.2.2.2.1).bind fun t4 => signM (q.1, t4)) = (toldM tp n pl 1 k).bind fun q => (endM tp n q.2.2.2.2.1).bind fun e => .ok (q.1, e)
    cases toldM tp n pl 1 k with
    | error e => rfl
    | ok q => exact endM_sign tp n _ _
noncomputable def aliC (tp : Int → Int) (n : Int) (pl : PL) (pos : Int) : Except ER (PL × Int) := (rtoldM tp n pl 2 pos).bind fun q => (tkM tp n q.2.2.2.2.1).bind fun t4 => (addrM tp n t4).bind fun r => (endM tp n r.2.2.2.1).bind fun e => .ok (addLdM q.1 q.2.1 r.1, e)
theorem aliM_eq {tp : Int → Int} {n : Int} {pl : PL} {t : TK} (hD : DrB pl) (hb : TkB n t) : aliM tp n pl t = aliC tp n pl t.2.2.1 := by
  have hb1 := hb.1
  unfold aliM aliC
  cases hX : tkM tp n t.2.2.1 with
  | error e => unfold rtoldM; rw [hX]; rfl
  | ok k =>
    have bk := tkM_b ⟨by omega, by omega⟩ hX
    have eR : rtoldM tp n pl 2 t.2.2.1 = toldM tp n pl 2 k := by unfold rtoldM; rw [hX]; rfl
    rw [eR]
    show ((toldM tp n pl 2 k).bind _) = _
    cases hY : toldM tp n pl 2 k with
    | error e => rfl
    | ok q =>
      have bq := toldM_b bk.1 hY
      show ((tkM tp n q.2.2.2.2.1).bind _) = (tkM tp n q.2.2.2.2.1).bind _
      cases tkM tp n q.2.2.2.2.1 with
      | error e => rfl
      | ok t4 =>
        show ((tgtM tp n q.1 q.2.1 t4).bind _) = (addrM tp n t4).bind _
        unfold tgtM
        cases addrM tp n t4 with
        | error e => rfl
        | ok r =>
          have hn : ¬ leadsP q.1 q.2.1 r.1 := by
            rintro ⟨i, i0, i1, -⟩
            rw [bq.2.2.2.2] at i1
            have i1 : i < pLc pl q.2.1 := i1
            rw [(hD.2.2.2.1 q.2.1 bq.1.1 bq.1.2).2.1 bq.2.2.2.1] at i1
            omega
          show ((@ite _ (leadsP q.1 q.2.1 r.1) (Classical.propDecidable _) (.error (4, r.2.2.1)) (.ok (addLdM q.1 q.2.1 r.1, r.2)) : Except ER (PL × TK)).bind _) = _
          rw [if_neg hn]
          exact endM_sign tp n _ _
theorem DrB.tell {pl : PL} (h : DrB pl) {a k : Int} (ha : 0 ≤ a ∧ a < 32) (hk : 1 ≤ k ∧ k ≤ 3) : DrB (tellM pl a k) := by
  obtain ⟨h1, h2, h3, h4, h5, h6⟩ := h
  refine ⟨h1, h2, h3, fun x u v => ?_, h5, h6⟩
  obtain ⟨g1, g2, g3⟩ := h4 x u v
  show (0 ≤ fset (pKd pl) a k x ∧ fset (pKd pl) a k x ≤ 3) ∧ (fset (pKd pl) a k x = 0 → pLc pl x = 0) ∧ _
  by_cases e : x = a
  · rw [e, fset_t]
    exact ⟨by omega, fun z => by omega, by rw [← e]; exact g3⟩
  · rw [fset_f _ _ e]
    exact ⟨g1, g2, g3⟩
theorem DrB.addLd {pl : PL} (h : DrB pl) {a b : Int} (ha : 0 ≤ a ∧ a < 32) (hk : pKd pl a ≠ 0) (hn : pLc pl a < 4) (hb : 0 ≤ b ∧ b < 32) : DrB (addLdM pl a b) := by
  obtain ⟨h1, ⟨h2, h2'⟩, h3, h4, h5, h6⟩ := h
  have eL : ∀ x, pLc (addLdM pl a b) x = if x = a then pLc pl a + 1 else pLc pl x := fun x => rfl
  refine ⟨h1, ⟨h2, fun x u v => ?_⟩, h3, fun x u v => ?_, h5, h6⟩
  · rw [eL]
    have := h2' x u v
    have := h2' a ha.1 ha.2
    split <;> omega
  · obtain ⟨g1, g2, g3⟩ := h4 x u v
    refine ⟨g1, fun z => ?_, fun i i0 i1 => ?_⟩
    · have z : pKd pl x = 0 := z
      rw [eL, if_neg (fun y => hk (by rw [← y]; exact z))]
      exact g2 z
    · rw [eL] at i1
      show 0 ≤ fset (pLd pl) a (fset (pLd pl a) (pLc pl a) b) x i ∧ fset (pLd pl) a (fset (pLd pl a) (pLc pl a) b) x i < 32
      by_cases e : x = a
      · rw [e, fset_t]
        rw [if_pos e] at i1
        by_cases e2 : i = pLc pl a
        · rw [e2, fset_t]; exact hb
        · rw [fset_f _ _ e2, ← e]
          exact g3 i i0 (by rw [e]; omega)
      · rw [fset_f _ _ e]
        rw [if_neg e] at i1
        exact g3 i i0 i1
section Told
variable {G : GT} {K : List SH} {S : SV} {t : Nat} {tp : Int → Int} {n : Int} {k : TK} {pl : PL}
theorem p_T_told {kd pos : Int} (hT : TapeAt K t) (hB : TB S t tp n) (hp : fI S t 3 = pos) (h0 : 0 ≤ pos ∧ pos ≤ n) (hR : PlanR S (t + 2) pl) (hD : DrB pl) (hkd : 1 ≤ kd ∧ kd ≤ 3) : P G 3 0 0 mX9_readTold 0 (LE mX9_readTold [.ref t, IV kd]) [] K S (TPQ K S t (rtoldM tp n pl kd pos) (fun q S' => PlanR S' (t + 2) q.1 ∧ TokR S' t q.2.2 ∧ fI S' t 7 = q.2.1)) := by
  have k0 := hT.1
  have kp := hT.2.2
  have kp0 := kp.1
  have kp6 := kp.2.2.2.2.2.2.1
  unfold rtoldM
  cases hX : tkM tp n pos with
  | error e =>
    rw [show LE mX9_readTold [.ref t, IV kd] = [some (.ref t), some (IV kd)] from rfl]
    refine T_aload_n dX9_readTold_0 rfl rfl ?_
    refine R_callV dX9_readTold_1 kX9_readToken lX9_38 (by assumption) rfl (p_T_token hT hB hp h0) rfl rfl (Nat.le_of_ble_eq_true rfl) (Nat.le_of_ble_eq_true rfl) (by decide) (by decide) (fun r_ K_ S_ q_ => ?_)
    obtain ⟨hKe, hC1, hx⟩ := q_; subst hKe; rw [hX] at hx; obtain ⟨rfl, h8, h9⟩ := hx
    refine I_if_eq (tgt := 14) dX9_readTold_4 (by decide) (by decide) (fun h4 => ?_) (fun h4 => ?_)
    · refine I_iconst dX9_readTold_14 ?_
      exact I_zreturn dX9_readTold_15 rfl (by decide) ⟨_, _, rfl, rfl, hC1, rfl, h8, h9⟩
    · exact absurd rfl h4
  | ok k =>
    have bk := tkM_b h0 hX
    show P G 3 0 0 mX9_readTold 0 (LE mX9_readTold [.ref t, IV kd]) [] K S (TPQ K S t (toldM tp n pl kd k) _)
    unfold toldM
    cases hY : addrM tp n k with
    | error e =>
      rw [show LE mX9_readTold [.ref t, IV kd] = [some (.ref t), some (IV kd)] from rfl]
      refine T_aload_n dX9_readTold_0 rfl rfl ?_
      refine R_callV dX9_readTold_1 kX9_readToken lX9_38 (by assumption) rfl (p_T_token hT hB hp h0) rfl rfl (Nat.le_of_ble_eq_true rfl) (Nat.le_of_ble_eq_true rfl) (by decide) (by decide) (fun r_ K_ S_ q_ => ?_)
      obtain ⟨hKe, hC1, hx⟩ := q_; subst hKe; rw [hX] at hx; obtain ⟨rfl, h8, hk, hs⟩ := hx
      refine I_if_eq (tgt := 14) dX9_readTold_4 (by decide) (by decide) (fun h4 => ?_) (fun h4 => ?_)
      · cases h4
      · refine T_aload_n dX9_readTold_7 rfl rfl ?_
        refine R_callV dX9_readTold_8 kX9_addressStands lX9_116 (by assumption) rfl (p_T_addr hT (hB.cm hC1) hk bk.1) rfl rfl (Nat.le_of_ble_eq_true rfl) (Nat.le_of_ble_eq_true rfl) (by decide) (by decide) (fun r_ K_ S_ q_ => ?_)
        obtain ⟨hKe, hC2, hx⟩ := q_; subst hKe; rw [hY] at hx; obtain ⟨rfl, g8, g9⟩ := hx
        refine I_if_ne (tgt := 16) dX9_readTold_11 (by decide) (by decide) (fun h11 => ?_) (fun h11 => ?_)
        · exact absurd rfl h11
        · refine I_iconst dX9_readTold_14 ?_
          exact I_zreturn dX9_readTold_15 rfl (by decide) ⟨_, _, rfl, rfl, hC1.tr hC2, rfl, g8, g9⟩
    | ok q =>
      have bq := addrM_b bk.1 hY
      have hkr := (hD.2.2.2.1 q.1 bq.1.1 bq.1.2).1
      show P G 3 0 0 mX9_readTold 0 (LE mX9_readTold [.ref t, IV kd]) [] K S (TPQ K S t (if pKd pl q.1 ≠ 0 then .error (4, q.2.2.1) else .ok (tellM pl q.1 kd, q.1, q.2)) _)
      by_cases e0 : pKd pl q.1 = 0
      · rw [if_neg (fun z => z e0)]
        rw [show LE mX9_readTold [.ref t, IV kd] = [some (.ref t), some (IV kd)] from rfl]
        refine T_aload_n dX9_readTold_0 rfl rfl ?_
        refine R_callV dX9_readTold_1 kX9_readToken lX9_38 (by assumption) rfl (p_T_token hT hB hp h0) rfl rfl (Nat.le_of_ble_eq_true rfl) (Nat.le_of_ble_eq_true rfl) (by decide) (by decide) (fun r_ K_ S_ q_ => ?_)
        obtain ⟨hKe, hC1, hx⟩ := q_; subst hKe; rw [hX] at hx; obtain ⟨rfl, h8, hk, hs⟩ := hx
        refine I_if_eq (tgt := 14) dX9_readTold_4 (by decide) (by decide) (fun h4 => ?_) (fun h4 => ?_)
        · cases h4
        · refine T_aload_n dX9_readTold_7 rfl rfl ?_
          refine R_callV dX9_readTold_8 kX9_addressStands lX9_116 (by assumption) rfl (p_T_addr hT (hB.cm hC1) hk bk.1) rfl rfl (Nat.le_of_ble_eq_true rfl) (Nat.le_of_ble_eq_true rfl) (by decide) (by decide) (fun r_ K_ S_ q_ => ?_)
          obtain ⟨hKe, hC2, hx⟩ := q_; subst hKe; rw [hY] at hx; obtain ⟨rfl, g8, gk, g7, gs⟩ := hx
          have hR2 := (hR.same hs).same gs
          have hkd2 : aI S_ (t + 2 + 6) q.1 = pKd pl q.1 := (hR2.2.2.2.1 q.1 bq.1.1 bq.1.2).1
          refine I_if_ne (tgt := 16) dX9_readTold_11 (by decide) (by decide) (fun h11 => ?_) (fun h11 => ?_)
          · refine T_aload_n dX9_readTold_16 rfl rfl ?_
            refine P_getr dX9_readTold_17 fX9_18 (by assumption) rfl ?_
            refine P_getr dX9_readTold_20 fX9_119 (by assumption) rfl ?_
            refine T_aload_n dX9_readTold_23 rfl rfl ?_
            refine P_geti dX9_readTold_24 fX9_123 (by assumption) rfl ?_
            rw [g7]
            refine P_iald dX9_readTold_27 (by assumption) ⟨by omega, by omega⟩ (by first | decide | omega) ?_
            rw [hkd2]
            refine I_if_eq (tgt := 37) dX9_readTold_28 (by decide) ⟨by omega, by omega⟩ (fun h28 => ?_) (fun h28 => ?_)
            · refine T_aload_n dX9_readTold_37 rfl rfl ?_
              refine P_getr dX9_readTold_38 fX9_18 (by assumption) rfl ?_
              refine T_aload_n dX9_readTold_41 rfl rfl ?_
              refine P_geti dX9_readTold_42 fX9_123 (by assumption) rfl ?_
              rw [g7]
              refine T_iload_n dX9_readTold_45 rfl ?_
              refine R_callV dX9_readTold_46 kX5_tell lX9_126 (by assumption) rfl (p_Plan_tell kp hC2.2.2.1 hR2 bq.1 e0 hkd) rfl rfl (Nat.le_of_ble_eq_true rfl) (Nat.le_of_ble_eq_true rfl) (by decide) (by decide) (fun r_ K_ S_ q_ => ?_)
              obtain ⟨rfl, hKe, i1, i2, i3⟩ := q_; subst hKe; obtain ⟨c4, c5⟩ := CM.pl i2 i3
              refine I_iconst dX9_readTold_49 ?_
              exact I_zreturn dX9_readTold_50 rfl (by decide) ⟨_, _, rfl, rfl, (hC1.tr hC2).tr c4, rfl, (c5 8).trans (g8.trans h8), i1, ⟨(c5 3).trans gk.1, (c5 4).trans gk.2.1, (c5 5).trans gk.2.2.1, fun z => (c5 6).trans (gk.2.2.2 z)⟩, (c5 7).trans g7⟩
            · exact absurd e0 h28
          · cases h11
      · rw [if_pos e0]
        rw [show LE mX9_readTold [.ref t, IV kd] = [some (.ref t), some (IV kd)] from rfl]
        refine T_aload_n dX9_readTold_0 rfl rfl ?_
        refine R_callV dX9_readTold_1 kX9_readToken lX9_38 (by assumption) rfl (p_T_token hT hB hp h0) rfl rfl (Nat.le_of_ble_eq_true rfl) (Nat.le_of_ble_eq_true rfl) (by decide) (by decide) (fun r_ K_ S_ q_ => ?_)
        obtain ⟨hKe, hC1, hx⟩ := q_; subst hKe; rw [hX] at hx; obtain ⟨rfl, h8, hk, hs⟩ := hx
        refine I_if_eq (tgt := 14) dX9_readTold_4 (by decide) (by decide) (fun h4 => ?_) (fun h4 => ?_)
        · cases h4
        · refine T_aload_n dX9_readTold_7 rfl rfl ?_
          refine R_callV dX9_readTold_8 kX9_addressStands lX9_116 (by assumption) rfl (p_T_addr hT (hB.cm hC1) hk bk.1) rfl rfl (Nat.le_of_ble_eq_true rfl) (Nat.le_of_ble_eq_true rfl) (by decide) (by decide) (fun r_ K_ S_ q_ => ?_)
          obtain ⟨hKe, hC2, hx⟩ := q_; subst hKe; rw [hY] at hx; obtain ⟨rfl, g8, gk, g7, gs⟩ := hx
          have hR2 := (hR.same hs).same gs
          have hkd2 : aI S_ (t + 2 + 6) q.1 = pKd pl q.1 := (hR2.2.2.2.1 q.1 bq.1.1 bq.1.2).1
          refine I_if_ne (tgt := 16) dX9_readTold_11 (by decide) (by decide) (fun h11 => ?_) (fun h11 => ?_)
          · refine T_aload_n dX9_readTold_16 rfl rfl ?_
            refine P_getr dX9_readTold_17 fX9_18 (by assumption) rfl ?_
            refine P_getr dX9_readTold_20 fX9_119 (by assumption) rfl ?_
            refine T_aload_n dX9_readTold_23 rfl rfl ?_
            refine P_geti dX9_readTold_24 fX9_123 (by assumption) rfl ?_
            rw [g7]
            refine P_iald dX9_readTold_27 (by assumption) ⟨by omega, by omega⟩ (by first | decide | omega) ?_
            rw [hkd2]
            refine I_if_eq (tgt := 37) dX9_readTold_28 (by decide) ⟨by omega, by omega⟩ (fun h28 => ?_) (fun h28 => ?_)
            · exact absurd h28 e0
            · refine T_aload_n dX9_readTold_31 rfl rfl ?_
              refine I_iconst dX9_readTold_32 ?_
              refine Q_callV dX9_readTold_33 kX9_refuse lX9_77 (by assumption) rfl (p_T_refuse hT) rfl rfl (Nat.le_of_ble_eq_true rfl) (Nat.le_of_ble_eq_true rfl) (by decide) (by decide) ?_
              exact I_zreturn dX9_readTold_36 rfl (by decide) ⟨_, _, rfl, rfl, (hC1.tr hC2).tr (ref_CM hC2.2.2.1 (by decide)), rfl, ref_8, ref_9.trans gk.2.2.1⟩
          · cases h11
theorem p_T_box (hT : TapeAt K t) (hB : TB S t tp n) (hk : TokR S t k) (hb : TkB n k) (hR : PlanR S (t + 2) pl) (hD : DrB pl) : P G 4 0 0 mX9_readBox 0 (LE mX9_readBox [.ref t]) [] K S (TPQ K S t (boxM tp n pl k) (fun q S' => PlanR S' (t + 2) q.1 ∧ fI S' t 3 = q.2)) := by
  have k0 := hT.1
  have hb1 := hb.1
  rw [boxM_eq]
  cases hX : rtoldM tp n pl 1 k.2.2.1 with
  | error e =>
    rw [show LE mX9_readBox [.ref t] = [some (.ref t)] from rfl]
    refine T_aload_n dX9_readBox_0 rfl rfl ?_
    refine I_iconst dX9_readBox_1 ?_
    refine R_callV dX9_readBox_2 kX9_readTold lX9_130 (by assumption) rfl (p_T_told hT hB hk.1 ⟨by omega, by omega⟩ hR hD (by decide)) rfl rfl (Nat.le_of_ble_eq_true rfl) (Nat.le_of_ble_eq_true rfl) (by decide) (by decide) (fun r_ K_ S_ q_ => ?_)
    obtain ⟨hKe, hC1, hx⟩ := q_; subst hKe; rw [hX] at hx; obtain ⟨rfl, h8, h9⟩ := hx
    refine I_if_eq (tgt := 19) dX9_readBox_5 (by decide) (by decide) (fun h5 => ?_) (fun h5 => ?_)
    · refine I_iconst dX9_readBox_19 ?_
      exact I_zreturn dX9_readBox_20 rfl (by decide) ⟨_, _, rfl, rfl, hC1, rfl, h8, h9⟩
    · exact absurd rfl h5
  | ok q =>
    have bq := rtoldM_b ⟨by omega, by omega⟩ hX
    have bq1 := bq.2.1.1
    show P G 4 0 0 mX9_readBox 0 (LE mX9_readBox [.ref t]) [] K S (TPQ K S t ((endM tp n q.2.2.2.2.1).bind fun e => .ok (q.1, e)) _)
    cases hY : endM tp n q.2.2.2.2.1 with
    | error e =>
      rw [show LE mX9_readBox [.ref t] = [some (.ref t)] from rfl]
      refine T_aload_n dX9_readBox_0 rfl rfl ?_
      refine I_iconst dX9_readBox_1 ?_
      refine R_callV dX9_readBox_2 kX9_readTold lX9_130 (by assumption) rfl (p_T_told hT hB hk.1 ⟨by omega, by omega⟩ hR hD (by decide)) rfl rfl (Nat.le_of_ble_eq_true rfl) (Nat.le_of_ble_eq_true rfl) (by decide) (by decide) (fun r_ K_ S_ q_ => ?_)
      obtain ⟨hKe, hC1, hx⟩ := q_; subst hKe; rw [hX] at hx; obtain ⟨rfl, h8, hq1, hq2, hq3⟩ := hx
      refine I_if_eq (tgt := 19) dX9_readBox_5 (by decide) (by decide) (fun h5 => ?_) (fun h5 => ?_)
      · cases h5
      · refine T_aload_n dX9_readBox_8 rfl rfl ?_
        refine R_callV dX9_readBox_9 kX9_readSign lX9_99 (by assumption) rfl (p_T_sign hT (hB.cm hC1) hq2.1 ⟨by omega, by omega⟩) rfl rfl (Nat.le_of_ble_eq_true rfl) (Nat.le_of_ble_eq_true rfl) (by decide) (by decide) (fun r_ K_ S_ q_ => ?_)
        obtain ⟨hKe, hC2, hx⟩ := q_; subst hKe; rw [hY] at hx; obtain ⟨rfl, g8, g9⟩ := hx
        refine I_if_eq (tgt := 19) dX9_readBox_12 (by decide) (by decide) (fun h12 => ?_) (fun h12 => ?_)
        · refine I_iconst dX9_readBox_19 ?_
          exact I_zreturn dX9_readBox_20 rfl (by decide) ⟨_, _, rfl, rfl, hC1.tr hC2, rfl, g8, g9⟩
        · exact absurd rfl h12
    | ok e =>
      rw [show LE mX9_readBox [.ref t] = [some (.ref t)] from rfl]
      refine T_aload_n dX9_readBox_0 rfl rfl ?_
      refine I_iconst dX9_readBox_1 ?_
      refine R_callV dX9_readBox_2 kX9_readTold lX9_130 (by assumption) rfl (p_T_told hT hB hk.1 ⟨by omega, by omega⟩ hR hD (by decide)) rfl rfl (Nat.le_of_ble_eq_true rfl) (Nat.le_of_ble_eq_true rfl) (by decide) (by decide) (fun r_ K_ S_ q_ => ?_)
      obtain ⟨hKe, hC1, hx⟩ := q_; subst hKe; rw [hX] at hx; obtain ⟨rfl, h8, hq1, hq2, hq3⟩ := hx
      refine I_if_eq (tgt := 19) dX9_readBox_5 (by decide) (by decide) (fun h5 => ?_) (fun h5 => ?_)
      · cases h5
      · refine T_aload_n dX9_readBox_8 rfl rfl ?_
        refine R_callV dX9_readBox_9 kX9_readSign lX9_99 (by assumption) rfl (p_T_sign hT (hB.cm hC1) hq2.1 ⟨by omega, by omega⟩) rfl rfl (Nat.le_of_ble_eq_true rfl) (Nat.le_of_ble_eq_true rfl) (by decide) (by decide) (fun r_ K_ S_ q_ => ?_)
        obtain ⟨hKe, hC2, hx⟩ := q_; subst hKe; rw [hY] at hx; obtain ⟨rfl, g8, g3, gs⟩ := hx
        refine I_if_eq (tgt := 19) dX9_readBox_12 (by decide) (by decide) (fun h12 => ?_) (fun h12 => ?_)
        · cases h12
        · refine I_iconst dX9_readBox_15 ?_
          refine T_goto (tgt := 20) dX9_readBox_16 (by decide) ?_
          exact I_zreturn dX9_readBox_20 rfl (by decide) ⟨_, _, rfl, rfl, hC1.tr hC2, rfl, g8.trans h8, hq1.same gs, g3⟩
theorem p_T_alias (hT : TapeAt K t) (hB : TB S t tp n) (hk : TokR S t k) (hb : TkB n k) (hR : PlanR S (t + 2) pl) (hD : DrB pl) : P G 4 0 0 mX9_readAlias 0 (LE mX9_readAlias [.ref t]) [] K S (TPQ K S t (aliM tp n pl k) (fun q S' => PlanR S' (t + 2) q.1 ∧ fI S' t 3 = q.2)) := by
  have k0 := hT.1
  have kp := hT.2.2
  have kp0 := kp.1
  have hb1 := hb.1
  rw [aliM_eq hD hb]
  unfold aliC
  cases hX : rtoldM tp n pl 2 k.2.2.1 with
  | error e =>
    rw [show LE mX9_readAlias [.ref t] = [some (.ref t), none] from rfl]
    refine T_aload_n dX9_readAlias_0 rfl rfl ?_
    refine I_iconst dX9_readAlias_1 ?_
    refine R_callV dX9_readAlias_2 kX9_readTold lX9_130 (by assumption) rfl (p_T_told hT hB hk.1 ⟨by omega, by omega⟩ hR hD (by decide)) rfl rfl (Nat.le_of_ble_eq_true rfl) (Nat.le_of_ble_eq_true rfl) (by decide) (by decide) (fun r_ K_ S_ q_ => ?_)
    obtain ⟨hKe, hC1, hx⟩ := q_; subst hKe; rw [hX] at hx; obtain ⟨rfl, h8, h9⟩ := hx
    refine I_if_ne (tgt := 10) dX9_readAlias_5 (by decide) (by decide) (fun h5 => ?_) (fun h5 => ?_)
    · exact absurd rfl h5
    · refine I_iconst dX9_readAlias_8 ?_
      exact I_zreturn dX9_readAlias_9 rfl (by decide) ⟨_, _, rfl, rfl, hC1, rfl, h8, h9⟩
  | ok q =>
    have bq := rtoldM_b ⟨by omega, by omega⟩ hX
    have bq1 := bq.2.1.1
    have hDq : DrB q.1 := by rw [bq.2.2.2.2]; exact hD.tell bq.1 (by decide)
    have hLq : pLc q.1 q.2.1 = 0 := by
      rw [bq.2.2.2.2]
      exact (hD.2.2.2.1 q.2.1 bq.1.1 bq.1.2).2.1 bq.2.2.2.1
    show P G 4 0 0 mX9_readAlias 0 (LE mX9_readAlias [.ref t]) [] K S (TPQ K S t ((tkM tp n q.2.2.2.2.1).bind fun t4 => (addrM tp n t4).bind fun r => (endM tp n r.2.2.2.1).bind fun e => .ok (addLdM q.1 q.2.1 r.1, e)) _)
    cases hY : tkM tp n q.2.2.2.2.1 with
    | error e =>
      rw [show LE mX9_readAlias [.ref t] = [some (.ref t), none] from rfl]
      refine T_aload_n dX9_readAlias_0 rfl rfl ?_
      refine I_iconst dX9_readAlias_1 ?_
      refine R_callV dX9_readAlias_2 kX9_readTold lX9_130 (by assumption) rfl (p_T_told hT hB hk.1 ⟨by omega, by omega⟩ hR hD (by decide)) rfl rfl (Nat.le_of_ble_eq_true rfl) (Nat.le_of_ble_eq_true rfl) (by decide) (by decide) (fun r_ K_ S_ q_ => ?_)
      obtain ⟨hKe, hC1, hx⟩ := q_; subst hKe; rw [hX] at hx; obtain ⟨rfl, h8, hq1, hq2, hq3⟩ := hx
      refine I_if_ne (tgt := 10) dX9_readAlias_5 (by decide) (by decide) (fun h5 => ?_) (fun h5 => ?_)
      · refine T_aload_n dX9_readAlias_10 rfl rfl ?_
        refine P_geti dX9_readAlias_11 fX9_123 (by assumption) rfl ?_
        rw [hq3]
        refine T_istore_n dX9_readAlias_14 (by decide) rfl ?_
        refine T_aload_n dX9_readAlias_15 rfl rfl ?_
        refine R_callV dX9_readAlias_16 kX9_readToken lX9_38 (by assumption) rfl (p_T_token hT (hB.cm hC1) hq2.1 ⟨by omega, by omega⟩) rfl rfl (Nat.le_of_ble_eq_true rfl) (Nat.le_of_ble_eq_true rfl) (by decide) (by decide) (fun r_ K_ S_ q_ => ?_)
        obtain ⟨hKe, hC2, hx⟩ := q_; subst hKe; rw [hY] at hx; obtain ⟨rfl, g8, g9⟩ := hx
        refine I_if_eq (tgt := 29) dX9_readAlias_19 (by decide) (by decide) (fun h19 => ?_) (fun h19 => ?_)
        · refine I_iconst dX9_readAlias_29 ?_
          exact I_zreturn dX9_readAlias_30 rfl (by decide) ⟨_, _, rfl, rfl, hC1.tr hC2, rfl, g8, g9⟩
        · exact absurd rfl h19
      · cases h5
    | ok t4 =>
      have b4 := tkM_b ⟨by omega, by omega⟩ hY
      show P G 4 0 0 mX9_readAlias 0 (LE mX9_readAlias [.ref t]) [] K S (TPQ K S t ((addrM tp n t4).bind fun r => (endM tp n r.2.2.2.1).bind fun e => .ok (addLdM q.1 q.2.1 r.1, e)) _)
      cases hZ : addrM tp n t4 with
      | error e =>
        rw [show LE mX9_readAlias [.ref t] = [some (.ref t), none] from rfl]
        refine T_aload_n dX9_readAlias_0 rfl rfl ?_
        refine I_iconst dX9_readAlias_1 ?_
        refine R_callV dX9_readAlias_2 kX9_readTold lX9_130 (by assumption) rfl (p_T_told hT hB hk.1 ⟨by omega, by omega⟩ hR hD (by decide)) rfl rfl (Nat.le_of_ble_eq_true rfl) (Nat.le_of_ble_eq_true rfl) (by decide) (by decide) (fun r_ K_ S_ q_ => ?_)
        obtain ⟨hKe, hC1, hx⟩ := q_; subst hKe; rw [hX] at hx; obtain ⟨rfl, h8, hq1, hq2, hq3⟩ := hx
        refine I_if_ne (tgt := 10) dX9_readAlias_5 (by decide) (by decide) (fun h5 => ?_) (fun h5 => ?_)
        · refine T_aload_n dX9_readAlias_10 rfl rfl ?_
          refine P_geti dX9_readAlias_11 fX9_123 (by assumption) rfl ?_
          rw [hq3]
          refine T_istore_n dX9_readAlias_14 (by decide) rfl ?_
          refine T_aload_n dX9_readAlias_15 rfl rfl ?_
          refine R_callV dX9_readAlias_16 kX9_readToken lX9_38 (by assumption) rfl (p_T_token hT (hB.cm hC1) hq2.1 ⟨by omega, by omega⟩) rfl rfl (Nat.le_of_ble_eq_true rfl) (Nat.le_of_ble_eq_true rfl) (by decide) (by decide) (fun r_ K_ S_ q_ => ?_)
          obtain ⟨hKe, hC2, hx⟩ := q_; subst hKe; rw [hY] at hx; obtain ⟨rfl, g8, gk, gs⟩ := hx
          refine I_if_eq (tgt := 29) dX9_readAlias_19 (by decide) (by decide) (fun h19 => ?_) (fun h19 => ?_)
          · cases h19
          · refine T_aload_n dX9_readAlias_22 rfl rfl ?_
            refine R_callV dX9_readAlias_23 kX9_addressStands lX9_116 (by assumption) rfl (p_T_addr hT ((hB.cm hC1).cm hC2) gk b4.1) rfl rfl (Nat.le_of_ble_eq_true rfl) (Nat.le_of_ble_eq_true rfl) (by decide) (by decide) (fun r_ K_ S_ q_ => ?_)
            obtain ⟨hKe, hC3, hx⟩ := q_; subst hKe; rw [hZ] at hx; obtain ⟨rfl, j8, j9⟩ := hx
            refine I_if_ne (tgt := 31) dX9_readAlias_26 (by decide) (by decide) (fun h26 => ?_) (fun h26 => ?_)
            · exact absurd rfl h26
            · refine I_iconst dX9_readAlias_29 ?_
              exact I_zreturn dX9_readAlias_30 rfl (by decide) ⟨_, _, rfl, rfl, (hC1.tr hC2).tr hC3, rfl, j8, j9⟩
        · cases h5
      | ok r =>
        have br := addrM_b b4.1 hZ
        have br1 := br.2.1.1
        show P G 4 0 0 mX9_readAlias 0 (LE mX9_readAlias [.ref t]) [] K S (TPQ K S t ((endM tp n r.2.2.2.1).bind fun e => .ok (addLdM q.1 q.2.1 r.1, e)) _)
        rw [show LE mX9_readAlias [.ref t] = [some (.ref t), none] from rfl]
        refine T_aload_n dX9_readAlias_0 rfl rfl ?_
        refine I_iconst dX9_readAlias_1 ?_
        refine R_callV dX9_readAlias_2 kX9_readTold lX9_130 (by assumption) rfl (p_T_told hT hB hk.1 ⟨by omega, by omega⟩ hR hD (by decide)) rfl rfl (Nat.le_of_ble_eq_true rfl) (Nat.le_of_ble_eq_true rfl) (by decide) (by decide) (fun r_ K_ S_ q_ => ?_)
        obtain ⟨hKe, hC1, hx⟩ := q_; subst hKe; rw [hX] at hx; obtain ⟨rfl, h8, hq1, hq2, hq3⟩ := hx
        refine I_if_ne (tgt := 10) dX9_readAlias_5 (by decide) (by decide) (fun h5 => ?_) (fun h5 => ?_)
        · refine T_aload_n dX9_readAlias_10 rfl rfl ?_
          refine P_geti dX9_readAlias_11 fX9_123 (by assumption) rfl ?_
          rw [hq3]
          refine T_istore_n dX9_readAlias_14 (by decide) rfl ?_
          refine T_aload_n dX9_readAlias_15 rfl rfl ?_
          refine R_callV dX9_readAlias_16 kX9_readToken lX9_38 (by assumption) rfl (p_T_token hT (hB.cm hC1) hq2.1 ⟨by omega, by omega⟩) rfl rfl (Nat.le_of_ble_eq_true rfl) (Nat.le_of_ble_eq_true rfl) (by decide) (by decide) (fun r_ K_ S_ q_ => ?_)
          obtain ⟨hKe, hC2, hx⟩ := q_; subst hKe; rw [hY] at hx; obtain ⟨rfl, g8, gk, gs⟩ := hx
          refine I_if_eq (tgt := 29) dX9_readAlias_19 (by decide) (by decide) (fun h19 => ?_) (fun h19 => ?_)
          · cases h19
          · refine T_aload_n dX9_readAlias_22 rfl rfl ?_
            refine R_callV dX9_readAlias_23 kX9_addressStands lX9_116 (by assumption) rfl (p_T_addr hT ((hB.cm hC1).cm hC2) gk b4.1) rfl rfl (Nat.le_of_ble_eq_true rfl) (Nat.le_of_ble_eq_true rfl) (by decide) (by decide) (fun r_ K_ S_ q_ => ?_)
            obtain ⟨hKe, hC3, hx⟩ := q_; subst hKe; rw [hZ] at hx; obtain ⟨rfl, j8, jk, j7, js⟩ := hx
            have hR3 := (hq1.same gs).same js
            refine I_if_ne (tgt := 31) dX9_readAlias_26 (by decide) (by decide) (fun h26 => ?_) (fun h26 => ?_)
            · refine T_aload_n dX9_readAlias_31 rfl rfl ?_
              refine P_getr dX9_readAlias_32 fX9_18 (by assumption) rfl ?_
              refine T_iload_n dX9_readAlias_35 rfl ?_
              refine T_aload_n dX9_readAlias_36 rfl rfl ?_
              refine P_geti dX9_readAlias_37 fX9_123 (by assumption) rfl ?_
              rw [j7]
              refine R_callV dX9_readAlias_40 kX5_addLead lX9_133 (by assumption) rfl (p_Plan_addLead kp hC3.2.2.1 hR3 bq.1 hDq.2.1 (by omega) ⟨by omega, by omega⟩) rfl rfl (Nat.le_of_ble_eq_true rfl) (Nat.le_of_ble_eq_true rfl) (by decide) (by decide) (fun r_ K_ S_ q_ => ?_)
              obtain ⟨rfl, hKe, i1, i2, i3⟩ := q_; subst hKe; obtain ⟨c4, c5⟩ := CM.pl i2 i3
              have hC4 := ((hC1.tr hC2).tr hC3).tr c4
              refine T_aload_n dX9_readAlias_43 rfl rfl ?_
              refine R_callV dX9_readAlias_44 kX9_readSign lX9_99 (by assumption) rfl (p_T_sign hT (hB.cm hC4) ((c5 3).trans jk.1) ⟨by omega, by omega⟩) rfl rfl (Nat.le_of_ble_eq_true rfl) (Nat.le_of_ble_eq_true rfl) (by decide) (by decide) (fun r_ K_ S_ q_ => ?_)
              obtain ⟨hKe, hC5, hx⟩ := q_; subst hKe
              cases hW : endM tp n r.2.2.2.1 with
              | error e =>
                rw [hW] at hx
                obtain ⟨rfl, l8, l9⟩ := hx
                exact I_zreturn dX9_readAlias_47 rfl (by decide) ⟨_, _, rfl, rfl, hC4.tr hC5, rfl, l8, l9⟩
              | ok e =>
                rw [hW] at hx
                obtain ⟨rfl, l8, l3, ls⟩ := hx
                exact I_zreturn dX9_readAlias_47 rfl (by decide) ⟨_, _, rfl, rfl, hC4.tr hC5, rfl, l8.trans ((c5 8).trans (j8.trans (g8.trans h8))), i1.same ls, l3⟩
            · cases h26
        · cases h5
end Told
