/-! Tape: tokens -/
def TapeAt (K : List SH) (t : Nat) : Prop := K[t]? = some (.inr (9, [some (t + 1), none, some (t + 2), none, none, none, none, none, none, none, none])) ∧ K[t + 1]? = some (.inl (1, 200)) ∧ PlanAt K (t + 2)
/-- bytes and length -/
def TB (S : SV) (t : Nat) (tp : Int → Int) (n : Int) : Prop := AllR S ∧ fI S t 1 = n ∧ (∀ i, 0 ≤ i → i < n → aI S (t + 1) i = tp i) ∧ 0 ≤ n ∧ n ≤ 200
def TokR (S : SV) (t : Nat) (k : TK) : Prop := fI S t 3 = k.2.2.1 ∧ fI S t 4 = k.1 ∧ fI S t 5 = k.2.1 ∧ (k.1 = 2 → fI S t 6 = k.2.2.2)
/-- what stays -/
def CM (S S' : SV) (t : Nat) : Prop := Outs S S' t (t + 12) ∧ Same S S' (t + 1) (t + 2) ∧ AllR S' ∧ fI S' t 1 = fI S t 1 ∧ fI S' t 10 = fI S t 10
theorem CM.tr {S S1 S2 : SV} {t : Nat} (h : CM S S1 t) (h2 : CM S1 S2 t) : CM S S2 t := ⟨h.1.tr h2.1, h.2.1.tr h2.2.1, h2.2.2.1, h2.2.2.2.1.trans h.2.2.2.1, h2.2.2.2.2.trans h.2.2.2.2⟩
theorem CM.rf {S : SV} {t : Nat} (h : AllR S) : CM S S t := ⟨Outs.rf, Same.rf, h, rfl, rfl⟩
theorem TB.cm {S S' : SV} {t : Nat} {tp : Int → Int} {n : Int} (h : TB S t tp n) (hc : CM S S' t) : TB S' t tp n := ⟨hc.2.2.1, hc.2.2.2.1.trans h.2.1, fun i a b => ((hc.2.1 (t + 1) (by omega) (by omega)).2.1 i).trans (h.2.2.1 i a b), h.2.2.2⟩
def TPQ {α : Type} (K : List SH) (S : SV) (t : Nat) (X : Except ER α) (Rel : α → SV → Prop) : Option Value → List SH → SV → Prop := fun rv K' S' => K' = K ∧ CM S S' t ∧ match X with
  | .error e => rv = some (IV 0) ∧ fI S' t 8 = e.1 ∧ fI S' t 9 = e.2
  | .ok a => rv = some (IV 1) ∧ fI S' t 8 = fI S t 8 ∧ Rel a S'
theorem CM.sF {S : SV} {t k : Nat} {v : Int} (hr : AllR S) (hv : R32 v) (hk : k ≠ 1 ∧ k ≠ 10) : CM S (sF S t k v) t := ⟨fun x y w => Same.sF (by omega), Same.sF (by omega), hr.sF hv, by rw [fI_sF, if_neg (by omega)], by rw [fI_sF, if_neg (by omega)]⟩
theorem sF_sF (S : SV) (a k : Nat) (v w : Int) : sF (sF S a k v) a k w = sF S a k w := by
  refine SV_ext (fun a' k' => ?_) (fun _ _ => rfl) (fun _ _ => rfl)
  rw [fI_sF, fI_sF, fI_sF]
  split <;> rfl
section Tape
variable {G : GT} {K : List SH} {S : SV} {t : Nat} {tp : Int → Int} {n : Int}
theorem p_T_refuse {w : Int} (hT : TapeAt K t) : P G 0 0 0 mX9_refuse 0 (LE mX9_refuse [.ref t, IV w]) [] K S (Ret K (some (IV 0)) (sF (sF S t 8 w) t 9 (fI S t 5))) := by
  have k0 := hT.1
  rw [show LE mX9_refuse [.ref t, IV w] = [some (.ref t), some (IV w)] from rfl]
  refine T_aload_n dX9_refuse_0 rfl rfl ?_
  refine T_iload_n dX9_refuse_1 rfl ?_
  refine P_puti dX9_refuse_2 fX9_29 (by assumption) rfl rfl ?_
  refine T_aload_n dX9_refuse_5 rfl rfl ?_
  refine T_aload_n dX9_refuse_6 rfl rfl ?_
  refine P_geti dX9_refuse_7 fX9_140 (by assumption) rfl ?_
  rw [fI_sF, if_neg (by omega)]
  refine P_puti dX9_refuse_10 fX9_165 (by assumption) rfl rfl ?_
  refine I_iconst dX9_refuse_13 ?_
  exact I_zreturn dX9_refuse_14 rfl (by decide) ⟨_, _, rfl, rfl, rfl, rfl⟩
theorem p_tokenOf {c : Int} (hc : R32 c) : P G 0 0 0 mX9_tokenOf 0 (LE mX9_tokenOf [IV c]) [] K S (Ret K (some (IV (sortC c))) S) := by
  rw [show LE mX9_tokenOf [IV c] = [some (IV c)] from rfl]
  refine T_iload_n dX9_tokenOf_0 rfl ?_
  refine I_bipush dX9_tokenOf_1 (by decide) ?_
  refine I_icmp_lt (tgt := 14) dX9_tokenOf_3 (by decide) hc (by decide) (fun h3 => ?_) (fun h3 => ?_)
  · refine T_iload_n dX9_tokenOf_14 rfl ?_
    refine I_bipush dX9_tokenOf_15 (by decide) ?_
    refine I_icmp_lt (tgt := 28) dX9_tokenOf_17 (by decide) hc (by decide) (fun h17 => ?_) (fun h17 => ?_)
    · refine T_iload_n dX9_tokenOf_28 rfl ?_
      refine I_bipush dX9_tokenOf_29 (by decide) ?_
      refine I_icmp_ne (tgt := 38) dX9_tokenOf_31 (by decide) hc (by decide) (fun h31 => ?_) (fun h31 => ?_)
      · have hs : sortC c = -4 := by unfold sortC; rw [if_neg (by omega), if_neg (by omega), if_neg (by omega)]
        refine I_bipush dX9_tokenOf_38 (by decide) ?_
        exact I_ireturn dX9_tokenOf_40 rfl ⟨_, _, rfl, by rw [hs], rfl, rfl⟩
      · have hs : sortC c = 3 := by unfold sortC; rw [if_neg (by omega), if_neg (by omega), if_pos (by omega)]
        refine I_iconst dX9_tokenOf_34 ?_
        refine T_goto (tgt := 40) dX9_tokenOf_35 (by decide) ?_
        exact I_ireturn dX9_tokenOf_40 rfl ⟨_, _, rfl, by rw [hs], rfl, rfl⟩
    · refine T_iload_n dX9_tokenOf_20 rfl ?_
      refine I_bipush dX9_tokenOf_21 (by decide) ?_
      refine I_icmp_gt (tgt := 28) dX9_tokenOf_23 (by decide) hc (by decide) (fun h23 => ?_) (fun h23 => ?_)
      · refine T_iload_n dX9_tokenOf_28 rfl ?_
        refine I_bipush dX9_tokenOf_29 (by decide) ?_
        refine I_icmp_ne (tgt := 38) dX9_tokenOf_31 (by decide) hc (by decide) (fun h31 => ?_) (fun h31 => ?_)
        · have hs : sortC c = -4 := by unfold sortC; rw [if_neg (by omega), if_neg (by omega), if_neg (by omega)]
          refine I_bipush dX9_tokenOf_38 (by decide) ?_
          exact I_ireturn dX9_tokenOf_40 rfl ⟨_, _, rfl, by rw [hs], rfl, rfl⟩
        · have hs : sortC c = 3 := by unfold sortC; rw [if_neg (by omega), if_neg (by omega), if_pos (by omega)]
          refine I_iconst dX9_tokenOf_34 ?_
          refine T_goto (tgt := 40) dX9_tokenOf_35 (by decide) ?_
          exact I_ireturn dX9_tokenOf_40 rfl ⟨_, _, rfl, by rw [hs], rfl, rfl⟩
      · have hs : sortC c = 2 := by unfold sortC; rw [if_neg (by omega), if_pos ⟨by omega, by omega⟩]
        refine I_iconst dX9_tokenOf_26 ?_
        exact I_ireturn dX9_tokenOf_27 rfl ⟨_, _, rfl, by rw [hs], rfl, rfl⟩
  · refine T_iload_n dX9_tokenOf_6 rfl ?_
    refine I_bipush dX9_tokenOf_7 (by decide) ?_
    refine I_icmp_gt (tgt := 14) dX9_tokenOf_9 (by decide) hc (by decide) (fun h9 => ?_) (fun h9 => ?_)
    · refine T_iload_n dX9_tokenOf_14 rfl ?_
      refine I_bipush dX9_tokenOf_15 (by decide) ?_
      refine I_icmp_lt (tgt := 28) dX9_tokenOf_17 (by decide) hc (by decide) (fun h17 => ?_) (fun h17 => ?_)
      · refine T_iload_n dX9_tokenOf_28 rfl ?_
        refine I_bipush dX9_tokenOf_29 (by decide) ?_
        refine I_icmp_ne (tgt := 38) dX9_tokenOf_31 (by decide) hc (by decide) (fun h31 => ?_) (fun h31 => ?_)
        · have hs : sortC c = -4 := by unfold sortC; rw [if_neg (by omega), if_neg (by omega), if_neg (by omega)]
          refine I_bipush dX9_tokenOf_38 (by decide) ?_
          exact I_ireturn dX9_tokenOf_40 rfl ⟨_, _, rfl, by rw [hs], rfl, rfl⟩
        · have hs : sortC c = 3 := by unfold sortC; rw [if_neg (by omega), if_neg (by omega), if_pos (by omega)]
          refine I_iconst dX9_tokenOf_34 ?_
          refine T_goto (tgt := 40) dX9_tokenOf_35 (by decide) ?_
          exact I_ireturn dX9_tokenOf_40 rfl ⟨_, _, rfl, by rw [hs], rfl, rfl⟩
      · refine T_iload_n dX9_tokenOf_20 rfl ?_
        refine I_bipush dX9_tokenOf_21 (by decide) ?_
        refine I_icmp_gt (tgt := 28) dX9_tokenOf_23 (by decide) hc (by decide) (fun h23 => ?_) (fun h23 => ?_)
        · refine T_iload_n dX9_tokenOf_28 rfl ?_
          refine I_bipush dX9_tokenOf_29 (by decide) ?_
          refine I_icmp_ne (tgt := 38) dX9_tokenOf_31 (by decide) hc (by decide) (fun h31 => ?_) (fun h31 => ?_)
          · have hs : sortC c = -4 := by unfold sortC; rw [if_neg (by omega), if_neg (by omega), if_neg (by omega)]
            refine I_bipush dX9_tokenOf_38 (by decide) ?_
            exact I_ireturn dX9_tokenOf_40 rfl ⟨_, _, rfl, by rw [hs], rfl, rfl⟩
          · have hs : sortC c = 3 := by unfold sortC; rw [if_neg (by omega), if_neg (by omega), if_pos (by omega)]
            refine I_iconst dX9_tokenOf_34 ?_
            refine T_goto (tgt := 40) dX9_tokenOf_35 (by decide) ?_
            exact I_ireturn dX9_tokenOf_40 rfl ⟨_, _, rfl, by rw [hs], rfl, rfl⟩
        · have hs : sortC c = 2 := by unfold sortC; rw [if_neg (by omega), if_pos ⟨by omega, by omega⟩]
          refine I_iconst dX9_tokenOf_26 ?_
          exact I_ireturn dX9_tokenOf_27 rfl ⟨_, _, rfl, by rw [hs], rfl, rfl⟩
    · have hs : sortC c = 1 := if_pos ⟨by omega, by omega⟩
      refine I_iconst dX9_tokenOf_12 ?_
      exact I_ireturn dX9_tokenOf_13 rfl ⟨_, _, rfl, by rw [hs], rfl, rfl⟩
theorem l_T_value {s e : Int} (hT : TapeAt K t) (hB : TB S t tp n) (he : fI S t 3 = e) (hs : 0 ≤ s ∧ e ≤ n) (m : Nat) : ∀ i acc : Int, 0 ≤ i → e - i = m → P G 0 0 0 mX9_valueRead 7 [some (.ref t), some (IV acc), some (IV i)] [] K S (Ret K (some (IV (valF tp m i acc))) S) := by
  have k0 := hT.1
  have k1 := hT.2.1
  have hn := hB.2.2.2
  induction m with
  | zero =>
    intro i acc h0 hm
    refine T_iload_n dX9_valueRead_7 rfl ?_
    refine T_aload_n dX9_valueRead_8 rfl rfl ?_
    refine P_geti dX9_valueRead_9 fX9_25 (by assumption) rfl ?_
    rw [he]
    refine I_icmp_ge (tgt := 36) dX9_valueRead_12 (by decide) ⟨by omega, by omega⟩ ⟨by omega, by omega⟩ (fun h12 => ?_) (fun h12 => ?_)
    · refine T_iload_n dX9_valueRead_36 rfl ?_
      exact I_ireturn dX9_valueRead_37 rfl ⟨_, _, rfl, rfl, rfl, rfl⟩
    · omega
  | succ m ih =>
    intro i acc h0 hm
    have hb := hB.2.2.1 i h0 (by omega)
    have z := ih (i + 1) (acc * 10 + tp i - 48) (by omega) (by omega)
    rw [valF]
    refine T_iload_n dX9_valueRead_7 rfl ?_
    refine T_aload_n dX9_valueRead_8 rfl rfl ?_
    refine P_geti dX9_valueRead_9 fX9_25 (by assumption) rfl ?_
    rw [he]
    refine I_icmp_ge (tgt := 36) dX9_valueRead_12 (by decide) ⟨by omega, by omega⟩ ⟨by omega, by omega⟩ (fun h12 => ?_) (fun h12 => ?_)
    · omega
    · refine T_iload_n dX9_valueRead_15 rfl ?_
      refine I_bipush dX9_valueRead_16 (by decide) ?_
      refine I_imul dX9_valueRead_18 ?_
      refine T_aload_n dX9_valueRead_19 rfl rfl ?_
      refine P_getr dX9_valueRead_20 fX9_9 (by assumption) rfl ?_
      refine T_iload_n dX9_valueRead_23 rfl ?_
      refine P_bald dX9_valueRead_24 (by assumption) ⟨by omega, by omega⟩ (by first | decide | omega) ?_
      rw [hb]
      refine I_iadd dX9_valueRead_25 ?_
      refine I_bipush dX9_valueRead_26 (by decide) ?_
      refine I_isub dX9_valueRead_28 ?_
      refine T_istore_n dX9_valueRead_29 (by decide) rfl ?_
      refine I_iinc dX9_valueRead_30 rfl (by decide) rfl ?_
      refine T_goto (tgt := 7) dX9_valueRead_33 (by decide) ?_
      exact z
theorem p_T_value {s e : Int} (hT : TapeAt K t) (hB : TB S t tp n) (he : fI S t 3 = e) (hs2 : fI S t 5 = s) (hs : 0 ≤ s ∧ s ≤ e ∧ e ≤ n) : P G 0 0 0 mX9_valueRead 0 (LE mX9_valueRead [.ref t]) [] K S (Ret K (some (IV (valF tp (e - s).toNat s 0))) S) := by
  have k0 := hT.1
  have z := l_T_value (G := G) hT hB he ⟨hs.1, hs.2.2⟩ (e - s).toNat s 0 hs.1 (by omega)
  rw [show LE mX9_valueRead [.ref t] = [some (.ref t), none, none] from rfl]
  refine I_iconst dX9_valueRead_0 ?_
  refine T_istore_n dX9_valueRead_1 (by decide) rfl ?_
  refine T_aload_n dX9_valueRead_2 rfl rfl ?_
  refine P_geti dX9_valueRead_3 fX9_140 (by assumption) rfl ?_
  rw [hs2]
  refine T_istore_n dX9_valueRead_6 (by decide) rfl ?_
  exact z
theorem l_T_skip {s : Int} {Q : Option Value → List SH → SV → Prop} (hT : TapeAt K t) (hB : TB S t tp n) (m : Nat) : ∀ i : Int, 0 ≤ i → n - i = m → endF (fun i => tp i = 32) m i = s → P G 1 0 0 mX9_readToken 38 [some (.ref t)] [] K (sF S t 3 s) Q → P G 1 0 0 mX9_readToken 0 [some (.ref t)] [] K (sF S t 3 i) Q := by
  have k0 := hT.1
  have k1 := hT.2.1
  have hn := hB.2.2.2
  induction m with
  | zero =>
    intro i h0 hm hs hk
    have hs : i = s := hs
    have e3 : fI (sF S t 3 i) t 3 = i := by rw [fI_sF, if_pos ⟨rfl, rfl⟩]
    have e1 : fI (sF S t 3 i) t 1 = n := by rw [fI_sF, if_neg (by omega)]; exact hB.2.1
    subst hs
    refine T_aload_n dX9_readToken_0 rfl rfl ?_
    refine P_geti dX9_readToken_1 fX9_25 (by assumption) rfl ?_
    rw [e3]
    refine T_aload_n dX9_readToken_4 rfl rfl ?_
    refine P_geti dX9_readToken_5 fX9_35 (by assumption) rfl ?_
    rw [e1]
    refine I_icmp_ge (tgt := 38) dX9_readToken_8 (by decide) ⟨by omega, by omega⟩ ⟨by omega, by omega⟩ (fun h8 => ?_) (fun h8 => ?_)
    · exact hk
    · omega
  | succ m ih =>
    intro i h0 hm hs hk
    have e3 : fI (sF S t 3 i) t 3 = i := by rw [fI_sF, if_pos ⟨rfl, rfl⟩]
    have e1 : fI (sF S t 3 i) t 1 = n := by rw [fI_sF, if_neg (by omega)]; exact hB.2.1
    have hb : aI (sF S t 3 i) (t + 1) i = tp i := hB.2.2.1 i h0 (by omega)
    have hr : R32 (tp i) := by rw [← hb]; exact hB.1.2 _ _
    by_cases h32 : tp i = 32
    · rw [endF_t (p := fun i => tp i = 32) h32] at hs
      have z := ih (i + 1) (by omega) (by omega) hs hk
      refine T_aload_n dX9_readToken_0 rfl rfl ?_
      refine P_geti dX9_readToken_1 fX9_25 (by assumption) rfl ?_
      rw [e3]
      refine T_aload_n dX9_readToken_4 rfl rfl ?_
      refine P_geti dX9_readToken_5 fX9_35 (by assumption) rfl ?_
      rw [e1]
      refine I_icmp_ge (tgt := 38) dX9_readToken_8 (by decide) ⟨by omega, by omega⟩ ⟨by omega, by omega⟩ (fun h8 => ?_) (fun h8 => ?_)
      · omega
      · refine T_aload_n dX9_readToken_11 rfl rfl ?_
        refine P_getr dX9_readToken_12 fX9_9 (by assumption) rfl ?_
        refine T_aload_n dX9_readToken_15 rfl rfl ?_
        refine P_geti dX9_readToken_16 fX9_25 (by assumption) rfl ?_
        rw [e3]
        refine P_bald dX9_readToken_19 (by assumption) ⟨by omega, by omega⟩ (by first | decide | omega) ?_
        rw [hb]
        refine I_bipush dX9_readToken_20 (by decide) ?_
        refine I_icmp_ne (tgt := 38) dX9_readToken_22 (by decide) hr (by decide) (fun h22 => ?_) (fun h22 => ?_)
        · exact absurd h32 h22
        · refine T_aload_n dX9_readToken_25 rfl rfl ?_
          refine T_dup dX9_readToken_26 rfl ?_
          refine P_geti dX9_readToken_27 fX9_25 (by assumption) rfl ?_
          rw [e3]
          refine I_iconst dX9_readToken_30 ?_
          refine I_iadd dX9_readToken_31 ?_
          refine P_puti dX9_readToken_32 fX9_25 (by assumption) rfl rfl ?_
          rw [sF_sF]
          refine T_goto (tgt := 0) dX9_readToken_35 (by decide) ?_
          exact z
    · rw [endF_f (p := fun i => tp i = 32) h32] at hs
      subst hs
      refine T_aload_n dX9_readToken_0 rfl rfl ?_
      refine P_geti dX9_readToken_1 fX9_25 (by assumption) rfl ?_
      rw [e3]
      refine T_aload_n dX9_readToken_4 rfl rfl ?_
      refine P_geti dX9_readToken_5 fX9_35 (by assumption) rfl ?_
      rw [e1]
      refine I_icmp_ge (tgt := 38) dX9_readToken_8 (by decide) ⟨by omega, by omega⟩ ⟨by omega, by omega⟩ (fun h8 => ?_) (fun h8 => ?_)
      · omega
      · refine T_aload_n dX9_readToken_11 rfl rfl ?_
        refine P_getr dX9_readToken_12 fX9_9 (by assumption) rfl ?_
        refine T_aload_n dX9_readToken_15 rfl rfl ?_
        refine P_geti dX9_readToken_16 fX9_25 (by assumption) rfl ?_
        rw [e3]
        refine P_bald dX9_readToken_19 (by assumption) ⟨by omega, by omega⟩ (by first | decide | omega) ?_
        rw [hb]
        refine I_bipush dX9_readToken_20 (by decide) ?_
        refine I_icmp_ne (tgt := 38) dX9_readToken_22 (by decide) hr (by decide) (fun h22 => ?_) (fun h22 => ?_)
        · exact hk
        · exact absurd h22 h32
theorem l_T_run {s c : Int} {Q : Option Value → List SH → SV → Prop} (hT : TapeAt K t) (hB : TB S t tp n) (h4 : fI S t 4 = c) (hc : R32 c) (m : Nat) : ∀ i : Int, 0 ≤ i → n - i = m → endF (fun i => sortC (tp i) = c) m i = s → P G 1 0 0 mX9_readToken 164 [some (.ref t)] [] K (sF S t 3 s) Q → P G 1 0 0 mX9_readToken 121 [some (.ref t)] [] K (sF S t 3 i) Q := by
  have k0 := hT.1
  have k1 := hT.2.1
  have hn := hB.2.2.2
  induction m with
  | zero =>
    intro i h0 hm hs hk
    have hs : i = s := hs
    have e3 : fI (sF S t 3 i) t 3 = i := by rw [fI_sF, if_pos ⟨rfl, rfl⟩]
    have e1 : fI (sF S t 3 i) t 1 = n := by rw [fI_sF, if_neg (by omega)]; exact hB.2.1
    subst hs
    refine T_aload_n dX9_readToken_121 rfl rfl ?_
    refine P_geti dX9_readToken_122 fX9_25 (by assumption) rfl ?_
    rw [e3]
    refine T_aload_n dX9_readToken_125 rfl rfl ?_
    refine P_geti dX9_readToken_126 fX9_35 (by assumption) rfl ?_
    rw [e1]
    refine I_icmp_ge (tgt := 164) dX9_readToken_129 (by decide) ⟨by omega, by omega⟩ ⟨by omega, by omega⟩ (fun h129 => ?_) (fun h129 => ?_)
    · exact hk
    · omega
  | succ m ih =>
    intro i h0 hm hs hk
    have e3 : fI (sF S t 3 i) t 3 = i := by rw [fI_sF, if_pos ⟨rfl, rfl⟩]
    have e1 : fI (sF S t 3 i) t 1 = n := by rw [fI_sF, if_neg (by omega)]; exact hB.2.1
    have e4 : fI (sF S t 3 i) t 4 = c := by rw [fI_sF, if_neg (by omega)]; exact h4
    have hb : aI (sF S t 3 i) (t + 1) i = tp i := hB.2.2.1 i h0 (by omega)
    have hr : R32 (tp i) := by rw [← hb]; exact hB.1.2 _ _
    have hsr : R32 (sortC (tp i)) := by rcases sortC_in (tp i) with z | z | z | z <;> rw [z] <;> decide
    by_cases h32 : sortC (tp i) = c
    · rw [endF_t (p := fun i => sortC (tp i) = c) h32] at hs
      have z := ih (i + 1) (by omega) (by omega) hs hk
      refine T_aload_n dX9_readToken_121 rfl rfl ?_
      refine P_geti dX9_readToken_122 fX9_25 (by assumption) rfl ?_
      rw [e3]
      refine T_aload_n dX9_readToken_125 rfl rfl ?_
      refine P_geti dX9_readToken_126 fX9_35 (by assumption) rfl ?_
      rw [e1]
      refine I_icmp_ge (tgt := 164) dX9_readToken_129 (by decide) ⟨by omega, by omega⟩ ⟨by omega, by omega⟩ (fun h129 => ?_) (fun h129 => ?_)
      · omega
      · refine T_aload_n dX9_readToken_132 rfl rfl ?_
        refine P_getr dX9_readToken_133 fX9_9 (by assumption) rfl ?_
        refine T_aload_n dX9_readToken_136 rfl rfl ?_
        refine P_geti dX9_readToken_137 fX9_25 (by assumption) rfl ?_
        rw [e3]
        refine P_bald dX9_readToken_140 (by assumption) ⟨by omega, by omega⟩ (by first | decide | omega) ?_
        rw [hb]
        refine Q_callS dX9_readToken_141 kX9_tokenOf lX9_149 (p_tokenOf hr) rfl rfl (Nat.le_of_ble_eq_true rfl) (Nat.le_of_ble_eq_true rfl) (by decide) (by decide) ?_
        refine T_aload_n dX9_readToken_144 rfl rfl ?_
        refine P_geti dX9_readToken_145 fX9_42 (by assumption) rfl ?_
        rw [e4]
        refine I_icmp_ne (tgt := 164) dX9_readToken_148 (by decide) hsr hc (fun h148 => ?_) (fun h148 => ?_)
        · exact absurd h32 h148
        · refine T_aload_n dX9_readToken_151 rfl rfl ?_
          refine T_dup dX9_readToken_152 rfl ?_
          refine P_geti dX9_readToken_153 fX9_25 (by assumption) rfl ?_
          rw [e3]
          refine I_iconst dX9_readToken_156 ?_
          refine I_iadd dX9_readToken_157 ?_
          refine P_puti dX9_readToken_158 fX9_25 (by assumption) rfl rfl ?_
          rw [sF_sF]
          refine T_goto (tgt := 121) dX9_readToken_161 (by decide) ?_
          exact z
    · rw [endF_f (p := fun i => sortC (tp i) = c) h32] at hs
      subst hs
      refine T_aload_n dX9_readToken_121 rfl rfl ?_
      refine P_geti dX9_readToken_122 fX9_25 (by assumption) rfl ?_
      rw [e3]
      refine T_aload_n dX9_readToken_125 rfl rfl ?_
      refine P_geti dX9_readToken_126 fX9_35 (by assumption) rfl ?_
      rw [e1]
      refine I_icmp_ge (tgt := 164) dX9_readToken_129 (by decide) ⟨by omega, by omega⟩ ⟨by omega, by omega⟩ (fun h129 => ?_) (fun h129 => ?_)
      · omega
      · refine T_aload_n dX9_readToken_132 rfl rfl ?_
        refine P_getr dX9_readToken_133 fX9_9 (by assumption) rfl ?_
        refine T_aload_n dX9_readToken_136 rfl rfl ?_
        refine P_geti dX9_readToken_137 fX9_25 (by assumption) rfl ?_
        rw [e3]
        refine P_bald dX9_readToken_140 (by assumption) ⟨by omega, by omega⟩ (by first | decide | omega) ?_
        rw [hb]
        refine Q_callS dX9_readToken_141 kX9_tokenOf lX9_149 (p_tokenOf hr) rfl rfl (Nat.le_of_ble_eq_true rfl) (Nat.le_of_ble_eq_true rfl) (by decide) (by decide) ?_
        refine T_aload_n dX9_readToken_144 rfl rfl ?_
        refine P_geti dX9_readToken_145 fX9_42 (by assumption) rfl ?_
        rw [e4]
        refine I_icmp_ne (tgt := 164) dX9_readToken_148 (by decide) hsr hc (fun h148 => ?_) (fun h148 => ?_)
        · exact hk
        · exact absurd h148 h32
end Tape
