/-! Tape: numbers, signs, words, addresses -/
theorem ref_CM {S : SV} {t : Nat} {w : Int} (hr : AllR S) (hw : R32 w) : CM S (sF (sF S t 8 w) t 9 (fI S t 5)) t := (CM.sF hr hw ⟨by omega, by omega⟩).tr (CM.sF (hr.sF hw) (hr.1 _ _) ⟨by omega, by omega⟩)
theorem ref_8 {S : SV} {t : Nat} {w v : Int} : fI (sF (sF S t 8 w) t 9 v) t 8 = w := by rw [fI_sF, if_neg (by omega), fI_sF, if_pos ⟨rfl, rfl⟩]
theorem ref_9 {S : SV} {t : Nat} {w v : Int} : fI (sF (sF S t 8 w) t 9 v) t 9 = v := by rw [fI_sF, if_pos ⟨rfl, rfl⟩]
def sgnM (k : TK) : Except ER Unit := if k.1 = 3 then .ok () else .error (2, k.2.1)
theorem signM_eq (q : PL × TK) : signM q = (sgnM q.2).bind fun _ => .ok (q.1, q.2.2.2.1) := by
  unfold signM sgnM
  split <;> rfl
section Nums
variable {G : GT} {K : List SH} {S : SV} {t : Nat} {tp : Int → Int} {n : Int} {k : TK}
theorem p_T_num {most : Int} (hT : TapeAt K t) (hB : TB S t tp n) (hk : TokR S t k) (hm : R32 most) : P G 1 0 0 mX9_numberStands 0 (LE mX9_numberStands [.ref t, IV most]) [] K S (TPQ K S t (numM k most) (fun v S' => S' = S ∧ fI S t 6 = v)) := by
  have k0 := hT.1
  have hr := hB.1
  obtain ⟨t3, t4, t5, t6⟩ := hk
  have r4 : R32 k.1 := by rw [← t4]; exact hr.1 _ _
  unfold numM
  by_cases a1 : k.1 = 2
  · have v6 := t6 a1
    have r6 : R32 k.2.2.2 := by rw [← v6]; exact hr.1 _ _
    rw [if_pos a1]
    by_cases a2 : k.2.2.2 ≤ most
    · rw [if_pos a2]
      rw [show LE mX9_numberStands [.ref t, IV most] = [some (.ref t), some (IV most)] from rfl]
      refine T_aload_n dX9_numberStands_0 rfl rfl ?_
      refine P_geti dX9_numberStands_1 fX9_42 (by assumption) rfl ?_
      rw [t4]
      refine I_iconst dX9_numberStands_4 ?_
      refine I_icmp_eq (tgt := 14) dX9_numberStands_5 (by decide) r4 (by decide) (fun h5 => ?_) (fun h5 => ?_)
      · refine T_aload_n dX9_numberStands_14 rfl rfl ?_
        refine P_geti dX9_numberStands_15 fX9_105 (by assumption) rfl ?_
        rw [v6]
        refine T_iload_n dX9_numberStands_18 rfl ?_
        refine I_icmp_le (tgt := 30) dX9_numberStands_19 (by decide) r6 hm (fun h19 => ?_) (fun h19 => ?_)
        · refine I_iconst dX9_numberStands_30 ?_
          refine T_goto (tgt := 35) dX9_numberStands_31 (by decide) ?_
          exact I_zreturn dX9_numberStands_35 rfl (by decide) ⟨_, _, rfl, rfl, CM.rf hr, rfl, rfl, rfl, rfl⟩
        · omega
      · exact absurd a1 h5
    · rw [if_neg a2]
      rw [show LE mX9_numberStands [.ref t, IV most] = [some (.ref t), some (IV most)] from rfl]
      refine T_aload_n dX9_numberStands_0 rfl rfl ?_
      refine P_geti dX9_numberStands_1 fX9_42 (by assumption) rfl ?_
      rw [t4]
      refine I_iconst dX9_numberStands_4 ?_
      refine I_icmp_eq (tgt := 14) dX9_numberStands_5 (by decide) r4 (by decide) (fun h5 => ?_) (fun h5 => ?_)
      · refine T_aload_n dX9_numberStands_14 rfl rfl ?_
        refine P_geti dX9_numberStands_15 fX9_105 (by assumption) rfl ?_
        rw [v6]
        refine T_iload_n dX9_numberStands_18 rfl ?_
        refine I_icmp_le (tgt := 30) dX9_numberStands_19 (by decide) r6 hm (fun h19 => ?_) (fun h19 => ?_)
        · omega
        · refine T_aload_n dX9_numberStands_22 rfl rfl ?_
          refine I_iconst dX9_numberStands_23 ?_
          refine Q_callV dX9_numberStands_24 kX9_refuse lX9_77 (by assumption) rfl (p_T_refuse hT) rfl rfl (Nat.le_of_ble_eq_true rfl) (Nat.le_of_ble_eq_true rfl) (by decide) (by decide) ?_
          refine I_if_eq (tgt := 34) dX9_numberStands_27 (by decide) (by decide) (fun h27 => ?_) (fun h27 => ?_)
          · refine I_iconst dX9_numberStands_34 ?_
            exact I_zreturn dX9_numberStands_35 rfl (by decide) ⟨_, _, rfl, rfl, ref_CM hr (by decide), rfl, ref_8, ref_9.trans t5⟩
          · exact absurd rfl h27
      · exact absurd a1 h5
  · rw [if_neg a1]
    rw [show LE mX9_numberStands [.ref t, IV most] = [some (.ref t), some (IV most)] from rfl]
    refine T_aload_n dX9_numberStands_0 rfl rfl ?_
    refine P_geti dX9_numberStands_1 fX9_42 (by assumption) rfl ?_
    rw [t4]
    refine I_iconst dX9_numberStands_4 ?_
    refine I_icmp_eq (tgt := 14) dX9_numberStands_5 (by decide) r4 (by decide) (fun h5 => ?_) (fun h5 => ?_)
    · exact absurd h5 a1
    · refine T_aload_n dX9_numberStands_8 rfl rfl ?_
      refine I_iconst dX9_numberStands_9 ?_
      refine Q_callV dX9_numberStands_10 kX9_refuse lX9_77 (by assumption) rfl (p_T_refuse hT) rfl rfl (Nat.le_of_ble_eq_true rfl) (Nat.le_of_ble_eq_true rfl) (by decide) (by decide) ?_
      exact I_zreturn dX9_numberStands_13 rfl (by decide) ⟨_, _, rfl, rfl, ref_CM hr (by decide), rfl, ref_8, ref_9.trans t5⟩
theorem p_T_sgn (hT : TapeAt K t) (hB : TB S t tp n) (hk : TokR S t k) : P G 1 0 0 mX9_signStands 0 (LE mX9_signStands [.ref t]) [] K S (TPQ K S t (sgnM k) (fun _ S' => S' = S)) := by
  have k0 := hT.1
  have hr := hB.1
  obtain ⟨t3, t4, t5, t6⟩ := hk
  have r4 : R32 k.1 := by rw [← t4]; exact hr.1 _ _
  unfold sgnM
  by_cases a1 : k.1 = 3
  · rw [if_pos a1]
    rw [show LE mX9_signStands [.ref t] = [some (.ref t)] from rfl]
    refine T_aload_n dX9_signStands_0 rfl rfl ?_
    refine P_geti dX9_signStands_1 fX9_42 (by assumption) rfl ?_
    rw [t4]
    refine I_iconst dX9_signStands_4 ?_
    refine I_icmp_eq (tgt := 16) dX9_signStands_5 (by decide) r4 (by decide) (fun h5 => ?_) (fun h5 => ?_)
    · refine I_iconst dX9_signStands_16 ?_
      refine T_goto (tgt := 21) dX9_signStands_17 (by decide) ?_
      exact I_zreturn dX9_signStands_21 rfl (by decide) ⟨_, _, rfl, rfl, CM.rf hr, rfl, rfl, rfl⟩
    · exact absurd a1 h5
  · rw [if_neg a1]
    rw [show LE mX9_signStands [.ref t] = [some (.ref t)] from rfl]
    refine T_aload_n dX9_signStands_0 rfl rfl ?_
    refine P_geti dX9_signStands_1 fX9_42 (by assumption) rfl ?_
    rw [t4]
    refine I_iconst dX9_signStands_4 ?_
    refine I_icmp_eq (tgt := 16) dX9_signStands_5 (by decide) r4 (by decide) (fun h5 => ?_) (fun h5 => ?_)
    · exact absurd h5 a1
    · refine T_aload_n dX9_signStands_8 rfl rfl ?_
      refine I_iconst dX9_signStands_9 ?_
      refine Q_callV dX9_signStands_10 kX9_refuse lX9_77 (by assumption) rfl (p_T_refuse hT) rfl rfl (Nat.le_of_ble_eq_true rfl) (Nat.le_of_ble_eq_true rfl) (by decide) (by decide) ?_
      refine I_if_eq (tgt := 20) dX9_signStands_13 (by decide) (by decide) (fun h13 => ?_) (fun h13 => ?_)
      · refine I_iconst dX9_signStands_20 ?_
        exact I_zreturn dX9_signStands_21 rfl (by decide) ⟨_, _, rfl, rfl, ref_CM hr (by decide), rfl, ref_8, ref_9.trans t5⟩
      · exact absurd rfl h13
noncomputable def endM (tp : Int → Int) (n pos : Int) : Except ER Int := (tkM tp n pos).bind fun k => (sgnM k).bind fun _ => .ok k.2.2.1
theorem p_T_sign {pos : Int} (hT : TapeAt K t) (hB : TB S t tp n) (hp : fI S t 3 = pos) (h0 : 0 ≤ pos ∧ pos ≤ n) : P G 2 0 0 mX9_readSign 0 (LE mX9_readSign [.ref t]) [] K S (TPQ K S t (endM tp n pos) (fun e S' => fI S' t 3 = e ∧ Same S S' (t + 2) (t + 12))) := by
  have k0 := hT.1
  unfold endM
  cases hX : tkM tp n pos with
  | error e =>
    rw [show LE mX9_readSign [.ref t] = [some (.ref t)] from rfl]
    refine T_aload_n dX9_readSign_0 rfl rfl ?_
    refine R_callV dX9_readSign_1 kX9_readToken lX9_38 (by assumption) rfl (p_T_token hT hB hp h0) rfl rfl (Nat.le_of_ble_eq_true rfl) (Nat.le_of_ble_eq_true rfl) (by decide) (by decide) (fun r_ K_ S_ q_ => ?_)
    obtain ⟨hKe, hC1, hx⟩ := q_; subst hKe; rw [hX] at hx; obtain ⟨rfl, h8, h9⟩ := hx
    refine I_if_eq (tgt := 18) dX9_readSign_4 (by decide) (by decide) (fun h4 => ?_) (fun h4 => ?_)
    · refine I_iconst dX9_readSign_18 ?_
      exact I_zreturn dX9_readSign_19 rfl (by decide) ⟨_, _, rfl, rfl, hC1, rfl, h8, h9⟩
    · exact absurd rfl h4
  | ok k =>
    show P G 2 0 0 mX9_readSign 0 (LE mX9_readSign [.ref t]) [] K S (TPQ K S t ((sgnM k).bind fun _ => .ok k.2.2.1) _)
    cases hY : sgnM k with
    | error e =>
      rw [show LE mX9_readSign [.ref t] = [some (.ref t)] from rfl]
      refine T_aload_n dX9_readSign_0 rfl rfl ?_
      refine R_callV dX9_readSign_1 kX9_readToken lX9_38 (by assumption) rfl (p_T_token hT hB hp h0) rfl rfl (Nat.le_of_ble_eq_true rfl) (Nat.le_of_ble_eq_true rfl) (by decide) (by decide) (fun r_ K_ S_ q_ => ?_)
      obtain ⟨hKe, hC1, hx⟩ := q_; subst hKe; rw [hX] at hx; obtain ⟨rfl, h8, hk, hs⟩ := hx
      refine I_if_eq (tgt := 18) dX9_readSign_4 (by decide) (by decide) (fun h4 => ?_) (fun h4 => ?_)
      · cases h4
      · refine T_aload_n dX9_readSign_7 rfl rfl ?_
        refine R_callV dX9_readSign_8 kX9_signStands lX9_90 (by assumption) rfl (p_T_sgn hT (hB.cm hC1) hk) rfl rfl (Nat.le_of_ble_eq_true rfl) (Nat.le_of_ble_eq_true rfl) (by decide) (by decide) (fun r_ K_ S_ q_ => ?_)
        obtain ⟨hKe, hC2, hx⟩ := q_; subst hKe; rw [hY] at hx; obtain ⟨rfl, g8, g9⟩ := hx
        refine I_if_eq (tgt := 18) dX9_readSign_11 (by decide) (by decide) (fun h11 => ?_) (fun h11 => ?_)
        · refine I_iconst dX9_readSign_18 ?_
          exact I_zreturn dX9_readSign_19 rfl (by decide) ⟨_, _, rfl, rfl, hC1.tr hC2, rfl, g8, g9⟩
        · exact absurd rfl h11
    | ok u =>
      rw [show LE mX9_readSign [.ref t] = [some (.ref t)] from rfl]
      refine T_aload_n dX9_readSign_0 rfl rfl ?_
      refine R_callV dX9_readSign_1 kX9_readToken lX9_38 (by assumption) rfl (p_T_token hT hB hp h0) rfl rfl (Nat.le_of_ble_eq_true rfl) (Nat.le_of_ble_eq_true rfl) (by decide) (by decide) (fun r_ K_ S_ q_ => ?_)
      obtain ⟨hKe, hC1, hx⟩ := q_; subst hKe; rw [hX] at hx; obtain ⟨rfl, h8, hk, hs⟩ := hx
      refine I_if_eq (tgt := 18) dX9_readSign_4 (by decide) (by decide) (fun h4 => ?_) (fun h4 => ?_)
      · cases h4
      · refine T_aload_n dX9_readSign_7 rfl rfl ?_
        refine R_callV dX9_readSign_8 kX9_signStands lX9_90 (by assumption) rfl (p_T_sgn hT (hB.cm hC1) hk) rfl rfl (Nat.le_of_ble_eq_true rfl) (Nat.le_of_ble_eq_true rfl) (by decide) (by decide) (fun r_ K_ S_ q_ => ?_)
        obtain ⟨hKe, hC2, hx⟩ := q_; subst hKe; rw [hY] at hx; obtain ⟨rfl, g8, gs⟩ := hx; subst gs
        refine I_if_eq (tgt := 18) dX9_readSign_11 (by decide) (by decide) (fun h11 => ?_) (fun h11 => ?_)
        · cases h11
        · refine I_iconst dX9_readSign_14 ?_
          refine T_goto (tgt := 19) dX9_readSign_15 (by decide) ?_
          exact I_zreturn dX9_readSign_19 rfl (by decide) ⟨_, _, rfl, rfl, hC1, rfl, h8, hk.1, hs⟩
theorem l_T_word {i : Nat} (hi : i < 6) (hT : TapeAt K t) (hB : TB S t tp n) (hk : TokR S t k) (hb : TkB n k) (h1 : k.1 = 1) (h2 : k.2.2.1 - k.2.1 = (slen.getD i 0 : Nat)) (m : Nat) : ∀ z : Int, 0 ≤ z → ((slen.getD i 0 : Nat) : Int) - z = m → (∀ y, 0 ≤ y → y < z → tp (k.2.1 + y) = chrM i y) → P G 4 0 0 mX9_isWord 28 [some (.ref t), some (.retAddr i), some (IV z)] [] K S (Ret K (some (IV (b2p (wordM tp k i)))) S) := by
  have k0 := hT.1
  have k1 := hT.2.1
  have hl := slen_le hi
  obtain ⟨⟨b1, b2, b3⟩, -⟩ := hb
  have hn := hB.2.2.2
  induction m with
  | zero =>
    intro z h0 hm hy
    have hw : wordM tp k i := ⟨h1, h2, fun y a b => hy y a (by omega)⟩
    refine T_iload_n dX9_isWord_28 rfl ?_
    refine T_aload_n dX9_isWord_29 rfl rfl ?_
    refine X_call hi rfl dX9_isWord_30 kJ0_length_8abf5 lX9_157 (p_Slength hi rfl) rfl rfl (Nat.le_of_ble_eq_true rfl) (Nat.le_of_ble_eq_true rfl) (by decide) (by decide) ?_
    refine I_icmp_ge (tgt := 63) dX9_isWord_33 (by decide) ⟨by omega, by omega⟩ ⟨by omega, by omega⟩ (fun h33 => ?_) (fun h33 => by omega)
    refine I_iconst dX9_isWord_63 ?_
    exact I_zreturn dX9_isWord_64 rfl (by decide) ⟨_, _, rfl, by rw [b2p_t hw], rfl, rfl⟩
  | succ m ih =>
    intro z h0 hm hy
    have hv := hB.2.2.1 (k.2.1 + z) (by omega) (by omega)
    have hvr : R32 (tp (k.2.1 + z)) := by rw [← hv]; exact hB.1.2 _ _
    refine T_iload_n dX9_isWord_28 rfl ?_
    refine T_aload_n dX9_isWord_29 rfl rfl ?_
    refine X_call hi rfl dX9_isWord_30 kJ0_length_8abf5 lX9_157 (p_Slength hi rfl) rfl rfl (Nat.le_of_ble_eq_true rfl) (Nat.le_of_ble_eq_true rfl) (by decide) (by decide) ?_
    refine I_icmp_ge (tgt := 63) dX9_isWord_33 (by decide) ⟨by omega, by omega⟩ ⟨by omega, by omega⟩ (fun h33 => by omega) (fun h33 => ?_)
    refine T_aload_n dX9_isWord_36 rfl rfl ?_
    refine P_getr dX9_isWord_37 fX9_9 (by assumption) rfl ?_
    refine T_aload_n dX9_isWord_40 rfl rfl ?_
    refine P_geti dX9_isWord_41 fX9_140 (by assumption) rfl ?_
    rw [hk.2.2.1]
    refine T_iload_n dX9_isWord_44 rfl ?_
    refine I_iadd dX9_isWord_45 ?_
    refine P_bald dX9_isWord_46 (by assumption) ⟨by omega, by omega⟩ (by first | decide | omega) ?_
    rw [hv]
    refine T_aload_n dX9_isWord_47 rfl rfl ?_
    refine T_iload_n dX9_isWord_48 rfl ?_
    refine X_call hi rfl dX9_isWord_49 kJ0_charAt_5068e lX9_161 (p_charAt hi ⟨h0, by omega⟩) rfl rfl (Nat.le_of_ble_eq_true rfl) (Nat.le_of_ble_eq_true rfl) (by decide) (by decide) ?_
    refine I_icmp_eq (tgt := 57) dX9_isWord_52 (by decide) hvr (chr_R _ _) (fun h52 => ?_) (fun h52 => ?_)
    · refine I_iinc dX9_isWord_57 rfl (by decide) rfl ?_
      refine T_goto (tgt := 28) dX9_isWord_60 (by decide) ?_
      exact ih (z + 1) (by omega) (by omega) (fun y a b => by
        by_cases e : y = z
        · rw [e]; exact h52
        · exact hy y a (by omega))
    · refine I_iconst dX9_isWord_55 ?_
      exact I_zreturn dX9_isWord_56 rfl (by decide) ⟨_, _, rfl, by rw [b2p_f (fun w => h52 (w.2.2 z h0 (by omega)))], rfl, rfl⟩
theorem p_T_word {i : Nat} (hi : i < 6) (hT : TapeAt K t) (hB : TB S t tp n) (hk : TokR S t k) (hb : TkB n k) : P G 4 0 0 mX9_isWord 0 (LE mX9_isWord [.ref t, .retAddr i]) [] K S (Ret K (some (IV (b2p (wordM tp k i)))) S) := by
  have k0 := hT.1
  have hl := slen_le hi
  have hn := hB.2.2.2
  have r4 : R32 k.1 := by rw [← hk.2.1]; exact hB.1.1 _ _
  rw [show LE mX9_isWord [.ref t, .retAddr i] = [some (.ref t), some (.retAddr i), none] from rfl]
  refine T_aload_n dX9_isWord_0 rfl rfl ?_
  refine P_geti dX9_isWord_1 fX9_42 (by assumption) rfl ?_
  rw [hk.2.1]
  refine I_iconst dX9_isWord_4 ?_
  refine I_icmp_ne (tgt := 24) dX9_isWord_5 (by decide) r4 (by decide) (fun h5 => ?_) (fun h5 => ?_)
  · have hw : ¬ wordM tp k i := fun w => h5 w.1
    refine I_iconst dX9_isWord_24 ?_
    exact I_zreturn dX9_isWord_25 rfl (by decide) ⟨_, _, rfl, by rw [b2p_f hw], rfl, rfl⟩
  · refine T_aload_n dX9_isWord_8 rfl rfl ?_
    refine P_geti dX9_isWord_9 fX9_25 (by assumption) rfl ?_
    rw [hk.1]
    refine T_aload_n dX9_isWord_12 rfl rfl ?_
    refine P_geti dX9_isWord_13 fX9_140 (by assumption) rfl ?_
    rw [hk.2.2.1]
    refine I_isub dX9_isWord_16 ?_
    refine T_aload_n dX9_isWord_17 rfl rfl ?_
    refine X_call hi rfl dX9_isWord_18 kJ0_length_8abf5 lX9_157 (p_Slength hi rfl) rfl rfl (Nat.le_of_ble_eq_true rfl) (Nat.le_of_ble_eq_true rfl) (by decide) (by decide) ?_
    have hb1 := hb.1
    refine I_icmp_eq (tgt := 26) dX9_isWord_21 (by decide) ⟨by omega, by omega⟩ ⟨by omega, by omega⟩ (fun h21 => ?_) (fun h21 => ?_)
    · refine I_iconst dX9_isWord_26 ?_
      refine T_istore_n dX9_isWord_27 (by decide) rfl ?_
      exact l_T_word hi hT hB hk hb h5 h21 (slen.getD i 0) 0 (by omega) (by omega) (fun y a b => by omega)
    · refine I_iconst dX9_isWord_24 ?_
      exact I_zreturn dX9_isWord_25 rfl (by decide) ⟨_, _, rfl, by rw [b2p_f (fun w => h21 w.2.1)], rfl, rfl⟩
end Nums
