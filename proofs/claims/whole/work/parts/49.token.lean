/-! Tape: a token, a number, a word, an address -/
theorem sF_self (S : SV) (a k : Nat) : sF S a k (fI S a k) = S := by
  refine SV_ext (fun a' k' => ?_) (fun _ _ => rfl) (fun _ _ => rfl)
  rw [fI_sF]
  split
  · rename_i h
    rw [h.1, h.2]
  · rfl
theorem tkM_ok {tp : Int → Int} {n pos : Int} {k : TK} (h : tokS tp n (skM tp n pos) = k) (h4 : k.1 ≠ -4) : tkM tp n pos = .ok k := by
  unfold tkM
  rw [h, if_neg h4]
theorem tkM_er {tp : Int → Int} {n pos : Int} {s e v : Int} (h : tokS tp n (skM tp n pos) = (-4, s, e, v)) : tkM tp n pos = .error (1, s) := by
  unfold tkM
  rw [h, if_pos rfl]
section Token
variable {G : GT} {K : List SH} {S : SV} {t : Nat} {tp : Int → Int} {n : Int}
theorem p_T_token {pos : Int} (hT : TapeAt K t) (hB : TB S t tp n) (hp : fI S t 3 = pos) (h0 : 0 ≤ pos ∧ pos ≤ n) : P G 1 0 0 mX9_readToken 0 (LE mX9_readToken [.ref t]) [] K S (TPQ K S t (tkM tp n pos) (fun k S' => TokR S' t k ∧ Same S S' (t + 2) (t + 12))) := by
  have k0 := hT.1
  have k1 := hT.2.1
  have hn := hB.2.2.2
  have hr := hB.1
  obtain ⟨b1, b2, -⟩ := skM_b tp h0
  rw [show LE mX9_readToken [.ref t] = [some (.ref t)] from rfl]
  have hS : S = sF S t 3 pos := by rw [← hp, sF_self]
  suffices key : ∀ S1, S1 = sF S t 3 pos → P G 1 0 0 mX9_readToken 0 [some (.ref t)] [] K S1 (TPQ K S t (tkM tp n pos) (fun k S' => TokR S' t k ∧ Same S S' (t + 2) (t + 12))) from key S hS
  intro S1 hS1
  subst hS1
  refine l_T_skip (S := S) (tp := tp) (n := n) (s := skM tp n pos) hT hB (n - pos).toNat pos h0.1 (by omega) rfl ?_
  obtain ⟨s, hs⟩ : ∃ s, s = skM tp n pos := ⟨_, rfl⟩
  rw [← hs] at b1 b2 ⊢
  have c3 : CM S (sF S t 3 s) t := CM.sF hr ⟨by omega, by omega⟩ ⟨by omega, by omega⟩
  have c5 : CM (sF S t 3 s) (sF (sF S t 3 s) t 5 s) t := CM.sF c3.2.2.1 ⟨by omega, by omega⟩ ⟨by omega, by omega⟩
  have e3 : fI (sF S t 3 s) t 3 = s := by rw [fI_sF, if_pos ⟨rfl, rfl⟩]
  have e3b : fI (sF (sF S t 3 s) t 5 s) t 3 = s := by rw [fI_sF, if_neg (by omega)]; exact e3
  have e1 : fI (sF (sF S t 3 s) t 5 s) t 1 = n := by rw [fI_sF, if_neg (by omega), fI_sF, if_neg (by omega)]; exact hB.2.1
  by_cases a1 : n ≤ s
  · rw [tkM_ok (k := (0, s, s, 0)) (by rw [← hs]; exact if_pos a1) (by show (0 : Int) ≠ -4; omega)]
    have c4 : CM (sF (sF S t 3 s) t 5 s) (sF (sF (sF S t 3 s) t 5 s) t 4 0) t := CM.sF c5.2.2.1 (by decide) ⟨by omega, by omega⟩
    have e4 : fI (sF (sF (sF S t 3 s) t 5 s) t 4 0) t 4 = 0 := by rw [fI_sF, if_pos ⟨rfl, rfl⟩]
    refine T_aload_n dX9_readToken_38 rfl rfl ?_
    refine T_aload_n dX9_readToken_39 rfl rfl ?_
    refine P_geti dX9_readToken_40 fX9_25 (by assumption) rfl ?_
    rw [e3]
    refine P_puti dX9_readToken_43 fX9_140 (by assumption) rfl rfl ?_
    refine T_aload_n dX9_readToken_46 rfl rfl ?_
    refine T_aload_n dX9_readToken_47 rfl rfl ?_
    refine P_geti dX9_readToken_48 fX9_25 (by assumption) rfl ?_
    rw [e3b]
    refine T_aload_n dX9_readToken_51 rfl rfl ?_
    refine P_geti dX9_readToken_52 fX9_35 (by assumption) rfl ?_
    rw [e1]
    refine I_icmp_ge (tgt := 73) dX9_readToken_55 (by decide) ⟨by omega, by omega⟩ ⟨by omega, by omega⟩ (fun h55 => ?_) (fun h55 => ?_)
    · refine I_iconst dX9_readToken_73 ?_
      refine P_puti dX9_readToken_74 fX9_42 (by assumption) rfl rfl ?_
      refine T_aload_n dX9_readToken_77 rfl rfl ?_
      refine P_geti dX9_readToken_78 fX9_42 (by assumption) rfl ?_
      rw [e4]
      refine I_if_ne (tgt := 86) dX9_readToken_81 (by decide) ⟨by omega, by omega⟩ (fun h81 => ?_) (fun h81 => ?_)
      · exact absurd rfl h81
      · refine I_iconst dX9_readToken_84 ?_
        exact I_zreturn dX9_readToken_85 rfl (by decide) ⟨_, _, rfl, rfl, (c3.tr c5).tr c4, rfl, by simp [fI_sF], ⟨by simp [fI_sF], by simp [fI_sF], by simp [fI_sF], fun z => (by cases z)⟩, ((Same.sF (by omega)).tr (Same.sF (by omega))).tr (Same.sF (by omega))⟩
    · omega
  · have hb : aI (sF (sF S t 3 s) t 5 s) (t + 1) s = tp s := hB.2.2.1 s (by omega) (by omega)
    have hbr : R32 (tp s) := by rw [← hb]; exact c5.2.2.1.2 _ _
    have hsr : R32 (sortC (tp s)) := by rcases sortC_in (tp s) with z | z | z | z <;> rw [z] <;> decide
    have hs0 : sortC (tp s) ≠ 0 := by rcases sortC_in (tp s) with z | z | z | z <;> omega
    have c4 : CM (sF (sF S t 3 s) t 5 s) (sF (sF (sF S t 3 s) t 5 s) t 4 (sortC (tp s))) t := CM.sF c5.2.2.1 hsr ⟨by omega, by omega⟩
    have e4 : fI (sF (sF (sF S t 3 s) t 5 s) t 4 (sortC (tp s))) t 4 = sortC (tp s) := by rw [fI_sF, if_pos ⟨rfl, rfl⟩]
    have e34 : fI (sF (sF (sF S t 3 s) t 5 s) t 4 (sortC (tp s))) t 3 = s := by rw [fI_sF, if_neg (by omega)]; exact e3b
    have e54 : fI (sF (sF (sF S t 3 s) t 5 s) t 4 (sortC (tp s))) t 5 = s := by rw [fI_sF, if_neg (by omega), fI_sF, if_pos ⟨rfl, rfl⟩]
    have hC4 := (c3.tr c5).tr c4
    have hB4 := hB.cm hC4
    have hs4 : Same S (sF (sF (sF S t 3 s) t 5 s) t 4 (sortC (tp s))) (t + 2) (t + 12) := ((Same.sF (by omega)).tr (Same.sF (by omega))).tr (Same.sF (by omega))
    have e84 : fI (sF (sF (sF S t 3 s) t 5 s) t 4 (sortC (tp s))) t 8 = fI S t 8 := by simp [fI_sF]
    have e64 : fI (sF (sF (sF S t 3 s) t 5 s) t 4 (sortC (tp s))) t 10 = fI S t 10 := by simp [fI_sF]
    by_cases a2 : sortC (tp s) = -4
    · rw [tkM_er (s := s) (e := s) (v := 0) (by rw [← hs]; unfold tokS; rw [if_neg a1, if_pos a2])]
      refine T_aload_n dX9_readToken_38 rfl rfl ?_
      refine T_aload_n dX9_readToken_39 rfl rfl ?_
      refine P_geti dX9_readToken_40 fX9_25 (by assumption) rfl ?_
      rw [e3]
      refine P_puti dX9_readToken_43 fX9_140 (by assumption) rfl rfl ?_
      refine T_aload_n dX9_readToken_46 rfl rfl ?_
      refine T_aload_n dX9_readToken_47 rfl rfl ?_
      refine P_geti dX9_readToken_48 fX9_25 (by assumption) rfl ?_
      rw [e3b]
      refine T_aload_n dX9_readToken_51 rfl rfl ?_
      refine P_geti dX9_readToken_52 fX9_35 (by assumption) rfl ?_
      rw [e1]
      refine I_icmp_ge (tgt := 73) dX9_readToken_55 (by decide) ⟨by omega, by omega⟩ ⟨by omega, by omega⟩ (fun h55 => ?_) (fun h55 => ?_)
      · omega
      · refine T_aload_n dX9_readToken_58 rfl rfl ?_
        refine P_getr dX9_readToken_59 fX9_9 (by assumption) rfl ?_
        refine T_aload_n dX9_readToken_62 rfl rfl ?_
        refine P_geti dX9_readToken_63 fX9_25 (by assumption) rfl ?_
        rw [e3b]
        refine P_bald dX9_readToken_66 (by assumption) ⟨by omega, by omega⟩ (by first | decide | omega) ?_
        rw [hb]
        refine Q_callS dX9_readToken_67 kX9_tokenOf lX9_149 (p_tokenOf hbr) rfl rfl (Nat.le_of_ble_eq_true rfl) (Nat.le_of_ble_eq_true rfl) (by decide) (by decide) ?_
        refine T_goto (tgt := 74) dX9_readToken_70 (by decide) ?_
        refine P_puti dX9_readToken_74 fX9_42 (by assumption) rfl rfl ?_
        generalize sF (sF (sF S t 3 s) t 5 s) t 4 (sortC (tp s)) = S4 at hC4 hB4 hs4 e4 e34 e54 e84 e64 ⊢
        refine T_aload_n dX9_readToken_77 rfl rfl ?_
        refine P_geti dX9_readToken_78 fX9_42 (by assumption) rfl ?_
        rw [e4]
        refine I_if_ne (tgt := 86) dX9_readToken_81 (by decide) hsr (fun h81 => ?_) (fun h81 => ?_)
        · refine T_aload_n dX9_readToken_86 rfl rfl ?_
          refine P_geti dX9_readToken_87 fX9_42 (by assumption) rfl ?_
          rw [e4]
          refine I_bipush dX9_readToken_90 (by decide) ?_
          refine I_icmp_ne (tgt := 101) dX9_readToken_92 (by decide) hsr (by decide) (fun h92 => ?_) (fun h92 => ?_)
          · exact absurd a2 h92
          · refine T_aload_n dX9_readToken_95 rfl rfl ?_
            refine I_iconst dX9_readToken_96 ?_
            refine Q_callV dX9_readToken_97 kX9_refuse lX9_77 (by assumption) rfl (p_T_refuse hT) rfl rfl (Nat.le_of_ble_eq_true rfl) (Nat.le_of_ble_eq_true rfl) (by decide) (by decide) ?_
            rw [e54]
            exact I_zreturn dX9_readToken_100 rfl (by decide) ⟨_, _, rfl, rfl, hC4.tr ((CM.sF hB4.1 (by decide) ⟨by omega, by omega⟩).tr (CM.sF (hB4.1.sF (by decide)) ⟨by omega, by omega⟩ ⟨by omega, by omega⟩)), rfl, by simp [fI_sF], by simp [fI_sF]⟩
        · exact absurd h81 hs0
    · by_cases a3 : sortC (tp s) = 3
      · rw [tkM_ok (k := (3, s, s + 1, 0)) (by rw [← hs]; unfold tokS; rw [if_neg a1, if_neg a2, if_pos a3]) (by show (3 : Int) ≠ -4; omega)]
        refine T_aload_n dX9_readToken_38 rfl rfl ?_
        refine T_aload_n dX9_readToken_39 rfl rfl ?_
        refine P_geti dX9_readToken_40 fX9_25 (by assumption) rfl ?_
        rw [e3]
        refine P_puti dX9_readToken_43 fX9_140 (by assumption) rfl rfl ?_
        refine T_aload_n dX9_readToken_46 rfl rfl ?_
        refine T_aload_n dX9_readToken_47 rfl rfl ?_
        refine P_geti dX9_readToken_48 fX9_25 (by assumption) rfl ?_
        rw [e3b]
        refine T_aload_n dX9_readToken_51 rfl rfl ?_
        refine P_geti dX9_readToken_52 fX9_35 (by assumption) rfl ?_
        rw [e1]
        refine I_icmp_ge (tgt := 73) dX9_readToken_55 (by decide) ⟨by omega, by omega⟩ ⟨by omega, by omega⟩ (fun h55 => ?_) (fun h55 => ?_)
        · omega
        · refine T_aload_n dX9_readToken_58 rfl rfl ?_
          refine P_getr dX9_readToken_59 fX9_9 (by assumption) rfl ?_
          refine T_aload_n dX9_readToken_62 rfl rfl ?_
          refine P_geti dX9_readToken_63 fX9_25 (by assumption) rfl ?_
          rw [e3b]
          refine P_bald dX9_readToken_66 (by assumption) ⟨by omega, by omega⟩ (by first | decide | omega) ?_
          rw [hb]
          refine Q_callS dX9_readToken_67 kX9_tokenOf lX9_149 (p_tokenOf hbr) rfl rfl (Nat.le_of_ble_eq_true rfl) (Nat.le_of_ble_eq_true rfl) (by decide) (by decide) ?_
          refine T_goto (tgt := 74) dX9_readToken_70 (by decide) ?_
          refine P_puti dX9_readToken_74 fX9_42 (by assumption) rfl rfl ?_
          generalize sF (sF (sF S t 3 s) t 5 s) t 4 (sortC (tp s)) = S4 at hC4 hB4 hs4 e4 e34 e54 e84 e64 ⊢
          have e45 : fI (sF S4 t 3 (s + 1)) t 4 = sortC (tp s) := by rw [fI_sF, if_neg (by omega)]; exact e4
          refine T_aload_n dX9_readToken_77 rfl rfl ?_
          refine P_geti dX9_readToken_78 fX9_42 (by assumption) rfl ?_
          rw [e4]
          refine I_if_ne (tgt := 86) dX9_readToken_81 (by decide) hsr (fun h81 => ?_) (fun h81 => ?_)
          · refine T_aload_n dX9_readToken_86 rfl rfl ?_
            refine P_geti dX9_readToken_87 fX9_42 (by assumption) rfl ?_
            rw [e4]
            refine I_bipush dX9_readToken_90 (by decide) ?_
            refine I_icmp_ne (tgt := 101) dX9_readToken_92 (by decide) hsr (by decide) (fun h92 => ?_) (fun h92 => ?_)
            · refine T_aload_n dX9_readToken_101 rfl rfl ?_
              refine T_dup dX9_readToken_102 rfl ?_
              refine P_geti dX9_readToken_103 fX9_25 (by assumption) rfl ?_
              rw [e34]
              refine I_iconst dX9_readToken_106 ?_
              refine I_iadd dX9_readToken_107 ?_
              refine P_puti dX9_readToken_108 fX9_25 (by assumption) rfl rfl ?_
              refine T_aload_n dX9_readToken_111 rfl rfl ?_
              refine P_geti dX9_readToken_112 fX9_42 (by assumption) rfl ?_
              rw [e45]
              refine I_iconst dX9_readToken_115 ?_
              refine I_icmp_ne (tgt := 121) dX9_readToken_116 (by decide) hsr (by decide) (fun h116 => ?_) (fun h116 => ?_)
              · exact absurd a3 h116
              · refine I_iconst dX9_readToken_119 ?_
                exact I_zreturn dX9_readToken_120 rfl (by decide) ⟨_, _, rfl, rfl, hC4.tr (CM.sF hB4.1 ⟨by omega, by omega⟩ ⟨by omega, by omega⟩), rfl, by rw [fI_sF, if_neg (by omega)]; exact e84, ⟨by rw [fI_sF, if_pos ⟨rfl, rfl⟩], e45.trans a3, by rw [fI_sF, if_neg (by omega)]; exact e54, fun z => (by cases z)⟩, hs4.tr (Same.sF (by omega))⟩
            · exact absurd h92 a2
          · exact absurd h81 hs0
      · obtain ⟨r1, r2, r3⟩ := rnM_b tp (n := n) (s := s) ⟨by omega, by omega⟩
        obtain ⟨e, he⟩ : ∃ e, e = rnM tp n s := ⟨_, rfl⟩
        have hrun : endF (fun i => sortC (tp i) = sortC (tp s)) (n - (s + 1)).toNat (s + 1) = e := he.symm
        rw [← he] at r1 r2 r3
        have c6 : CM (sF (sF (sF S t 3 s) t 5 s) t 4 (sortC (tp s))) (sF (sF (sF (sF S t 3 s) t 5 s) t 4 (sortC (tp s))) t 3 e) t := CM.sF hB4.1 ⟨by omega, by omega⟩ ⟨by omega, by omega⟩
        have hC6 := hC4.tr c6
        have hB6 := hB.cm hC6
        have e46 : fI (sF (sF (sF (sF S t 3 s) t 5 s) t 4 (sortC (tp s))) t 3 e) t 4 = sortC (tp s) := by rw [fI_sF, if_neg (by omega)]; exact e4
        have e36 : fI (sF (sF (sF (sF S t 3 s) t 5 s) t 4 (sortC (tp s))) t 3 e) t 3 = e := by rw [fI_sF, if_pos ⟨rfl, rfl⟩]
        have e56 : fI (sF (sF (sF (sF S t 3 s) t 5 s) t 4 (sortC (tp s))) t 3 e) t 5 = s := by rw [fI_sF, if_neg (by omega)]; exact e54
        have e86 : fI (sF (sF (sF (sF S t 3 s) t 5 s) t 4 (sortC (tp s))) t 3 e) t 8 = fI S t 8 := by rw [fI_sF, if_neg (by omega)]; exact e84
        have hs6 : Same S (sF (sF (sF (sF S t 3 s) t 5 s) t 4 (sortC (tp s))) t 3 e) (t + 2) (t + 12) := hs4.tr (Same.sF (by omega))
        have hend : P G 1 0 0 mX9_readToken 164 [some (.ref t)] [] K (sF (sF (sF (sF S t 3 s) t 5 s) t 4 (sortC (tp s))) t 3 e) (TPQ K S t (tkM tp n pos) (fun k S' => TokR S' t k ∧ Same S S' (t + 2) (t + 12))) := by
          generalize sF (sF (sF (sF S t 3 s) t 5 s) t 4 (sortC (tp s))) t 3 e = S6 at hC6 hB6 e46 e36 e56 e86 hs6 ⊢
          by_cases a4 : sortC (tp s) = 2
          · by_cases a5 : 2 < e - s
            · rw [tkM_er (s := s) (e := s) (v := 0) (by rw [← hs]; unfold tokS; rw [if_neg a1, if_neg a2, if_neg a3, if_pos a4, ← he, if_pos a5])]
              refine T_aload_n dX9_readToken_164 rfl rfl ?_
              refine P_geti dX9_readToken_165 fX9_42 (by assumption) rfl ?_
              rw [e46]
              refine I_iconst dX9_readToken_168 ?_
              refine I_icmp_ne (tgt := 199) dX9_readToken_169 (by decide) hsr (by decide) (fun h169 => ?_) (fun h169 => ?_)
              · exact absurd a4 h169
              · refine T_aload_n dX9_readToken_172 rfl rfl ?_
                refine P_geti dX9_readToken_173 fX9_25 (by assumption) rfl ?_
                rw [e36]
                refine T_aload_n dX9_readToken_176 rfl rfl ?_
                refine P_geti dX9_readToken_177 fX9_140 (by assumption) rfl ?_
                rw [e56]
                refine I_isub dX9_readToken_180 ?_
                refine I_iconst dX9_readToken_181 ?_
                refine I_icmp_le (tgt := 191) dX9_readToken_182 (by decide) ⟨by omega, by omega⟩ ⟨by omega, by omega⟩ (fun h182 => ?_) (fun h182 => ?_)
                · omega
                · refine T_aload_n dX9_readToken_185 rfl rfl ?_
                  refine I_iconst dX9_readToken_186 ?_
                  refine Q_callV dX9_readToken_187 kX9_refuse lX9_77 (by assumption) rfl (p_T_refuse hT) rfl rfl (Nat.le_of_ble_eq_true rfl) (Nat.le_of_ble_eq_true rfl) (by decide) (by decide) ?_
                  rw [e56]
                  exact I_zreturn dX9_readToken_190 rfl (by decide) ⟨_, _, rfl, rfl, hC6.tr ((CM.sF hB6.1 (by decide) ⟨by omega, by omega⟩).tr (CM.sF (hB6.1.sF (by decide)) ⟨by omega, by omega⟩ ⟨by omega, by omega⟩)), rfl, by simp [fI_sF], by simp [fI_sF]⟩
            · rw [tkM_ok (k := (2, s, e, valF tp (e - s).toNat s 0)) (by rw [← hs]; unfold tokS; rw [if_neg a1, if_neg a2, if_neg a3, if_pos a4, ← he, if_neg a5]) (by show (2 : Int) ≠ -4; omega)]
              have hv := val_b (tp := tp) (m := (e - s).toNat) (s := s) (by omega) (fun t u v => sortC_2 ((r3 t u (by omega)).trans a4))
              refine T_aload_n dX9_readToken_164 rfl rfl ?_
              refine P_geti dX9_readToken_165 fX9_42 (by assumption) rfl ?_
              rw [e46]
              refine I_iconst dX9_readToken_168 ?_
              refine I_icmp_ne (tgt := 199) dX9_readToken_169 (by decide) hsr (by decide) (fun h169 => ?_) (fun h169 => ?_)
              · exact absurd a4 h169
              · refine T_aload_n dX9_readToken_172 rfl rfl ?_
                refine P_geti dX9_readToken_173 fX9_25 (by assumption) rfl ?_
                rw [e36]
                refine T_aload_n dX9_readToken_176 rfl rfl ?_
                refine P_geti dX9_readToken_177 fX9_140 (by assumption) rfl ?_
                rw [e56]
                refine I_isub dX9_readToken_180 ?_
                refine I_iconst dX9_readToken_181 ?_
                refine I_icmp_le (tgt := 191) dX9_readToken_182 (by decide) ⟨by omega, by omega⟩ ⟨by omega, by omega⟩ (fun h182 => ?_) (fun h182 => ?_)
                · refine T_aload_n dX9_readToken_191 rfl rfl ?_
                  refine T_aload_n dX9_readToken_192 rfl rfl ?_
                  refine Q_callV dX9_readToken_193 kX9_valueRead lX9_153 (by assumption) rfl (p_T_value hT hB6 e36 e56 ⟨by omega, by omega, by omega⟩) rfl rfl (Nat.le_of_ble_eq_true rfl) (Nat.le_of_ble_eq_true rfl) (by decide) (by decide) ?_
                  refine P_puti dX9_readToken_196 fX9_105 (by assumption) rfl rfl ?_
                  refine I_iconst dX9_readToken_199 ?_
                  exact I_zreturn dX9_readToken_200 rfl (by decide) ⟨_, _, rfl, rfl, hC6.tr (CM.sF hB6.1 ⟨by omega, by omega⟩ ⟨by omega, by omega⟩), rfl, by rw [fI_sF, if_neg (by omega)]; exact e86, ⟨by rw [fI_sF, if_neg (by omega)]; exact e36, by rw [fI_sF, if_neg (by omega)]; exact e46.trans a4, by rw [fI_sF, if_neg (by omega)]; exact e56, fun _ => by rw [fI_sF, if_pos ⟨rfl, rfl⟩]⟩, hs6.tr (Same.sF (by omega))⟩
                · omega
          · have a6 : sortC (tp s) = 1 := by rcases sortC_in (tp s) with z | z | z | z <;> omega
            rw [tkM_ok (k := (1, s, e, 0)) (by rw [← hs]; unfold tokS; rw [if_neg a1, if_neg a2, if_neg a3, if_neg a4, ← he]) (by show (1 : Int) ≠ -4; omega)]
            refine T_aload_n dX9_readToken_164 rfl rfl ?_
            refine P_geti dX9_readToken_165 fX9_42 (by assumption) rfl ?_
            rw [e46]
            refine I_iconst dX9_readToken_168 ?_
            refine I_icmp_ne (tgt := 199) dX9_readToken_169 (by decide) hsr (by decide) (fun h169 => ?_) (fun h169 => ?_)
            · refine I_iconst dX9_readToken_199 ?_
              exact I_zreturn dX9_readToken_200 rfl (by decide) ⟨_, _, rfl, rfl, hC6, rfl, e86, ⟨e36, e46.trans a6, e56, fun z => (by cases z)⟩, hs6⟩
            · exact absurd h169 a4
        have hrn := l_T_run (G := G) (s := e) (c := sortC (tp s)) (Q := TPQ K S t (tkM tp n pos) (fun k S' => TokR S' t k ∧ Same S S' (t + 2) (t + 12))) hT hB4 e4 hsr (n - (s + 1)).toNat (s + 1) (by omega) (by omega) hrun hend
        have e45 : fI (sF (sF (sF (sF S t 3 s) t 5 s) t 4 (sortC (tp s))) t 3 (s + 1)) t 4 = sortC (tp s) := by rw [fI_sF, if_neg (by omega)]; exact e4
        refine T_aload_n dX9_readToken_38 rfl rfl ?_
        refine T_aload_n dX9_readToken_39 rfl rfl ?_
        refine P_geti dX9_readToken_40 fX9_25 (by assumption) rfl ?_
        rw [e3]
        refine P_puti dX9_readToken_43 fX9_140 (by assumption) rfl rfl ?_
        refine T_aload_n dX9_readToken_46 rfl rfl ?_
        refine T_aload_n dX9_readToken_47 rfl rfl ?_
        refine P_geti dX9_readToken_48 fX9_25 (by assumption) rfl ?_
        rw [e3b]
        refine T_aload_n dX9_readToken_51 rfl rfl ?_
        refine P_geti dX9_readToken_52 fX9_35 (by assumption) rfl ?_
        rw [e1]
        refine I_icmp_ge (tgt := 73) dX9_readToken_55 (by decide) ⟨by omega, by omega⟩ ⟨by omega, by omega⟩ (fun h55 => ?_) (fun h55 => ?_)
        · omega
        · refine T_aload_n dX9_readToken_58 rfl rfl ?_
          refine P_getr dX9_readToken_59 fX9_9 (by assumption) rfl ?_
          refine T_aload_n dX9_readToken_62 rfl rfl ?_
          refine P_geti dX9_readToken_63 fX9_25 (by assumption) rfl ?_
          rw [e3b]
          refine P_bald dX9_readToken_66 (by assumption) ⟨by omega, by omega⟩ (by first | decide | omega) ?_
          rw [hb]
          refine Q_callS dX9_readToken_67 kX9_tokenOf lX9_149 (p_tokenOf hbr) rfl rfl (Nat.le_of_ble_eq_true rfl) (Nat.le_of_ble_eq_true rfl) (by decide) (by decide) ?_
          refine T_goto (tgt := 74) dX9_readToken_70 (by decide) ?_
          refine P_puti dX9_readToken_74 fX9_42 (by assumption) rfl rfl ?_
          refine T_aload_n dX9_readToken_77 rfl rfl ?_
          refine P_geti dX9_readToken_78 fX9_42 (by assumption) rfl ?_
          rw [e4]
          refine I_if_ne (tgt := 86) dX9_readToken_81 (by decide) hsr (fun h81 => ?_) (fun h81 => ?_)
          · refine T_aload_n dX9_readToken_86 rfl rfl ?_
            refine P_geti dX9_readToken_87 fX9_42 (by assumption) rfl ?_
            rw [e4]
            refine I_bipush dX9_readToken_90 (by decide) ?_
            refine I_icmp_ne (tgt := 101) dX9_readToken_92 (by decide) hsr (by decide) (fun h92 => ?_) (fun h92 => ?_)
            · refine T_aload_n dX9_readToken_101 rfl rfl ?_
              refine T_dup dX9_readToken_102 rfl ?_
              refine P_geti dX9_readToken_103 fX9_25 (by assumption) rfl ?_
              rw [e34]
              refine I_iconst dX9_readToken_106 ?_
              refine I_iadd dX9_readToken_107 ?_
              refine P_puti dX9_readToken_108 fX9_25 (by assumption) rfl rfl ?_
              refine T_aload_n dX9_readToken_111 rfl rfl ?_
              refine P_geti dX9_readToken_112 fX9_42 (by assumption) rfl ?_
              rw [e45]
              refine I_iconst dX9_readToken_115 ?_
              refine I_icmp_ne (tgt := 121) dX9_readToken_116 (by decide) hsr (by decide) (fun h116 => ?_) (fun h116 => ?_)
              · exact hrn
              · exact absurd h116 a3
            · exact absurd h92 a2
          · exact absurd h81 hs0
end Token
