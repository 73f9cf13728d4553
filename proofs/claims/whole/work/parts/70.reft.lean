/-! the reference: it travels; it is handled -/
section RF8
variable {G : GT} {K : List SH} {pl : PL} {its : List Row} {N : Int} {i : Nat} {x : Row}
theorem l_late {S0 S : SV} {e : EN} {cl : Int} (hW : Wo S0 S) (hR : RS K S pl e its) (hi : its[i]? = some x) (hx : RowB N pl x) (hx4 : x 4 ≤ 4) (hE : EnB N e) (hcl : eCl e = cl) {x5 : Option Value} (h5 : x5 = none ∨ ∃ z, x5 = some (IV z)) : P G 3 0 0 mX11_travels 150 [some (.ref 453), some (IV i), some (IV (x 0)), some (IV (x 2)), some (IV (x 3)), x5, none, none, none, none] [] K S (HDQ K S0 pl its i (trvM cl x (e, none))) := by
  have m0 := hR.1.1
  have m1 := hR.1.2.1
  have hlt := (List.getElem?_eq_some_iff.mp hi).1
  have h60 := hR.n60
  obtain ⟨x0, x1, x2, x3, xx4, x5', x6, x7⟩ := id hx
  have hb5 := hR.2.2.1.1
  have hn2 : noL2 [some (.ref 453), some (IV i), some (IV (x 0)), some (IV (x 2)), some (IV (x 3)), x5, none, none, none, none] = true := by rcases h5 with rfl | ⟨z, rfl⟩ <;> rfl
  show P G 3 0 0 mX11_travels 150 _ [] K S (HDQ K S0 pl its i (if x 4 + 1 = 5 then ((bounceM e x).1, none, (bounceM e x).2) else (logI e 6 x (x 0), some (rset (rset x 4 (x 4 + 1)) 6 (cl + 2 ^ (x 4).toNat)), [])))
  by_cases h45 : x 4 + 1 = 5
  · rw [if_pos h45]
    refine T_aload_n dX11_travels_150 rfl rfl ?_
    refine T_iload_n dX11_travels_151 rfl ?_
    refine I_iconst dX11_travels_152 ?_
    refine Q_callV dX11_travels_153 kX11_ofItem lX11_164 (by assumption) rfl (p_of4 hR hi) rfl rfl (Nat.le_of_ble_eq_true rfl) (Nat.le_of_ble_eq_true rfl) (by decide) (by decide) ?_
    refine I_iconst dX11_travels_156 ?_
    refine I_iadd dX11_travels_157 ?_
    refine T_istore dX11_travels_158 (by decide) hn2 ?_
    refine T_iload dX11_travels_160 rfl ?_
    refine I_iconst dX11_travels_162 ?_
    refine I_icmp_ne (tgt := 173) dX11_travels_163 (by decide) ⟨by omega, by omega⟩ ⟨by omega, by omega⟩ (fun h163 => ?_) (fun h163 => ?_)
    · omega
    · refine T_aload_n dX11_travels_166 rfl rfl ?_
      refine T_iload_n dX11_travels_167 rfl ?_
      refine R_callV dX11_travels_168 kX11_bounces lX11_252 (by assumption) rfl (p_R_bounces hR hi hx hE) rfl rfl (Nat.le_of_ble_eq_true rfl) (Nat.le_of_ble_eq_true rfl) (by decide) (by decide) (fun r_ K_ S_ q_ => ?_)
      obtain ⟨hKe, hq⟩ := HDQ.bounce hW q_
      obtain ⟨rfl, -, -⟩ := q_
      have hKe := hKe.symm
      subst hKe
      refine I_iconst dX11_travels_171 ?_
      exact I_zreturn dX11_travels_172 rfl (by decide) ⟨_, _, rfl, hq⟩
  · rw [if_neg h45]
    obtain ⟨l1, l2, l3, l4, l5⟩ := hE.lg (w := 6) ⟨by omega, by omega⟩
    have hpw := pow_le4 (t := x 4) ⟨by omega, by omega⟩
    have hec := hE.1
    have hNN := hE.2.2.2.2.2.2
    refine T_aload_n dX11_travels_150 rfl rfl ?_
    refine T_iload_n dX11_travels_151 rfl ?_
    refine I_iconst dX11_travels_152 ?_
    refine Q_callV dX11_travels_153 kX11_ofItem lX11_164 (by assumption) rfl (p_of4 hR hi) rfl rfl (Nat.le_of_ble_eq_true rfl) (Nat.le_of_ble_eq_true rfl) (by decide) (by decide) ?_
    refine I_iconst dX11_travels_156 ?_
    refine I_iadd dX11_travels_157 ?_
    refine T_istore dX11_travels_158 (by decide) hn2 ?_
    refine T_iload dX11_travels_160 rfl ?_
    refine I_iconst dX11_travels_162 ?_
    refine I_icmp_ne (tgt := 173) dX11_travels_163 (by decide) ⟨by omega, by omega⟩ ⟨by omega, by omega⟩ (fun h163 => ?_) (fun h163 => ?_)
    · refine T_aload_n dX11_travels_173 rfl rfl ?_
      refine I_bipush dX11_travels_174 (by decide) ?_
      refine T_iload_n dX11_travels_176 rfl ?_
      refine T_iload_n dX11_travels_177 rfl ?_
      refine R_callV dX11_travels_178 kX11_logsItem lX11_234 (by assumption) rfl (p_R_logsItem hR hi ⟨by omega, by omega⟩ ⟨by omega, by omega⟩ l1 l3) rfl rfl (Nat.le_of_ble_eq_true rfl) (Nat.le_of_ble_eq_true rfl) (by decide) (by decide) (fun r_ K_ S_ q_ => ?_)
      obtain ⟨rfl, hKe, hq, hw1⟩ := q_
      have hKe := hKe.symm
      subst hKe
      have hs1 := hq.setI hi (k := 4) (v := x 4 + 1) (by omega) ⟨by omega, by omega⟩
      have hs1 : RS K (sA S_ 454 (803 + 8 * (i : Int) + 4) (x 4 + 1)) pl (logI e 6 x (x 0)) (its.set i (rset x 4 (x 4 + 1))) := hs1
      have hi1 : (its.set i (rset x 4 (x 4 + 1)))[i]? = some (rset x 4 (x 4 + 1)) := List.getElem?_set_self hlt
      have hs2 := hs1.setI hi1 (k := 6) (v := cl + 2 ^ (x 4).toNat) (by omega) ⟨by omega, by omega⟩
      rw [List.set_set] at hs2
      have g2 : aI (sA S_ 454 (803 + 8 * (i : Int) + 4) (x 4 + 1)) 454 2 = cl := hs1.2.2.2.2.1.1.trans hcl
      refine T_aload_n dX11_travels_181 rfl rfl ?_
      refine T_iload_n dX11_travels_182 rfl ?_
      refine I_iconst dX11_travels_183 ?_
      refine T_iload dX11_travels_184 rfl ?_
      refine Q_callV dX11_travels_186 kX11_lays lX11_206 (by assumption) rfl (p_R_lays hR.1 ⟨by omega, by omega⟩ ⟨by omega, by omega⟩) rfl rfl (Nat.le_of_ble_eq_true rfl) (Nat.le_of_ble_eq_true rfl) (by decide) (by decide) ?_
      refine T_aload_n dX11_travels_189 rfl rfl ?_
      refine T_iload_n dX11_travels_190 rfl ?_
      refine I_bipush dX11_travels_191 (by decide) ?_
      refine T_aload_n dX11_travels_193 rfl rfl ?_
      refine P_getr dX11_travels_194 fX11_7 (by assumption) rfl ?_
      refine I_iconst dX11_travels_197 ?_
      refine P_iald dX11_travels_198 (by assumption) ⟨by omega, by omega⟩ (by first | decide | omega) ?_
      rw [g2]
      refine I_iconst dX11_travels_199 ?_
      refine T_iload dX11_travels_200 rfl ?_
      refine I_iconst dX11_travels_202 ?_
      refine I_isub dX11_travels_203 ?_
      refine T_ishl dX11_travels_204 ?_
      rw [show x 4 + 1 - 1 = x 4 by omega, shl_pow ⟨by omega, by omega⟩]
      refine I_iadd dX11_travels_205 ?_
      refine Q_callV dX11_travels_206 kX11_lays lX11_206 (by assumption) rfl (p_R_lays hR.1 ⟨by omega, by omega⟩ ⟨by omega, by omega⟩) rfl rfl (Nat.le_of_ble_eq_true rfl) (Nat.le_of_ble_eq_true rfl) (by decide) (by decide) ?_
      refine I_iconst dX11_travels_209 ?_
      exact I_zreturn dX11_travels_210 rfl (by decide) ⟨_, _, rfl, rfl, rfl, by rw [resI_s, List.append_nil]; exact hs2, hW.tr (hw1.o.tr ((Wo.sA (Or.inl rfl)).tr (Wo.sA (Or.inl rfl))))⟩
    · omega
theorem getI_n {l : List Int} {k : Nat} (h : l.length ≤ k) : getI l k = -4 := by
  unfold getI
  rw [Int.toNat_natCast, List.getElem?_eq_none h]
  rfl
theorem getI_s {l : List Int} {k : Nat} (h : k < l.length) : getI l k = l[k] := by
  unfold getI
  rw [Int.toNat_natCast, List.getElem?_eq_getElem h]
  rfl
theorem innL_len (pl : PL) (d pr : Int) : ∀ (m : Nat) (t : Int), (innL pl d pr m t).length ≤ m
  | 0, _ => Nat.le_refl 0
  | m + 1, t => by
    have ih := innL_len pl d pr m (t + 1)
    by_cases h : prefM pl t d = pr
    · rw [innL_t h, List.length_cons]; omega
    · rw [innL_f h]; omega
theorem outL_len (pl : PL) (d : Int) (h5 : (pHs pl).toNat ≤ 5) : ∀ (m : Nat) (pr : Int), (outL pl d m pr).length ≤ 5 * m
  | 0, _ => Nat.le_refl 0
  | m + 1, pr => by
    have ih := outL_len pl d h5 m (pr + 1)
    have h1 := innL_len pl d pr (pHs pl).toNat 0
    rw [outL, List.length_append]
    omega
theorem asksM_len (hP : PlOk pl) {h d : Int} (hd : 0 ≤ d ∧ d < 4) : (asksM pl h d).length ≤ 50 := by
  have hb := prefM_b (h := h) hP hd
  have h5 := hP.1
  rw [asksM_out]
  have := outL_len pl d (by omega) (if prefM pl h d = -4 then 10 else (prefM pl h d).toNat) 0
  have h2 : (if prefM pl h d = -4 then 10 else (prefM pl h d).toNat) ≤ 10 := by split <;> omega
  omega
theorem l_trv {S0 : SV} {cl : Int} (hi : its[i]? = some x) (hx : RowB N pl x) (hx4 : x 4 ≤ 4) (m : Nat) : ∀ (k : Nat) (S : SV) (e : EN), ((asksM pl (x 0) (x 3 / 8)).length : Int) - k = m → Wo S0 S → RS K S pl e its → EnB N e → eCl e = cl → P G 4 0 0 mX11_travels 25 [some (.ref 453), some (IV i), some (IV (x 0)), some (IV (x 2)), some (IV (x 3)), some (IV k), none, none, none, none] [] K S (HDQ K S0 pl its i (trvM cl x (askM pl e x ((asksM pl (x 0) (x 3 / 8)).drop k)))) := by
  obtain ⟨x0, x1, x2, x3, xx4, x5, x6, x7⟩ := id hx
  have hlt := (List.getElem?_eq_some_iff.mp hi).1
  induction m with
  | zero =>
    intro k S e hm hW hR hE hcl
    have m0 := hR.1.1
    have hb5 := hR.2.2.1.1
    have hal := asksM_len (h := x 0) (d := x 3 / 8) hR.2.2.1 ⟨by omega, by omega⟩
    have ha := p_R_asked (G := G) (h := x 0) (d := x 3 / 8) (i := k) hR ⟨by omega, by omega⟩ ⟨by omega, by omega⟩ ⟨by omega, by omega⟩
    rw [getI_n (by omega)] at ha
    rw [List.drop_of_length_le (by omega)]
    have w := l_late (G := G) (x5 := some (IV k)) hW hR hi hx hx4 hE hcl (Or.inr ⟨_, rfl⟩)
    refine T_aload_n dX11_travels_25 rfl rfl ?_
    refine T_iload_n dX11_travels_26 rfl ?_
    refine T_iload dX11_travels_27 rfl ?_
    refine I_bipush dX11_travels_29 (by decide) ?_
    refine I_idiv dX11_travels_31 ⟨by omega, by omega⟩ ⟨by omega, by omega⟩ ?_
    refine T_iload dX11_travels_32 rfl ?_
    refine Q_callV dX11_travels_34 kX11_asked lX11_255 (by assumption) rfl ha rfl rfl (Nat.le_of_ble_eq_true rfl) (Nat.le_of_ble_eq_true rfl) (by decide) (by decide) ?_
    refine I_bipush dX11_travels_37 (by decide) ?_
    refine I_icmp_eq (tgt := 150) dX11_travels_39 (by decide) (by decide) ⟨by omega, by omega⟩ (fun h39 => ?_) (fun h39 => ?_)
    · exact P.depth w (by omega)
    · exact absurd rfl h39
  | succ m ih =>
    intro k S e hm hW hR hE hcl
    have m0 := hR.1.1
    have m1 := hR.1.2.1
    have hb5 := hR.2.2.1.1
    have h60 := hR.n60
    have hk : k < (asksM pl (x 0) (x 3 / 8)).length := by omega
    have hal := asksM_len (h := x 0) (d := x 3 / 8) hR.2.2.1 ⟨by omega, by omega⟩
    have ha := p_R_asked (G := G) (h := x 0) (d := x 3 / 8) (i := k) hR ⟨by omega, by omega⟩ ⟨by omega, by omega⟩ ⟨by omega, by omega⟩
    rw [getI_s hk] at ha
    have hob := asksM_mem (z := (asksM pl (x 0) (x 3 / 8))[k]) (List.getElem_mem hk) (by omega)
    have hdr : (asksM pl (x 0) (x 3 / 8)).drop k = (asksM pl (x 0) (x 3 / 8))[k] :: (asksM pl (x 0) (x 3 / 8)).drop (k + 1) := List.drop_eq_getElem_cons hk
    rw [hdr]
    generalize (asksM pl (x 0) (x 3 / 8))[k] = o at ha hob hdr
    have hup : aI S 454 (16 + 2 * o + 1) = eUp e o := hR.2.2.2.2.2.2.2.1 o hob.1 (by omega) (by rw [hR.2.2.2.1.1.1]; exact hob.2)
    have hupR : R32 (eUp e o) := by rw [← hup]; exact hR.2.1.2 _ _
    have hNN := hE.2.2.2.2.2.2
    have hec := hE.1
    have hel : (its.eraseIdx i).length = its.length - 1 := List.length_eraseIdx_of_lt hlt
    -- it goes there
    have go : ∀ (S1 : SV) (e1 : EN), Wo S0 S1 → RS K S1 pl e1 its → EnB N e1 → eCl e1 = cl → P G 4 0 0 mX11_travels 87 [some (.ref 453), some (IV i), some (IV (x 0)), some (IV (x 2)), some (IV (x 3)), some (IV k), some (IV o), none, none, none] [] K S1 (HDQ K S0 pl its i (logI e1 1 x o, none, [row8 o (x 1) (x 2) (x 3) 0 (x 5 + 1) (cl + 1) (x 7)])) := by
      intro S1 e1 hW1 hR1 hE1 hcl1
      obtain ⟨l1, l2, l3, l4, l5⟩ := hE1.lg (w := 1) ⟨by omega, by omega⟩
      refine T_aload_n dX11_travels_87 rfl rfl ?_
      refine I_iconst dX11_travels_88 ?_
      refine T_iload_n dX11_travels_89 rfl ?_
      refine T_iload dX11_travels_90 rfl ?_
      refine R_callV dX11_travels_92 kX11_logsItem lX11_234 (by assumption) rfl (p_R_logsItem hR1 hi ⟨by omega, by omega⟩ ⟨by omega, by omega⟩ l1 l3) rfl rfl (Nat.le_of_ble_eq_true rfl) (Nat.le_of_ble_eq_true rfl) (by decide) (by decide) (fun r_ K_ S_ q_ => ?_)
      obtain ⟨rfl, hKe, hq, hw1⟩ := q_
      have hKe := hKe.symm
      subst hKe
      refine T_aload_n dX11_travels_95 rfl rfl ?_
      refine T_iload_n dX11_travels_96 rfl ?_
      refine I_iconst dX11_travels_97 ?_
      refine Q_callV dX11_travels_98 kX11_ofItem lX11_164 (by assumption) rfl (p_of1 hq hi) rfl rfl (Nat.le_of_ble_eq_true rfl) (Nat.le_of_ble_eq_true rfl) (by decide) (by decide) ?_
      refine T_istore dX11_travels_101 (by decide) rfl ?_
      refine T_aload_n dX11_travels_103 rfl rfl ?_
      refine T_iload_n dX11_travels_104 rfl ?_
      refine I_iconst dX11_travels_105 ?_
      refine Q_callV dX11_travels_106 kX11_ofItem lX11_164 (by assumption) rfl (p_of5 hq hi) rfl rfl (Nat.le_of_ble_eq_true rfl) (Nat.le_of_ble_eq_true rfl) (by decide) (by decide) ?_
      refine I_iconst dX11_travels_109 ?_
      refine I_iadd dX11_travels_110 ?_
      refine T_istore dX11_travels_111 (by decide) rfl ?_
      refine T_aload_n dX11_travels_113 rfl rfl ?_
      refine T_iload_n dX11_travels_114 rfl ?_
      refine I_bipush dX11_travels_115 (by decide) ?_
      refine Q_callV dX11_travels_117 kX11_ofItem lX11_164 (by assumption) rfl (p_of7 hq hi) rfl rfl (Nat.le_of_ble_eq_true rfl) (Nat.le_of_ble_eq_true rfl) (by decide) (by decide) ?_
      refine T_istore dX11_travels_120 (by decide) rfl ?_
      refine T_aload_n dX11_travels_122 rfl rfl ?_
      refine T_iload_n dX11_travels_123 rfl ?_
      refine R_callV dX11_travels_124 kX11_leaves lX11_237 (by assumption) rfl (p_R_leaves hq hlt) rfl rfl (Nat.le_of_ble_eq_true rfl) (Nat.le_of_ble_eq_true rfl) (by decide) (by decide) (fun r_ K_ S_ q_ => ?_)
      obtain ⟨rfl, hKe, hq2, hw2⟩ := q_
      have hKe := hKe.symm
      subst hKe
      refine T_aload_n dX11_travels_127 rfl rfl ?_
      refine T_iload dX11_travels_128 rfl ?_
      refine T_iload dX11_travels_130 rfl ?_
      refine T_iload_n dX11_travels_132 rfl ?_
      refine T_iload dX11_travels_133 rfl ?_
      refine T_iload dX11_travels_135 rfl ?_
      refine T_iload dX11_travels_137 rfl ?_
      refine R_callV dX11_travels_139 kX11_comes lX11_214 (by assumption) rfl (p_R_comes hq2 (by omega) ⟨by omega, by omega⟩ ⟨by omega, by omega⟩ ⟨by omega, by omega⟩ ⟨by omega, by omega⟩ ⟨by omega, by omega⟩ l2 x7) rfl rfl (Nat.le_of_ble_eq_true rfl) (Nat.le_of_ble_eq_true rfl) (by decide) (by decide) (fun r_ K_ S_ q_ => ?_)
      obtain ⟨rfl, hKe, hq3, hw3⟩ := q_
      have hKe := hKe.symm
      subst hKe
      have hq3 : RS K S_ pl (logI e1 1 x o) (its.eraseIdx i ++ [row8 o (x 1) (x 2) (x 3) 0 (x 5 + 1) (eCl e1 + 1) (x 7)]) := hq3
      rw [hcl1] at hq3
      refine I_iconst dX11_travels_142 ?_
      exact I_zreturn dX11_travels_143 rfl (by decide) ⟨_, _, rfl, rfl, rfl, hq3, hW1.tr ((hw1.tr hw2).tr hw3).o⟩
    by_cases hu : eUp e o = 1
    · by_cases hwa : pWa pl o = 0
      · have hv : askM pl e x (o :: (asksM pl (x 0) (x 3 / 8)).drop (k + 1)) = (e, some o) := by rw [askM, if_pos hu, if_pos hwa]
        rw [hv]
        have w := go S e hW hR hE hcl
        refine T_aload_n dX11_travels_25 rfl rfl ?_
        refine T_iload_n dX11_travels_26 rfl ?_
        refine T_iload dX11_travels_27 rfl ?_
        refine I_bipush dX11_travels_29 (by decide) ?_
        refine I_idiv dX11_travels_31 ⟨by omega, by omega⟩ ⟨by omega, by omega⟩ ?_
        refine T_iload dX11_travels_32 rfl ?_
        refine Q_callV dX11_travels_34 kX11_asked lX11_255 (by assumption) rfl ha rfl rfl (Nat.le_of_ble_eq_true rfl) (Nat.le_of_ble_eq_true rfl) (by decide) (by decide) ?_
        refine I_bipush dX11_travels_37 (by decide) ?_
        refine I_icmp_eq (tgt := 150) dX11_travels_39 (by decide) ⟨by omega, by omega⟩ ⟨by omega, by omega⟩ (fun h39 => ?_) (fun h39 => ?_)
        · omega
        · refine T_aload_n dX11_travels_42 rfl rfl ?_
          refine T_iload_n dX11_travels_43 rfl ?_
          refine T_iload dX11_travels_44 rfl ?_
          refine I_bipush dX11_travels_46 (by decide) ?_
          refine I_idiv dX11_travels_48 ⟨by omega, by omega⟩ ⟨by omega, by omega⟩ ?_
          refine T_iload dX11_travels_49 rfl ?_
          refine Q_callV dX11_travels_51 kX11_asked lX11_255 (by assumption) rfl ha rfl rfl (Nat.le_of_ble_eq_true rfl) (Nat.le_of_ble_eq_true rfl) (by decide) (by decide) ?_
          refine T_istore dX11_travels_54 (by decide) rfl ?_
          refine T_aload_n dX11_travels_56 rfl rfl ?_
          refine P_getr dX11_travels_57 fX11_7 (by assumption) rfl ?_
          refine I_bipush dX11_travels_60 (by decide) ?_
          refine I_iconst dX11_travels_62 ?_
          refine T_iload dX11_travels_63 rfl ?_
          refine I_imul dX11_travels_65 ?_
          refine I_iadd dX11_travels_66 ?_
          refine I_iconst dX11_travels_67 ?_
          refine I_iadd dX11_travels_68 ?_
          refine P_iald dX11_travels_69 (by assumption) ⟨by omega, by omega⟩ (by first | decide | omega) ?_
          rw [hup]
          refine I_iconst dX11_travels_70 ?_
          refine I_icmp_ne (tgt := 144) dX11_travels_71 (by decide) hupR ⟨by omega, by omega⟩ (fun h71 => ?_) (fun h71 => ?_)
          · exact absurd hu h71
          · refine T_aload_n dX11_travels_74 rfl rfl ?_
            refine T_iload dX11_travels_75 rfl ?_
            refine T_iload_n dX11_travels_77 rfl ?_
            refine T_iload_n dX11_travels_78 rfl ?_
            refine T_iload dX11_travels_79 rfl ?_
            refine R_callV dX11_travels_81 kX11_takes lX11_258 (by assumption) rfl (p_R_takes0 hR ⟨by omega, by omega⟩ hwa) rfl rfl (Nat.le_of_ble_eq_true rfl) (Nat.le_of_ble_eq_true rfl) (by decide) (by decide) (fun r_ K_ S_ q_ => ?_)
            obtain ⟨rfl, hKe, hq, hw1⟩ := q_
            have hKe := hKe.symm
            subst hKe
            have w := go S_ e (hW.tr hw1.o) hq hE hcl
            refine I_if_eq (tgt := 144) dX11_travels_84 (by decide) ⟨by omega, by omega⟩ (fun h84 => ?_) (fun h84 => ?_)
            · cases h84
            · exact w
      · have hsg := hE.2.2.2.2.2.1 o hob.1 (by omega)
        have ht := p_R_takes1 (G := G) (h := o) (w := x 0) (f := x 2) (t := x 3) hR ⟨by omega, by omega⟩ hwa ⟨by omega, by omega⟩ ⟨by omega, by omega⟩ ⟨by omega, by omega⟩ ⟨by omega, by omega⟩ (fun r hr => by have := hsg r hr; omega)
        have hE1 := hE.sg o (x 0) (x 2) (x 3) ⟨by omega, by omega⟩
        by_cases hl : (letsM (eSg e o) (x 0) (x 2) (x 3) (eCl e)).2 = true
        · have hv : askM pl e x (o :: (asksM pl (x 0) (x 3 / 8)).drop (k + 1)) = (eSgS e (fset (eSg e) o (letsM (eSg e o) (x 0) (x 2) (x 3) (eCl e)).1), some o) := by rw [askM, if_pos hu, if_neg hwa, if_pos hl]
          rw [hv]
          rw [if_pos hl] at ht
          refine T_aload_n dX11_travels_25 rfl rfl ?_
          refine T_iload_n dX11_travels_26 rfl ?_
          refine T_iload dX11_travels_27 rfl ?_
          refine I_bipush dX11_travels_29 (by decide) ?_
          refine I_idiv dX11_travels_31 ⟨by omega, by omega⟩ ⟨by omega, by omega⟩ ?_
          refine T_iload dX11_travels_32 rfl ?_
          refine Q_callV dX11_travels_34 kX11_asked lX11_255 (by assumption) rfl ha rfl rfl (Nat.le_of_ble_eq_true rfl) (Nat.le_of_ble_eq_true rfl) (by decide) (by decide) ?_
          refine I_bipush dX11_travels_37 (by decide) ?_
          refine I_icmp_eq (tgt := 150) dX11_travels_39 (by decide) ⟨by omega, by omega⟩ ⟨by omega, by omega⟩ (fun h39 => ?_) (fun h39 => ?_)
          · omega
          · refine T_aload_n dX11_travels_42 rfl rfl ?_
            refine T_iload_n dX11_travels_43 rfl ?_
            refine T_iload dX11_travels_44 rfl ?_
            refine I_bipush dX11_travels_46 (by decide) ?_
            refine I_idiv dX11_travels_48 ⟨by omega, by omega⟩ ⟨by omega, by omega⟩ ?_
            refine T_iload dX11_travels_49 rfl ?_
            refine Q_callV dX11_travels_51 kX11_asked lX11_255 (by assumption) rfl ha rfl rfl (Nat.le_of_ble_eq_true rfl) (Nat.le_of_ble_eq_true rfl) (by decide) (by decide) ?_
            refine T_istore dX11_travels_54 (by decide) rfl ?_
            refine T_aload_n dX11_travels_56 rfl rfl ?_
            refine P_getr dX11_travels_57 fX11_7 (by assumption) rfl ?_
            refine I_bipush dX11_travels_60 (by decide) ?_
            refine I_iconst dX11_travels_62 ?_
            refine T_iload dX11_travels_63 rfl ?_
            refine I_imul dX11_travels_65 ?_
            refine I_iadd dX11_travels_66 ?_
            refine I_iconst dX11_travels_67 ?_
            refine I_iadd dX11_travels_68 ?_
            refine P_iald dX11_travels_69 (by assumption) ⟨by omega, by omega⟩ (by first | decide | omega) ?_
            rw [hup]
            refine I_iconst dX11_travels_70 ?_
            refine I_icmp_ne (tgt := 144) dX11_travels_71 (by decide) hupR ⟨by omega, by omega⟩ (fun h71 => ?_) (fun h71 => ?_)
            · exact absurd hu h71
            · refine T_aload_n dX11_travels_74 rfl rfl ?_
              refine T_iload dX11_travels_75 rfl ?_
              refine T_iload_n dX11_travels_77 rfl ?_
              refine T_iload_n dX11_travels_78 rfl ?_
              refine T_iload dX11_travels_79 rfl ?_
              refine R_callV dX11_travels_81 kX11_takes lX11_258 (by assumption) rfl ht rfl rfl (Nat.le_of_ble_eq_true rfl) (Nat.le_of_ble_eq_true rfl) (by decide) (by decide) (fun r_ K_ S_ q_ => ?_)
              obtain ⟨rfl, hKe, hq, hw1⟩ := q_
              have hKe := hKe.symm
              subst hKe
              have w := go S_ _ (hW.tr hw1.o) hq hE1 hcl
              refine I_if_eq (tgt := 144) dX11_travels_84 (by decide) ⟨by omega, by omega⟩ (fun h84 => ?_) (fun h84 => ?_)
              · cases h84
              · exact w
        · have hv : askM pl e x (o :: (asksM pl (x 0) (x 3 / 8)).drop (k + 1)) = askM pl (eSgS e (fset (eSg e) o (letsM (eSg e o) (x 0) (x 2) (x 3) (eCl e)).1)) x ((asksM pl (x 0) (x 3 / 8)).drop (k + 1)) := by rw [askM, if_pos hu, if_neg hwa, if_neg hl]
          rw [hv]
          rw [if_neg hl] at ht
          refine T_aload_n dX11_travels_25 rfl rfl ?_
          refine T_iload_n dX11_travels_26 rfl ?_
          refine T_iload dX11_travels_27 rfl ?_
          refine I_bipush dX11_travels_29 (by decide) ?_
          refine I_idiv dX11_travels_31 ⟨by omega, by omega⟩ ⟨by omega, by omega⟩ ?_
          refine T_iload dX11_travels_32 rfl ?_
          refine Q_callV dX11_travels_34 kX11_asked lX11_255 (by assumption) rfl ha rfl rfl (Nat.le_of_ble_eq_true rfl) (Nat.le_of_ble_eq_true rfl) (by decide) (by decide) ?_
          refine I_bipush dX11_travels_37 (by decide) ?_
          refine I_icmp_eq (tgt := 150) dX11_travels_39 (by decide) ⟨by omega, by omega⟩ ⟨by omega, by omega⟩ (fun h39 => ?_) (fun h39 => ?_)
          · omega
          · refine T_aload_n dX11_travels_42 rfl rfl ?_
            refine T_iload_n dX11_travels_43 rfl ?_
            refine T_iload dX11_travels_44 rfl ?_
            refine I_bipush dX11_travels_46 (by decide) ?_
            refine I_idiv dX11_travels_48 ⟨by omega, by omega⟩ ⟨by omega, by omega⟩ ?_
            refine T_iload dX11_travels_49 rfl ?_
            refine Q_callV dX11_travels_51 kX11_asked lX11_255 (by assumption) rfl ha rfl rfl (Nat.le_of_ble_eq_true rfl) (Nat.le_of_ble_eq_true rfl) (by decide) (by decide) ?_
            refine T_istore dX11_travels_54 (by decide) rfl ?_
            refine T_aload_n dX11_travels_56 rfl rfl ?_
            refine P_getr dX11_travels_57 fX11_7 (by assumption) rfl ?_
            refine I_bipush dX11_travels_60 (by decide) ?_
            refine I_iconst dX11_travels_62 ?_
            refine T_iload dX11_travels_63 rfl ?_
            refine I_imul dX11_travels_65 ?_
            refine I_iadd dX11_travels_66 ?_
            refine I_iconst dX11_travels_67 ?_
            refine I_iadd dX11_travels_68 ?_
            refine P_iald dX11_travels_69 (by assumption) ⟨by omega, by omega⟩ (by first | decide | omega) ?_
            rw [hup]
            refine I_iconst dX11_travels_70 ?_
            refine I_icmp_ne (tgt := 144) dX11_travels_71 (by decide) hupR ⟨by omega, by omega⟩ (fun h71 => ?_) (fun h71 => ?_)
            · exact absurd hu h71
            · refine T_aload_n dX11_travels_74 rfl rfl ?_
              refine T_iload dX11_travels_75 rfl ?_
              refine T_iload_n dX11_travels_77 rfl ?_
              refine T_iload_n dX11_travels_78 rfl ?_
              refine T_iload dX11_travels_79 rfl ?_
              refine R_callV dX11_travels_81 kX11_takes lX11_258 (by assumption) rfl ht rfl rfl (Nat.le_of_ble_eq_true rfl) (Nat.le_of_ble_eq_true rfl) (by decide) (by decide) (fun r_ K_ S_ q_ => ?_)
              obtain ⟨rfl, hKe, hq, hw1⟩ := q_
              have hKe := hKe.symm
              subst hKe
              have w := ih (k + 1) S_ _ (by omega) (hW.tr hw1.o) hq hE1 hcl
              refine I_if_eq (tgt := 144) dX11_travels_84 (by decide) ⟨by omega, by omega⟩ (fun h84 => ?_) (fun h84 => ?_)
              · refine I_iinc dX11_travels_144 rfl (by decide) rfl ?_
                refine T_goto (tgt := 25) dX11_travels_147 (by decide) ?_
                refine T.forget 6 ?_
                exact w
              · exact absurd rfl h84
    · have hv : askM pl e x (o :: (asksM pl (x 0) (x 3 / 8)).drop (k + 1)) = askM pl e x ((asksM pl (x 0) (x 3 / 8)).drop (k + 1)) := by rw [askM, if_neg hu]
      rw [hv]
      have w := ih (k + 1) S e (by omega) hW hR hE hcl
      refine T_aload_n dX11_travels_25 rfl rfl ?_
      refine T_iload_n dX11_travels_26 rfl ?_
      refine T_iload dX11_travels_27 rfl ?_
      refine I_bipush dX11_travels_29 (by decide) ?_
      refine I_idiv dX11_travels_31 ⟨by omega, by omega⟩ ⟨by omega, by omega⟩ ?_
      refine T_iload dX11_travels_32 rfl ?_
      refine Q_callV dX11_travels_34 kX11_asked lX11_255 (by assumption) rfl ha rfl rfl (Nat.le_of_ble_eq_true rfl) (Nat.le_of_ble_eq_true rfl) (by decide) (by decide) ?_
      refine I_bipush dX11_travels_37 (by decide) ?_
      refine I_icmp_eq (tgt := 150) dX11_travels_39 (by decide) ⟨by omega, by omega⟩ ⟨by omega, by omega⟩ (fun h39 => ?_) (fun h39 => ?_)
      · omega
      · refine T_aload_n dX11_travels_42 rfl rfl ?_
        refine T_iload_n dX11_travels_43 rfl ?_
        refine T_iload dX11_travels_44 rfl ?_
        refine I_bipush dX11_travels_46 (by decide) ?_
        refine I_idiv dX11_travels_48 ⟨by omega, by omega⟩ ⟨by omega, by omega⟩ ?_
        refine T_iload dX11_travels_49 rfl ?_
        refine Q_callV dX11_travels_51 kX11_asked lX11_255 (by assumption) rfl ha rfl rfl (Nat.le_of_ble_eq_true rfl) (Nat.le_of_ble_eq_true rfl) (by decide) (by decide) ?_
        refine T_istore dX11_travels_54 (by decide) rfl ?_
        refine T_aload_n dX11_travels_56 rfl rfl ?_
        refine P_getr dX11_travels_57 fX11_7 (by assumption) rfl ?_
        refine I_bipush dX11_travels_60 (by decide) ?_
        refine I_iconst dX11_travels_62 ?_
        refine T_iload dX11_travels_63 rfl ?_
        refine I_imul dX11_travels_65 ?_
        refine I_iadd dX11_travels_66 ?_
        refine I_iconst dX11_travels_67 ?_
        refine I_iadd dX11_travels_68 ?_
        refine P_iald dX11_travels_69 (by assumption) ⟨by omega, by omega⟩ (by first | decide | omega) ?_
        rw [hup]
        refine I_iconst dX11_travels_70 ?_
        refine I_icmp_ne (tgt := 144) dX11_travels_71 (by decide) hupR ⟨by omega, by omega⟩ (fun h71 => ?_) (fun h71 => ?_)
        · refine I_iinc dX11_travels_144 rfl (by decide) rfl ?_
          refine T_goto (tgt := 25) dX11_travels_147 (by decide) ?_
          refine T.forget 6 ?_
          exact w
        · exact absurd h71 hu
theorem p_R_travels {S : SV} {e : EN} (hR : RS K S pl e its) (hi : its[i]? = some x) (hx : RowB N pl x) (hx4 : x 4 ≤ 4) (hE : EnB N e) : P G 4 0 0 mX11_travels 0 (LE mX11_travels [.ref 453, IV i]) [] K S (HDQ K S pl its i (travelM pl e x)) := by
  have m0 := hR.1.1
  rw [travelM_eq]
  have w := l_trv (G := G) (S0 := S) hi hx hx4 (asksM pl (x 0) (x 3 / 8)).length 0 S e (by omega) Wo.rf hR hE rfl
  rw [show LE mX11_travels [.ref 453, IV i] = [some (.ref 453), some (IV i), none, none, none, none, none, none, none, none] from rfl]
  refine T_aload_n dX11_travels_0 rfl rfl ?_
  refine T_iload_n dX11_travels_1 rfl ?_
  refine I_iconst dX11_travels_2 ?_
  refine Q_callV dX11_travels_3 kX11_ofItem lX11_164 (by assumption) rfl (p_of0 hR hi) rfl rfl (Nat.le_of_ble_eq_true rfl) (Nat.le_of_ble_eq_true rfl) (by decide) (by decide) ?_
  refine T_istore_n dX11_travels_6 (by decide) rfl ?_
  refine T_aload_n dX11_travels_7 rfl rfl ?_
  refine T_iload_n dX11_travels_8 rfl ?_
  refine I_iconst dX11_travels_9 ?_
  refine Q_callV dX11_travels_10 kX11_ofItem lX11_164 (by assumption) rfl (p_of2 hR hi) rfl rfl (Nat.le_of_ble_eq_true rfl) (Nat.le_of_ble_eq_true rfl) (by decide) (by decide) ?_
  refine T_istore_n dX11_travels_13 (by decide) rfl ?_
  refine T_aload_n dX11_travels_14 rfl rfl ?_
  refine T_iload_n dX11_travels_15 rfl ?_
  refine I_iconst dX11_travels_16 ?_
  refine Q_callV dX11_travels_17 kX11_ofItem lX11_164 (by assumption) rfl (p_of3 hR hi) rfl rfl (Nat.le_of_ble_eq_true rfl) (Nat.le_of_ble_eq_true rfl) (by decide) (by decide) ?_
  refine T_istore dX11_travels_20 (by decide) rfl ?_
  refine I_iconst dX11_travels_22 ?_
  refine T_istore dX11_travels_23 (by decide) rfl ?_
  exact w
theorem p_R_handled {S : SV} {e : EN} (hR : RS K S pl e its) (hi : its[i]? = some x) (hx : RowB N pl x) (hx4 : x 4 ≤ 4) (hE : EnB N e) (hm : MkOk pl x) : P G 5 0 0 mX11_isHandled 0 (LE mX11_isHandled [.ref 453, IV i]) [] K S (HDQ K S pl its i (handleM pl e its.length x)) := by
  have m0 := hR.1.1
  obtain ⟨x0, x1, x2, x3, xx4, x5, x6, x7⟩ := id hx
  have hP := hR.2.2.1
  have hb5 := hP.1
  have hrc := hP.2.2.1 (x 3 / 8) (by omega) (by omega)
  by_cases h8 : x 5 = 8 ∨ pRc pl (x 3 / 8) = 0
  · have hv : handleM pl e its.length x = ((bounceM e x).1, none, (bounceM e x).2) := if_pos h8
    rw [hv]
    rw [show LE mX11_isHandled [.ref 453, IV i] = [some (.ref 453), some (IV i), none] from rfl]
    refine T_aload_n dX11_isHandled_0 rfl rfl ?_
    refine T_iload_n dX11_isHandled_1 rfl ?_
    refine I_iconst dX11_isHandled_2 ?_
    refine Q_callV dX11_isHandled_3 kX11_ofItem lX11_164 (by assumption) rfl (p_of3 hR hi) rfl rfl (Nat.le_of_ble_eq_true rfl) (Nat.le_of_ble_eq_true rfl) (by decide) (by decide) ?_
    refine I_bipush dX11_isHandled_6 (by decide) ?_
    refine I_idiv dX11_isHandled_8 ⟨by omega, by omega⟩ ⟨by omega, by omega⟩ ?_
    refine T_istore_n dX11_isHandled_9 (by decide) rfl ?_
    refine T_aload_n dX11_isHandled_10 rfl rfl ?_
    refine T_iload_n dX11_isHandled_11 rfl ?_
    refine I_iconst dX11_isHandled_12 ?_
    refine Q_callV dX11_isHandled_13 kX11_ofItem lX11_164 (by assumption) rfl (p_of5 hR hi) rfl rfl (Nat.le_of_ble_eq_true rfl) (Nat.le_of_ble_eq_true rfl) (by decide) (by decide) ?_
    refine I_bipush dX11_isHandled_16 (by decide) ?_
    refine I_icmp_eq (tgt := 29) dX11_isHandled_18 (by decide) ⟨by omega, by omega⟩ ⟨by omega, by omega⟩ (fun h18 => ?_) (fun h18 => ?_)
    · refine T_aload_n dX11_isHandled_29 rfl rfl ?_
      refine T_iload_n dX11_isHandled_30 rfl ?_
      refine R_callV dX11_isHandled_31 kX11_bounces lX11_252 (by assumption) rfl (p_R_bounces hR hi hx hE) rfl rfl (Nat.le_of_ble_eq_true rfl) (Nat.le_of_ble_eq_true rfl) (by decide) (by decide) (fun r_ K_ S_ q_ => ?_)
      obtain ⟨hKe, hq⟩ := HDQ.bounce Wo.rf q_
      obtain ⟨rfl, -, -⟩ := q_
      have hKe := hKe.symm
      subst hKe
      refine I_iconst dX11_isHandled_34 ?_
      exact I_zreturn dX11_isHandled_35 rfl (by decide) ⟨_, _, rfl, hq⟩
    · refine T_aload_n dX11_isHandled_21 rfl rfl ?_
      refine T_iload_n dX11_isHandled_22 rfl ?_
      refine Q_callV dX11_isHandled_23 kX11_receivers lX11_145 (by assumption) rfl (p_R_receivers hR ⟨by omega, by omega⟩) rfl rfl (Nat.le_of_ble_eq_true rfl) (Nat.le_of_ble_eq_true rfl) (by decide) (by decide) ?_
      refine I_if_ne (tgt := 36) dX11_isHandled_26 (by decide) ⟨by omega, by omega⟩ (fun h26 => ?_) (fun h26 => ?_)
      · omega
      · refine T_aload_n dX11_isHandled_29 rfl rfl ?_
        refine T_iload_n dX11_isHandled_30 rfl ?_
        refine R_callV dX11_isHandled_31 kX11_bounces lX11_252 (by assumption) rfl (p_R_bounces hR hi hx hE) rfl rfl (Nat.le_of_ble_eq_true rfl) (Nat.le_of_ble_eq_true rfl) (by decide) (by decide) (fun r_ K_ S_ q_ => ?_)
        obtain ⟨hKe, hq⟩ := HDQ.bounce Wo.rf q_
        obtain ⟨rfl, -, -⟩ := q_
        have hKe := hKe.symm
        subst hKe
        refine I_iconst dX11_isHandled_34 ?_
        exact I_zreturn dX11_isHandled_35 rfl (by decide) ⟨_, _, rfl, hq⟩
  · by_cases hl : lastM pl (x 0) (x 3 / 8)
    · have hv : handleM pl e its.length x = arrM pl e its.length x := by
        unfold handleM
        rw [if_neg h8]
        exact if_pos hl
      rw [hv]
      rw [show LE mX11_isHandled [.ref 453, IV i] = [some (.ref 453), some (IV i), none] from rfl]
      refine T_aload_n dX11_isHandled_0 rfl rfl ?_
      refine T_iload_n dX11_isHandled_1 rfl ?_
      refine I_iconst dX11_isHandled_2 ?_
      refine Q_callV dX11_isHandled_3 kX11_ofItem lX11_164 (by assumption) rfl (p_of3 hR hi) rfl rfl (Nat.le_of_ble_eq_true rfl) (Nat.le_of_ble_eq_true rfl) (by decide) (by decide) ?_
      refine I_bipush dX11_isHandled_6 (by decide) ?_
      refine I_idiv dX11_isHandled_8 ⟨by omega, by omega⟩ ⟨by omega, by omega⟩ ?_
      refine T_istore_n dX11_isHandled_9 (by decide) rfl ?_
      refine T_aload_n dX11_isHandled_10 rfl rfl ?_
      refine T_iload_n dX11_isHandled_11 rfl ?_
      refine I_iconst dX11_isHandled_12 ?_
      refine Q_callV dX11_isHandled_13 kX11_ofItem lX11_164 (by assumption) rfl (p_of5 hR hi) rfl rfl (Nat.le_of_ble_eq_true rfl) (Nat.le_of_ble_eq_true rfl) (by decide) (by decide) ?_
      refine I_bipush dX11_isHandled_16 (by decide) ?_
      refine I_icmp_eq (tgt := 29) dX11_isHandled_18 (by decide) ⟨by omega, by omega⟩ ⟨by omega, by omega⟩ (fun h18 => ?_) (fun h18 => ?_)
      · omega
      · refine T_aload_n dX11_isHandled_21 rfl rfl ?_
        refine T_iload_n dX11_isHandled_22 rfl ?_
        refine Q_callV dX11_isHandled_23 kX11_receivers lX11_145 (by assumption) rfl (p_R_receivers hR ⟨by omega, by omega⟩) rfl rfl (Nat.le_of_ble_eq_true rfl) (Nat.le_of_ble_eq_true rfl) (by decide) (by decide) ?_
        refine I_if_ne (tgt := 36) dX11_isHandled_26 (by decide) ⟨by omega, by omega⟩ (fun h26 => ?_) (fun h26 => ?_)
        · refine T_aload_n dX11_isHandled_36 rfl rfl ?_
          refine T_aload_n dX11_isHandled_37 rfl rfl ?_
          refine T_iload_n dX11_isHandled_38 rfl ?_
          refine I_iconst dX11_isHandled_39 ?_
          refine Q_callV dX11_isHandled_40 kX11_ofItem lX11_164 (by assumption) rfl (p_of0 hR hi) rfl rfl (Nat.le_of_ble_eq_true rfl) (Nat.le_of_ble_eq_true rfl) (by decide) (by decide) ?_
          refine T_iload_n dX11_isHandled_43 rfl ?_
          refine Q_callV dX11_isHandled_44 kX11_isLast lX11_173 (by assumption) rfl (p_R_last hR ⟨by omega, by omega⟩ ⟨by omega, by omega⟩) rfl rfl (Nat.le_of_ble_eq_true rfl) (Nat.le_of_ble_eq_true rfl) (by decide) (by decide) ?_
          rw [b2p_t hl]
          refine I_if_eq (tgt := 58) dX11_isHandled_47 (by decide) ⟨by omega, by omega⟩ (fun h47 => ?_) (fun h47 => ?_)
          · cases h47
          · refine T_aload_n dX11_isHandled_50 rfl rfl ?_
            refine T_iload_n dX11_isHandled_51 rfl ?_
            refine R_callV dX11_isHandled_52 kX11_arrives lX11_262 (by assumption) rfl (p_R_arrives hR hi hx (by omega) hE hm) rfl rfl (Nat.le_of_ble_eq_true rfl) (Nat.le_of_ble_eq_true rfl) (by decide) (by decide) (fun r_ K_ S_ q_ => ?_)
            obtain ⟨rfl, hKe, hq⟩ := q_
            have hKe := hKe.symm
            subst hKe
            refine T_goto (tgt := 63) dX11_isHandled_55 (by decide) ?_
            exact I_zreturn dX11_isHandled_63 rfl (by split <;> decide) ⟨_, _, rfl, rfl, rfl, hq⟩
        · omega
    · have hv : handleM pl e its.length x = travelM pl e x := by
        unfold handleM
        rw [if_neg h8]
        exact if_neg hl
      rw [hv]
      rw [show LE mX11_isHandled [.ref 453, IV i] = [some (.ref 453), some (IV i), none] from rfl]
      refine T_aload_n dX11_isHandled_0 rfl rfl ?_
      refine T_iload_n dX11_isHandled_1 rfl ?_
      refine I_iconst dX11_isHandled_2 ?_
      refine Q_callV dX11_isHandled_3 kX11_ofItem lX11_164 (by assumption) rfl (p_of3 hR hi) rfl rfl (Nat.le_of_ble_eq_true rfl) (Nat.le_of_ble_eq_true rfl) (by decide) (by decide) ?_
      refine I_bipush dX11_isHandled_6 (by decide) ?_
      refine I_idiv dX11_isHandled_8 ⟨by omega, by omega⟩ ⟨by omega, by omega⟩ ?_
      refine T_istore_n dX11_isHandled_9 (by decide) rfl ?_
      refine T_aload_n dX11_isHandled_10 rfl rfl ?_
      refine T_iload_n dX11_isHandled_11 rfl ?_
      refine I_iconst dX11_isHandled_12 ?_
      refine Q_callV dX11_isHandled_13 kX11_ofItem lX11_164 (by assumption) rfl (p_of5 hR hi) rfl rfl (Nat.le_of_ble_eq_true rfl) (Nat.le_of_ble_eq_true rfl) (by decide) (by decide) ?_
      refine I_bipush dX11_isHandled_16 (by decide) ?_
      refine I_icmp_eq (tgt := 29) dX11_isHandled_18 (by decide) ⟨by omega, by omega⟩ ⟨by omega, by omega⟩ (fun h18 => ?_) (fun h18 => ?_)
      · omega
      · refine T_aload_n dX11_isHandled_21 rfl rfl ?_
        refine T_iload_n dX11_isHandled_22 rfl ?_
        refine Q_callV dX11_isHandled_23 kX11_receivers lX11_145 (by assumption) rfl (p_R_receivers hR ⟨by omega, by omega⟩) rfl rfl (Nat.le_of_ble_eq_true rfl) (Nat.le_of_ble_eq_true rfl) (by decide) (by decide) ?_
        refine I_if_ne (tgt := 36) dX11_isHandled_26 (by decide) ⟨by omega, by omega⟩ (fun h26 => ?_) (fun h26 => ?_)
        · refine T_aload_n dX11_isHandled_36 rfl rfl ?_
          refine T_aload_n dX11_isHandled_37 rfl rfl ?_
          refine T_iload_n dX11_isHandled_38 rfl ?_
          refine I_iconst dX11_isHandled_39 ?_
          refine Q_callV dX11_isHandled_40 kX11_ofItem lX11_164 (by assumption) rfl (p_of0 hR hi) rfl rfl (Nat.le_of_ble_eq_true rfl) (Nat.le_of_ble_eq_true rfl) (by decide) (by decide) ?_
          refine T_iload_n dX11_isHandled_43 rfl ?_
          refine Q_callV dX11_isHandled_44 kX11_isLast lX11_173 (by assumption) rfl (p_R_last hR ⟨by omega, by omega⟩ ⟨by omega, by omega⟩) rfl rfl (Nat.le_of_ble_eq_true rfl) (Nat.le_of_ble_eq_true rfl) (by decide) (by decide) ?_
          rw [b2p_f hl]
          refine I_if_eq (tgt := 58) dX11_isHandled_47 (by decide) ⟨by omega, by omega⟩ (fun h47 => ?_) (fun h47 => ?_)
          · refine T_aload_n dX11_isHandled_58 rfl rfl ?_
            refine T_iload_n dX11_isHandled_59 rfl ?_
            refine R_callV dX11_isHandled_60 kX11_travels lX11_265 (by assumption) rfl (p_R_travels hR hi hx hx4 hE) rfl rfl (Nat.le_of_ble_eq_true rfl) (Nat.le_of_ble_eq_true rfl) (by decide) (by decide) (fun r_ K_ S_ q_ => ?_)
            obtain ⟨rfl, hKe, hq⟩ := q_
            have hKe := hKe.symm
            subst hKe
            exact I_zreturn dX11_isHandled_63 rfl (by split <;> decide) ⟨_, _, rfl, rfl, rfl, hq⟩
          · exact absurd rfl h47
        · omega
end RF8
