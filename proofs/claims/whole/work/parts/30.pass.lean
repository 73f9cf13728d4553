/-! Carrier: those that are asked, one behind another -/
theorem asksM_mem {pl : PL} {h d z : Int} (hz : z ∈ asksM pl h d) (hp : 0 ≤ pHs pl) : 0 ≤ z ∧ z < pHs pl := by
  unfold asksM at hz
  obtain ⟨pr, -, hz⟩ := List.mem_flatMap.mp hz
  obtain ⟨t, ht, rfl⟩ := List.mem_map.mp (List.mem_filter.mp hz).1
  have := List.mem_range.mp ht
  omega
def PQ (K : List SH) (S : SV) (c p r : Nat) (ad : Int → Nat) (cr : List Row) (i : Nat) (liv : Int) (x : Row) (res : EN × Option Int) (pl : PL) : Option Value → List SH → SV → Prop := fun rv K' S' => K' = K ∧ Outs S S' r (r + 142) ∧ ((res.2 = none ∧ rv = some (IV 0) ∧ CS K S' c p r ad cr liv res.1 pl) ∨ ∃ o, res.2 = some o ∧ rv = some (IV 1) ∧ CS K S' c p r ad ((cr ++ [row8 o (x 1) (x 2) (x 3) 0 (x 5 + 1) (eCl res.1 + 1) (x 7)]).set i (rset x 0 (-1))) liv (logI res.1 1 x o) pl)
theorem PQ.tr {K : List SH} {S S1 : SV} {c p r : Nat} {ad : Int → Nat} {cr : List Row} {i : Nat} {liv : Int} {x : Row} {res : EN × Option Int} {pl : PL} (h : Outs S S1 r (r + 142)) {rv : Option Value} {K' : List SH} {S' : SV} (q : PQ K S1 c p r ad cr i liv x res pl rv K' S') : PQ K S c p r ad cr i liv x res pl rv K' S' := ⟨q.1, h.tr q.2.1, q.2.2⟩
theorem EnB.sg {N : Int} {e : EN} (hE : EnB N e) (o w f t : Int) (ho : 0 ≤ o ∧ o < 5) : EnB N (eSgS e (fset (eSg e) o (letsM (eSg e o) w f t (eCl e)).1)) := by
  obtain ⟨h1, h2, h3, h4, h5, h6, h7⟩ := hE
  refine ⟨h1, h2, h3, h4, h5, fun h q1 q2 y hy => ?_, h7⟩
  have hy : y ∈ fset (eSg e) o (letsM (eSg e o) w f t (eCl e)).1 h := hy
  unfold fset at hy
  by_cases hh : h = o
  · rw [if_pos hh] at hy
    have h6o := h6 o ho.1 ho.2
    have hpush : ∀ z ∈ pushN 8 (eSg e o) (row5 w f t (eCl e) 0), 0 ≤ z 3 ∧ z 3 < N := by
      intro z hz
      unfold pushN at hz
      split at hz
      · rcases List.mem_append.mp hz with q | q
        · exact h6o z q
        · rw [List.mem_singleton.mp q]; exact h1
      · rcases List.mem_append.mp hz with q | q
        · exact h6o z (List.mem_of_mem_drop q)
        · rw [List.mem_singleton.mp q]; exact h1
    unfold letsM at hy
    split at hy
    · exact hpush y hy
    · rename_i k hk
      have hklt : k < (eSg e o).length := (List.findIdx?_eq_some_iff_getElem.mp hk).1
      split at hy
      · rcases List.mem_or_eq_of_mem_set hy with q | q
        · exact h6o y q
        · rw [q]
          have := h6o _ (List.getElem_mem hklt)
          rw [List.getD_eq_getElem?_getD, List.getElem?_eq_getElem hklt]
          exact this
      · split at hy
        · rcases List.mem_append.mp hy with q | q
          · exact h6o y (List.mem_of_mem_eraseIdx q)
          · rw [List.mem_singleton.mp q]; exact h1
        · exact h6o y hy
  · rw [if_neg hh] at hy
    exact h6 h q1 q2 y hy
section Car3
variable {G : GT} {K : List SH} {c p r : Nat} {ad : Int → Nat} {cr : List Row} {liv N : Int} {pl : PL} {i : Nat} {x : Row}
theorem l_Car_passOn {d : Int} (hi : cr[i]? = some x) (hx : RowB N pl x) (hl : cr.length ≤ 119) (hv : 0 ≤ liv ∧ liv ≤ 1000) (hd : 0 ≤ d ∧ d < 4) (t : Nat) (ht : t ≤ 3) (S : SV) (e : EN) (hS : CS K S c p r ad cr liv e pl) (hE : EnB N e) : P G 3 0 0 mX2_passOn 2 [some (.ref c), some (.ref (ad i)), some (IV d), some (IV t), none] [] K S (PQ K S c p r ad cr i liv x (askM pl e x ((asksM pl (x 0) d).drop t)) pl) := by
  induction hm : 3 - t using Nat.strongRecOn generalizing t S e with
  | _ m ih =>
    have hx0 := hx
    obtain ⟨⟨kc, kp, kr, hA⟩, hpr, -, hP, hR, -⟩ := id hS
    unfold CarAt at kc
    obtain ⟨kr0, kr1, km, kb, kk, -⟩ := id kr
    have kk0 := kk.1
    have km0 := km.1
    obtain ⟨hf, kq, hq⟩ := hS.row hi
    have f0 := hf 0 (by omega)
    have f1 := hf 1 (by omega)
    have f2 := hf 2 (by omega)
    have f3 := hf 3 (by omega)
    have hcl := hR.1.1
    obtain ⟨b0, b1, b2, b3, b4, b5, b6, b7⟩ := hx
    have hhs := hP.1.1
    have hb2 := hR.2.2.2.2.1.2.2.2.1
    have hb3 := hR.2.2.2.2.1.2.1
    have hb4 := hR.2.2.2.2.1.2.2.1
    have hN := hE.2.2.2.2.2.2
    have hle := hE.2.1
    have hec := hE.1
    have kp0 := kp.1
    have hL := hP.2.2.2.2.2.2.2 (x 0) d
    have hok := hP.2.1
    have hrc := hok.2.2.1 d hd.1 hd.2
    have hq3 := hL 3 hd.1 hd.2 (by omega)
    have hlen : (asksM pl (x 0) d).length ≤ 3 := by
      rw [show askedO S p (x 0) d 3 = -4 from if_pos (by omega)] at hq3
      rcases Nat.lt_or_ge 3 (asksM pl (x 0) d).length with q | q
      · have hz := asksM_mem (List.getElem_mem q) hhs.1
        rw [show (3 : Int).toNat = 3 from rfl, List.getElem?_eq_getElem q] at hq3
        have : (asksM pl (x 0) d)[3] = -4 := hq3.symm
        omega
      · exact q
    have hask := hL (t : Int) hd.1 hd.2 (by omega)
    rw [show ((t : Int)).toNat = t by omega] at hask
    cases hg : (asksM pl (x 0) d)[t]? with
    | none =>
      have hdr : (asksM pl (x 0) d).drop t = [] := by
        rw [List.drop_eq_nil_iff]
        exact List.getElem?_eq_none_iff.mp hg
      rw [hg] at hask
      have hask : askedO S p (x 0) d t = -4 := hask
      rw [hdr]
      refine T_iload_n dX2_passOn_2 rfl ?_
      refine I_iconst dX2_passOn_3 ?_
      refine I_icmp_ge (tgt := 163) dX2_passOn_4 (by decide) ⟨by omega, by omega⟩ ⟨by omega, by omega⟩ (fun h4 => ?_) (fun h4 => ?_)
      · refine I_iconst dX2_passOn_163 ?_
        exact I_zreturn dX2_passOn_164 rfl (by decide) ⟨_, _, rfl, rfl, Outs.rf, Or.inl ⟨rfl, rfl, hS⟩⟩
      · refine T_aload_n dX2_passOn_7 rfl rfl ?_
        refine P_getr dX2_passOn_8 fX2_9 (by assumption) rfl ?_
        refine T_aload_n dX2_passOn_11 rfl rfl ?_
        refine P_geti dX2_passOn_12 fX2_89 (by assumption) rfl ?_
        rw [f0]
        refine T_iload_n dX2_passOn_15 rfl ?_
        refine T_iload_n dX2_passOn_16 rfl ?_
        refine Q_callV dX2_passOn_17 kX5_asked lX2_184 (by assumption) rfl (p_Plan_asked kp hS.2.2.1 hok hd ⟨by omega, by omega⟩ ⟨by omega, by omega⟩) rfl rfl (Nat.le_of_ble_eq_true rfl) (Nat.le_of_ble_eq_true rfl) (by decide) (by decide) ?_
        rw [hask]
        refine T_istore dX2_passOn_20 (by decide) rfl ?_
        refine T_iload dX2_passOn_22 rfl ?_
        refine I_bipush dX2_passOn_24 (by decide) ?_
        refine I_icmp_ne (tgt := 31) dX2_passOn_26 (by decide) ⟨by decide, by decide⟩ ⟨by omega, by omega⟩ (fun h26 => ?_) (fun h26 => ?_)
        · exact absurd rfl h26
        · refine I_iconst dX2_passOn_29 ?_
          exact I_zreturn dX2_passOn_30 rfl (by decide) ⟨_, _, rfl, rfl, Outs.rf, Or.inl ⟨rfl, rfl, hS⟩⟩
    | some o =>
      have htl : t < (asksM pl (x 0) d).length := (List.getElem?_eq_some_iff.mp hg).1
      have hget : (asksM pl (x 0) d)[t] = o := (List.getElem?_eq_some_iff.mp hg).2
      have hdr : (asksM pl (x 0) d).drop t = o :: (asksM pl (x 0) d).drop (t + 1) := by rw [List.drop_eq_getElem_cons htl, hget]
      rw [hg] at hask
      have hask : askedO S p (x 0) d t = o := hask
      have ho := asksM_mem (hget ▸ List.getElem_mem htl) hhs.1
      have hup : aI S (r + 1) o = eUp e o := hR.2.1 o ho.1 (by omega)
      have hwa : aI S (p + 1) o = pWa pl o := hP.2.2.2.1 o ho.1 ho.2
      have hw01 := hP.1.2.2.2.2.1 o ho.1 ho.2
      have hsg := hR.2.2.2.2.2.1 o ho.1 (by omega)
      have ksg := kr.sg ho.1 (by omega : o < 5)
      have ksg0 := ksg.1
      have kp1 := kp.2.1
      have krs := kr.2.2.2.2.2.1
      have hupR : R32 (eUp e o) := by rw [← hup]; exact hS.2.2.1.2 _ _
      rw [hdr]
      have hip : ((t : Int) + 1) = ((t + 1 : Nat) : Int) := by omega
      by_cases hu : eUp e o = 1
      · by_cases hw : pWa pl o = 0
        · have hM : askM pl e x (o :: (asksM pl (x 0) d).drop (t + 1)) = (e, some o) := by rw [askM, if_pos hu, if_pos hw]
          rw [hM]
          obtain ⟨S1, hS1e⟩ : ∃ S1, S1 = S := ⟨S, rfl⟩
          obtain ⟨e1, he1⟩ : ∃ e1, e1 = e := ⟨e, rfl⟩
          have hS1 := hS
          have g1 := hf
          have hcl1 := hcl
          have gb2 := hb2
          have gb3 := hb3
          have gb4 := hb4
          rw [← hS1e, ← he1] at hS1
          obtain ⟨hS2, hO2⟩ := hS.write hE (deed := 1) (letter := x 1) (at_ := o) (to_ := x 3) ⟨by omega, by omega⟩ ⟨by omega, by omega⟩ ⟨by omega, by omega⟩ ⟨by omega, by omega⟩
          subst hS1e he1
          refine T_iload_n dX2_passOn_2 rfl ?_
          refine I_iconst dX2_passOn_3 ?_
          refine I_icmp_ge (tgt := 163) dX2_passOn_4 (by decide) ⟨by omega, by omega⟩ ⟨by omega, by omega⟩ (fun h4 => ?_) (fun h4 => ?_)
          · omega
          · refine T_aload_n dX2_passOn_7 rfl rfl ?_
            refine P_getr dX2_passOn_8 fX2_9 (by assumption) rfl ?_
            refine T_aload_n dX2_passOn_11 rfl rfl ?_
            refine P_geti dX2_passOn_12 fX2_89 (by assumption) rfl ?_
            rw [f0]
            refine T_iload_n dX2_passOn_15 rfl ?_
            refine T_iload_n dX2_passOn_16 rfl ?_
            refine Q_callV dX2_passOn_17 kX5_asked lX2_184 (by assumption) rfl (p_Plan_asked kp hS.2.2.1 hok hd ⟨by omega, by omega⟩ ⟨by omega, by omega⟩) rfl rfl (Nat.le_of_ble_eq_true rfl) (Nat.le_of_ble_eq_true rfl) (by decide) (by decide) ?_
            rw [hask]
            refine T_istore dX2_passOn_20 (by decide) rfl ?_
            refine T_iload dX2_passOn_22 rfl ?_
            refine I_bipush dX2_passOn_24 (by decide) ?_
            refine I_icmp_ne (tgt := 31) dX2_passOn_26 (by decide) ⟨by omega, by omega⟩ ⟨by omega, by omega⟩ (fun h26 => ?_) (fun h26 => ?_)
            · refine T_aload_n dX2_passOn_31 rfl rfl ?_
              refine P_getr dX2_passOn_32 fX2_15 (by assumption) rfl ?_
              refine P_getr dX2_passOn_35 fX2_74 (by assumption) rfl ?_
              refine T_iload dX2_passOn_38 rfl ?_
              refine P_iald dX2_passOn_40 (by assumption) ⟨by omega, by omega⟩ (by first | decide | omega) ?_
              rw [hup]
              refine I_iconst dX2_passOn_41 ?_
              refine I_icmp_ne (tgt := 157) dX2_passOn_42 (by decide) hupR ⟨by omega, by omega⟩ (fun h42 => ?_) (fun h42 => ?_)
              · exact absurd hu h42
              · refine T_aload_n dX2_passOn_45 rfl rfl ?_
                refine P_getr dX2_passOn_46 fX2_9 (by assumption) rfl ?_
                refine P_getr dX2_passOn_49 fX2_187 (by assumption) rfl ?_
                refine T_iload dX2_passOn_52 rfl ?_
                refine P_iald dX2_passOn_54 (by assumption) ⟨by omega, by omega⟩ (by first | decide | omega) ?_
                rw [hwa]
                refine I_if_eq (tgt := 93) dX2_passOn_55 (by decide) ⟨by omega, by omega⟩ (fun h55 => ?_) (fun h55 => ?_)
                · refine T_aload_n dX2_passOn_93 rfl rfl ?_
                  refine P_getr dX2_passOn_94 fX2_15 (by assumption) rfl ?_
                  refine P_getr dX2_passOn_97 fX2_54 (by assumption) rfl ?_
                  refine I_iconst dX2_passOn_100 ?_
                  refine T_aload_n dX2_passOn_101 rfl rfl ?_
                  refine P_getr dX2_passOn_102 fX2_15 (by assumption) rfl ?_
                  refine P_geti dX2_passOn_105 fX2_47 (by assumption) rfl ?_
                  rw [hcl1]
                  refine T_aload_n dX2_passOn_108 rfl rfl ?_
                  refine T_iload dX2_passOn_109 rfl ?_
                  refine Q_callV dX2_passOn_111 kX0_write lX2_58 (by assumption) rfl (p_Book_write kk kq ⟨by omega, by omega⟩ gb2 ⟨by omega, by omega⟩) rfl rfl (Nat.le_of_ble_eq_true rfl) (Nat.le_of_ble_eq_true rfl) (by decide) (by decide) ?_
                  rw [g1 1 (by omega), g1 3 (by omega)]
                  generalize bkE S1 (r + 128) 1 (eCl e1) (x 1) o (x 3) = S2 at hS2 hO2 ⊢
                  have g2 := (hS2.row hi).1
                  have gc2 : fI S2 r 0 = eCl e1 := hS2.2.2.2.2.1.1.1
                  have gu2 := hS2.2.2.2.2.1.2.2.1
                  have gu3 := gu2.1
                  obtain ⟨hS3, hO3⟩ := hS2.onw hl (at_ := o) (to_ := x 3) (marks := x 7) (due := eCl e1 + 1) ⟨by omega, by omega⟩ hi ⟨by omega, by omega⟩ ⟨by omega, by omega⟩ ⟨by omega, by omega⟩ b7 ⟨by omega, by omega⟩
                  have hlt := (List.getElem?_eq_some_iff.mp hi).1
                  have hqa : qa S2 (r + 2) (fI S2 (r + 2) 1) = ad cr.length := by rw [gu3]; exact gu2.qaE (by omega) (by omega)
                  have hne : ad i ≠ ad cr.length := hA.ne (by omega) (by omega) (by omega)
                  have hi3 : (cr ++ [row8 o (x 1) (x 2) (x 3) 0 (x 5 + 1) (eCl e1 + 1) (x 7)])[i]? = some x := by rw [List.getElem?_append_left hlt]; exact hi
                  have hS4 := hS3.rem ⟨by omega, by omega⟩ hi3
                  rw [show liv + 1 - 1 = liv by omega] at hS4
                  refine T_aload_n dX2_passOn_114 rfl rfl ?_
                  refine P_getr dX2_passOn_115 fX2_15 (by assumption) rfl ?_
                  refine P_getr dX2_passOn_118 fX2_29 (by assumption) rfl ?_
                  refine T_aload_n dX2_passOn_121 rfl rfl ?_
                  refine T_iload dX2_passOn_122 rfl ?_
                  refine T_aload_n dX2_passOn_124 rfl rfl ?_
                  refine P_geti dX2_passOn_125 fX2_104 (by assumption) rfl ?_
                  rw [g2 3 (by omega)]
                  refine T_aload_n dX2_passOn_128 rfl rfl ?_
                  refine P_geti dX2_passOn_129 fX2_168 (by assumption) rfl ?_
                  rw [g2 7 (by omega)]
                  refine T_aload_n dX2_passOn_132 rfl rfl ?_
                  refine P_getr dX2_passOn_133 fX2_15 (by assumption) rfl ?_
                  refine P_geti dX2_passOn_136 fX2_47 (by assumption) rfl ?_
                  rw [gc2]
                  refine I_iconst dX2_passOn_139 ?_
                  refine I_iadd dX2_passOn_140 ?_
                  refine Q_callV dX2_passOn_141 kX4_addOnward lX2_177 (by assumption) rfl (p_Mail_addOnward km (gu2.rows hA) ⟨by omega, by omega⟩ kq (by rw [hqa]; exact hne) (by omega)) rfl rfl (Nat.le_of_ble_eq_true rfl) (Nat.le_of_ble_eq_true rfl) (by decide) (by decide) ?_
                  refine T_aload_n dX2_passOn_144 rfl rfl ?_
                  refine P_getr dX2_passOn_145 fX2_15 (by assumption) rfl ?_
                  refine P_getr dX2_passOn_148 fX2_29 (by assumption) rfl ?_
                  refine T_aload_n dX2_passOn_151 rfl rfl ?_
                  refine Q_callV dX2_passOn_152 kX4_remove lX2_158 (by assumption) rfl (p_Mail_remove km kq (by omega)) rfl rfl (Nat.le_of_ble_eq_true rfl) (Nat.le_of_ble_eq_true rfl) (by decide) (by decide) ?_
                  refine I_iconst dX2_passOn_155 ?_
                  exact I_zreturn dX2_passOn_156 rfl (by decide) ⟨_, _, rfl, rfl, (hO2.tr hO3).tr hS4.2, Or.inr ⟨o, rfl, rfl, hS4.1⟩⟩
                · exact absurd hw h55
            · omega
        · have hcase : (letsM (eSg e o) (x 0) (x 2) (x 3) (eCl e)).2 = true ∨ (letsM (eSg e o) (x 0) (x 2) (x 3) (eCl e)).2 = false := by cases (letsM (eSg e o) (x 0) (x 2) (x 3) (eCl e)).2 <;> simp
          have hE1 := hE.sg o (x 0) (x 2) (x 3) ⟨ho.1, by omega⟩
          have hsgb := hE.2.2.2.2.2.1 o ho.1 (by omega)
          have hSt := hR.2.2.2.2.2.2 o ho.1 (by omega)
          rcases hcase with hlt2 | hlt2
          · have hM : askM pl e x (o :: (asksM pl (x 0) d).drop (t + 1)) = (eSgS e (fset (eSg e) o (letsM (eSg e o) (x 0) (x 2) (x 3) (eCl e)).1), some o) := by rw [askM, if_pos hu, if_neg hw, if_pos hlt2]
            rw [hM]
            refine T_iload_n dX2_passOn_2 rfl ?_
            refine I_iconst dX2_passOn_3 ?_
            refine I_icmp_ge (tgt := 163) dX2_passOn_4 (by decide) ⟨by omega, by omega⟩ ⟨by omega, by omega⟩ (fun h4 => ?_) (fun h4 => ?_)
            · omega
            · refine T_aload_n dX2_passOn_7 rfl rfl ?_
              refine P_getr dX2_passOn_8 fX2_9 (by assumption) rfl ?_
              refine T_aload_n dX2_passOn_11 rfl rfl ?_
              refine P_geti dX2_passOn_12 fX2_89 (by assumption) rfl ?_
              rw [f0]
              refine T_iload_n dX2_passOn_15 rfl ?_
              refine T_iload_n dX2_passOn_16 rfl ?_
              refine Q_callV dX2_passOn_17 kX5_asked lX2_184 (by assumption) rfl (p_Plan_asked kp hS.2.2.1 hok hd ⟨by omega, by omega⟩ ⟨by omega, by omega⟩) rfl rfl (Nat.le_of_ble_eq_true rfl) (Nat.le_of_ble_eq_true rfl) (by decide) (by decide) ?_
              rw [hask]
              refine T_istore dX2_passOn_20 (by decide) rfl ?_
              refine T_iload dX2_passOn_22 rfl ?_
              refine I_bipush dX2_passOn_24 (by decide) ?_
              refine I_icmp_ne (tgt := 31) dX2_passOn_26 (by decide) ⟨by omega, by omega⟩ ⟨by omega, by omega⟩ (fun h26 => ?_) (fun h26 => ?_)
              · refine T_aload_n dX2_passOn_31 rfl rfl ?_
                refine P_getr dX2_passOn_32 fX2_15 (by assumption) rfl ?_
                refine P_getr dX2_passOn_35 fX2_74 (by assumption) rfl ?_
                refine T_iload dX2_passOn_38 rfl ?_
                refine P_iald dX2_passOn_40 (by assumption) ⟨by omega, by omega⟩ (by first | decide | omega) ?_
                rw [hup]
                refine I_iconst dX2_passOn_41 ?_
                refine I_icmp_ne (tgt := 157) dX2_passOn_42 (by decide) hupR ⟨by omega, by omega⟩ (fun h42 => ?_) (fun h42 => ?_)
                · exact absurd hu h42
                · refine T_aload_n dX2_passOn_45 rfl rfl ?_
                  refine P_getr dX2_passOn_46 fX2_9 (by assumption) rfl ?_
                  refine P_getr dX2_passOn_49 fX2_187 (by assumption) rfl ?_
                  refine T_iload dX2_passOn_52 rfl ?_
                  refine P_iald dX2_passOn_54 (by assumption) ⟨by omega, by omega⟩ (by first | decide | omega) ?_
                  rw [hwa]
                  refine I_if_eq (tgt := 93) dX2_passOn_55 (by decide) ⟨by omega, by omega⟩ (fun h55 => ?_) (fun h55 => ?_)
                  · exact absurd h55 hw
                  · refine T_aload_n dX2_passOn_58 rfl rfl ?_
                    refine P_getr dX2_passOn_59 fX2_15 (by assumption) rfl ?_
                    refine P_getr dX2_passOn_62 fX2_190 (by assumption) rfl ?_
                    refine T_iload dX2_passOn_65 rfl ?_
                    refine P_aald dX2_passOn_67 (by assumption) (by decide) ⟨by omega, by omega⟩ (by decide) hsg ?_
                    refine T_aload_n dX2_passOn_68 rfl rfl ?_
                    refine P_geti dX2_passOn_69 fX2_89 (by assumption) rfl ?_
                    rw [f0]
                    refine T_aload_n dX2_passOn_72 rfl rfl ?_
                    refine P_geti dX2_passOn_73 fX2_151 (by assumption) rfl ?_
                    rw [f2]
                    refine T_aload_n dX2_passOn_76 rfl rfl ?_
                    refine P_geti dX2_passOn_77 fX2_104 (by assumption) rfl ?_
                    rw [f3]
                    refine T_aload_n dX2_passOn_80 rfl rfl ?_
                    refine P_getr dX2_passOn_81 fX2_15 (by assumption) rfl ?_
                    refine P_geti dX2_passOn_84 fX2_47 (by assumption) rfl ?_
                    rw [hcl]
                    refine R_callV dX2_passOn_87 kX8_lets lX2_194 (by assumption) rfl (p_Str_lets ksg hS.2.2.1 hSt ⟨by omega, by omega⟩ ⟨by omega, by omega⟩ ⟨by omega, by omega⟩ ⟨by omega, by omega⟩ (fun z hz => ⟨(hsgb z hz).1, by have := (hsgb z hz).2; omega⟩)) rfl rfl (Nat.le_of_ble_eq_true rfl) (Nat.le_of_ble_eq_true rfl) (by decide) (by decide) (fun r_ K_ S_ q_ => ?_)
                    obtain ⟨rfl, rfl, hs1, ha1, ho1⟩ := q_
                    rw [if_pos hlt2]
                    obtain ⟨hS1, hO1⟩ := hS.strg ⟨ho.1, by omega⟩ ha1 hs1 ho1
                    have g1 := (hS1.row hi).1
                    have hcl1 : fI S_ r 0 = eCl e := hS1.2.2.2.2.1.1.1
                    have gb2 := hS1.2.2.2.2.1.2.2.2.2.1.2.2.2.1
                    have gb3 : fI S_ (r + 128) 3 = (eLg e).length := hS1.2.2.2.2.1.2.2.2.2.1.2.1
                    obtain ⟨e1, he1⟩ : ∃ e1, e1 = eSgS e (fset (eSg e) o (letsM (eSg e o) (x 0) (x 2) (x 3) (eCl e)).1) := ⟨_, rfl⟩
                    have hce : eCl e1 = eCl e := by rw [he1]; rfl
                    rw [← he1] at hS1 hE1 ⊢
                    obtain ⟨hS2, hO2⟩ := hS1.write hE1 (deed := 1) (letter := x 1) (at_ := o) (to_ := x 3) ⟨by omega, by omega⟩ ⟨by omega, by omega⟩ ⟨by omega, by omega⟩ ⟨by omega, by omega⟩
                    rw [← hce] at hcl1
                    generalize S_ = S1 at hs1 ha1 ho1 hS1 hO1 g1 hcl1 gb2 gb3 hS2 hO2 ⊢
                    refine I_if_eq (tgt := 157) dX2_passOn_90 (by decide) ⟨by decide, by decide⟩ (fun h90 => ?_) (fun h90 => ?_)
                    · exact absurd h90 (by decide)
                    · refine T_aload_n dX2_passOn_93 rfl rfl ?_
                      refine P_getr dX2_passOn_94 fX2_15 (by assumption) rfl ?_
                      refine P_getr dX2_passOn_97 fX2_54 (by assumption) rfl ?_
                      refine I_iconst dX2_passOn_100 ?_
                      refine T_aload_n dX2_passOn_101 rfl rfl ?_
                      refine P_getr dX2_passOn_102 fX2_15 (by assumption) rfl ?_
                      refine P_geti dX2_passOn_105 fX2_47 (by assumption) rfl ?_
                      rw [hcl1]
                      refine T_aload_n dX2_passOn_108 rfl rfl ?_
                      refine T_iload dX2_passOn_109 rfl ?_
                      refine Q_callV dX2_passOn_111 kX0_write lX2_58 (by assumption) rfl (p_Book_write kk kq ⟨by omega, by omega⟩ gb2 ⟨by omega, by omega⟩) rfl rfl (Nat.le_of_ble_eq_true rfl) (Nat.le_of_ble_eq_true rfl) (by decide) (by decide) ?_
                      rw [g1 1 (by omega), g1 3 (by omega)]
                      generalize bkE S1 (r + 128) 1 (eCl e1) (x 1) o (x 3) = S2 at hS2 hO2 ⊢
                      have g2 := (hS2.row hi).1
                      have gc2 : fI S2 r 0 = eCl e1 := hS2.2.2.2.2.1.1.1
                      have gu2 := hS2.2.2.2.2.1.2.2.1
                      have gu3 := gu2.1
                      obtain ⟨hS3, hO3⟩ := hS2.onw hl (at_ := o) (to_ := x 3) (marks := x 7) (due := eCl e1 + 1) ⟨by omega, by omega⟩ hi ⟨by omega, by omega⟩ ⟨by omega, by omega⟩ ⟨by omega, by omega⟩ b7 ⟨by omega, by omega⟩
                      have hlt := (List.getElem?_eq_some_iff.mp hi).1
                      have hqa : qa S2 (r + 2) (fI S2 (r + 2) 1) = ad cr.length := by rw [gu3]; exact gu2.qaE (by omega) (by omega)
                      have hne : ad i ≠ ad cr.length := hA.ne (by omega) (by omega) (by omega)
                      have hi3 : (cr ++ [row8 o (x 1) (x 2) (x 3) 0 (x 5 + 1) (eCl e1 + 1) (x 7)])[i]? = some x := by rw [List.getElem?_append_left hlt]; exact hi
                      have hS4 := hS3.rem ⟨by omega, by omega⟩ hi3
                      rw [show liv + 1 - 1 = liv by omega] at hS4
                      refine T_aload_n dX2_passOn_114 rfl rfl ?_
                      refine P_getr dX2_passOn_115 fX2_15 (by assumption) rfl ?_
                      refine P_getr dX2_passOn_118 fX2_29 (by assumption) rfl ?_
                      refine T_aload_n dX2_passOn_121 rfl rfl ?_
                      refine T_iload dX2_passOn_122 rfl ?_
                      refine T_aload_n dX2_passOn_124 rfl rfl ?_
                      refine P_geti dX2_passOn_125 fX2_104 (by assumption) rfl ?_
                      rw [g2 3 (by omega)]
                      refine T_aload_n dX2_passOn_128 rfl rfl ?_
                      refine P_geti dX2_passOn_129 fX2_168 (by assumption) rfl ?_
                      rw [g2 7 (by omega)]
                      refine T_aload_n dX2_passOn_132 rfl rfl ?_
                      refine P_getr dX2_passOn_133 fX2_15 (by assumption) rfl ?_
                      refine P_geti dX2_passOn_136 fX2_47 (by assumption) rfl ?_
                      rw [gc2]
                      refine I_iconst dX2_passOn_139 ?_
                      refine I_iadd dX2_passOn_140 ?_
                      refine Q_callV dX2_passOn_141 kX4_addOnward lX2_177 (by assumption) rfl (p_Mail_addOnward km (gu2.rows hA) ⟨by omega, by omega⟩ kq (by rw [hqa]; exact hne) (by omega)) rfl rfl (Nat.le_of_ble_eq_true rfl) (Nat.le_of_ble_eq_true rfl) (by decide) (by decide) ?_
                      refine T_aload_n dX2_passOn_144 rfl rfl ?_
                      refine P_getr dX2_passOn_145 fX2_15 (by assumption) rfl ?_
                      refine P_getr dX2_passOn_148 fX2_29 (by assumption) rfl ?_
                      refine T_aload_n dX2_passOn_151 rfl rfl ?_
                      refine Q_callV dX2_passOn_152 kX4_remove lX2_158 (by assumption) rfl (p_Mail_remove km kq (by omega)) rfl rfl (Nat.le_of_ble_eq_true rfl) (Nat.le_of_ble_eq_true rfl) (by decide) (by decide) ?_
                      refine I_iconst dX2_passOn_155 ?_
                      exact I_zreturn dX2_passOn_156 rfl (by decide) ⟨_, _, rfl, rfl, ((hO1.tr hO2).tr hO3).tr hS4.2, Or.inr ⟨o, rfl, rfl, hS4.1⟩⟩
              · omega
          · have hM : askM pl e x (o :: (asksM pl (x 0) d).drop (t + 1)) = askM pl (eSgS e (fset (eSg e) o (letsM (eSg e o) (x 0) (x 2) (x 3) (eCl e)).1)) x ((asksM pl (x 0) d).drop (t + 1)) := by rw [askM, if_pos hu, if_neg hw, if_neg (by rw [hlt2]; decide)]
            rw [hM]
            refine T_iload_n dX2_passOn_2 rfl ?_
            refine I_iconst dX2_passOn_3 ?_
            refine I_icmp_ge (tgt := 163) dX2_passOn_4 (by decide) ⟨by omega, by omega⟩ ⟨by omega, by omega⟩ (fun h4 => ?_) (fun h4 => ?_)
            · omega
            · refine T_aload_n dX2_passOn_7 rfl rfl ?_
              refine P_getr dX2_passOn_8 fX2_9 (by assumption) rfl ?_
              refine T_aload_n dX2_passOn_11 rfl rfl ?_
              refine P_geti dX2_passOn_12 fX2_89 (by assumption) rfl ?_
              rw [f0]
              refine T_iload_n dX2_passOn_15 rfl ?_
              refine T_iload_n dX2_passOn_16 rfl ?_
              refine Q_callV dX2_passOn_17 kX5_asked lX2_184 (by assumption) rfl (p_Plan_asked kp hS.2.2.1 hok hd ⟨by omega, by omega⟩ ⟨by omega, by omega⟩) rfl rfl (Nat.le_of_ble_eq_true rfl) (Nat.le_of_ble_eq_true rfl) (by decide) (by decide) ?_
              rw [hask]
              refine T_istore dX2_passOn_20 (by decide) rfl ?_
              refine T_iload dX2_passOn_22 rfl ?_
              refine I_bipush dX2_passOn_24 (by decide) ?_
              refine I_icmp_ne (tgt := 31) dX2_passOn_26 (by decide) ⟨by omega, by omega⟩ ⟨by omega, by omega⟩ (fun h26 => ?_) (fun h26 => ?_)
              · refine T_aload_n dX2_passOn_31 rfl rfl ?_
                refine P_getr dX2_passOn_32 fX2_15 (by assumption) rfl ?_
                refine P_getr dX2_passOn_35 fX2_74 (by assumption) rfl ?_
                refine T_iload dX2_passOn_38 rfl ?_
                refine P_iald dX2_passOn_40 (by assumption) ⟨by omega, by omega⟩ (by first | decide | omega) ?_
                rw [hup]
                refine I_iconst dX2_passOn_41 ?_
                refine I_icmp_ne (tgt := 157) dX2_passOn_42 (by decide) hupR ⟨by omega, by omega⟩ (fun h42 => ?_) (fun h42 => ?_)
                · exact absurd hu h42
                · refine T_aload_n dX2_passOn_45 rfl rfl ?_
                  refine P_getr dX2_passOn_46 fX2_9 (by assumption) rfl ?_
                  refine P_getr dX2_passOn_49 fX2_187 (by assumption) rfl ?_
                  refine T_iload dX2_passOn_52 rfl ?_
                  refine P_iald dX2_passOn_54 (by assumption) ⟨by omega, by omega⟩ (by first | decide | omega) ?_
                  rw [hwa]
                  refine I_if_eq (tgt := 93) dX2_passOn_55 (by decide) ⟨by omega, by omega⟩ (fun h55 => ?_) (fun h55 => ?_)
                  · exact absurd h55 hw
                  · refine T_aload_n dX2_passOn_58 rfl rfl ?_
                    refine P_getr dX2_passOn_59 fX2_15 (by assumption) rfl ?_
                    refine P_getr dX2_passOn_62 fX2_190 (by assumption) rfl ?_
                    refine T_iload dX2_passOn_65 rfl ?_
                    refine P_aald dX2_passOn_67 (by assumption) (by decide) ⟨by omega, by omega⟩ (by decide) hsg ?_
                    refine T_aload_n dX2_passOn_68 rfl rfl ?_
                    refine P_geti dX2_passOn_69 fX2_89 (by assumption) rfl ?_
                    rw [f0]
                    refine T_aload_n dX2_passOn_72 rfl rfl ?_
                    refine P_geti dX2_passOn_73 fX2_151 (by assumption) rfl ?_
                    rw [f2]
                    refine T_aload_n dX2_passOn_76 rfl rfl ?_
                    refine P_geti dX2_passOn_77 fX2_104 (by assumption) rfl ?_
                    rw [f3]
                    refine T_aload_n dX2_passOn_80 rfl rfl ?_
                    refine P_getr dX2_passOn_81 fX2_15 (by assumption) rfl ?_
                    refine P_geti dX2_passOn_84 fX2_47 (by assumption) rfl ?_
                    rw [hcl]
                    refine R_callV dX2_passOn_87 kX8_lets lX2_194 (by assumption) rfl (p_Str_lets ksg hS.2.2.1 hSt ⟨by omega, by omega⟩ ⟨by omega, by omega⟩ ⟨by omega, by omega⟩ ⟨by omega, by omega⟩ (fun z hz => ⟨(hsgb z hz).1, by have := (hsgb z hz).2; omega⟩)) rfl rfl (Nat.le_of_ble_eq_true rfl) (Nat.le_of_ble_eq_true rfl) (by decide) (by decide) (fun r_ K_ S_ q_ => ?_)
                    obtain ⟨rfl, rfl, hs1, ha1, ho1⟩ := q_
                    rw [if_neg (by rw [hlt2]; decide)]
                    obtain ⟨hS1, hO1⟩ := hS.strg ⟨ho.1, by omega⟩ ha1 hs1 ho1
                    refine I_if_eq (tgt := 157) dX2_passOn_90 (by decide) ⟨by decide, by decide⟩ (fun h90 => ?_) (fun h90 => ?_)
                    · refine I_iinc dX2_passOn_157 rfl (by decide) rfl ?_
                      refine T_goto (tgt := 2) dX2_passOn_160 (by decide) ?_
                      refine T.forget 4 ?_
                      have z := ih _ (by omega) (t + 1) (by omega) S_ _ hS1 hE1 rfl
                      rw [← hip] at z
                      exact P.weaken z (fun r K' S' q => PQ.tr hO1 q)
                    · exact absurd rfl h90
              · omega
      · have hM : askM pl e x (o :: (asksM pl (x 0) d).drop (t + 1)) = askM pl e x ((asksM pl (x 0) d).drop (t + 1)) := by rw [askM, if_neg hu]
        rw [hM]
        refine T_iload_n dX2_passOn_2 rfl ?_
        refine I_iconst dX2_passOn_3 ?_
        refine I_icmp_ge (tgt := 163) dX2_passOn_4 (by decide) ⟨by omega, by omega⟩ ⟨by omega, by omega⟩ (fun h4 => ?_) (fun h4 => ?_)
        · omega
        · refine T_aload_n dX2_passOn_7 rfl rfl ?_
          refine P_getr dX2_passOn_8 fX2_9 (by assumption) rfl ?_
          refine T_aload_n dX2_passOn_11 rfl rfl ?_
          refine P_geti dX2_passOn_12 fX2_89 (by assumption) rfl ?_
          rw [f0]
          refine T_iload_n dX2_passOn_15 rfl ?_
          refine T_iload_n dX2_passOn_16 rfl ?_
          refine Q_callV dX2_passOn_17 kX5_asked lX2_184 (by assumption) rfl (p_Plan_asked kp hS.2.2.1 hok hd ⟨by omega, by omega⟩ ⟨by omega, by omega⟩) rfl rfl (Nat.le_of_ble_eq_true rfl) (Nat.le_of_ble_eq_true rfl) (by decide) (by decide) ?_
          rw [hask]
          refine T_istore dX2_passOn_20 (by decide) rfl ?_
          refine T_iload dX2_passOn_22 rfl ?_
          refine I_bipush dX2_passOn_24 (by decide) ?_
          refine I_icmp_ne (tgt := 31) dX2_passOn_26 (by decide) ⟨by omega, by omega⟩ ⟨by omega, by omega⟩ (fun h26 => ?_) (fun h26 => ?_)
          · refine T_aload_n dX2_passOn_31 rfl rfl ?_
            refine P_getr dX2_passOn_32 fX2_15 (by assumption) rfl ?_
            refine P_getr dX2_passOn_35 fX2_74 (by assumption) rfl ?_
            refine T_iload dX2_passOn_38 rfl ?_
            refine P_iald dX2_passOn_40 (by assumption) ⟨by omega, by omega⟩ (by first | decide | omega) ?_
            rw [hup]
            refine I_iconst dX2_passOn_41 ?_
            refine I_icmp_ne (tgt := 157) dX2_passOn_42 (by decide) hupR ⟨by omega, by omega⟩ (fun h42 => ?_) (fun h42 => ?_)
            · refine I_iinc dX2_passOn_157 rfl (by decide) rfl ?_
              refine T_goto (tgt := 2) dX2_passOn_160 (by decide) ?_
              refine T.forget 4 ?_
              have z := ih _ (by omega) (t + 1) (by omega) S _ hS hE rfl
              rw [← hip] at z
              exact z
            · exact absurd h42 hu
          · omega
theorem p_Car_passOn {d : Int} {S : SV} {e : EN} (hi : cr[i]? = some x) (hx : RowB N pl x) (hl : cr.length ≤ 119) (hv : 0 ≤ liv ∧ liv ≤ 1000) (hd : 0 ≤ d ∧ d < 4) (hS : CS K S c p r ad cr liv e pl) (hE : EnB N e) : P G 3 0 0 mX2_passOn 0 (LE mX2_passOn [.ref c, .ref (ad i), IV d]) [] K S (PQ K S c p r ad cr i liv x (askM pl e x (asksM pl (x 0) d)) pl) := by
  rw [show LE mX2_passOn [.ref c, .ref (ad i), IV d] = [some (.ref c), some (.ref (ad i)), some (IV d), none, none] from rfl]
  refine I_iconst dX2_passOn_0 ?_
  refine T_istore_n dX2_passOn_1 (by decide) rfl ?_
  exact l_Car_passOn hi hx hl hv hd 0 (by omega) S e hS hE
end Car3
