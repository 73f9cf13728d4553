/-! Carrier: an item is handled -/
theorem askM_cl (p : PL) (x : Row) : ∀ (l : List Int) (e : EN), eCl (askM p e x l).1 = eCl e
  | [], e => rfl
  | o :: os, e => by
    rw [askM]
    split
    · split
      · rfl
      · split
        · rfl
        · rw [askM_cl p x os]; rfl
    · exact askM_cl p x os e
theorem askM_EnB (p : PL) (x : Row) {N : Int} : ∀ (l : List Int) (e : EN), EnB N e → (∀ o ∈ l, 0 ≤ o ∧ o < 5) → EnB N (askM p e x l).1
  | [], e, h, _ => h
  | o :: os, e, h, hl => by
    have ho := hl o List.mem_cons_self
    have hos : ∀ z ∈ os, 0 ≤ z ∧ z < 5 := fun z hz => hl z (List.mem_cons_of_mem _ hz)
    rw [askM]
    split
    · split
      · exact h
      · split
        · exact h.sg o _ _ _ ho
        · exact askM_EnB p x os _ (h.sg o _ _ _ ho) hos
    · exact askM_EnB p x os e h hos
section Car5
variable {G : GT} {K : List SH} {S : SV} {c p r : Nat} {ad : Int → Nat} {cr : List Row} {liv N : Int} {e : EN} {pl : PL} {i : Nat} {x : Row}
theorem p_Car_open (hS : CS K S c p r ad cr liv e pl) (hi : cr[i]? = some x) (hx : RowB N pl x) (hx8 : x 5 ≤ 7) (hE : EnB N e) (hv : 1 ≤ liv ∧ liv ≤ 60) (hg : (cr.length : Int) ≤ liv + 59) : P G 3 0 0 mX2_openList 0 (LE mX2_openList [.ref c, .ref (ad i)]) [] K S (HR K S c p r ad cr i liv (if x 2 = -4 then ((bounceM e x).1, none, (bounceM e x).2) else openM pl e liv x) pl) := by
  have hx0 := hx
  obtain ⟨⟨kc, kp, kr, hA⟩, hpr, -, hP, hR, -⟩ := id hS
  unfold CarAt at kc
  obtain ⟨kr0, kr1, km, kb, kk, -⟩ := id kr
  have kk0 := kk.1
  have km0 := km.1
  obtain ⟨hf, kq, hq⟩ := hS.row hi
  have f0 := hf 0 (by omega)
  have f1 := hf 1 (by omega)
  have f2 := hf 2 (by omega)
  have f3 := hf 3 (by omega)
  have hcl := hR.1.1
  obtain ⟨b0, b1, b2, b3, b4, b5, b6, b7⟩ := hx
  have hhs := hP.1.1
  have hb2 := hR.2.2.2.2.1.2.2.2.1
  have hb3 := hR.2.2.2.2.1.2.1
  have hb4 := hR.2.2.2.2.1.2.2.1
  have hN := hE.2.2.2.2.2.2
  have hle := hE.2.1
  have hec := hE.1
  have hlt := (List.getElem?_eq_some_iff.mp hi).1
  by_cases h2 : x 2 = -4
  · rw [if_pos h2]
    have hB : bounceM e x = (logI e 8 x (x 0), []) := if_pos h2
    rw [hB]
    obtain ⟨hS1, hO1⟩ := hS.write hE (deed := 8) (letter := x 1) (at_ := x 0) (to_ := x 3) ⟨by omega, by omega⟩ ⟨by omega, by omega⟩ ⟨by omega, by omega⟩ ⟨by omega, by omega⟩
    rw [show LE mX2_openList [.ref c, .ref (ad i)] = [some (.ref c), some (.ref (ad i)), none, none, none, none, none] from rfl]
    refine T_aload_n dX2_openList_0 rfl rfl ?_
    refine P_geti dX2_openList_1 fX2_151 (by assumption) rfl ?_
    rw [f2]
    refine I_bipush dX2_openList_4 (by decide) ?_
    refine I_icmp_ne (tgt := 45) dX2_openList_6 (by decide) ⟨by omega, by omega⟩ ⟨by omega, by omega⟩ (fun h6 => ?_) (fun h6 => ?_)
    · exact absurd h2 h6
    · refine T_aload_n dX2_openList_9 rfl rfl ?_
      refine P_getr dX2_openList_10 fX2_15 (by assumption) rfl ?_
      refine P_getr dX2_openList_13 fX2_54 (by assumption) rfl ?_
      refine I_bipush dX2_openList_16 (by decide) ?_
      refine T_aload_n dX2_openList_18 rfl rfl ?_
      refine P_getr dX2_openList_19 fX2_15 (by assumption) rfl ?_
      refine P_geti dX2_openList_22 fX2_47 (by assumption) rfl ?_
      rw [hcl]
      refine T_aload_n dX2_openList_25 rfl rfl ?_
      refine T_aload_n dX2_openList_26 rfl rfl ?_
      refine P_geti dX2_openList_27 fX2_89 (by assumption) rfl ?_
      rw [f0]
      refine Q_callV dX2_openList_30 kX0_write lX2_58 (by assumption) rfl (p_Book_write kk kq ⟨by omega, by omega⟩ hb2 ⟨by omega, by omega⟩) rfl rfl (Nat.le_of_ble_eq_true rfl) (Nat.le_of_ble_eq_true rfl) (by decide) (by decide) ?_
      rw [f1, f3]
      generalize bkE S (r + 128) 8 (eCl e) (x 1) (x 0) (x 3) = S1 at hS1 hO1 ⊢
      have hS2 := hS1.rem ⟨by omega, by omega⟩ hi
      refine T_aload_n dX2_openList_33 rfl rfl ?_
      refine P_getr dX2_openList_34 fX2_15 (by assumption) rfl ?_
      refine P_getr dX2_openList_37 fX2_29 (by assumption) rfl ?_
      refine T_aload_n dX2_openList_40 rfl rfl ?_
      refine Q_callV dX2_openList_41 kX4_remove lX2_158 (by assumption) rfl (p_Mail_remove km kq (by omega)) rfl rfl (Nat.le_of_ble_eq_true rfl) (Nat.le_of_ble_eq_true rfl) (by decide) (by decide) ?_
      exact T_return dX2_openList_44 rfl ⟨_, _, rfl, HR_gone (hO1.tr hS2.2) (rset x 0 (-1)) rfl (by rw [List.append_nil, show liv + (([] : List Row).length : Int) - 1 = liv - 1 by simp]; exact hS2.1)⟩
  · rw [if_neg h2]
    have f7 := hf 7 (by omega)
    have hmr := mark_R (x 7) (x 3)
    have hliv : fI S (r + 2) 2 = liv := hR.2.2.1.2.1
    have hPO := hP.1.2.2.2.2.2 (x 3) b3.1 b3.2
    have hf4 := freeU_len pl (markM (x 7) (x 3)) (x 3) (pLc pl (x 3)).toNat
    rw [← freeM_eq] at hf4
    by_cases h60 : 60 < liv - 1 + (freeM pl (markM (x 7) (x 3)) (x 3)).length
    · have hM : openM pl e liv x = (e, some (rset x 6 (eCl e + 1)), []) := if_pos h60
      rw [hM]
      obtain ⟨hS1, hO1⟩ := hS.setF hi (k := 6) (v := eCl e + 1) ⟨by omega, by omega⟩
      rw [show LE mX2_openList [.ref c, .ref (ad i)] = [some (.ref c), some (.ref (ad i)), none, none, none, none, none] from rfl]
      refine T_aload_n dX2_openList_0 rfl rfl ?_
      refine P_geti dX2_openList_1 fX2_151 (by assumption) rfl ?_
      rw [f2]
      refine I_bipush dX2_openList_4 (by decide) ?_
      refine I_icmp_ne (tgt := 45) dX2_openList_6 (by decide) ⟨by omega, by omega⟩ ⟨by omega, by omega⟩ (fun h6 => ?_) (fun h6 => ?_)
      · refine T_aload_n dX2_openList_45 rfl rfl ?_
        refine P_geti dX2_openList_46 fX2_104 (by assumption) rfl ?_
        rw [f3]
        refine T_istore_n dX2_openList_49 (by decide) rfl ?_
        refine T_aload_n dX2_openList_50 rfl rfl ?_
        refine P_geti dX2_openList_51 fX2_168 (by assumption) rfl ?_
        rw [f7]
        refine I_iconst dX2_openList_54 ?_
        refine T_iload_n dX2_openList_55 rfl ?_
        refine T_ishl dX2_openList_56 ?_
        refine T_ior dX2_openList_57 ?_
        rw [mark_iv]
        refine T_istore_n dX2_openList_58 (by decide) rfl ?_
        refine T_aload_n dX2_openList_59 rfl rfl ?_
        refine T_iload_n dX2_openList_60 rfl ?_
        refine T_iload_n dX2_openList_61 rfl ?_
        refine Q_callV dX2_openList_62 kX2_unmarked lX2_171 (by assumption) rfl (p_Car_unmarked hS b3) rfl rfl (Nat.le_of_ble_eq_true rfl) (Nat.le_of_ble_eq_true rfl) (by decide) (by decide) ?_
        refine T_istore dX2_openList_65 (by decide) rfl ?_
        refine T_aload_n dX2_openList_67 rfl rfl ?_
        refine P_getr dX2_openList_68 fX2_15 (by assumption) rfl ?_
        refine P_getr dX2_openList_71 fX2_29 (by assumption) rfl ?_
        refine P_geti dX2_openList_74 fX2_35 (by assumption) rfl ?_
        rw [hliv]
        refine I_iconst dX2_openList_77 ?_
        refine I_isub dX2_openList_78 ?_
        refine T_iload dX2_openList_79 rfl ?_
        refine I_iadd dX2_openList_81 ?_
        refine I_bipush dX2_openList_82 (by decide) ?_
        refine I_icmp_le (tgt := 101) dX2_openList_84 (by decide) ⟨by omega, by omega⟩ ⟨by omega, by omega⟩ (fun h84 => ?_) (fun h84 => ?_)
        · omega
        · refine T_aload_n dX2_openList_87 rfl rfl ?_
          refine T_aload_n dX2_openList_88 rfl rfl ?_
          refine P_getr dX2_openList_89 fX2_15 (by assumption) rfl ?_
          refine P_geti dX2_openList_92 fX2_47 (by assumption) rfl ?_
          rw [hcl]
          refine I_iconst dX2_openList_95 ?_
          refine I_iadd dX2_openList_96 ?_
          refine P_puti dX2_openList_97 fX2_94 (by assumption) rfl rfl ?_
          exact T_return dX2_openList_100 rfl ⟨_, _, rfl, HR_stay hO1 hS1⟩
      · exact absurd h6 h2
    · have hM : openM pl e liv x = (eOlS (logI e 5 x (x 0)) (eOl e + (freeM pl (markM (x 7) (x 3)) (x 3)).length), none, listRows e x (markM (x 7) (x 3)) (freeM pl (markM (x 7) (x 3)) (x 3))) := if_neg h60
      rw [hM]
      obtain ⟨hS1, hO1⟩ := hS.write hE (deed := 5) (letter := x 1) (at_ := x 0) (to_ := x 3) ⟨by omega, by omega⟩ ⟨by omega, by omega⟩ ⟨by omega, by omega⟩ ⟨by omega, by omega⟩
      rw [show LE mX2_openList [.ref c, .ref (ad i)] = [some (.ref c), some (.ref (ad i)), none, none, none, none, none] from rfl]
      refine T_aload_n dX2_openList_0 rfl rfl ?_
      refine P_geti dX2_openList_1 fX2_151 (by assumption) rfl ?_
      rw [f2]
      refine I_bipush dX2_openList_4 (by decide) ?_
      refine I_icmp_ne (tgt := 45) dX2_openList_6 (by decide) ⟨by omega, by omega⟩ ⟨by omega, by omega⟩ (fun h6 => ?_) (fun h6 => ?_)
      · refine T_aload_n dX2_openList_45 rfl rfl ?_
        refine P_geti dX2_openList_46 fX2_104 (by assumption) rfl ?_
        rw [f3]
        refine T_istore_n dX2_openList_49 (by decide) rfl ?_
        refine T_aload_n dX2_openList_50 rfl rfl ?_
        refine P_geti dX2_openList_51 fX2_168 (by assumption) rfl ?_
        rw [f7]
        refine I_iconst dX2_openList_54 ?_
        refine T_iload_n dX2_openList_55 rfl ?_
        refine T_ishl dX2_openList_56 ?_
        refine T_ior dX2_openList_57 ?_
        rw [mark_iv]
        refine T_istore_n dX2_openList_58 (by decide) rfl ?_
        refine T_aload_n dX2_openList_59 rfl rfl ?_
        refine T_iload_n dX2_openList_60 rfl ?_
        refine T_iload_n dX2_openList_61 rfl ?_
        refine Q_callV dX2_openList_62 kX2_unmarked lX2_171 (by assumption) rfl (p_Car_unmarked hS b3) rfl rfl (Nat.le_of_ble_eq_true rfl) (Nat.le_of_ble_eq_true rfl) (by decide) (by decide) ?_
        refine T_istore dX2_openList_65 (by decide) rfl ?_
        refine T_aload_n dX2_openList_67 rfl rfl ?_
        refine P_getr dX2_openList_68 fX2_15 (by assumption) rfl ?_
        refine P_getr dX2_openList_71 fX2_29 (by assumption) rfl ?_
        refine P_geti dX2_openList_74 fX2_35 (by assumption) rfl ?_
        rw [hliv]
        refine I_iconst dX2_openList_77 ?_
        refine I_isub dX2_openList_78 ?_
        refine T_iload dX2_openList_79 rfl ?_
        refine I_iadd dX2_openList_81 ?_
        refine I_bipush dX2_openList_82 (by decide) ?_
        refine I_icmp_le (tgt := 101) dX2_openList_84 (by decide) ⟨by omega, by omega⟩ ⟨by omega, by omega⟩ (fun h84 => ?_) (fun h84 => ?_)
        · refine T_aload_n dX2_openList_101 rfl rfl ?_
          refine P_getr dX2_openList_102 fX2_15 (by assumption) rfl ?_
          refine P_getr dX2_openList_105 fX2_54 (by assumption) rfl ?_
          refine I_iconst dX2_openList_108 ?_
          refine T_aload_n dX2_openList_109 rfl rfl ?_
          refine P_getr dX2_openList_110 fX2_15 (by assumption) rfl ?_
          refine P_geti dX2_openList_113 fX2_47 (by assumption) rfl ?_
          rw [hcl]
          refine T_aload_n dX2_openList_116 rfl rfl ?_
          refine T_aload_n dX2_openList_117 rfl rfl ?_
          refine P_geti dX2_openList_118 fX2_89 (by assumption) rfl ?_
          rw [f0]
          refine Q_callV dX2_openList_121 kX0_write lX2_58 (by assumption) rfl (p_Book_write kk kq ⟨by omega, by omega⟩ hb2 ⟨by omega, by omega⟩) rfl rfl (Nat.le_of_ble_eq_true rfl) (Nat.le_of_ble_eq_true rfl) (by decide) (by decide) ?_
          rw [f1, f3]
          generalize bkE S (r + 128) 5 (eCl e) (x 1) (x 0) (x 3) = S1 at hS1 hO1 ⊢
          refine I_iconst dX2_openList_124 ?_
          refine T_istore dX2_openList_125 (by decide) rfl ?_
          have z := l_Car_open (G := G) (S0 := S) (m := markM (x 7) (x 3)) hi hx0 hx8 hE hmr ⟨by omega, hv.2⟩ (by omega) hlt 0 (by omega) S1 (by
            show CS K S1 c p r ad (cr ++ []) (liv + ((0 : Nat) : Int)) (logI e 5 x (x 0)) pl
            rw [List.append_nil, show liv + ((0 : Nat) : Int) = liv by omega]
            exact hS1) hO1
          exact P.weaken z (fun r' K' S' q => by
            obtain ⟨rfl, rfl, q1, q2⟩ := q
            refine HR_gone q2 (rset x 0 (-1)) rfl ?_
            rw [show ((listRows e x (markM (x 7) (x 3)) (freeM pl (markM (x 7) (x 3)) (x 3))).length : Int) = (freeM pl (markM (x 7) (x 3)) (x 3)).length by rw [listRows, List.length_map]]
            exact q1)
        · omega
      · exact absurd h6 h2
theorem p_Car_handle (hS : CS K S c p r ad cr liv e pl) (hi : cr[i]? = some x) (hx : RowB N pl x) (hx4 : x 4 ≤ 4) (hE : EnB N e) (hv : 1 ≤ liv ∧ liv ≤ 60) (hg : (cr.length : Int) ≤ liv + 59) : P G 4 0 0 mX2_handle 0 (LE mX2_handle [.ref c, .ref (ad i)]) [] K S (HR K S c p r ad cr i liv (handleM pl e liv x) pl) := by
  have hx0 := hx
  obtain ⟨⟨kc, kp, kr, hA⟩, hpr, -, hP, hR, -⟩ := id hS
  unfold CarAt at kc
  obtain ⟨kr0, kr1, km, kb, kk, -⟩ := id kr
  have kk0 := kk.1
  have km0 := km.1
  obtain ⟨hf, kq, hq⟩ := hS.row hi
  have f0 := hf 0 (by omega)
  have f1 := hf 1 (by omega)
  have f2 := hf 2 (by omega)
  have f3 := hf 3 (by omega)
  have hcl := hR.1.1
  obtain ⟨b0, b1, b2, b3, b4, b5, b6, b7⟩ := hx
  have hhs := hP.1.1
  have hb2 := hR.2.2.2.2.1.2.2.2.1
  have hb3 := hR.2.2.2.2.1.2.1
  have hb4 := hR.2.2.2.2.1.2.2.1
  have hN := hE.2.2.2.2.2.2
  have hle := hE.2.1
  have hec := hE.1
  have kp0 := kp.1
  have kp6 := kp.2.2.2.2.2.2.1
  have hlt := (List.getElem?_eq_some_iff.mp hi).1
  have f5 := hf 5 (by omega)
  have hl : cr.length ≤ 119 := by omega
  have hv2 : 0 ≤ liv ∧ liv ≤ 1000 := ⟨by omega, by omega⟩
  have hd : 0 ≤ x 3 / 8 ∧ x 3 / 8 < 4 := ⟨by omega, by omega⟩
  have hL1 := hP.2.2.2.2.2.1 (x 3 / 8) hd.1 hd.2
  have hok := hP.2.1
  by_cases h1 : x 5 = 8 ∨ pRc pl (x 3 / 8) = 0
  · have hM : handleM pl e liv x = ((bounceM e x).1, none, (bounceM e x).2) := if_pos h1
    rw [hM]
    by_cases h8 : 8 ≤ x 5
    · rw [show LE mX2_handle [.ref c, .ref (ad i)] = [some (.ref c), some (.ref (ad i)), none] from rfl]
      refine T_aload_n dX2_handle_0 rfl rfl ?_
      refine P_geti dX2_handle_1 fX2_104 (by assumption) rfl ?_
      rw [f3]
      refine I_bipush dX2_handle_4 (by decide) ?_
      refine I_idiv dX2_handle_6 ⟨by omega, by omega⟩ ⟨by omega, by omega⟩ ?_
      refine T_istore_n dX2_handle_7 (by decide) rfl ?_
      refine T_aload_n dX2_handle_8 rfl rfl ?_
      refine P_geti dX2_handle_9 fX2_107 (by assumption) rfl ?_
      rw [f5]
      refine I_bipush dX2_handle_12 (by decide) ?_
      refine I_icmp_ge (tgt := 28) dX2_handle_14 (by decide) ⟨by omega, by omega⟩ ⟨by omega, by omega⟩ (fun h14 => ?_) (fun h14 => ?_)
      · refine T_aload_n dX2_handle_28 rfl rfl ?_
        refine T_aload_n dX2_handle_29 rfl rfl ?_
        refine R_callV dX2_handle_30 kX2_bounce lX2_113 (by assumption) rfl (p_Car_bounce hS hi hx0 hE hl hv2) rfl rfl (Nat.le_of_ble_eq_true rfl) (Nat.le_of_ble_eq_true rfl) (by decide) (by decide) (fun r_ K_ S_ q_ => ?_)
        obtain ⟨rfl, rfl, hS2, hO2⟩ := q_
        exact T_return dX2_handle_33 rfl ⟨_, _, rfl, HR_gone hO2 (rset x 0 (-1)) rfl hS2⟩
      · omega
    · have hrc0 : ¬ hasRc S p (x 3 / 8) := fun z => (hL1.mp z) (h1.resolve_left (by omega))
      rw [show LE mX2_handle [.ref c, .ref (ad i)] = [some (.ref c), some (.ref (ad i)), none] from rfl]
      refine T_aload_n dX2_handle_0 rfl rfl ?_
      refine P_geti dX2_handle_1 fX2_104 (by assumption) rfl ?_
      rw [f3]
      refine I_bipush dX2_handle_4 (by decide) ?_
      refine I_idiv dX2_handle_6 ⟨by omega, by omega⟩ ⟨by omega, by omega⟩ ?_
      refine T_istore_n dX2_handle_7 (by decide) rfl ?_
      refine T_aload_n dX2_handle_8 rfl rfl ?_
      refine P_geti dX2_handle_9 fX2_107 (by assumption) rfl ?_
      rw [f5]
      refine I_bipush dX2_handle_12 (by decide) ?_
      refine I_icmp_ge (tgt := 28) dX2_handle_14 (by decide) ⟨by omega, by omega⟩ ⟨by omega, by omega⟩ (fun h14 => ?_) (fun h14 => ?_)
      · omega
      · refine T_aload_n dX2_handle_17 rfl rfl ?_
        refine P_getr dX2_handle_18 fX2_9 (by assumption) rfl ?_
        refine T_iload_n dX2_handle_21 rfl ?_
        refine Q_callV dX2_handle_22 kX5_hasReceivers lX2_110 (by assumption) rfl (p_Plan_hasReceivers kp hS.2.2.1 ⟨by omega, by omega⟩ hok.2.1.2) rfl rfl (Nat.le_of_ble_eq_true rfl) (Nat.le_of_ble_eq_true rfl) (by decide) (by decide) ?_
        rw [b2p_f hrc0]
        refine I_if_ne (tgt := 34) dX2_handle_25 (by decide) ⟨by decide, by decide⟩ (fun h25 => ?_) (fun h25 => ?_)
        · exact absurd rfl h25
        · refine T_aload_n dX2_handle_28 rfl rfl ?_
          refine T_aload_n dX2_handle_29 rfl rfl ?_
          refine R_callV dX2_handle_30 kX2_bounce lX2_113 (by assumption) rfl (p_Car_bounce hS hi hx0 hE hl hv2) rfl rfl (Nat.le_of_ble_eq_true rfl) (Nat.le_of_ble_eq_true rfl) (by decide) (by decide) (fun r_ K_ S_ q_ => ?_)
          obtain ⟨rfl, rfl, hS2, hO2⟩ := q_
          exact T_return dX2_handle_33 rfl ⟨_, _, rfl, HR_gone hO2 (rset x 0 (-1)) rfl hS2⟩
  · have h58 : x 5 ≤ 7 := by have := fun z => h1 (Or.inl z); omega
    have hrcn : pRc pl (x 3 / 8) ≠ 0 := fun z => h1 (Or.inr z)
    have hrc0 : hasRc S p (x 3 / 8) := hL1.mpr hrcn
    have hL2 := hP.2.2.2.2.2.2.1 (x 0) (x 3 / 8) hd.1 hd.2 hrcn
    by_cases hla : lastM pl (x 0) (x 3 / 8)
    · have hM : handleM pl e liv x = (if pKd pl (x 3) = 1 then (giveM e x, none, []) else if pKd pl (x 3) = 2 then ((aliasM pl e x).1, some (aliasM pl e x).2, []) else if pKd pl (x 3) = 3 ∧ x 2 ≠ -4 then openM pl e liv x else ((bounceM e x).1, none, (bounceM e x).2)) := by
        rw [handleM, if_neg h1]
        exact if_pos hla
      rw [hM]
      have hkd := (hP.2.2.2.2.1 (x 3) b3.1 b3.2).1
      have hkb := (hP.1.2.2.2.2.2 (x 3) b3.1 b3.2).1
      rcases (show pKd pl (x 3) = 0 ∨ pKd pl (x 3) = 1 ∨ pKd pl (x 3) = 2 ∨ pKd pl (x 3) = 3 by omega) with hk | hk | hk | hk
      · rw [if_neg (by omega), if_neg (by omega), if_neg (by omega)]
        rw [show LE mX2_handle [.ref c, .ref (ad i)] = [some (.ref c), some (.ref (ad i)), none] from rfl]
        refine T_aload_n dX2_handle_0 rfl rfl ?_
        refine P_geti dX2_handle_1 fX2_104 (by assumption) rfl ?_
        rw [f3]
        refine I_bipush dX2_handle_4 (by decide) ?_
        refine I_idiv dX2_handle_6 ⟨by omega, by omega⟩ ⟨by omega, by omega⟩ ?_
        refine T_istore_n dX2_handle_7 (by decide) rfl ?_
        refine T_aload_n dX2_handle_8 rfl rfl ?_
        refine P_geti dX2_handle_9 fX2_107 (by assumption) rfl ?_
        rw [f5]
        refine I_bipush dX2_handle_12 (by decide) ?_
        refine I_icmp_ge (tgt := 28) dX2_handle_14 (by decide) ⟨by omega, by omega⟩ ⟨by omega, by omega⟩ (fun h14 => ?_) (fun h14 => ?_)
        · omega
        · refine T_aload_n dX2_handle_17 rfl rfl ?_
          refine P_getr dX2_handle_18 fX2_9 (by assumption) rfl ?_
          refine T_iload_n dX2_handle_21 rfl ?_
          refine Q_callV dX2_handle_22 kX5_hasReceivers lX2_110 (by assumption) rfl (p_Plan_hasReceivers kp hS.2.2.1 ⟨by omega, by omega⟩ hok.2.1.2) rfl rfl (Nat.le_of_ble_eq_true rfl) (Nat.le_of_ble_eq_true rfl) (by decide) (by decide) ?_
          rw [b2p_t hrc0]
          refine I_if_ne (tgt := 34) dX2_handle_25 (by decide) ⟨by decide, by decide⟩ (fun h25 => ?_) (fun h25 => ?_)
          · refine T_aload_n dX2_handle_34 rfl rfl ?_
            refine P_getr dX2_handle_35 fX2_9 (by assumption) rfl ?_
            refine T_aload_n dX2_handle_38 rfl rfl ?_
            refine P_geti dX2_handle_39 fX2_89 (by assumption) rfl ?_
            rw [f0]
            refine T_iload_n dX2_handle_42 rfl ?_
            refine Q_callV dX2_handle_43 kX5_isLast lX2_116 (by assumption) rfl (p_Plan_isLast kp hS.2.2.1 hok ⟨by omega, by omega⟩ ⟨by omega, by omega⟩) rfl rfl (Nat.le_of_ble_eq_true rfl) (Nat.le_of_ble_eq_true rfl) (by decide) (by decide) ?_
            rw [b2p_t (hL2.mpr hla)]
            refine I_if_ne (tgt := 64) dX2_handle_46 (by decide) ⟨by decide, by decide⟩ (fun h46 => ?_) (fun h46 => ?_)
            · refine T_aload_n dX2_handle_64 rfl rfl ?_
              refine P_getr dX2_handle_65 fX2_9 (by assumption) rfl ?_
              refine P_getr dX2_handle_68 fX2_127 (by assumption) rfl ?_
              refine T_aload_n dX2_handle_71 rfl rfl ?_
              refine P_geti dX2_handle_72 fX2_104 (by assumption) rfl ?_
              rw [f3]
              refine P_iald dX2_handle_75 (by assumption) ⟨by omega, by omega⟩ (by first | decide | omega) ?_
              rw [hkd, hk]
              refine I_tblOut (tgt := 128) dX2_handle_76 (by decide) (Or.inl (by decide)) (by decide) ?_
              refine T_aload_n dX2_handle_128 rfl rfl ?_
              refine T_aload_n dX2_handle_129 rfl rfl ?_
              refine R_callV dX2_handle_130 kX2_bounce lX2_113 (by assumption) rfl (p_Car_bounce hS hi hx0 hE hl hv2) rfl rfl (Nat.le_of_ble_eq_true rfl) (Nat.le_of_ble_eq_true rfl) (by decide) (by decide) (fun r_ K_ S_ q_ => ?_)
              obtain ⟨rfl, rfl, hS2, hO2⟩ := q_
              exact T_return dX2_handle_133 rfl ⟨_, _, rfl, HR_gone hO2 (rset x 0 (-1)) rfl hS2⟩
            · exact absurd h46 (by decide)
          · exact absurd h25 (by decide)
      · rw [if_pos hk]
        rw [show LE mX2_handle [.ref c, .ref (ad i)] = [some (.ref c), some (.ref (ad i)), none] from rfl]
        refine T_aload_n dX2_handle_0 rfl rfl ?_
        refine P_geti dX2_handle_1 fX2_104 (by assumption) rfl ?_
        rw [f3]
        refine I_bipush dX2_handle_4 (by decide) ?_
        refine I_idiv dX2_handle_6 ⟨by omega, by omega⟩ ⟨by omega, by omega⟩ ?_
        refine T_istore_n dX2_handle_7 (by decide) rfl ?_
        refine T_aload_n dX2_handle_8 rfl rfl ?_
        refine P_geti dX2_handle_9 fX2_107 (by assumption) rfl ?_
        rw [f5]
        refine I_bipush dX2_handle_12 (by decide) ?_
        refine I_icmp_ge (tgt := 28) dX2_handle_14 (by decide) ⟨by omega, by omega⟩ ⟨by omega, by omega⟩ (fun h14 => ?_) (fun h14 => ?_)
        · omega
        · refine T_aload_n dX2_handle_17 rfl rfl ?_
          refine P_getr dX2_handle_18 fX2_9 (by assumption) rfl ?_
          refine T_iload_n dX2_handle_21 rfl ?_
          refine Q_callV dX2_handle_22 kX5_hasReceivers lX2_110 (by assumption) rfl (p_Plan_hasReceivers kp hS.2.2.1 ⟨by omega, by omega⟩ hok.2.1.2) rfl rfl (Nat.le_of_ble_eq_true rfl) (Nat.le_of_ble_eq_true rfl) (by decide) (by decide) ?_
          rw [b2p_t hrc0]
          refine I_if_ne (tgt := 34) dX2_handle_25 (by decide) ⟨by decide, by decide⟩ (fun h25 => ?_) (fun h25 => ?_)
          · refine T_aload_n dX2_handle_34 rfl rfl ?_
            refine P_getr dX2_handle_35 fX2_9 (by assumption) rfl ?_
            refine T_aload_n dX2_handle_38 rfl rfl ?_
            refine P_geti dX2_handle_39 fX2_89 (by assumption) rfl ?_
            rw [f0]
            refine T_iload_n dX2_handle_42 rfl ?_
            refine Q_callV dX2_handle_43 kX5_isLast lX2_116 (by assumption) rfl (p_Plan_isLast kp hS.2.2.1 hok ⟨by omega, by omega⟩ ⟨by omega, by omega⟩) rfl rfl (Nat.le_of_ble_eq_true rfl) (Nat.le_of_ble_eq_true rfl) (by decide) (by decide) ?_
            rw [b2p_t (hL2.mpr hla)]
            refine I_if_ne (tgt := 64) dX2_handle_46 (by decide) ⟨by decide, by decide⟩ (fun h46 => ?_) (fun h46 => ?_)
            · refine T_aload_n dX2_handle_64 rfl rfl ?_
              refine P_getr dX2_handle_65 fX2_9 (by assumption) rfl ?_
              refine P_getr dX2_handle_68 fX2_127 (by assumption) rfl ?_
              refine T_aload_n dX2_handle_71 rfl rfl ?_
              refine P_geti dX2_handle_72 fX2_104 (by assumption) rfl ?_
              rw [f3]
              refine P_iald dX2_handle_75 (by assumption) ⟨by omega, by omega⟩ (by first | decide | omega) ?_
              rw [hkd, hk]
              refine I_tblIn (tgt := 104) dX2_handle_76 (by decide) (by decide) (by decide) rfl (by decide) ?_
              refine T_aload_n dX2_handle_104 rfl rfl ?_
              refine T_aload_n dX2_handle_105 rfl rfl ?_
              refine R_callV dX2_handle_106 kX2_give lX2_130 (by assumption) rfl (p_Car_give hS hi hx0 hE hv2) rfl rfl (Nat.le_of_ble_eq_true rfl) (Nat.le_of_ble_eq_true rfl) (by decide) (by decide) (fun r_ K_ S_ q_ => ?_)
              obtain ⟨rfl, rfl, hS2, hO2⟩ := q_
              refine T_goto (tgt := 133) dX2_handle_109 (by decide) ?_
              exact T_return dX2_handle_133 rfl ⟨_, _, rfl, HR_gone hO2 (rset x 0 (-1)) rfl (by rw [List.append_nil, show liv + (([] : List Row).length : Int) - 1 = liv - 1 by simp]; exact hS2)⟩
            · exact absurd h46 (by decide)
          · exact absurd h25 (by decide)
      · rw [if_neg (by omega), if_pos hk]
        rw [show LE mX2_handle [.ref c, .ref (ad i)] = [some (.ref c), some (.ref (ad i)), none] from rfl]
        refine T_aload_n dX2_handle_0 rfl rfl ?_
        refine P_geti dX2_handle_1 fX2_104 (by assumption) rfl ?_
        rw [f3]
        refine I_bipush dX2_handle_4 (by decide) ?_
        refine I_idiv dX2_handle_6 ⟨by omega, by omega⟩ ⟨by omega, by omega⟩ ?_
        refine T_istore_n dX2_handle_7 (by decide) rfl ?_
        refine T_aload_n dX2_handle_8 rfl rfl ?_
        refine P_geti dX2_handle_9 fX2_107 (by assumption) rfl ?_
        rw [f5]
        refine I_bipush dX2_handle_12 (by decide) ?_
        refine I_icmp_ge (tgt := 28) dX2_handle_14 (by decide) ⟨by omega, by omega⟩ ⟨by omega, by omega⟩ (fun h14 => ?_) (fun h14 => ?_)
        · omega
        · refine T_aload_n dX2_handle_17 rfl rfl ?_
          refine P_getr dX2_handle_18 fX2_9 (by assumption) rfl ?_
          refine T_iload_n dX2_handle_21 rfl ?_
          refine Q_callV dX2_handle_22 kX5_hasReceivers lX2_110 (by assumption) rfl (p_Plan_hasReceivers kp hS.2.2.1 ⟨by omega, by omega⟩ hok.2.1.2) rfl rfl (Nat.le_of_ble_eq_true rfl) (Nat.le_of_ble_eq_true rfl) (by decide) (by decide) ?_
          rw [b2p_t hrc0]
          refine I_if_ne (tgt := 34) dX2_handle_25 (by decide) ⟨by decide, by decide⟩ (fun h25 => ?_) (fun h25 => ?_)
          · refine T_aload_n dX2_handle_34 rfl rfl ?_
            refine P_getr dX2_handle_35 fX2_9 (by assumption) rfl ?_
            refine T_aload_n dX2_handle_38 rfl rfl ?_
            refine P_geti dX2_handle_39 fX2_89 (by assumption) rfl ?_
            rw [f0]
            refine T_iload_n dX2_handle_42 rfl ?_
            refine Q_callV dX2_handle_43 kX5_isLast lX2_116 (by assumption) rfl (p_Plan_isLast kp hS.2.2.1 hok ⟨by omega, by omega⟩ ⟨by omega, by omega⟩) rfl rfl (Nat.le_of_ble_eq_true rfl) (Nat.le_of_ble_eq_true rfl) (by decide) (by decide) ?_
            rw [b2p_t (hL2.mpr hla)]
            refine I_if_ne (tgt := 64) dX2_handle_46 (by decide) ⟨by decide, by decide⟩ (fun h46 => ?_) (fun h46 => ?_)
            · refine T_aload_n dX2_handle_64 rfl rfl ?_
              refine P_getr dX2_handle_65 fX2_9 (by assumption) rfl ?_
              refine P_getr dX2_handle_68 fX2_127 (by assumption) rfl ?_
              refine T_aload_n dX2_handle_71 rfl rfl ?_
              refine P_geti dX2_handle_72 fX2_104 (by assumption) rfl ?_
              rw [f3]
              refine P_iald dX2_handle_75 (by assumption) ⟨by omega, by omega⟩ (by first | decide | omega) ?_
              rw [hkd, hk]
              refine I_tblIn (tgt := 112) dX2_handle_76 (by decide) (by decide) (by decide) rfl (by decide) ?_
              refine T_aload_n dX2_handle_112 rfl rfl ?_
              refine T_aload_n dX2_handle_113 rfl rfl ?_
              refine R_callV dX2_handle_114 kX2_followAlias lX2_133 (by assumption) rfl (p_Car_alias hS hi hx0 hE hk) rfl rfl (Nat.le_of_ble_eq_true rfl) (Nat.le_of_ble_eq_true rfl) (by decide) (by decide) (fun r_ K_ S_ q_ => ?_)
              obtain ⟨rfl, rfl, hS2, hO2⟩ := q_
              refine T_goto (tgt := 133) dX2_handle_117 (by decide) ?_
              exact T_return dX2_handle_133 rfl ⟨_, _, rfl, HR_stay hO2 hS2⟩
            · exact absurd h46 (by decide)
          · exact absurd h25 (by decide)
      · have hO : (if pKd pl (x 3) = 1 then (giveM e x, none, []) else if pKd pl (x 3) = 2 then ((aliasM pl e x).1, some (aliasM pl e x).2, []) else if pKd pl (x 3) = 3 ∧ x 2 ≠ -4 then openM pl e liv x else ((bounceM e x).1, none, (bounceM e x).2)) = (if x 2 = -4 then ((bounceM e x).1, none, (bounceM e x).2) else openM pl e liv x) := by
          rw [if_neg (by omega), if_neg (by omega)]
          by_cases h2 : x 2 = -4
          · rw [if_neg (fun z => z.2 h2), if_pos h2]
          · rw [if_pos ⟨hk, h2⟩, if_neg h2]
        rw [hO]
        rw [show LE mX2_handle [.ref c, .ref (ad i)] = [some (.ref c), some (.ref (ad i)), none] from rfl]
        refine T_aload_n dX2_handle_0 rfl rfl ?_
        refine P_geti dX2_handle_1 fX2_104 (by assumption) rfl ?_
        rw [f3]
        refine I_bipush dX2_handle_4 (by decide) ?_
        refine I_idiv dX2_handle_6 ⟨by omega, by omega⟩ ⟨by omega, by omega⟩ ?_
        refine T_istore_n dX2_handle_7 (by decide) rfl ?_
        refine T_aload_n dX2_handle_8 rfl rfl ?_
        refine P_geti dX2_handle_9 fX2_107 (by assumption) rfl ?_
        rw [f5]
        refine I_bipush dX2_handle_12 (by decide) ?_
        refine I_icmp_ge (tgt := 28) dX2_handle_14 (by decide) ⟨by omega, by omega⟩ ⟨by omega, by omega⟩ (fun h14 => ?_) (fun h14 => ?_)
        · omega
        · refine T_aload_n dX2_handle_17 rfl rfl ?_
          refine P_getr dX2_handle_18 fX2_9 (by assumption) rfl ?_
          refine T_iload_n dX2_handle_21 rfl ?_
          refine Q_callV dX2_handle_22 kX5_hasReceivers lX2_110 (by assumption) rfl (p_Plan_hasReceivers kp hS.2.2.1 ⟨by omega, by omega⟩ hok.2.1.2) rfl rfl (Nat.le_of_ble_eq_true rfl) (Nat.le_of_ble_eq_true rfl) (by decide) (by decide) ?_
          rw [b2p_t hrc0]
          refine I_if_ne (tgt := 34) dX2_handle_25 (by decide) ⟨by decide, by decide⟩ (fun h25 => ?_) (fun h25 => ?_)
          · refine T_aload_n dX2_handle_34 rfl rfl ?_
            refine P_getr dX2_handle_35 fX2_9 (by assumption) rfl ?_
            refine T_aload_n dX2_handle_38 rfl rfl ?_
            refine P_geti dX2_handle_39 fX2_89 (by assumption) rfl ?_
            rw [f0]
            refine T_iload_n dX2_handle_42 rfl ?_
            refine Q_callV dX2_handle_43 kX5_isLast lX2_116 (by assumption) rfl (p_Plan_isLast kp hS.2.2.1 hok ⟨by omega, by omega⟩ ⟨by omega, by omega⟩) rfl rfl (Nat.le_of_ble_eq_true rfl) (Nat.le_of_ble_eq_true rfl) (by decide) (by decide) ?_
            rw [b2p_t (hL2.mpr hla)]
            refine I_if_ne (tgt := 64) dX2_handle_46 (by decide) ⟨by decide, by decide⟩ (fun h46 => ?_) (fun h46 => ?_)
            · refine T_aload_n dX2_handle_64 rfl rfl ?_
              refine P_getr dX2_handle_65 fX2_9 (by assumption) rfl ?_
              refine P_getr dX2_handle_68 fX2_127 (by assumption) rfl ?_
              refine T_aload_n dX2_handle_71 rfl rfl ?_
              refine P_geti dX2_handle_72 fX2_104 (by assumption) rfl ?_
              rw [f3]
              refine P_iald dX2_handle_75 (by assumption) ⟨by omega, by omega⟩ (by first | decide | omega) ?_
              rw [hkd, hk]
              refine I_tblIn (tgt := 120) dX2_handle_76 (by decide) (by decide) (by decide) rfl (by decide) ?_
              refine T_aload_n dX2_handle_120 rfl rfl ?_
              refine T_aload_n dX2_handle_121 rfl rfl ?_
              refine R_callV dX2_handle_122 kX2_openList lX2_136 (by assumption) rfl (p_Car_open hS hi hx0 h58 hE hv hg) rfl rfl (Nat.le_of_ble_eq_true rfl) (Nat.le_of_ble_eq_true rfl) (by decide) (by decide) (fun r_ K_ S_ q_ => ?_)
              obtain ⟨rfl, rfl, hq2⟩ := q_
              refine T_goto (tgt := 133) dX2_handle_125 (by decide) ?_
              exact T_return dX2_handle_133 rfl ⟨_, _, rfl, rfl, rfl, hq2⟩
            · exact absurd h46 (by decide)
          · exact absurd h25 (by decide)
    · have hM : handleM pl e liv x = travelM pl e x := by
        rw [handleM, if_neg h1]
        exact if_neg hla
      rw [hM]
      have hcl1 := askM_cl pl x (asksM pl (x 0) (x 3 / 8)) e
      have hE1 := askM_EnB pl x (asksM pl (x 0) (x 3 / 8)) e hE (fun o ho => by have := asksM_mem ho hhs.1; omega)
      rw [show LE mX2_handle [.ref c, .ref (ad i)] = [some (.ref c), some (.ref (ad i)), none] from rfl]
      refine T_aload_n dX2_handle_0 rfl rfl ?_
      refine P_geti dX2_handle_1 fX2_104 (by assumption) rfl ?_
      rw [f3]
      refine I_bipush dX2_handle_4 (by decide) ?_
      refine I_idiv dX2_handle_6 ⟨by omega, by omega⟩ ⟨by omega, by omega⟩ ?_
      refine T_istore_n dX2_handle_7 (by decide) rfl ?_
      refine T_aload_n dX2_handle_8 rfl rfl ?_
      refine P_geti dX2_handle_9 fX2_107 (by assumption) rfl ?_
      rw [f5]
      refine I_bipush dX2_handle_12 (by decide) ?_
      refine I_icmp_ge (tgt := 28) dX2_handle_14 (by decide) ⟨by omega, by omega⟩ ⟨by omega, by omega⟩ (fun h14 => ?_) (fun h14 => ?_)
      · omega
      · refine T_aload_n dX2_handle_17 rfl rfl ?_
        refine P_getr dX2_handle_18 fX2_9 (by assumption) rfl ?_
        refine T_iload_n dX2_handle_21 rfl ?_
        refine Q_callV dX2_handle_22 kX5_hasReceivers lX2_110 (by assumption) rfl (p_Plan_hasReceivers kp hS.2.2.1 ⟨by omega, by omega⟩ hok.2.1.2) rfl rfl (Nat.le_of_ble_eq_true rfl) (Nat.le_of_ble_eq_true rfl) (by decide) (by decide) ?_
        rw [b2p_t hrc0]
        refine I_if_ne (tgt := 34) dX2_handle_25 (by decide) ⟨by decide, by decide⟩ (fun h25 => ?_) (fun h25 => ?_)
        · refine T_aload_n dX2_handle_34 rfl rfl ?_
          refine P_getr dX2_handle_35 fX2_9 (by assumption) rfl ?_
          refine T_aload_n dX2_handle_38 rfl rfl ?_
          refine P_geti dX2_handle_39 fX2_89 (by assumption) rfl ?_
          rw [f0]
          refine T_iload_n dX2_handle_42 rfl ?_
          refine Q_callV dX2_handle_43 kX5_isLast lX2_116 (by assumption) rfl (p_Plan_isLast kp hS.2.2.1 hok ⟨by omega, by omega⟩ ⟨by omega, by omega⟩) rfl rfl (Nat.le_of_ble_eq_true rfl) (Nat.le_of_ble_eq_true rfl) (by decide) (by decide) ?_
          rw [b2p_f (fun z => hla (hL2.mp z))]
          refine I_if_ne (tgt := 64) dX2_handle_46 (by decide) ⟨by decide, by decide⟩ (fun h46 => ?_) (fun h46 => ?_)
          · exact absurd rfl h46
          · refine T_aload_n dX2_handle_49 rfl rfl ?_
            refine T_aload_n dX2_handle_50 rfl rfl ?_
            refine T_iload_n dX2_handle_51 rfl ?_
            refine R_callV dX2_handle_52 kX2_passOn lX2_120 (by assumption) rfl (p_Car_passOn hi hx0 hl hv2 hd hS hE) rfl rfl (Nat.le_of_ble_eq_true rfl) (Nat.le_of_ble_eq_true rfl) (by decide) (by decide) (fun r_ K_ S_ q_ => ?_)
            obtain ⟨rfl, hO1, hres⟩ := q_
            generalize hask : askM pl e x (asksM pl (x 0) (x 3 / 8)) = res at hres hcl1 hE1
            obtain ⟨e1, so⟩ := res
            rcases hres with ⟨rfl, rfl, hS1⟩ | ⟨o, rfl, rfl, hS1⟩
            · have hT : travelM pl e x = lateM e1 x := by
                rw [travelM, hask]
                show (if x 4 + 1 = 5 then _ else _) = lateM e1 x
                unfold lateM
                rw [hcl1]
              rw [hT]
              refine I_if_ne (tgt := 63) dX2_handle_55 (by decide) ⟨by decide, by decide⟩ (fun h55 => absurd rfl h55) (fun h55 => ?_)
              refine T_aload_n dX2_handle_58 rfl rfl ?_
              refine T_aload_n dX2_handle_59 rfl rfl ?_
              refine R_callV dX2_handle_60 kX2_tryLater lX2_124 (by assumption) rfl (p_Car_later hS1 hi hx0 hx4 hE1 hl hv2) rfl rfl (Nat.le_of_ble_eq_true rfl) (Nat.le_of_ble_eq_true rfl) (by decide) (by decide) (fun r_ K_ S_ q_ => ?_)
              obtain ⟨rfl, rfl, hO2, hq2⟩ := q_
              exact T_return dX2_handle_63 rfl ⟨_, _, rfl, rfl, rfl, hO1.tr hO2, hq2⟩
            · have hT : travelM pl e x = (logI e1 1 x o, none, [row8 o (x 1) (x 2) (x 3) 0 (x 5 + 1) (eCl e + 1) (x 7)]) := by
                rw [travelM, hask]
              rw [hT]
              refine I_if_ne (tgt := 63) dX2_handle_55 (by decide) ⟨by decide, by decide⟩ (fun h55 => ?_) (fun h55 => absurd h55 (by decide))
              refine T_return dX2_handle_63 rfl ⟨_, _, rfl, HR_gone hO1 (rset x 0 (-1)) rfl ?_⟩
              rw [show liv + (([row8 o (x 1) (x 2) (x 3) 0 (x 5 + 1) (eCl e + 1) (x 7)] : List Row).length : Int) - 1 = liv by simp]
              have hS1 := hS1
              rw [show eCl (e1, some o).1 = eCl e from hcl1] at hS1
              exact hS1
        · exact absurd h25 (by decide)
end Car5
