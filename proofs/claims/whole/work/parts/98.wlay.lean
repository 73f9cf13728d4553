/-! the class: sheet, lay -/
section WLAY
variable {G : GT} {K : List SH} {S : SV} {M : MS} {N : Int}
theorem p_W_sheet {k lane n : Int} (h : WR K S M N) (h466 : 466 ≤ K.length) (hk : R32 k) (hla : R32 lane) (hn : R32 n) : P G 3 3 44 mX10_sheet 0 (LE mX10_sheet [.ref 0, IV k, IV lane, IV n]) [] K S (WG K S (sheetQ M k lane n).1 (sheetQ M k lane n).2 N) := by
  have w0 := h.1.1
  have k168 := h.1.2.2.2.2.2.2.2.1
  by_cases h1 : shtB k lane ∧ n ≤ 40
  · by_cases h2 : n < 0
    · have e : sheetQ M k lane n = (-14, M) := by unfold sheetQ; rw [if_pos h1, if_pos h2]
      rw [e]
      rw [show LE mX10_sheet [.ref 0, IV k, IV lane, IV n] = [some (.ref 0), some (IV k), some (IV lane), some (IV n)] from rfl]
      refine T_iload_n dX10_sheet_0 rfl ?_
      refine Q_callS dX10_sheet_1 kX10_isSheet lX10_232 (p_W_isSheet hk) rfl rfl (Nat.le_of_ble_eq_true rfl) (Nat.le_of_ble_eq_true rfl) (by decide) (by decide) ?_
      rw [b2p_t h1.1.1]
      refine I_if_eq (tgt := 20) dX10_sheet_4 (by decide) ⟨by omega, by omega⟩ (fun h4 => ?_) (fun h4 => ?_)
      · cases h4
      · refine T_iload_n dX10_sheet_7 rfl ?_
        refine Q_callS dX10_sheet_8 kX10_isLane lX10_235 (p_W_isLane hla) rfl rfl (Nat.le_of_ble_eq_true rfl) (Nat.le_of_ble_eq_true rfl) (by decide) (by decide) ?_
        rw [b2p_t h1.1.2]
        refine I_if_eq (tgt := 20) dX10_sheet_11 (by decide) ⟨by omega, by omega⟩ (fun h11 => ?_) (fun h11 => ?_)
        · cases h11
        · refine T_iload_n dX10_sheet_14 rfl ?_
          refine I_bipush dX10_sheet_15 (by decide) ?_
          refine I_icmp_le (tgt := 22) dX10_sheet_17 (by decide) hn ⟨by omega, by omega⟩ (fun h17 => ?_) (fun h17 => ?_)
          · refine T_iload_n dX10_sheet_22 rfl ?_
            refine I_if_ge (tgt := 29) dX10_sheet_23 (by decide) hn (fun h23 => ?_) (fun h23 => ?_)
            · omega
            · refine I_bipush dX10_sheet_26 (by decide) ?_
              exact I_ireturn dX10_sheet_28 rfl ⟨_, _, rfl, WG.here h⟩
          · omega
    · have e : sheetQ M k lane n = (1, mShS M (fset (mSh M) k (some (lane, n, fun _ => 0)))) := by unfold sheetQ; rw [if_pos h1, if_neg h2]
      rw [e]
      have hl := h1.1.2
      have hk4 := h1.1.1
      have hn4 : 0 ≤ n ∧ n ≤ 40 := ⟨by omega, h1.2⟩
      have w := h.sheet rfl h466 hk4 hl hn4
      have hat := shX_at (K := K) (nb := nbN lane n) (ni := niN lane n) rfl (nbN_le hn4) (niN_le hn4)
      have hsame : Same S (sR (shS S K.length lane n) 168 k (some K.length)) 453 466 := (shS_outs S K.length lane n 453 466 (by omega)).tr (fun a p q => ⟨fun _ => rfl, fun _ => rfl, fun i => by rw [rI_sR, if_neg (by omega)]⟩)
      rw [show LE mX10_sheet [.ref 0, IV k, IV lane, IV n] = [some (.ref 0), some (IV k), some (IV lane), some (IV n)] from rfl]
      refine T_iload_n dX10_sheet_0 rfl ?_
      refine Q_callS dX10_sheet_1 kX10_isSheet lX10_232 (p_W_isSheet hk) rfl rfl (Nat.le_of_ble_eq_true rfl) (Nat.le_of_ble_eq_true rfl) (by decide) (by decide) ?_
      rw [b2p_t h1.1.1]
      refine I_if_eq (tgt := 20) dX10_sheet_4 (by decide) ⟨by omega, by omega⟩ (fun h4 => ?_) (fun h4 => ?_)
      · cases h4
      · refine T_iload_n dX10_sheet_7 rfl ?_
        refine Q_callS dX10_sheet_8 kX10_isLane lX10_235 (p_W_isLane hla) rfl rfl (Nat.le_of_ble_eq_true rfl) (Nat.le_of_ble_eq_true rfl) (by decide) (by decide) ?_
        rw [b2p_t h1.1.2]
        refine I_if_eq (tgt := 20) dX10_sheet_11 (by decide) ⟨by omega, by omega⟩ (fun h11 => ?_) (fun h11 => ?_)
        · cases h11
        · refine T_iload_n dX10_sheet_14 rfl ?_
          refine I_bipush dX10_sheet_15 (by decide) ?_
          refine I_icmp_le (tgt := 22) dX10_sheet_17 (by decide) hn ⟨by omega, by omega⟩ (fun h17 => ?_) (fun h17 => ?_)
          · refine T_iload_n dX10_sheet_22 rfl ?_
            refine I_if_ge (tgt := 29) dX10_sheet_23 (by decide) hn (fun h23 => ?_) (fun h23 => ?_)
            · refine T_aload_n dX10_sheet_29 rfl rfl ?_
              refine P_getr dX10_sheet_30 fX10_49 (by assumption) rfl ?_
              refine T_iload_n dX10_sheet_33 rfl ?_
              refine T_new (mc := 2) (ms := 40) (N := 4) (ci := 7) (fs := [IV 0, IV 0, .null, .null]) dX10_sheet_34 clX10_47 inX7 rfl rfl dfX7 ?_
              refine T_dup dX10_sheet_37 rfl ?_
              refine T_iload_n dX10_sheet_38 rfl ?_
              refine T_iload_n dX10_sheet_39 rfl ?_
              refine T_callI (mc := 0) (ms := 0) dX10_sheet_40 kX7_init rfl lX10_238 (c_Sheet hl hn4) rfl rfl (Nat.le_of_ble_eq_true rfl) (Nat.le_of_ble_eq_true rfl) (by decide) (by decide) (fun r σ' q => ?_)
              obtain ⟨rfl, rfl⟩ := q
              rw [HP_len, hp_sheet rfl]
              refine P_aast dX10_sheet_43 (gK k168) (by decide) rfl hat.1 rfl ⟨by omega, by omega⟩ (by decide) ?_
              refine I_iconst dX10_sheet_44 ?_
              exact I_ireturn dX10_sheet_45 rfl ⟨_, _, rfl, rfl, ⟨_, rfl⟩, w, hsame⟩
            · omega
          · omega
  · have e : sheetQ M k lane n = (-1, M) := by unfold sheetQ; rw [if_neg h1]
    rw [e]
    by_cases a1 : 0 ≤ k ∧ k < 4
    · by_cases a2 : lane = 0 ∨ lane = 1
      · rw [show LE mX10_sheet [.ref 0, IV k, IV lane, IV n] = [some (.ref 0), some (IV k), some (IV lane), some (IV n)] from rfl]
        refine T_iload_n dX10_sheet_0 rfl ?_
        refine Q_callS dX10_sheet_1 kX10_isSheet lX10_232 (p_W_isSheet hk) rfl rfl (Nat.le_of_ble_eq_true rfl) (Nat.le_of_ble_eq_true rfl) (by decide) (by decide) ?_
        rw [b2p_t a1]
        refine I_if_eq (tgt := 20) dX10_sheet_4 (by decide) ⟨by omega, by omega⟩ (fun h4 => ?_) (fun h4 => ?_)
        · cases h4
        · refine T_iload_n dX10_sheet_7 rfl ?_
          refine Q_callS dX10_sheet_8 kX10_isLane lX10_235 (p_W_isLane hla) rfl rfl (Nat.le_of_ble_eq_true rfl) (Nat.le_of_ble_eq_true rfl) (by decide) (by decide) ?_
          rw [b2p_t a2]
          refine I_if_eq (tgt := 20) dX10_sheet_11 (by decide) ⟨by omega, by omega⟩ (fun h11 => ?_) (fun h11 => ?_)
          · cases h11
          · refine T_iload_n dX10_sheet_14 rfl ?_
            refine I_bipush dX10_sheet_15 (by decide) ?_
            refine I_icmp_le (tgt := 22) dX10_sheet_17 (by decide) hn ⟨by omega, by omega⟩ (fun h17 => ?_) (fun h17 => ?_)
            · exact absurd ⟨⟨a1, a2⟩, h17⟩ h1
            · refine I_iconst dX10_sheet_20 ?_
              exact I_ireturn dX10_sheet_21 rfl ⟨_, _, rfl, WG.here h⟩
      · rw [show LE mX10_sheet [.ref 0, IV k, IV lane, IV n] = [some (.ref 0), some (IV k), some (IV lane), some (IV n)] from rfl]
        refine T_iload_n dX10_sheet_0 rfl ?_
        refine Q_callS dX10_sheet_1 kX10_isSheet lX10_232 (p_W_isSheet hk) rfl rfl (Nat.le_of_ble_eq_true rfl) (Nat.le_of_ble_eq_true rfl) (by decide) (by decide) ?_
        rw [b2p_t a1]
        refine I_if_eq (tgt := 20) dX10_sheet_4 (by decide) ⟨by omega, by omega⟩ (fun h4 => ?_) (fun h4 => ?_)
        · cases h4
        · refine T_iload_n dX10_sheet_7 rfl ?_
          refine Q_callS dX10_sheet_8 kX10_isLane lX10_235 (p_W_isLane hla) rfl rfl (Nat.le_of_ble_eq_true rfl) (Nat.le_of_ble_eq_true rfl) (by decide) (by decide) ?_
          rw [b2p_f a2]
          refine I_if_eq (tgt := 20) dX10_sheet_11 (by decide) ⟨by omega, by omega⟩ (fun h11 => ?_) (fun h11 => ?_)
          · refine I_iconst dX10_sheet_20 ?_
            exact I_ireturn dX10_sheet_21 rfl ⟨_, _, rfl, WG.here h⟩
          · exact absurd rfl h11
    · rw [show LE mX10_sheet [.ref 0, IV k, IV lane, IV n] = [some (.ref 0), some (IV k), some (IV lane), some (IV n)] from rfl]
      refine T_iload_n dX10_sheet_0 rfl ?_
      refine Q_callS dX10_sheet_1 kX10_isSheet lX10_232 (p_W_isSheet hk) rfl rfl (Nat.le_of_ble_eq_true rfl) (Nat.le_of_ble_eq_true rfl) (by decide) (by decide) ?_
      rw [b2p_f a1]
      refine I_if_eq (tgt := 20) dX10_sheet_4 (by decide) ⟨by omega, by omega⟩ (fun h4 => ?_) (fun h4 => ?_)
      · refine I_iconst dX10_sheet_20 ?_
        exact I_ireturn dX10_sheet_21 rfl ⟨_, _, rfl, WG.here h⟩
      · exact absurd rfl h4
/-- one sheet's cells change -/
theorem WR.shUpd {S' : SV} {k : Int} {o nb ni : Nat} {q : SHT} (h : WR K S M N) (hk : 0 ≤ k ∧ k < 4) (ho : rI S 168 k = some o) (hat : SheetAt K o nb ni) (h466 : 466 ≤ o) (hO : Outs S S' o (o + 3)) (hr : AllR S') (hs : sheetIs S' o nb ni q) : WR K S' (mShS M (fset (mSh M) k (some q))) N := by
  obtain ⟨g1, ⟨g2, g3⟩, ⟨g4, g5⟩, g6, g7, g8⟩ := h
  refine ⟨g1, ⟨g2.outs hO hr (by omega), (hO.f (by omega) 8).trans g3⟩, ⟨g4.same (hO _ _ (by omega)), g5⟩, g6.outs hO hr (by omega) (by omega), g7.outs hO (by omega), fun k' a b => ?_, fun k1 k2 o1 o2 a b c d e f g => g8.2 k1 k2 o1 o2 a b c d e ((hO.r (by omega) k1).symm.trans f) ((hO.r (by omega) k2).symm.trans g)⟩
  show (fset (mSh M) k (some q) k' = none ∧ _) ∨ ∃ (q' : SHT) (o nb ni : Nat), fset (mSh M) k (some q) k' = some q' ∧ _
  by_cases e : k' = k
  · subst e
    rw [fset_t]
    exact Or.inr ⟨_, o, _, _, rfl, (hO.r (by omega) _).trans ho, hat, h466, hs⟩
  · rw [fset_f _ _ e]
    rcases g8.1 k' a b with ⟨z1, z2⟩ | ⟨q', o', nb', ni', z1, z2, z3, z4, z5⟩
    · exact Or.inl ⟨z1, (hO.r (by omega) _).trans z2⟩
    · have := g8.2 k k' o o' hk.1 hk.2 a b (fun z => e z.symm) ho z2
      exact Or.inr ⟨q', o', nb', ni', z1, (hO.r (by omega) _).trans z2, z3, z4, z5.same (hO _ _ (by omega))⟩
theorem sh_laid {o nb ni : Nat} {q : SHT} {i v : Int} (hr : AllR S) (hs : sheetIs S o nb ni q) (hv : R32 v) : sheetIs (laidS S o i v) o nb ni (q.1, q.2.1, fset q.2.2 i (if q.1 = 0 then bI v else v)) ∧ AllR (laidS S o i v) ∧ Outs S (laidS S o i v) o (o + 3) := by
  obtain ⟨h1, h2, h3, h4, h5, h6, h7, h8⟩ := hs
  have hb := bI_R v
  unfold laidS
  rw [h3]
  by_cases e : q.1 = 0
  · rw [if_pos e, if_pos e]
    refine ⟨⟨h1, h2, h3, h4, h5, h6, fun j a b => ?_, fun j => ?_⟩, hr.sA ⟨by omega, by omega⟩, fun x y z => Same.sA (by omega)⟩
    · have w := h7 j a b
      unfold cellO at w ⊢
      rw [fI_sA, h3, if_pos e, aI_sA]
      rw [h3, if_pos e] at w
      show _ = fset q.2.2 i (bI v) j
      by_cases ej : j = i
      · rw [if_pos ⟨rfl, ej⟩, ej, fset_t]
      · rw [if_neg (fun z => ej z.2), fset_f _ _ ej]; exact w
    · rw [aI_sA]
      split
      · exact hb
      · exact h8 j
  · rw [if_neg e, if_neg e]
    refine ⟨⟨h1, h2, h3, h4, h5, h6, fun j a b => ?_, fun j => ?_⟩, hr.sA hv, fun x y z => Same.sA (by omega)⟩
    · have w := h7 j a b
      unfold cellO at w ⊢
      rw [fI_sA, h3, if_neg e, aI_sA]
      rw [h3, if_neg e] at w
      show _ = fset q.2.2 i v j
      by_cases ej : j = i
      · rw [if_pos ⟨rfl, ej⟩, ej, fset_t]
      · rw [if_neg (fun z => ej z.2), fset_f _ _ ej]; exact w
    · rw [aI_sA, if_neg (by omega)]; exact h8 j
theorem p_W_lay {k i v : Int} (h : WR K S M N) (hk : R32 k) (hi : R32 i) (hv : R32 v) : P G 2 0 0 mX10_lay 0 (LE mX10_lay [.ref 0, IV k, IV i, IV v]) [] K S (WQ K S (layQ M k i v).1 (layQ M k i v).2 N) := by
  have w0 := h.1.1
  have k168 := h.1.2.2.2.2.2.2.2.1
  by_cases h1 : 0 ≤ k ∧ k < 4
  · rcases h.2.2.2.2.2.1 k h1.1 h1.2 with ⟨z1, z2⟩ | ⟨q, o, nb, ni, z1, z2, z3, z4, z5⟩
    · have e : layQ M k i v = (-11, M) := by unfold layQ; rw [if_pos h1, z1]
      rw [e]
      rw [show LE mX10_lay [.ref 0, IV k, IV i, IV v] = [some (.ref 0), some (IV k), some (IV i), some (IV v), none] from rfl]
      refine T_iload_n dX10_lay_0 rfl ?_
      refine Q_callS dX10_lay_1 kX10_isSheet lX10_232 (p_W_isSheet hk) rfl rfl (Nat.le_of_ble_eq_true rfl) (Nat.le_of_ble_eq_true rfl) (by decide) (by decide) ?_
      rw [b2p_t h1]
      refine I_if_ne (tgt := 9) dX10_lay_4 (by decide) ⟨by omega, by omega⟩ (fun h4 => ?_) (fun h4 => ?_)
      · refine T_aload_n dX10_lay_9 rfl rfl ?_
        refine P_getr dX10_lay_10 fX10_49 (by assumption) rfl ?_
        refine T_iload_n dX10_lay_13 rfl ?_
        refine P_aaldN dX10_lay_14 (by assumption) (by decide) ⟨by omega, by omega⟩ (by decide) z2 ?_
        refine T_astoreN dX10_lay_15 (by decide) rfl ?_
        refine T_aload dX10_lay_17 rfl rfl ?_
        refine T_ifnonnullN dX10_lay_19 ?_
        refine I_bipush dX10_lay_22 (by decide) ?_
        exact I_ireturn dX10_lay_24 rfl ⟨_, _, rfl, WQ.here h⟩
      · cases h4
    · have y0 := z3.1
      by_cases h2 : 0 ≤ i ∧ i < q.2.1
      · have e : layQ M k i v = (1, mShS M (fset (mSh M) k (some (q.1, q.2.1, fset q.2.2 i (if q.1 = 0 then bI v else v))))) := by unfold layQ; rw [if_pos h1, z1]; exact if_pos h2
        rw [e]
        have hsz := z5.2.2.2.1
        have hq := z5.2.1
        have hl3 := z5.2.2.1
        have hnb := z5.2.2.2.2.1
        have hni := z5.2.2.2.2.2.1
        obtain ⟨y1, y2, y3⟩ := sh_laid (i := i) h.allR z5 hv
        have w := h.shUpd h1 z2 z3 z4 y3 y2 y1
        have hl := z5.1
        rw [show LE mX10_lay [.ref 0, IV k, IV i, IV v] = [some (.ref 0), some (IV k), some (IV i), some (IV v), none] from rfl]
        refine T_iload_n dX10_lay_0 rfl ?_
        refine Q_callS dX10_lay_1 kX10_isSheet lX10_232 (p_W_isSheet hk) rfl rfl (Nat.le_of_ble_eq_true rfl) (Nat.le_of_ble_eq_true rfl) (by decide) (by decide) ?_
        rw [b2p_t h1]
        refine I_if_ne (tgt := 9) dX10_lay_4 (by decide) ⟨by omega, by omega⟩ (fun h4 => ?_) (fun h4 => ?_)
        · refine T_aload_n dX10_lay_9 rfl rfl ?_
          refine P_getr dX10_lay_10 fX10_49 (by assumption) rfl ?_
          refine T_iload_n dX10_lay_13 rfl ?_
          refine P_aald dX10_lay_14 (by assumption) (by decide) ⟨by omega, by omega⟩ (by decide) z2 ?_
          refine T_astore dX10_lay_15 (by decide) rfl ?_
          refine T_aload dX10_lay_17 rfl rfl ?_
          refine T_ifnonnull (tgt := 25) dX10_lay_19 (by decide) ?_
          refine T_iload_n dX10_lay_25 rfl ?_
          refine I_if_lt (tgt := 38) dX10_lay_26 (by decide) ⟨by omega, by omega⟩ (fun h26 => ?_) (fun h26 => ?_)
          · omega
          · refine T_iload_n dX10_lay_29 rfl ?_
            refine T_aload dX10_lay_30 rfl rfl ?_
            refine P_geti dX10_lay_32 fX10_241 (by assumption) rfl ?_
            rw [hsz]
            refine I_icmp_lt (tgt := 41) dX10_lay_35 (by decide) ⟨by omega, by omega⟩ ⟨by omega, by omega⟩ (fun h35 => ?_) (fun h35 => ?_)
            · refine T_aload dX10_lay_41 rfl rfl ?_
              refine T_iload_n dX10_lay_43 rfl ?_
              refine T_iload_n dX10_lay_44 rfl ?_
              refine Q_callV dX10_lay_45 kX7_put lX10_244 (by assumption) rfl (p_Sheet_put z3 h.allR h2.1 (fun z => by rw [hl3] at z; rw [if_pos z] at hnb; omega) (fun z => by rw [hl3] at z; rw [if_pos (by omega)] at hni; omega)) rfl rfl (Nat.le_of_ble_eq_true rfl) (Nat.le_of_ble_eq_true rfl) (by decide) (by decide) ?_
              refine I_iconst dX10_lay_48 ?_
              exact I_ireturn dX10_lay_49 rfl ⟨_, _, rfl, ⟨rfl, rfl, w, y3 _ _ (by omega)⟩⟩
            · omega
        · cases h4
      · have e : layQ M k i v = (-13, M) := by unfold layQ; rw [if_pos h1, z1]; exact if_neg h2
        rw [e]
        have hsz := z5.2.2.2.1
        have hq := z5.2.1
        rw [show LE mX10_lay [.ref 0, IV k, IV i, IV v] = [some (.ref 0), some (IV k), some (IV i), some (IV v), none] from rfl]
        refine T_iload_n dX10_lay_0 rfl ?_
        refine Q_callS dX10_lay_1 kX10_isSheet lX10_232 (p_W_isSheet hk) rfl rfl (Nat.le_of_ble_eq_true rfl) (Nat.le_of_ble_eq_true rfl) (by decide) (by decide) ?_
        rw [b2p_t h1]
        refine I_if_ne (tgt := 9) dX10_lay_4 (by decide) ⟨by omega, by omega⟩ (fun h4 => ?_) (fun h4 => ?_)
        · refine T_aload_n dX10_lay_9 rfl rfl ?_
          refine P_getr dX10_lay_10 fX10_49 (by assumption) rfl ?_
          refine T_iload_n dX10_lay_13 rfl ?_
          refine P_aald dX10_lay_14 (by assumption) (by decide) ⟨by omega, by omega⟩ (by decide) z2 ?_
          refine T_astore dX10_lay_15 (by decide) rfl ?_
          refine T_aload dX10_lay_17 rfl rfl ?_
          refine T_ifnonnull (tgt := 25) dX10_lay_19 (by decide) ?_
          refine T_iload_n dX10_lay_25 rfl ?_
          refine I_if_lt (tgt := 38) dX10_lay_26 (by decide) hi (fun h26 => ?_) (fun h26 => ?_)
          · refine I_bipush dX10_lay_38 (by decide) ?_
            exact I_ireturn dX10_lay_40 rfl ⟨_, _, rfl, WQ.here h⟩
          · refine T_iload_n dX10_lay_29 rfl ?_
            refine T_aload dX10_lay_30 rfl rfl ?_
            refine P_geti dX10_lay_32 fX10_241 (by assumption) rfl ?_
            rw [hsz]
            refine I_icmp_lt (tgt := 41) dX10_lay_35 (by decide) hi ⟨by omega, by omega⟩ (fun h35 => ?_) (fun h35 => ?_)
            · omega
            · refine I_bipush dX10_lay_38 (by decide) ?_
              exact I_ireturn dX10_lay_40 rfl ⟨_, _, rfl, WQ.here h⟩
        · cases h4
  · have e : layQ M k i v = (-1, M) := by unfold layQ; rw [if_neg h1]
    rw [e]
    rw [show LE mX10_lay [.ref 0, IV k, IV i, IV v] = [some (.ref 0), some (IV k), some (IV i), some (IV v), none] from rfl]
    refine T_iload_n dX10_lay_0 rfl ?_
    refine Q_callS dX10_lay_1 kX10_isSheet lX10_232 (p_W_isSheet hk) rfl rfl (Nat.le_of_ble_eq_true rfl) (Nat.le_of_ble_eq_true rfl) (by decide) (by decide) ?_
    rw [b2p_f h1]
    refine I_if_ne (tgt := 9) dX10_lay_4 (by decide) ⟨by omega, by omega⟩ (fun h4 => ?_) (fun h4 => ?_)
    · exact absurd rfl h4
    · refine I_iconst dX10_lay_7 ?_
      exact I_ireturn dX10_lay_8 rfl ⟨_, _, rfl, WQ.here h⟩
end WLAY
