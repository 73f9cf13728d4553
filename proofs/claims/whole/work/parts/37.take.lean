/-! sheets; letters are taken -/
def SheetAt (K : List SH) (o nb ni : Nat) : Prop := K[o]? = some (.inr (7, [none, none, some (o + 1), some (o + 2)])) ∧ K[o + 1]? = some (.inl (1, nb)) ∧ K[o + 2]? = some (.inl (0, ni)) ∧ nb ≤ 40 ∧ ni ≤ 40
def cellO (S : SV) (o : Nat) (i : Int) : Int := if fI S o 0 = 0 then aI S (o + 1) i else aI S (o + 2) i
theorem bI_nar (v : Int) : vp_nar .byte (iv (bI v)) = iv (bI v) := by
  have e : (iv (bI v)).toInt8.toInt32 = iv (bI v) := by
    apply Int32.toInt_inj.mp
    have hb : R32 (bI v) := ⟨by have := Int.le_bmod (x := v) (m := 256) (by decide); unfold bI; omega, by have := Int.bmod_lt (x := v) (m := 256) (by decide); unfold bI; omega⟩
    rw [iv_toInt hb, Int8.toInt_toInt32]
    show (Int32.ofInt (bI v)).toInt8.toInt = bI v
    rw [Int32.toInt8_ofInt, Int8.toInt_ofInt]
    exact Int.bmod_bmod
  exact e
theorem bI_R (v : Int) : -128 ≤ bI v ∧ bI v < 128 := ⟨by have := Int.le_bmod (x := v) (m := 256) (by decide); unfold bI; omega, by have := Int.bmod_lt (x := v) (m := 256) (by decide); unfold bI; omega⟩
section Sheet
variable {G : GT} {K : List SH} {S : SV} {o nb ni : Nat}
theorem p_Sheet_cell {i : Int} (h : SheetAt K o nb ni) (hr : AllR S) (hi : 0 ≤ i) (hb : fI S o 0 = 0 → i < nb) (hn : ¬ fI S o 0 = 0 → i < ni) : P G 0 0 0 mX7_cell 0 (LE mX7_cell [.ref o, IV i]) [] K S (Ret K (some (IV (cellO S o i))) S) := by
  obtain ⟨k0, k1, k2, g1, g2⟩ := h
  rw [show LE mX7_cell [.ref o, IV i] = [some (.ref o), some (IV i)] from rfl]
  refine T_aload_n dX7_cell_0 rfl rfl ?_
  refine P_geti dX7_cell_1 fX7_9 (by assumption) rfl ?_
  refine I_if_ne (tgt := 16) dX7_cell_4 (by decide) (hr.1 _ _) (fun h4 => ?_) (fun h4 => ?_)
  · refine T_aload_n dX7_cell_16 rfl rfl ?_
    refine P_getr dX7_cell_17 fX7_22 (by assumption) rfl ?_
    refine T_iload_n dX7_cell_20 rfl ?_
    refine P_iald dX7_cell_21 (by assumption) ⟨hi, hn h4⟩ (by first | decide | omega) ?_
    exact I_ireturn dX7_cell_22 rfl ⟨_, _, rfl, by simp [cellO, h4], rfl, rfl⟩
  · refine T_aload_n dX7_cell_7 rfl rfl ?_
    refine P_getr dX7_cell_8 fX7_18 (by assumption) rfl ?_
    refine T_iload_n dX7_cell_11 rfl ?_
    refine P_bald dX7_cell_12 (by assumption) ⟨hi, hb h4⟩ (by first | decide | omega) ?_
    refine T_goto (tgt := 22) dX7_cell_13 (by decide) ?_
    exact I_ireturn dX7_cell_22 rfl ⟨_, _, rfl, by simp [cellO, h4], rfl, rfl⟩
def laidS (S : SV) (o : Nat) (i v : Int) : SV := if fI S o 0 = 0 then sA S (o + 1) i (bI v) else sA S (o + 2) i v
theorem p_Sheet_put {i v : Int} (h : SheetAt K o nb ni) (hr : AllR S) (hi : 0 ≤ i) (hb : fI S o 0 = 0 → i < nb) (hn : ¬ fI S o 0 = 0 → i < ni) : P G 0 0 0 mX7_put 0 (LE mX7_put [.ref o, IV i, IV v]) [] K S (Ret K none (laidS S o i v)) := by
  obtain ⟨k0, k1, k2, g1, g2⟩ := h
  rw [show LE mX7_put [.ref o, IV i, IV v] = [some (.ref o), some (IV i), some (IV v)] from rfl]
  refine T_aload_n dX7_put_0 rfl rfl ?_
  refine P_geti dX7_put_1 fX7_9 (by assumption) rfl ?_
  refine I_if_ne (tgt := 18) dX7_put_4 (by decide) (hr.1 _ _) (fun h4 => ?_) (fun h4 => ?_)
  · refine T_aload_n dX7_put_18 rfl rfl ?_
    refine P_getr dX7_put_19 fX7_22 (by assumption) rfl ?_
    refine T_iload_n dX7_put_22 rfl ?_
    refine T_iload_n dX7_put_23 rfl ?_
    refine P_iast dX7_put_24 (by assumption) ⟨hi, hn h4⟩ (by first | decide | omega) ?_
    exact T_return dX7_put_25 rfl ⟨_, _, rfl, rfl, rfl, by simp [laidS, h4]⟩
  · refine T_aload_n dX7_put_7 rfl rfl ?_
    refine P_getr dX7_put_8 fX7_18 (by assumption) rfl ?_
    refine T_iload_n dX7_put_11 rfl ?_
    refine T_iload_n dX7_put_12 rfl ?_
    refine I_i2b dX7_put_13 ?_
    refine P_bast dX7_put_14 (by assumption) ⟨hi, hb h4⟩ (by first | decide | omega) (bI_nar v) ?_
    refine T_goto (tgt := 25) dX7_put_15 (by decide) ?_
    exact T_return dX7_put_25 rfl ⟨_, _, rfl, rfl, rfl, by simp [laidS, h4]⟩
def fillS (S : SV) (o q : Nat) (f : Int) : SV := if fI S o 0 = 0 then sC S (o + 1) (q + 1) f 0 (fI S o 1) else sC S (o + 2) (q + 2) f 0 (fI S o 1)
theorem p_Sheet_fill {q qb qi : Nat} {f : Int} (h : SheetAt K o nb ni) (hq : SheetAt K q qb qi) (hr : AllR S) (hf : 0 ≤ f) (hs : 0 ≤ fI S o 1) (hb : fI S o 0 = 0 → f + fI S o 1 ≤ qb ∧ fI S o 1 ≤ nb) (hn : ¬ fI S o 0 = 0 → f + fI S o 1 ≤ qi ∧ fI S o 1 ≤ ni) (hbt : fI S o 0 = 0 → ∀ i : Int, -128 ≤ aI S (q + 1) i ∧ aI S (q + 1) i < 128) : P G 1 0 0 mX7_fillFrom 0 (LE mX7_fillFrom [.ref o, .ref q, IV f]) [] K S (Ret K none (fillS S o q f)) := by
  obtain ⟨k0, k1, k2, g1, g2⟩ := h
  obtain ⟨j0, j1, j2, j3, j4⟩ := hq
  rw [show LE mX7_fillFrom [.ref o, .ref q, IV f] = [some (.ref o), some (.ref q), some (IV f)] from rfl]
  refine T_aload_n dX7_fillFrom_0 rfl rfl ?_
  refine P_geti dX7_fillFrom_1 fX7_9 (by assumption) rfl ?_
  refine I_if_ne (tgt := 27) dX7_fillFrom_4 (by decide) (hr.1 _ _) (fun h4 => ?_) (fun h4 => ?_)
  · refine T_aload_n dX7_fillFrom_27 rfl rfl ?_
    refine P_getr dX7_fillFrom_28 fX7_22 (by assumption) rfl ?_
    refine T_iload_n dX7_fillFrom_31 rfl ?_
    refine T_aload_n dX7_fillFrom_32 rfl rfl ?_
    refine P_getr dX7_fillFrom_33 fX7_22 (by assumption) rfl ?_
    refine I_iconst dX7_fillFrom_36 ?_
    refine T_aload_n dX7_fillFrom_37 rfl rfl ?_
    refine P_geti dX7_fillFrom_38 fX7_15 (by assumption) rfl ?_
    have hz := hn h4
    refine P_copy dX7_fillFrom_41 lX7_26 j2 k2 (by decide) ⟨hf, by omega, hs, by omega, by omega⟩ ⟨by omega, by omega⟩ (fun z => by cases z) (Nat.le_of_ble_eq_true rfl) ?_
    exact T_return dX7_fillFrom_44 rfl ⟨_, _, rfl, rfl, rfl, by simp [fillS, h4]⟩
  · refine T_aload_n dX7_fillFrom_7 rfl rfl ?_
    refine P_getr dX7_fillFrom_8 fX7_18 (by assumption) rfl ?_
    refine T_iload_n dX7_fillFrom_11 rfl ?_
    refine T_aload_n dX7_fillFrom_12 rfl rfl ?_
    refine P_getr dX7_fillFrom_13 fX7_18 (by assumption) rfl ?_
    refine I_iconst dX7_fillFrom_16 ?_
    refine T_aload_n dX7_fillFrom_17 rfl rfl ?_
    refine P_geti dX7_fillFrom_18 fX7_15 (by assumption) rfl ?_
    have hz := hb h4
    refine P_copy dX7_fillFrom_21 lX7_26 j1 k1 (by decide) ⟨hf, by omega, hs, by omega, by omega⟩ ⟨by omega, by omega⟩ (fun _ i _ _ => hbt h4 i) (Nat.le_of_ble_eq_true rfl) ?_
    refine T_goto (tgt := 44) dX7_fillFrom_24 (by decide) ?_
    exact T_return dX7_fillFrom_44 rfl ⟨_, _, rfl, rfl, rfl, by simp [fillS, h4]⟩
end Sheet
def letB (p : PL) (h f t : Int) : Prop := (0 ≤ h ∧ h < pHs p) ∧ addrB f ∧ addrB t
noncomputable def refM (p : PL) (n : Int) (h f t : Int) : Int := @ite _ (letB p h f t) (Classical.propDecidable _) (if 60 ≤ n then -3 else 0) (-1)
theorem sendM_bad {p : PL} {x : EN × List Row} {h f t : Int} (q : ¬ letB p h f t) : sendM p x h f t = (-1, x) := if_neg q
theorem sendM_full {p : PL} {x : EN × List Row} {h f t : Int} (q : letB p h f t) (l : 60 ≤ (x.2.length : Int)) : sendM p x h f t = (-3, x) := by
  unfold sendM
  rw [if_pos (show (0 ≤ h ∧ h < pHs p) ∧ addrB f ∧ addrB t from q), if_pos l]
theorem sendM_ok {p : PL} {x : EN × List Row} {h f t : Int} (q : letB p h f t) (l : ¬ 60 ≤ (x.2.length : Int)) : sendM p x h f t = (eLe x.1, logM (eLeS x.1 (eLe x.1 + 1)) 0 (eLe x.1) h t, x.2 ++ [row8 h (eLe x.1) f t 0 0 (eCl x.1 + 1) 0]) := by
  unfold sendM
  rw [if_pos (show (0 ≤ h ∧ h < pHs p) ∧ addrB f ∧ addrB t from q), if_neg l]
section Take
variable {G : GT} {K : List SH} {S : SV} {c p r : Nat} {pl : PL} {its : List Row} {e : EN} {N : Int}
theorem p_refusal {h f t m : Int} (hC : CT K S c p r its e pl N) (hh : R32 h) (hf : R32 f) (ht : R32 t) (hm : 0 ≤ m ∧ m ≤ 100) : P G 1 0 0 mX2_refusal 0 (LE mX2_refusal [.ref c, IV h, IV f, IV t, IV m]) [] K S (Ret K (some (IV (refM pl (its.length + m) h f t))) S) := by
  obtain ⟨⟨ad, hS⟩, hE, hok, h60⟩ := hC
  obtain ⟨⟨kc, kp, kr, hA⟩, hpr, hr, hP, hR, hll⟩ := id hS
  unfold CarAt at kc
  have kp0 := kp.1
  have kr0 := kr.1
  have km0 := kr.2.2.1.1
  have hhs : fI S p 0 = pHs pl := hP.2.2.1
  have hb := hP.1.1
  have hl : fI S (r + 2) 2 = its.length := hR.2.2.1.2.1
  rw [show LE mX2_refusal [.ref c, IV h, IV f, IV t, IV m] = [some (.ref c), some (IV h), some (IV f), some (IV t), some (IV m)] from rfl]
  refine T_iload_n dX2_refusal_0 rfl ?_
  refine I_if_lt (tgt := 29) dX2_refusal_1 (by decide) hh (fun h1 => ?_) (fun h1 => ?_)
  · have hM : refM pl (its.length + m) h f t = -1 := if_neg (fun z => by
      have z1 := z.1
      have z2 := b2p_t z.2.1
      have z3 := b2p_t z.2.2
      omega)
    rw [hM]
    refine I_iconst dX2_refusal_29 ?_
    exact I_ireturn dX2_refusal_30 rfl ⟨_, _, rfl, by first | rfl | rw [if_pos (by omega)] | rw [if_neg (by omega)], rfl, rfl⟩
  · refine T_iload_n dX2_refusal_4 rfl ?_
    refine T_aload_n dX2_refusal_5 rfl rfl ?_
    refine P_getr dX2_refusal_6 fX2_9 (by assumption) rfl ?_
    refine P_geti dX2_refusal_9 fX2_19 (by assumption) rfl ?_
    rw [hhs]
    refine I_icmp_ge (tgt := 29) dX2_refusal_12 (by decide) hh ⟨by omega, by omega⟩ (fun h12 => ?_) (fun h12 => ?_)
    · have hM : refM pl (its.length + m) h f t = -1 := if_neg (fun z => by
        have z1 := z.1
        have z2 := b2p_t z.2.1
        have z3 := b2p_t z.2.2
        omega)
      rw [hM]
      refine I_iconst dX2_refusal_29 ?_
      exact I_ireturn dX2_refusal_30 rfl ⟨_, _, rfl, by first | rfl | rw [if_pos (by omega)] | rw [if_neg (by omega)], rfl, rfl⟩
    · refine T_iload_n dX2_refusal_15 rfl ?_
      refine Q_callSN dX2_refusal_16 kX10_isAddress lX2_25 (p_isAddress hf) rfl rfl (Nat.le_of_ble_eq_true rfl) (Nat.le_of_ble_eq_true rfl) (by decide) (by decide) ?_
      refine I_if_eq (tgt := 29) dX2_refusal_19 (by decide) (by rcases b2p_01 (addrB f) with z | z <;> rw [z] <;> decide) (fun h19 => ?_) (fun h19 => ?_)
      · have hM : refM pl (its.length + m) h f t = -1 := if_neg (fun z => by
          have z1 := z.1
          have z2 := b2p_t z.2.1
          have z3 := b2p_t z.2.2
          omega)
        rw [hM]
        refine I_iconst dX2_refusal_29 ?_
        exact I_ireturn dX2_refusal_30 rfl ⟨_, _, rfl, by first | rfl | rw [if_pos (by omega)] | rw [if_neg (by omega)], rfl, rfl⟩
      · have a1 : addrB f := Classical.byContradiction (fun z => h19 (b2p_f z))
        refine T_iload_n dX2_refusal_22 rfl ?_
        refine Q_callSN dX2_refusal_23 kX10_isAddress lX2_25 (p_isAddress ht) rfl rfl (Nat.le_of_ble_eq_true rfl) (Nat.le_of_ble_eq_true rfl) (by decide) (by decide) ?_
        refine I_if_ne (tgt := 31) dX2_refusal_26 (by decide) (by rcases b2p_01 (addrB t) with z | z <;> rw [z] <;> decide) (fun h26 => ?_) (fun h26 => ?_)
        · have a2 : addrB t := Classical.byContradiction (fun z => h26 (b2p_f z))
          have hq : letB pl h f t := ⟨⟨by omega, by omega⟩, a1, a2⟩
          have hM : refM pl (its.length + m) h f t = if 60 ≤ (its.length : Int) + m then -3 else 0 := if_pos hq
          rw [hM]
          refine T_aload_n dX2_refusal_31 rfl rfl ?_
          refine P_getr dX2_refusal_32 fX2_15 (by assumption) rfl ?_
          refine P_getr dX2_refusal_35 fX2_29 (by assumption) rfl ?_
          refine P_geti dX2_refusal_38 fX2_35 (by assumption) rfl ?_
          rw [hl]
          refine T_iload dX2_refusal_41 rfl ?_
          refine I_iadd dX2_refusal_43 ?_
          refine I_bipush dX2_refusal_44 (by decide) ?_
          refine I_icmp_lt (tgt := 54) dX2_refusal_46 (by decide) ⟨by omega, by omega⟩ ⟨by omega, by omega⟩ (fun h46 => ?_) (fun h46 => ?_)
          · refine I_iconst dX2_refusal_54 ?_
            exact I_ireturn dX2_refusal_55 rfl ⟨_, _, rfl, by first | rfl | rw [if_pos (by omega)] | rw [if_neg (by omega)], rfl, rfl⟩
          · refine I_bipush dX2_refusal_49 (by decide) ?_
            refine T_goto (tgt := 55) dX2_refusal_51 (by decide) ?_
            exact I_ireturn dX2_refusal_55 rfl ⟨_, _, rfl, by first | rfl | rw [if_pos (by omega)] | rw [if_neg (by omega)], rfl, rfl⟩
        · have hM : refM pl (its.length + m) h f t = -1 := if_neg (fun z => by
            have z1 := z.1
            have z2 := b2p_t z.2.1
            have z3 := b2p_t z.2.2
            omega)
          rw [hM]
          refine I_iconst dX2_refusal_29 ?_
          exact I_ireturn dX2_refusal_30 rfl ⟨_, _, rfl, by first | rfl | rw [if_pos (by omega)] | rw [if_neg (by omega)], rfl, rfl⟩
def LQ (K : List SH) (S : SV) (c p r : Nat) (pl : PL) (res : Int × EN × List Row) (N : Int) : Option Value → List SH → SV → Prop := fun rv K' S' => rv = some (IV res.1) ∧ K' = K ∧ Outs S S' r (r + 142) ∧ CT K S' c p r res.2.2 res.2.1 pl N
theorem CT.mono {N' : Int} (h : CT K S c p r its e pl N) (hN : N ≤ N') (hM : N' ≤ 1000000000) : CT K S c p r its e pl N' := ⟨h.1, h.2.1.mono hN hM, fun x hx => (h.2.2.1 x hx).mono hN, h.2.2.2⟩
theorem p_takeLetter {h f t : Int} (hC : CT K S c p r its e pl N) (hh : R32 h) (hf : R32 f) (ht : R32 t) (hN : N + 2 ≤ 1000000000) : P G 2 0 0 mX2_takeLetter 0 (LE mX2_takeLetter [.ref c, IV h, IV f, IV t]) [] K S (LQ K S c p r pl (sendM pl (e, its) h f t) (N + 2)) := by
  obtain ⟨⟨ad, hS⟩, hE, hok, h60⟩ := id hC
  obtain ⟨⟨kc, kp, kr, hA⟩, hpr, hr, hP, hR, hll⟩ := id hS
  unfold CarAt at kc
  obtain ⟨kr0, kr1, km, kb, kk, -⟩ := id kr
  have kk0 := kk.1
  have km0 := km.1
  have hb := hP.1.1
  have hle := hE.2.1
  have hec := hE.1
  have hl : fI S r 1 = eLe e := hR.1.2.1
  have hnn := hE.2.2.2.2.2.2
  by_cases hq : letB pl h f t
  · by_cases hfu : 60 ≤ (its.length : Int)
    · have hM : refM pl (its.length + 0) h f t = -3 := by unfold refM; rw [if_pos hq, if_pos (by omega)]
      rw [sendM_full hq hfu]
      rw [show LE mX2_takeLetter [.ref c, IV h, IV f, IV t] = [some (.ref c), some (IV h), some (IV f), some (IV t), none, none, none] from rfl]
      refine T_aload_n dX2_takeLetter_0 rfl rfl ?_
      refine T_iload_n dX2_takeLetter_1 rfl ?_
      refine T_iload_n dX2_takeLetter_2 rfl ?_
      refine T_iload_n dX2_takeLetter_3 rfl ?_
      refine I_iconst dX2_takeLetter_4 ?_
      refine Q_callV dX2_takeLetter_5 kX2_refusal lX2_40 (by assumption) rfl (p_refusal hC hh hf ht ⟨by omega, by omega⟩) rfl rfl (Nat.le_of_ble_eq_true rfl) (Nat.le_of_ble_eq_true rfl) (by decide) (by decide) ?_
      rw [hM]
      refine T_istore dX2_takeLetter_8 (by decide) rfl ?_
      refine T_iload dX2_takeLetter_10 rfl ?_
      refine I_if_eq (tgt := 18) dX2_takeLetter_12 (by decide) ⟨by omega, by omega⟩ (fun h12 => ?_) (fun h12 => ?_)
      · omega
      · refine T_iload dX2_takeLetter_15 rfl ?_
        exact I_ireturn dX2_takeLetter_17 rfl ⟨_, _, rfl, rfl, rfl, Outs.rf, hC.mono (by omega) hN⟩
    · have hM : refM pl (its.length + 0) h f t = 0 := by unfold refM; rw [if_pos hq, if_neg (by omega)]
      rw [sendM_ok hq hfu]
      obtain ⟨hS1, hO1⟩ := hS.le (v := eLe e + 1) ⟨by omega, by omega⟩
      obtain ⟨hS2, hO2⟩ := hS1.add (at_ := h) (letter := eLe e) (fr := f) (to_ := t) (due := eCl e + 1) (by omega) ⟨by omega, by omega⟩ hh ⟨by omega, by omega⟩ hf ht ⟨by omega, by omega⟩
      have hi2 : (its ++ [row8 h (eLe e) f t 0 0 (eCl e + 1) 0])[its.length]? = some (row8 h (eLe e) f t 0 0 (eCl e + 1) 0) := by simp
      obtain ⟨hf2, kq, hq2⟩ := hS2.row hi2
      have hE1 : EnB (N + 1) (eLeS e (eLe e + 1)) := by
        obtain ⟨g1, g2, g3, g4, g5, g6, g7⟩ := hE.mono (by omega : N ≤ N + 1) (by omega)
        exact ⟨g1, ⟨by show 0 ≤ eLe e + 1; omega, by show eLe e + 1 < N + 1; omega⟩, g3, g4, g5, g6, g7⟩
      have hE2 := hE1.log (by omega) 0 (eLe e) h t
      rw [show N + 1 + 1 = N + 2 by omega] at hE2
      obtain ⟨hS3, hO3⟩ := hS2.write hE1 (deed := 0) (letter := eLe e) (at_ := h) (to_ := t) ⟨by omega, by omega⟩ ⟨by omega, by omega⟩ hh ht
      have hR1 := hS1.2.2.2.2.1
      have hR2 := hS2.2.2.2.2.1
      have gc : fI (sF S r 1 (eLe e + 1)) r 0 = eCl e := hR1.1.1
      have gu : fI (sF S r 1 (eLe e + 1)) (r + 2) 1 = its.length := hR1.2.2.1.1
      have gq : qa (sF S r 1 (eLe e + 1)) (r + 2) (fI (sF S r 1 (eLe e + 1)) (r + 2) 1) = ad its.length := by rw [gu]; exact hR1.2.2.1.qaE (by omega) (by omega)
      have w1 := hf2 1 (by omega)
      have w3 := hf2 3 (by omega)
      have gc2 := hR2.1.1
      have hb2 := hR2.2.2.2.2.1.2.2.2.1
      have hb3 := hR2.2.2.2.2.1.2.1
      have hb4 := hR2.2.2.2.2.1.2.2.1
      generalize hg2 : addS (sF S r 1 (eLe e + 1)) (r + 2) h (eLe e) f t (eCl e + 1) = S2 at hS2 hO2 hS3 hO3 hR2 hf2 w1 w3 gc2 hb2 hb3
      have gc2 : fI S2 r 0 = eCl e := gc2
      have w1 : fI S2 (ad its.length) 1 = eLe e := w1
      have w3 : fI S2 (ad its.length) 3 = t := w3
      rw [show LE mX2_takeLetter [.ref c, IV h, IV f, IV t] = [some (.ref c), some (IV h), some (IV f), some (IV t), none, none, none] from rfl]
      refine T_aload_n dX2_takeLetter_0 rfl rfl ?_
      refine T_iload_n dX2_takeLetter_1 rfl ?_
      refine T_iload_n dX2_takeLetter_2 rfl ?_
      refine T_iload_n dX2_takeLetter_3 rfl ?_
      refine I_iconst dX2_takeLetter_4 ?_
      refine Q_callV dX2_takeLetter_5 kX2_refusal lX2_40 (by assumption) rfl (p_refusal hC hh hf ht ⟨by omega, by omega⟩) rfl rfl (Nat.le_of_ble_eq_true rfl) (Nat.le_of_ble_eq_true rfl) (by decide) (by decide) ?_
      rw [hM]
      refine T_istore dX2_takeLetter_8 (by decide) rfl ?_
      refine T_iload dX2_takeLetter_10 rfl ?_
      refine I_if_eq (tgt := 18) dX2_takeLetter_12 (by decide) ⟨by omega, by omega⟩ (fun h12 => ?_) (fun h12 => ?_)
      · refine T_aload_n dX2_takeLetter_18 rfl rfl ?_
        refine P_getr dX2_takeLetter_19 fX2_15 (by assumption) rfl ?_
        refine P_geti dX2_takeLetter_22 fX2_44 (by assumption) rfl ?_
        rw [hl]
        refine T_istore dX2_takeLetter_25 (by decide) rfl ?_
        refine T_aload_n dX2_takeLetter_27 rfl rfl ?_
        refine P_getr dX2_takeLetter_28 fX2_15 (by assumption) rfl ?_
        refine T_dup dX2_takeLetter_31 rfl ?_
        refine P_geti dX2_takeLetter_32 fX2_44 (by assumption) rfl ?_
        rw [hl]
        refine I_iconst dX2_takeLetter_35 ?_
        refine I_iadd dX2_takeLetter_36 ?_
        refine P_puti dX2_takeLetter_37 fX2_44 (by assumption) rfl rfl ?_
        refine T_aload_n dX2_takeLetter_40 rfl rfl ?_
        refine P_getr dX2_takeLetter_41 fX2_15 (by assumption) rfl ?_
        refine P_getr dX2_takeLetter_44 fX2_29 (by assumption) rfl ?_
        refine T_iload_n dX2_takeLetter_47 rfl ?_
        refine T_iload dX2_takeLetter_48 rfl ?_
        refine T_iload_n dX2_takeLetter_50 rfl ?_
        refine T_iload_n dX2_takeLetter_51 rfl ?_
        refine T_aload_n dX2_takeLetter_52 rfl rfl ?_
        refine P_getr dX2_takeLetter_53 fX2_15 (by assumption) rfl ?_
        refine P_geti dX2_takeLetter_56 fX2_47 (by assumption) rfl ?_
        rw [gc]
        refine I_iconst dX2_takeLetter_59 ?_
        refine I_iadd dX2_takeLetter_60 ?_
        refine Q_callV dX2_takeLetter_61 kX4_add lX2_50 (by assumption) rfl (p_Mail_add km (hR1.2.2.1.rows hA) ⟨by omega, by omega⟩) rfl rfl (Nat.le_of_ble_eq_true rfl) (Nat.le_of_ble_eq_true rfl) (by decide) (by decide) ?_
        rw [hg2, gq]
        refine T_astore dX2_takeLetter_64 (by decide) rfl ?_
        refine T_aload_n dX2_takeLetter_66 rfl rfl ?_
        refine P_getr dX2_takeLetter_67 fX2_15 (by assumption) rfl ?_
        refine P_getr dX2_takeLetter_70 fX2_54 (by assumption) rfl ?_
        refine I_iconst dX2_takeLetter_73 ?_
        refine T_aload_n dX2_takeLetter_74 rfl rfl ?_
        refine P_getr dX2_takeLetter_75 fX2_15 (by assumption) rfl ?_
        refine P_geti dX2_takeLetter_78 fX2_47 (by assumption) rfl ?_
        rw [gc2]
        refine T_aload dX2_takeLetter_81 rfl rfl ?_
        refine T_iload_n dX2_takeLetter_83 rfl ?_
        refine Q_callV dX2_takeLetter_84 kX0_write lX2_58 (by assumption) rfl (p_Book_write kk kq ⟨by omega, by omega⟩ hb2 ⟨by omega, by omega⟩) rfl rfl (Nat.le_of_ble_eq_true rfl) (Nat.le_of_ble_eq_true rfl) (by decide) (by decide) ?_
        rw [w1, w3]
        refine T_iload dX2_takeLetter_87 rfl ?_
        exact I_ireturn dX2_takeLetter_89 rfl ⟨_, _, rfl, rfl, rfl, (hO1.tr hO2).tr hO3, ⟨ad, by
          rw [show (((its ++ [row8 h (eLe e) f t 0 0 (eCl e + 1) 0]).length : Nat) : Int) = its.length + 1 by simp]
          exact hS3⟩, hE2, fun x hx => by
          rcases List.mem_append.mp hx with z | z
          · exact (hok x z).mono (by omega)
          · rw [List.mem_singleton.mp z]
            obtain ⟨q1, q2, q3⟩ := hq
            exact ⟨⟨q1, ⟨hle.1, by show eLe e < N + 2; omega⟩, Or.inr q2, q3, ⟨by show (0 : Int) ≤ 0; omega, by show (0 : Int) ≤ 5; omega⟩, ⟨by show (0 : Int) ≤ 0; omega, by show (0 : Int) ≤ 8; omega⟩, ⟨by show 0 ≤ eCl e + 1; omega, by show eCl e + 1 < N + 2; omega⟩, (by decide : R32 0)⟩, by show (0 : Int) ≤ 4; omega⟩, by show (its ++ [row8 h (eLe e) f t 0 0 (eCl e + 1) 0]).length ≤ 60; simp; omega⟩
      · omega
  · have hM : refM pl (its.length + 0) h f t = -1 := if_neg hq
    rw [sendM_bad hq]
    rw [show LE mX2_takeLetter [.ref c, IV h, IV f, IV t] = [some (.ref c), some (IV h), some (IV f), some (IV t), none, none, none] from rfl]
    refine T_aload_n dX2_takeLetter_0 rfl rfl ?_
    refine T_iload_n dX2_takeLetter_1 rfl ?_
    refine T_iload_n dX2_takeLetter_2 rfl ?_
    refine T_iload_n dX2_takeLetter_3 rfl ?_
    refine I_iconst dX2_takeLetter_4 ?_
    refine Q_callV dX2_takeLetter_5 kX2_refusal lX2_40 (by assumption) rfl (p_refusal hC hh hf ht ⟨by omega, by omega⟩) rfl rfl (Nat.le_of_ble_eq_true rfl) (Nat.le_of_ble_eq_true rfl) (by decide) (by decide) ?_
    rw [hM]
    refine T_istore dX2_takeLetter_8 (by decide) rfl ?_
    refine T_iload dX2_takeLetter_10 rfl ?_
    refine I_if_eq (tgt := 18) dX2_takeLetter_12 (by decide) ⟨by omega, by omega⟩ (fun h12 => ?_) (fun h12 => ?_)
    · omega
    · refine T_iload dX2_takeLetter_15 rfl ?_
      exact I_ireturn dX2_takeLetter_17 rfl ⟨_, _, rfl, rfl, rfl, Outs.rf, hC.mono (by omega) hN⟩
end Take
