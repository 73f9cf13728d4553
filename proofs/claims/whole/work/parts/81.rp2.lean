/-! the reference reads a text: words, numbers, addresses -/
def isP (tp : Int → Int) (n : Int) (t : TK) (l f a b c : Int) : Prop := t.1 = 1 ∧ t.2.2.1 - t.2.1 = l ∧ bAt tp n (t.2.1 + f) = a ∧ bAt tp n (t.2.1 + f + 1) = b ∧ bAt tp n (t.2.1 + f + 2) = c
def Pq (S0 S : SV) : Prop := ∀ a, a ≠ 453 → a ≠ 455 → Same S0 S a (a + 1)
theorem Pq.tr {S0 S S1 : SV} (h : Pq S0 S) (h2 : Pq S S1) : Pq S0 S1 := fun a x y => (h a x y).tr (h2 a x y)
theorem Fq.pq {S S' : SV} (h : Fq S S') : Pq S S' := fun a x _ => h.2.1 a x
def HiR (S : SV) (pl : PL) : Prop := ((∀ d i, 0 ≤ d → d < 4 → 0 ≤ i → i < pRc pl d → pRh pl d i ≤ fI S 453 13) ∧ (fI S 453 13 = -1 ∨ ∃ d i, 0 ≤ d ∧ d < 4 ∧ 0 ≤ i ∧ i < pRc pl d ∧ pRh pl d i = fI S 453 13)) ∧ (∀ a, 0 ≤ a → a < 32 → pKd pl a ≠ 0 → a / 8 ≤ fI S 453 14) ∧ (fI S 453 14 = -1 ∨ ∃ a, 0 ≤ a ∧ a < 32 ∧ pKd pl a ≠ 0 ∧ a / 8 = fI S 453 14)
def GS (S0 S : SV) (tp : Int → Int) (n : Int) (pl : PL) : Prop := AllR S ∧ tpOk S tp n ∧ PlC (aI S 455) pl ∧ DrB pl ∧ HiR S pl ∧ fI S 453 11 = 0 ∧ Pq S0 S
def BS (S0 S : SV) (e : ER) : Prop := AllR S ∧ Pq S0 S ∧ fI S 453 11 = e.1 ∧ fI S 453 12 = e.2 ∧ 0 < e.1
theorem HiR.c {S S' : SV} {pl : PL} (h : HiR S pl) (h13 : fI S' 453 13 = fI S 453 13) (h14 : fI S' 453 14 = fI S 453 14) : HiR S' pl := by
  unfold HiR
  rw [h13, h14]
  exact h
theorem GS.fq {S0 S S' : SV} {tp : Int → Int} {n : Int} {pl : PL} (h : GS S0 S tp n pl) (hF : Fq S S') (h11 : fI S' 453 11 = 0) : GS S0 S' tp n pl := by
  obtain ⟨g1, g2, g3, g4, g5, g6, g7⟩ := h
  have e : aI S' 455 = aI S 455 := funext (fun i => hF.a (by omega) i)
  exact ⟨hF.1, g2.fq hF, by rw [e]; exact g3, g4, g5.c (hF.2.2 13 (by omega)) (hF.2.2 14 (by omega)), h11, g7.tr hF.pq⟩
theorem GS.bs {S0 S S' : SV} {tp : Int → Int} {n : Int} {pl : PL} {e : ER} (h : GS S0 S tp n pl) (hF : Fq S S') (h11 : fI S' 453 11 = e.1) (h12 : fI S' 453 12 = e.2) (h0 : 0 < e.1) : BS S0 S' e := ⟨hF.1, h.2.2.2.2.2.2.tr hF.pq, h11, h12, h0⟩
theorem b2p_R (p : Prop) : R32 (b2p p) := by rcases b2p_01 p with z | z <;> rw [z] <;> decide
theorem b2p_of {p : Prop} (h : ¬ b2p p = 0) : p := Classical.byContradiction (fun z => h (b2p_f z))
section RPB
variable {G : GT} {K : List SH} {tp : Int → Int} {n : Int} {S S0 : SV} {t : TK} {pl : PL}
theorem p_is {l f a b c : Int} (hM : MoAt K) (hr : AllR S) (hT : tpOk S tp n) (hk : TkS S t) (hb : TkB n t) (hl : R32 l) (hf : 0 ≤ f ∧ f ≤ 10) (ra : R32 a) (rb : R32 b) (rc : R32 c) : P G 1 0 0 mX11_is 0 (LE mX11_is [.ref 453, IV l, IV f, IV a, IV b, IV c]) [] K S (Ret K (some (IV (b2p (isP tp n t l f a b c)))) S) := by
  have m0 := hM.1
  obtain ⟨k9, k8, k7, -⟩ := hk
  have hb1 := hb.1
  have hn := hT.2.1
  have q0 := bAt_b hT (p := t.2.1 + f) (by omega)
  have q1 := bAt_b hT (p := t.2.1 + f + 1) (by omega)
  have q2 := bAt_b hT (p := t.2.1 + f + 2) (by omega)
  have rt : R32 t.1 := by rw [← k9]; exact hr.1 _ _
  by_cases hq : isP tp n t l f a b c
  · rw [b2p_t hq]
    obtain ⟨h1, h2, h3, h4, h5⟩ := hq
    rw [show LE mX11_is [.ref 453, IV l, IV f, IV a, IV b, IV c] = [some (.ref 453), some (IV l), some (IV f), some (IV a), some (IV b), some (IV c)] from rfl]
    refine T_aload_n dX11_is_0 rfl rfl ?_
    refine P_geti dX11_is_1 fX11_69 (by assumption) rfl ?_
    rw [k9]
    refine I_iconst dX11_is_4 ?_
    refine I_icmp_ne (tgt := 73) dX11_is_5 (by decide) rt ⟨by omega, by omega⟩ (fun h5_ => ?_) (fun h5_ => ?_)
    · exact absurd h1 h5_
    · refine T_aload_n dX11_is_8 rfl rfl ?_
      refine P_geti dX11_is_9 fX11_72 (by assumption) rfl ?_
      rw [k7]
      refine T_aload_n dX11_is_12 rfl rfl ?_
      refine P_geti dX11_is_13 fX11_63 (by assumption) rfl ?_
      rw [k8]
      refine I_isub dX11_is_16 ?_
      refine T_iload_n dX11_is_17 rfl ?_
      refine I_icmp_ne (tgt := 73) dX11_is_18 (by decide) ⟨by omega, by omega⟩ hl (fun h18 => ?_) (fun h18 => ?_)
      · exact absurd h2 h18
      · refine T_aload_n dX11_is_21 rfl rfl ?_
        refine T_aload_n dX11_is_22 rfl rfl ?_
        refine P_geti dX11_is_23 fX11_63 (by assumption) rfl ?_
        rw [k8]
        refine T_iload_n dX11_is_26 rfl ?_
        refine I_iadd dX11_is_27 ?_
        refine Q_callV dX11_is_28 kX11_byteAt lX11_75 (by assumption) rfl (p_byteAt hM hT ⟨by omega, by omega⟩) rfl rfl (Nat.le_of_ble_eq_true rfl) (Nat.le_of_ble_eq_true rfl) (by decide) (by decide) ?_
        refine T_iload_n dX11_is_31 rfl ?_
        refine I_icmp_ne (tgt := 73) dX11_is_32 (by decide) ⟨by omega, by omega⟩ ra (fun h32 => ?_) (fun h32 => ?_)
        · exact absurd h3 h32
        · refine T_aload_n dX11_is_35 rfl rfl ?_
          refine T_aload_n dX11_is_36 rfl rfl ?_
          refine P_geti dX11_is_37 fX11_63 (by assumption) rfl ?_
          rw [k8]
          refine T_iload_n dX11_is_40 rfl ?_
          refine I_iadd dX11_is_41 ?_
          refine I_iconst dX11_is_42 ?_
          refine I_iadd dX11_is_43 ?_
          refine Q_callV dX11_is_44 kX11_byteAt lX11_75 (by assumption) rfl (p_byteAt hM hT ⟨by omega, by omega⟩) rfl rfl (Nat.le_of_ble_eq_true rfl) (Nat.le_of_ble_eq_true rfl) (by decide) (by decide) ?_
          refine T_iload dX11_is_47 rfl ?_
          refine I_icmp_ne (tgt := 73) dX11_is_49 (by decide) ⟨by omega, by omega⟩ rb (fun h49 => ?_) (fun h49 => ?_)
          · exact absurd h4 h49
          · refine T_aload_n dX11_is_52 rfl rfl ?_
            refine T_aload_n dX11_is_53 rfl rfl ?_
            refine P_geti dX11_is_54 fX11_63 (by assumption) rfl ?_
            rw [k8]
            refine T_iload_n dX11_is_57 rfl ?_
            refine I_iadd dX11_is_58 ?_
            refine I_iconst dX11_is_59 ?_
            refine I_iadd dX11_is_60 ?_
            refine Q_callV dX11_is_61 kX11_byteAt lX11_75 (by assumption) rfl (p_byteAt hM hT ⟨by omega, by omega⟩) rfl rfl (Nat.le_of_ble_eq_true rfl) (Nat.le_of_ble_eq_true rfl) (by decide) (by decide) ?_
            refine T_iload dX11_is_64 rfl ?_
            refine I_icmp_ne (tgt := 73) dX11_is_66 (by decide) ⟨by omega, by omega⟩ rc (fun h66 => ?_) (fun h66 => ?_)
            · exact absurd h5 h66
            · refine I_iconst dX11_is_69 ?_
              refine T_goto (tgt := 74) dX11_is_70 (by decide) ?_
              exact I_zreturn dX11_is_74 rfl (by decide) ⟨_, _, rfl, rfl, rfl, rfl⟩
  · rw [b2p_f hq]
    rw [show LE mX11_is [.ref 453, IV l, IV f, IV a, IV b, IV c] = [some (.ref 453), some (IV l), some (IV f), some (IV a), some (IV b), some (IV c)] from rfl]
    refine T_aload_n dX11_is_0 rfl rfl ?_
    refine P_geti dX11_is_1 fX11_69 (by assumption) rfl ?_
    rw [k9]
    refine I_iconst dX11_is_4 ?_
    refine I_icmp_ne (tgt := 73) dX11_is_5 (by decide) rt ⟨by omega, by omega⟩ (fun h5 => ?_) (fun h5 => ?_)
    · refine I_iconst dX11_is_73 ?_
      exact I_zreturn dX11_is_74 rfl (by decide) ⟨_, _, rfl, rfl, rfl, rfl⟩
    · refine T_aload_n dX11_is_8 rfl rfl ?_
      refine P_geti dX11_is_9 fX11_72 (by assumption) rfl ?_
      rw [k7]
      refine T_aload_n dX11_is_12 rfl rfl ?_
      refine P_geti dX11_is_13 fX11_63 (by assumption) rfl ?_
      rw [k8]
      refine I_isub dX11_is_16 ?_
      refine T_iload_n dX11_is_17 rfl ?_
      refine I_icmp_ne (tgt := 73) dX11_is_18 (by decide) ⟨by omega, by omega⟩ hl (fun h18 => ?_) (fun h18 => ?_)
      · refine I_iconst dX11_is_73 ?_
        exact I_zreturn dX11_is_74 rfl (by decide) ⟨_, _, rfl, rfl, rfl, rfl⟩
      · refine T_aload_n dX11_is_21 rfl rfl ?_
        refine T_aload_n dX11_is_22 rfl rfl ?_
        refine P_geti dX11_is_23 fX11_63 (by assumption) rfl ?_
        rw [k8]
        refine T_iload_n dX11_is_26 rfl ?_
        refine I_iadd dX11_is_27 ?_
        refine Q_callV dX11_is_28 kX11_byteAt lX11_75 (by assumption) rfl (p_byteAt hM hT ⟨by omega, by omega⟩) rfl rfl (Nat.le_of_ble_eq_true rfl) (Nat.le_of_ble_eq_true rfl) (by decide) (by decide) ?_
        refine T_iload_n dX11_is_31 rfl ?_
        refine I_icmp_ne (tgt := 73) dX11_is_32 (by decide) ⟨by omega, by omega⟩ ra (fun h32 => ?_) (fun h32 => ?_)
        · refine I_iconst dX11_is_73 ?_
          exact I_zreturn dX11_is_74 rfl (by decide) ⟨_, _, rfl, rfl, rfl, rfl⟩
        · refine T_aload_n dX11_is_35 rfl rfl ?_
          refine T_aload_n dX11_is_36 rfl rfl ?_
          refine P_geti dX11_is_37 fX11_63 (by assumption) rfl ?_
          rw [k8]
          refine T_iload_n dX11_is_40 rfl ?_
          refine I_iadd dX11_is_41 ?_
          refine I_iconst dX11_is_42 ?_
          refine I_iadd dX11_is_43 ?_
          refine Q_callV dX11_is_44 kX11_byteAt lX11_75 (by assumption) rfl (p_byteAt hM hT ⟨by omega, by omega⟩) rfl rfl (Nat.le_of_ble_eq_true rfl) (Nat.le_of_ble_eq_true rfl) (by decide) (by decide) ?_
          refine T_iload dX11_is_47 rfl ?_
          refine I_icmp_ne (tgt := 73) dX11_is_49 (by decide) ⟨by omega, by omega⟩ rb (fun h49 => ?_) (fun h49 => ?_)
          · refine I_iconst dX11_is_73 ?_
            exact I_zreturn dX11_is_74 rfl (by decide) ⟨_, _, rfl, rfl, rfl, rfl⟩
          · refine T_aload_n dX11_is_52 rfl rfl ?_
            refine T_aload_n dX11_is_53 rfl rfl ?_
            refine P_geti dX11_is_54 fX11_63 (by assumption) rfl ?_
            rw [k8]
            refine T_iload_n dX11_is_57 rfl ?_
            refine I_iadd dX11_is_58 ?_
            refine I_iconst dX11_is_59 ?_
            refine I_iadd dX11_is_60 ?_
            refine Q_callV dX11_is_61 kX11_byteAt lX11_75 (by assumption) rfl (p_byteAt hM hT ⟨by omega, by omega⟩) rfl rfl (Nat.le_of_ble_eq_true rfl) (Nat.le_of_ble_eq_true rfl) (by decide) (by decide) ?_
            refine T_iload dX11_is_64 rfl ?_
            refine I_icmp_ne (tgt := 73) dX11_is_66 (by decide) ⟨by omega, by omega⟩ rc (fun h66 => ?_) (fun h66 => ?_)
            · refine I_iconst dX11_is_73 ?_
              exact I_zreturn dX11_is_74 rfl (by decide) ⟨_, _, rfl, rfl, rfl, rfl⟩
            · exact absurd ⟨h5, h18, h32, h49, h66⟩ hq
theorem word_0 (hT : tpOk S tp n) (hb : TkB n t) : wordM tp t 0 ↔ isP tp n t 5 0 104 111 117 ∧ isP tp n t 5 2 117 115 101 := by
  have hb1 := hb.1
  have bt : ∀ z : Int, 0 ≤ z → t.2.1 + z < t.2.2.1 → bAt tp n (t.2.1 + z) = tp (t.2.1 + z) := fun z u v => ((bAt_b hT (p := t.2.1 + z) (by omega)).2.2.1 (by omega)).2
  constructor
  · intro ⟨h1, h2, h3⟩
    have h2 : t.2.2.1 - t.2.1 = 5 := h2
    have c0 : tp (t.2.1 + 0) = 104 := h3 0 (by omega) (by show (0 : Int) < 5; omega)
    have c1 : tp (t.2.1 + 1) = 111 := h3 1 (by omega) (by show (1 : Int) < 5; omega)
    have c2 : tp (t.2.1 + 2) = 117 := h3 2 (by omega) (by show (2 : Int) < 5; omega)
    have c3 : tp (t.2.1 + 3) = 115 := h3 3 (by omega) (by show (3 : Int) < 5; omega)
    have c4 : tp (t.2.1 + 4) = 101 := h3 4 (by omega) (by show (4 : Int) < 5; omega)
    exact ⟨⟨h1, h2, by rw [bt 0 (by omega) (by omega)]; exact c0, by rw [show t.2.1 + 0 + 1 = t.2.1 + 1 by omega, bt 1 (by omega) (by omega)]; exact c1, by rw [show t.2.1 + 0 + 2 = t.2.1 + 2 by omega, bt 2 (by omega) (by omega)]; exact c2⟩, ⟨h1, h2, by rw [bt 2 (by omega) (by omega)]; exact c2, by rw [show t.2.1 + 2 + 1 = t.2.1 + 3 by omega, bt 3 (by omega) (by omega)]; exact c3, by rw [show t.2.1 + 2 + 2 = t.2.1 + 4 by omega, bt 4 (by omega) (by omega)]; exact c4⟩⟩
  · intro ⟨⟨h1, h2, g0, g1, g2⟩, ⟨_, _, k0, k1, k2⟩⟩
    have c0 : tp (t.2.1 + 0) = 104 := by rw [← bt 0 (by omega) (by omega)]; exact g0
    have c1 : tp (t.2.1 + 1) = 111 := by rw [← bt 1 (by omega) (by omega), show t.2.1 + 1 = t.2.1 + 0 + 1 by omega]; exact g1
    have c2 : tp (t.2.1 + 2) = 117 := by rw [← bt 2 (by omega) (by omega), show t.2.1 + 2 = t.2.1 + 0 + 2 by omega]; exact g2
    have c3 : tp (t.2.1 + 3) = 115 := by rw [← bt 3 (by omega) (by omega), show t.2.1 + 3 = t.2.1 + 2 + 1 by omega]; exact k1
    have c4 : tp (t.2.1 + 4) = 101 := by rw [← bt 4 (by omega) (by omega), show t.2.1 + 4 = t.2.1 + 2 + 2 by omega]; exact k2
    refine ⟨h1, h2, fun z u v => ?_⟩
    have v : z < 5 := v
    rcases (show z = 0 ∨ z = 1 ∨ z = 2 ∨ z = 3 ∨ z = 4 by omega) with rfl | rfl | rfl | rfl | rfl
    · exact c0
    · exact c1
    · exact c2
    · exact c3
    · exact c4
theorem word_1 (hT : tpOk S tp n) (hb : TkB n t) : wordM tp t 1 ↔ isP tp n t 6 0 100 111 109 ∧ isP tp n t 6 3 97 105 110 := by
  have hb1 := hb.1
  have bt : ∀ z : Int, 0 ≤ z → t.2.1 + z < t.2.2.1 → bAt tp n (t.2.1 + z) = tp (t.2.1 + z) := fun z u v => ((bAt_b hT (p := t.2.1 + z) (by omega)).2.2.1 (by omega)).2
  constructor
  · intro ⟨h1, h2, h3⟩
    have h2 : t.2.2.1 - t.2.1 = 6 := h2
    have c0 : tp (t.2.1 + 0) = 100 := h3 0 (by omega) (by show (0 : Int) < 6; omega)
    have c1 : tp (t.2.1 + 1) = 111 := h3 1 (by omega) (by show (1 : Int) < 6; omega)
    have c2 : tp (t.2.1 + 2) = 109 := h3 2 (by omega) (by show (2 : Int) < 6; omega)
    have c3 : tp (t.2.1 + 3) = 97 := h3 3 (by omega) (by show (3 : Int) < 6; omega)
    have c4 : tp (t.2.1 + 4) = 105 := h3 4 (by omega) (by show (4 : Int) < 6; omega)
    have c5 : tp (t.2.1 + 5) = 110 := h3 5 (by omega) (by show (5 : Int) < 6; omega)
    exact ⟨⟨h1, h2, by rw [bt 0 (by omega) (by omega)]; exact c0, by rw [show t.2.1 + 0 + 1 = t.2.1 + 1 by omega, bt 1 (by omega) (by omega)]; exact c1, by rw [show t.2.1 + 0 + 2 = t.2.1 + 2 by omega, bt 2 (by omega) (by omega)]; exact c2⟩, ⟨h1, h2, by rw [bt 3 (by omega) (by omega)]; exact c3, by rw [show t.2.1 + 3 + 1 = t.2.1 + 4 by omega, bt 4 (by omega) (by omega)]; exact c4, by rw [show t.2.1 + 3 + 2 = t.2.1 + 5 by omega, bt 5 (by omega) (by omega)]; exact c5⟩⟩
  · intro ⟨⟨h1, h2, g0, g1, g2⟩, ⟨_, _, k0, k1, k2⟩⟩
    have c0 : tp (t.2.1 + 0) = 100 := by rw [← bt 0 (by omega) (by omega)]; exact g0
    have c1 : tp (t.2.1 + 1) = 111 := by rw [← bt 1 (by omega) (by omega), show t.2.1 + 1 = t.2.1 + 0 + 1 by omega]; exact g1
    have c2 : tp (t.2.1 + 2) = 109 := by rw [← bt 2 (by omega) (by omega), show t.2.1 + 2 = t.2.1 + 0 + 2 by omega]; exact g2
    have c3 : tp (t.2.1 + 3) = 97 := by rw [← bt 3 (by omega) (by omega)]; exact k0
    have c4 : tp (t.2.1 + 4) = 105 := by rw [← bt 4 (by omega) (by omega), show t.2.1 + 4 = t.2.1 + 3 + 1 by omega]; exact k1
    have c5 : tp (t.2.1 + 5) = 110 := by rw [← bt 5 (by omega) (by omega), show t.2.1 + 5 = t.2.1 + 3 + 2 by omega]; exact k2
    refine ⟨h1, h2, fun z u v => ?_⟩
    have v : z < 6 := v
    rcases (show z = 0 ∨ z = 1 ∨ z = 2 ∨ z = 3 ∨ z = 4 ∨ z = 5 by omega) with rfl | rfl | rfl | rfl | rfl | rfl
    · exact c0
    · exact c1
    · exact c2
    · exact c3
    · exact c4
    · exact c5
theorem word_2 (hT : tpOk S tp n) (hb : TkB n t) : wordM tp t 2 ↔ isP tp n t 3 0 98 111 120 := by
  have hb1 := hb.1
  have bt : ∀ z : Int, 0 ≤ z → t.2.1 + z < t.2.2.1 → bAt tp n (t.2.1 + z) = tp (t.2.1 + z) := fun z u v => ((bAt_b hT (p := t.2.1 + z) (by omega)).2.2.1 (by omega)).2
  constructor
  · intro ⟨h1, h2, h3⟩
    have h2 : t.2.2.1 - t.2.1 = 3 := h2
    have c0 : tp (t.2.1 + 0) = 98 := h3 0 (by omega) (by show (0 : Int) < 3; omega)
    have c1 : tp (t.2.1 + 1) = 111 := h3 1 (by omega) (by show (1 : Int) < 3; omega)
    have c2 : tp (t.2.1 + 2) = 120 := h3 2 (by omega) (by show (2 : Int) < 3; omega)
    exact ⟨h1, h2, by rw [bt 0 (by omega) (by omega)]; exact c0, by rw [show t.2.1 + 0 + 1 = t.2.1 + 1 by omega, bt 1 (by omega) (by omega)]; exact c1, by rw [show t.2.1 + 0 + 2 = t.2.1 + 2 by omega, bt 2 (by omega) (by omega)]; exact c2⟩
  · intro ⟨h1, h2, g0, g1, g2⟩
    have c0 : tp (t.2.1 + 0) = 98 := by rw [← bt 0 (by omega) (by omega)]; exact g0
    have c1 : tp (t.2.1 + 1) = 111 := by rw [← bt 1 (by omega) (by omega), show t.2.1 + 1 = t.2.1 + 0 + 1 by omega]; exact g1
    have c2 : tp (t.2.1 + 2) = 120 := by rw [← bt 2 (by omega) (by omega), show t.2.1 + 2 = t.2.1 + 0 + 2 by omega]; exact g2
    refine ⟨h1, h2, fun z u v => ?_⟩
    have v : z < 3 := v
    rcases (show z = 0 ∨ z = 1 ∨ z = 2 by omega) with rfl | rfl | rfl
    · exact c0
    · exact c1
    · exact c2
theorem word_3 (hT : tpOk S tp n) (hb : TkB n t) : wordM tp t 3 ↔ isP tp n t 5 0 97 108 105 ∧ isP tp n t 5 2 105 97 115 := by
  have hb1 := hb.1
  have bt : ∀ z : Int, 0 ≤ z → t.2.1 + z < t.2.2.1 → bAt tp n (t.2.1 + z) = tp (t.2.1 + z) := fun z u v => ((bAt_b hT (p := t.2.1 + z) (by omega)).2.2.1 (by omega)).2
  constructor
  · intro ⟨h1, h2, h3⟩
    have h2 : t.2.2.1 - t.2.1 = 5 := h2
    have c0 : tp (t.2.1 + 0) = 97 := h3 0 (by omega) (by show (0 : Int) < 5; omega)
    have c1 : tp (t.2.1 + 1) = 108 := h3 1 (by omega) (by show (1 : Int) < 5; omega)
    have c2 : tp (t.2.1 + 2) = 105 := h3 2 (by omega) (by show (2 : Int) < 5; omega)
    have c3 : tp (t.2.1 + 3) = 97 := h3 3 (by omega) (by show (3 : Int) < 5; omega)
    have c4 : tp (t.2.1 + 4) = 115 := h3 4 (by omega) (by show (4 : Int) < 5; omega)
    exact ⟨⟨h1, h2, by rw [bt 0 (by omega) (by omega)]; exact c0, by rw [show t.2.1 + 0 + 1 = t.2.1 + 1 by omega, bt 1 (by omega) (by omega)]; exact c1, by rw [show t.2.1 + 0 + 2 = t.2.1 + 2 by omega, bt 2 (by omega) (by omega)]; exact c2⟩, ⟨h1, h2, by rw [bt 2 (by omega) (by omega)]; exact c2, by rw [show t.2.1 + 2 + 1 = t.2.1 + 3 by omega, bt 3 (by omega) (by omega)]; exact c3, by rw [show t.2.1 + 2 + 2 = t.2.1 + 4 by omega, bt 4 (by omega) (by omega)]; exact c4⟩⟩
  · intro ⟨⟨h1, h2, g0, g1, g2⟩, ⟨_, _, k0, k1, k2⟩⟩
    have c0 : tp (t.2.1 + 0) = 97 := by rw [← bt 0 (by omega) (by omega)]; exact g0
    have c1 : tp (t.2.1 + 1) = 108 := by rw [← bt 1 (by omega) (by omega), show t.2.1 + 1 = t.2.1 + 0 + 1 by omega]; exact g1
    have c2 : tp (t.2.1 + 2) = 105 := by rw [← bt 2 (by omega) (by omega), show t.2.1 + 2 = t.2.1 + 0 + 2 by omega]; exact g2
    have c3 : tp (t.2.1 + 3) = 97 := by rw [← bt 3 (by omega) (by omega), show t.2.1 + 3 = t.2.1 + 2 + 1 by omega]; exact k1
    have c4 : tp (t.2.1 + 4) = 115 := by rw [← bt 4 (by omega) (by omega), show t.2.1 + 4 = t.2.1 + 2 + 2 by omega]; exact k2
    refine ⟨h1, h2, fun z u v => ?_⟩
    have v : z < 5 := v
    rcases (show z = 0 ∨ z = 1 ∨ z = 2 ∨ z = 3 ∨ z = 4 by omega) with rfl | rfl | rfl | rfl | rfl
    · exact c0
    · exact c1
    · exact c2
    · exact c3
    · exact c4
theorem word_4 (hT : tpOk S tp n) (hb : TkB n t) : wordM tp t 4 ↔ isP tp n t 4 0 108 105 115 ∧ isP tp n t 4 1 105 115 116 := by
  have hb1 := hb.1
  have bt : ∀ z : Int, 0 ≤ z → t.2.1 + z < t.2.2.1 → bAt tp n (t.2.1 + z) = tp (t.2.1 + z) := fun z u v => ((bAt_b hT (p := t.2.1 + z) (by omega)).2.2.1 (by omega)).2
  constructor
  · intro ⟨h1, h2, h3⟩
    have h2 : t.2.2.1 - t.2.1 = 4 := h2
    have c0 : tp (t.2.1 + 0) = 108 := h3 0 (by omega) (by show (0 : Int) < 4; omega)
    have c1 : tp (t.2.1 + 1) = 105 := h3 1 (by omega) (by show (1 : Int) < 4; omega)
    have c2 : tp (t.2.1 + 2) = 115 := h3 2 (by omega) (by show (2 : Int) < 4; omega)
    have c3 : tp (t.2.1 + 3) = 116 := h3 3 (by omega) (by show (3 : Int) < 4; omega)
    exact ⟨⟨h1, h2, by rw [bt 0 (by omega) (by omega)]; exact c0, by rw [show t.2.1 + 0 + 1 = t.2.1 + 1 by omega, bt 1 (by omega) (by omega)]; exact c1, by rw [show t.2.1 + 0 + 2 = t.2.1 + 2 by omega, bt 2 (by omega) (by omega)]; exact c2⟩, ⟨h1, h2, by rw [bt 1 (by omega) (by omega)]; exact c1, by rw [show t.2.1 + 1 + 1 = t.2.1 + 2 by omega, bt 2 (by omega) (by omega)]; exact c2, by rw [show t.2.1 + 1 + 2 = t.2.1 + 3 by omega, bt 3 (by omega) (by omega)]; exact c3⟩⟩
  · intro ⟨⟨h1, h2, g0, g1, g2⟩, ⟨_, _, k0, k1, k2⟩⟩
    have c0 : tp (t.2.1 + 0) = 108 := by rw [← bt 0 (by omega) (by omega)]; exact g0
    have c1 : tp (t.2.1 + 1) = 105 := by rw [← bt 1 (by omega) (by omega), show t.2.1 + 1 = t.2.1 + 0 + 1 by omega]; exact g1
    have c2 : tp (t.2.1 + 2) = 115 := by rw [← bt 2 (by omega) (by omega), show t.2.1 + 2 = t.2.1 + 0 + 2 by omega]; exact g2
    have c3 : tp (t.2.1 + 3) = 116 := by rw [← bt 3 (by omega) (by omega), show t.2.1 + 3 = t.2.1 + 1 + 2 by omega]; exact k2
    refine ⟨h1, h2, fun z u v => ?_⟩
    have v : z < 4 := v
    rcases (show z = 0 ∨ z = 1 ∨ z = 2 ∨ z = 3 by omega) with rfl | rfl | rfl | rfl
    · exact c0
    · exact c1
    · exact c2
    · exact c3
theorem word_5 (hT : tpOk S tp n) (hb : TkB n t) : wordM tp t 5 ↔ isP tp n t 4 0 119 97 114 ∧ isP tp n t 4 1 97 114 121 := by
  have hb1 := hb.1
  have bt : ∀ z : Int, 0 ≤ z → t.2.1 + z < t.2.2.1 → bAt tp n (t.2.1 + z) = tp (t.2.1 + z) := fun z u v => ((bAt_b hT (p := t.2.1 + z) (by omega)).2.2.1 (by omega)).2
  constructor
  · intro ⟨h1, h2, h3⟩
    have h2 : t.2.2.1 - t.2.1 = 4 := h2
    have c0 : tp (t.2.1 + 0) = 119 := h3 0 (by omega) (by show (0 : Int) < 4; omega)
    have c1 : tp (t.2.1 + 1) = 97 := h3 1 (by omega) (by show (1 : Int) < 4; omega)
    have c2 : tp (t.2.1 + 2) = 114 := h3 2 (by omega) (by show (2 : Int) < 4; omega)
    have c3 : tp (t.2.1 + 3) = 121 := h3 3 (by omega) (by show (3 : Int) < 4; omega)
    exact ⟨⟨h1, h2, by rw [bt 0 (by omega) (by omega)]; exact c0, by rw [show t.2.1 + 0 + 1 = t.2.1 + 1 by omega, bt 1 (by omega) (by omega)]; exact c1, by rw [show t.2.1 + 0 + 2 = t.2.1 + 2 by omega, bt 2 (by omega) (by omega)]; exact c2⟩, ⟨h1, h2, by rw [bt 1 (by omega) (by omega)]; exact c1, by rw [show t.2.1 + 1 + 1 = t.2.1 + 2 by omega, bt 2 (by omega) (by omega)]; exact c2, by rw [show t.2.1 + 1 + 2 = t.2.1 + 3 by omega, bt 3 (by omega) (by omega)]; exact c3⟩⟩
  · intro ⟨⟨h1, h2, g0, g1, g2⟩, ⟨_, _, k0, k1, k2⟩⟩
    have c0 : tp (t.2.1 + 0) = 119 := by rw [← bt 0 (by omega) (by omega)]; exact g0
    have c1 : tp (t.2.1 + 1) = 97 := by rw [← bt 1 (by omega) (by omega), show t.2.1 + 1 = t.2.1 + 0 + 1 by omega]; exact g1
    have c2 : tp (t.2.1 + 2) = 114 := by rw [← bt 2 (by omega) (by omega), show t.2.1 + 2 = t.2.1 + 0 + 2 by omega]; exact g2
    have c3 : tp (t.2.1 + 3) = 121 := by rw [← bt 3 (by omega) (by omega), show t.2.1 + 3 = t.2.1 + 1 + 2 by omega]; exact k2
    refine ⟨h1, h2, fun z u v => ?_⟩
    have v : z < 4 := v
    rcases (show z = 0 ∨ z = 1 ∨ z = 2 ∨ z = 3 by omega) with rfl | rfl | rfl | rfl
    · exact c0
    · exact c1
    · exact c2
    · exact c3
noncomputable def lnM (tp : Int → Int) (t : TK) : Int := @ite _ (wordM tp t 0) (Classical.propDecidable _) 0 (@ite _ (wordM tp t 1) (Classical.propDecidable _) 1 (@ite _ (wordM tp t 2) (Classical.propDecidable _) 2 (@ite _ (wordM tp t 3) (Classical.propDecidable _) 3 (@ite _ (wordM tp t 4) (Classical.propDecidable _) 4 (-4)))))
theorem p_lineNow (hM : MoAt K) (hr : AllR S) (hT : tpOk S tp n) (hk : TkS S t) (hb : TkB n t) : P G 2 0 0 mX11_lineNow 0 (LE mX11_lineNow [.ref 453]) [] K S (Ret K (some (IV (lnM tp t))) S) := by
  have m0 := hM.1
  by_cases w0 : wordM tp t 0
  · have hv : lnM tp t = 0 := by unfold lnM; rw [if_pos w0]
    rw [hv]
    rw [show LE mX11_lineNow [.ref 453] = [some (.ref 453)] from rfl]
    refine T_aload_n dX11_lineNow_0 rfl rfl ?_
    refine I_iconst dX11_lineNow_1 ?_
    refine I_iconst dX11_lineNow_2 ?_
    refine I_bipush dX11_lineNow_3 (by decide) ?_
    refine I_bipush dX11_lineNow_5 (by decide) ?_
    refine I_bipush dX11_lineNow_7 (by decide) ?_
    refine Q_callV dX11_lineNow_9 kX11_is lX11_79 (by assumption) rfl (p_is hM hr hT hk hb (by decide) ⟨by omega, by omega⟩ (by decide) (by decide) (by decide)) rfl rfl (Nat.le_of_ble_eq_true rfl) (Nat.le_of_ble_eq_true rfl) (by decide) (by decide) ?_
    refine I_if_eq (tgt := 32) dX11_lineNow_12 (by decide) (b2p_R _) (fun h12 => ?_) (fun h12 => ?_)
    · exact absurd h12 (by rw [b2p_t ((word_0 hT hb).mp w0).1]; omega)
    · refine T_aload_n dX11_lineNow_15 rfl rfl ?_
      refine I_iconst dX11_lineNow_16 ?_
      refine I_iconst dX11_lineNow_17 ?_
      refine I_bipush dX11_lineNow_18 (by decide) ?_
      refine I_bipush dX11_lineNow_20 (by decide) ?_
      refine I_bipush dX11_lineNow_22 (by decide) ?_
      refine Q_callV dX11_lineNow_24 kX11_is lX11_79 (by assumption) rfl (p_is hM hr hT hk hb (by decide) ⟨by omega, by omega⟩ (by decide) (by decide) (by decide)) rfl rfl (Nat.le_of_ble_eq_true rfl) (Nat.le_of_ble_eq_true rfl) (by decide) (by decide) ?_
      refine I_if_eq (tgt := 32) dX11_lineNow_27 (by decide) (b2p_R _) (fun h27 => ?_) (fun h27 => ?_)
      · exact absurd h27 (by rw [b2p_t ((word_0 hT hb).mp w0).2]; omega)
      · refine I_iconst dX11_lineNow_30 ?_
        exact I_ireturn dX11_lineNow_31 rfl ⟨_, _, rfl, rfl, rfl, rfl⟩
  · by_cases w1 : wordM tp t 1
    · have hv : lnM tp t = 1 := by unfold lnM; rw [if_neg w0, if_pos w1]
      rw [hv]
      rw [show LE mX11_lineNow [.ref 453] = [some (.ref 453)] from rfl]
      refine T_aload_n dX11_lineNow_0 rfl rfl ?_
      refine I_iconst dX11_lineNow_1 ?_
      refine I_iconst dX11_lineNow_2 ?_
      refine I_bipush dX11_lineNow_3 (by decide) ?_
      refine I_bipush dX11_lineNow_5 (by decide) ?_
      refine I_bipush dX11_lineNow_7 (by decide) ?_
      refine Q_callV dX11_lineNow_9 kX11_is lX11_79 (by assumption) rfl (p_is hM hr hT hk hb (by decide) ⟨by omega, by omega⟩ (by decide) (by decide) (by decide)) rfl rfl (Nat.le_of_ble_eq_true rfl) (Nat.le_of_ble_eq_true rfl) (by decide) (by decide) ?_
      refine I_if_eq (tgt := 32) dX11_lineNow_12 (by decide) (b2p_R _) (fun h12 => ?_) (fun h12 => ?_)
      · refine T_aload_n dX11_lineNow_32 rfl rfl ?_
        refine I_bipush dX11_lineNow_33 (by decide) ?_
        refine I_iconst dX11_lineNow_35 ?_
        refine I_bipush dX11_lineNow_36 (by decide) ?_
        refine I_bipush dX11_lineNow_38 (by decide) ?_
        refine I_bipush dX11_lineNow_40 (by decide) ?_
        refine Q_callV dX11_lineNow_42 kX11_is lX11_79 (by assumption) rfl (p_is hM hr hT hk hb (by decide) ⟨by omega, by omega⟩ (by decide) (by decide) (by decide)) rfl rfl (Nat.le_of_ble_eq_true rfl) (Nat.le_of_ble_eq_true rfl) (by decide) (by decide) ?_
        refine I_if_eq (tgt := 66) dX11_lineNow_45 (by decide) (b2p_R _) (fun h45 => ?_) (fun h45 => ?_)
        · exact absurd h45 (by rw [b2p_t ((word_1 hT hb).mp w1).1]; omega)
        · refine T_aload_n dX11_lineNow_48 rfl rfl ?_
          refine I_bipush dX11_lineNow_49 (by decide) ?_
          refine I_iconst dX11_lineNow_51 ?_
          refine I_bipush dX11_lineNow_52 (by decide) ?_
          refine I_bipush dX11_lineNow_54 (by decide) ?_
          refine I_bipush dX11_lineNow_56 (by decide) ?_
          refine Q_callV dX11_lineNow_58 kX11_is lX11_79 (by assumption) rfl (p_is hM hr hT hk hb (by decide) ⟨by omega, by omega⟩ (by decide) (by decide) (by decide)) rfl rfl (Nat.le_of_ble_eq_true rfl) (Nat.le_of_ble_eq_true rfl) (by decide) (by decide) ?_
          refine I_if_eq (tgt := 66) dX11_lineNow_61 (by decide) (b2p_R _) (fun h61 => ?_) (fun h61 => ?_)
          · exact absurd h61 (by rw [b2p_t ((word_1 hT hb).mp w1).2]; omega)
          · refine I_iconst dX11_lineNow_64 ?_
            exact I_ireturn dX11_lineNow_65 rfl ⟨_, _, rfl, rfl, rfl, rfl⟩
      · refine T_aload_n dX11_lineNow_15 rfl rfl ?_
        refine I_iconst dX11_lineNow_16 ?_
        refine I_iconst dX11_lineNow_17 ?_
        refine I_bipush dX11_lineNow_18 (by decide) ?_
        refine I_bipush dX11_lineNow_20 (by decide) ?_
        refine I_bipush dX11_lineNow_22 (by decide) ?_
        refine Q_callV dX11_lineNow_24 kX11_is lX11_79 (by assumption) rfl (p_is hM hr hT hk hb (by decide) ⟨by omega, by omega⟩ (by decide) (by decide) (by decide)) rfl rfl (Nat.le_of_ble_eq_true rfl) (Nat.le_of_ble_eq_true rfl) (by decide) (by decide) ?_
        refine I_if_eq (tgt := 32) dX11_lineNow_27 (by decide) (b2p_R _) (fun h27 => ?_) (fun h27 => ?_)
        · refine T_aload_n dX11_lineNow_32 rfl rfl ?_
          refine I_bipush dX11_lineNow_33 (by decide) ?_
          refine I_iconst dX11_lineNow_35 ?_
          refine I_bipush dX11_lineNow_36 (by decide) ?_
          refine I_bipush dX11_lineNow_38 (by decide) ?_
          refine I_bipush dX11_lineNow_40 (by decide) ?_
          refine Q_callV dX11_lineNow_42 kX11_is lX11_79 (by assumption) rfl (p_is hM hr hT hk hb (by decide) ⟨by omega, by omega⟩ (by decide) (by decide) (by decide)) rfl rfl (Nat.le_of_ble_eq_true rfl) (Nat.le_of_ble_eq_true rfl) (by decide) (by decide) ?_
          refine I_if_eq (tgt := 66) dX11_lineNow_45 (by decide) (b2p_R _) (fun h45 => ?_) (fun h45 => ?_)
          · exact absurd h45 (by rw [b2p_t ((word_1 hT hb).mp w1).1]; omega)
          · refine T_aload_n dX11_lineNow_48 rfl rfl ?_
            refine I_bipush dX11_lineNow_49 (by decide) ?_
            refine I_iconst dX11_lineNow_51 ?_
            refine I_bipush dX11_lineNow_52 (by decide) ?_
            refine I_bipush dX11_lineNow_54 (by decide) ?_
            refine I_bipush dX11_lineNow_56 (by decide) ?_
            refine Q_callV dX11_lineNow_58 kX11_is lX11_79 (by assumption) rfl (p_is hM hr hT hk hb (by decide) ⟨by omega, by omega⟩ (by decide) (by decide) (by decide)) rfl rfl (Nat.le_of_ble_eq_true rfl) (Nat.le_of_ble_eq_true rfl) (by decide) (by decide) ?_
            refine I_if_eq (tgt := 66) dX11_lineNow_61 (by decide) (b2p_R _) (fun h61 => ?_) (fun h61 => ?_)
            · exact absurd h61 (by rw [b2p_t ((word_1 hT hb).mp w1).2]; omega)
            · refine I_iconst dX11_lineNow_64 ?_
              exact I_ireturn dX11_lineNow_65 rfl ⟨_, _, rfl, rfl, rfl, rfl⟩
        · exact absurd ((word_0 hT hb).mpr ⟨b2p_of h12, b2p_of h27⟩) w0
    · by_cases w2 : wordM tp t 2
      · have hv : lnM tp t = 2 := by unfold lnM; rw [if_neg w0, if_neg w1, if_pos w2]
        rw [hv]
        rw [show LE mX11_lineNow [.ref 453] = [some (.ref 453)] from rfl]
        refine T_aload_n dX11_lineNow_0 rfl rfl ?_
        refine I_iconst dX11_lineNow_1 ?_
        refine I_iconst dX11_lineNow_2 ?_
        refine I_bipush dX11_lineNow_3 (by decide) ?_
        refine I_bipush dX11_lineNow_5 (by decide) ?_
        refine I_bipush dX11_lineNow_7 (by decide) ?_
        refine Q_callV dX11_lineNow_9 kX11_is lX11_79 (by assumption) rfl (p_is hM hr hT hk hb (by decide) ⟨by omega, by omega⟩ (by decide) (by decide) (by decide)) rfl rfl (Nat.le_of_ble_eq_true rfl) (Nat.le_of_ble_eq_true rfl) (by decide) (by decide) ?_
        refine I_if_eq (tgt := 32) dX11_lineNow_12 (by decide) (b2p_R _) (fun h12 => ?_) (fun h12 => ?_)
        · refine T_aload_n dX11_lineNow_32 rfl rfl ?_
          refine I_bipush dX11_lineNow_33 (by decide) ?_
          refine I_iconst dX11_lineNow_35 ?_
          refine I_bipush dX11_lineNow_36 (by decide) ?_
          refine I_bipush dX11_lineNow_38 (by decide) ?_
          refine I_bipush dX11_lineNow_40 (by decide) ?_
          refine Q_callV dX11_lineNow_42 kX11_is lX11_79 (by assumption) rfl (p_is hM hr hT hk hb (by decide) ⟨by omega, by omega⟩ (by decide) (by decide) (by decide)) rfl rfl (Nat.le_of_ble_eq_true rfl) (Nat.le_of_ble_eq_true rfl) (by decide) (by decide) ?_
          refine I_if_eq (tgt := 66) dX11_lineNow_45 (by decide) (b2p_R _) (fun h45 => ?_) (fun h45 => ?_)
          · refine T_aload_n dX11_lineNow_66 rfl rfl ?_
            refine I_iconst dX11_lineNow_67 ?_
            refine I_iconst dX11_lineNow_68 ?_
            refine I_bipush dX11_lineNow_69 (by decide) ?_
            refine I_bipush dX11_lineNow_71 (by decide) ?_
            refine I_bipush dX11_lineNow_73 (by decide) ?_
            refine Q_callV dX11_lineNow_75 kX11_is lX11_79 (by assumption) rfl (p_is hM hr hT hk hb (by decide) ⟨by omega, by omega⟩ (by decide) (by decide) (by decide)) rfl rfl (Nat.le_of_ble_eq_true rfl) (Nat.le_of_ble_eq_true rfl) (by decide) (by decide) ?_
            refine I_if_eq (tgt := 83) dX11_lineNow_78 (by decide) (b2p_R _) (fun h78 => ?_) (fun h78 => ?_)
            · exact absurd h78 (by rw [b2p_t ((word_2 hT hb).mp w2)]; omega)
            · refine I_iconst dX11_lineNow_81 ?_
              exact I_ireturn dX11_lineNow_82 rfl ⟨_, _, rfl, rfl, rfl, rfl⟩
          · refine T_aload_n dX11_lineNow_48 rfl rfl ?_
            refine I_bipush dX11_lineNow_49 (by decide) ?_
            refine I_iconst dX11_lineNow_51 ?_
            refine I_bipush dX11_lineNow_52 (by decide) ?_
            refine I_bipush dX11_lineNow_54 (by decide) ?_
            refine I_bipush dX11_lineNow_56 (by decide) ?_
            refine Q_callV dX11_lineNow_58 kX11_is lX11_79 (by assumption) rfl (p_is hM hr hT hk hb (by decide) ⟨by omega, by omega⟩ (by decide) (by decide) (by decide)) rfl rfl (Nat.le_of_ble_eq_true rfl) (Nat.le_of_ble_eq_true rfl) (by decide) (by decide) ?_
            refine I_if_eq (tgt := 66) dX11_lineNow_61 (by decide) (b2p_R _) (fun h61 => ?_) (fun h61 => ?_)
            · refine T_aload_n dX11_lineNow_66 rfl rfl ?_
              refine I_iconst dX11_lineNow_67 ?_
              refine I_iconst dX11_lineNow_68 ?_
              refine I_bipush dX11_lineNow_69 (by decide) ?_
              refine I_bipush dX11_lineNow_71 (by decide) ?_
              refine I_bipush dX11_lineNow_73 (by decide) ?_
              refine Q_callV dX11_lineNow_75 kX11_is lX11_79 (by assumption) rfl (p_is hM hr hT hk hb (by decide) ⟨by omega, by omega⟩ (by decide) (by decide) (by decide)) rfl rfl (Nat.le_of_ble_eq_true rfl) (Nat.le_of_ble_eq_true rfl) (by decide) (by decide) ?_
              refine I_if_eq (tgt := 83) dX11_lineNow_78 (by decide) (b2p_R _) (fun h78 => ?_) (fun h78 => ?_)
              · exact absurd h78 (by rw [b2p_t ((word_2 hT hb).mp w2)]; omega)
              · refine I_iconst dX11_lineNow_81 ?_
                exact I_ireturn dX11_lineNow_82 rfl ⟨_, _, rfl, rfl, rfl, rfl⟩
            · exact absurd ((word_1 hT hb).mpr ⟨b2p_of h45, b2p_of h61⟩) w1
        · refine T_aload_n dX11_lineNow_15 rfl rfl ?_
          refine I_iconst dX11_lineNow_16 ?_
          refine I_iconst dX11_lineNow_17 ?_
          refine I_bipush dX11_lineNow_18 (by decide) ?_
          refine I_bipush dX11_lineNow_20 (by decide) ?_
          refine I_bipush dX11_lineNow_22 (by decide) ?_
          refine Q_callV dX11_lineNow_24 kX11_is lX11_79 (by assumption) rfl (p_is hM hr hT hk hb (by decide) ⟨by omega, by omega⟩ (by decide) (by decide) (by decide)) rfl rfl (Nat.le_of_ble_eq_true rfl) (Nat.le_of_ble_eq_true rfl) (by decide) (by decide) ?_
          refine I_if_eq (tgt := 32) dX11_lineNow_27 (by decide) (b2p_R _) (fun h27 => ?_) (fun h27 => ?_)
          · refine T_aload_n dX11_lineNow_32 rfl rfl ?_
            refine I_bipush dX11_lineNow_33 (by decide) ?_
            refine I_iconst dX11_lineNow_35 ?_
            refine I_bipush dX11_lineNow_36 (by decide) ?_
            refine I_bipush dX11_lineNow_38 (by decide) ?_
            refine I_bipush dX11_lineNow_40 (by decide) ?_
            refine Q_callV dX11_lineNow_42 kX11_is lX11_79 (by assumption) rfl (p_is hM hr hT hk hb (by decide) ⟨by omega, by omega⟩ (by decide) (by decide) (by decide)) rfl rfl (Nat.le_of_ble_eq_true rfl) (Nat.le_of_ble_eq_true rfl) (by decide) (by decide) ?_
            refine I_if_eq (tgt := 66) dX11_lineNow_45 (by decide) (b2p_R _) (fun h45 => ?_) (fun h45 => ?_)
            · refine T_aload_n dX11_lineNow_66 rfl rfl ?_
              refine I_iconst dX11_lineNow_67 ?_
              refine I_iconst dX11_lineNow_68 ?_
              refine I_bipush dX11_lineNow_69 (by decide) ?_
              refine I_bipush dX11_lineNow_71 (by decide) ?_
              refine I_bipush dX11_lineNow_73 (by decide) ?_
              refine Q_callV dX11_lineNow_75 kX11_is lX11_79 (by assumption) rfl (p_is hM hr hT hk hb (by decide) ⟨by omega, by omega⟩ (by decide) (by decide) (by decide)) rfl rfl (Nat.le_of_ble_eq_true rfl) (Nat.le_of_ble_eq_true rfl) (by decide) (by decide) ?_
              refine I_if_eq (tgt := 83) dX11_lineNow_78 (by decide) (b2p_R _) (fun h78 => ?_) (fun h78 => ?_)
              · exact absurd h78 (by rw [b2p_t ((word_2 hT hb).mp w2)]; omega)
              · refine I_iconst dX11_lineNow_81 ?_
                exact I_ireturn dX11_lineNow_82 rfl ⟨_, _, rfl, rfl, rfl, rfl⟩
            · refine T_aload_n dX11_lineNow_48 rfl rfl ?_
              refine I_bipush dX11_lineNow_49 (by decide) ?_
              refine I_iconst dX11_lineNow_51 ?_
              refine I_bipush dX11_lineNow_52 (by decide) ?_
              refine I_bipush dX11_lineNow_54 (by decide) ?_
              refine I_bipush dX11_lineNow_56 (by decide) ?_
              refine Q_callV dX11_lineNow_58 kX11_is lX11_79 (by assumption) rfl (p_is hM hr hT hk hb (by decide) ⟨by omega, by omega⟩ (by decide) (by decide) (by decide)) rfl rfl (Nat.le_of_ble_eq_true rfl) (Nat.le_of_ble_eq_true rfl) (by decide) (by decide) ?_
              refine I_if_eq (tgt := 66) dX11_lineNow_61 (by decide) (b2p_R _) (fun h61 => ?_) (fun h61 => ?_)
              · refine T_aload_n dX11_lineNow_66 rfl rfl ?_
                refine I_iconst dX11_lineNow_67 ?_
                refine I_iconst dX11_lineNow_68 ?_
                refine I_bipush dX11_lineNow_69 (by decide) ?_
                refine I_bipush dX11_lineNow_71 (by decide) ?_
                refine I_bipush dX11_lineNow_73 (by decide) ?_
                refine Q_callV dX11_lineNow_75 kX11_is lX11_79 (by assumption) rfl (p_is hM hr hT hk hb (by decide) ⟨by omega, by omega⟩ (by decide) (by decide) (by decide)) rfl rfl (Nat.le_of_ble_eq_true rfl) (Nat.le_of_ble_eq_true rfl) (by decide) (by decide) ?_
                refine I_if_eq (tgt := 83) dX11_lineNow_78 (by decide) (b2p_R _) (fun h78 => ?_) (fun h78 => ?_)
                · exact absurd h78 (by rw [b2p_t ((word_2 hT hb).mp w2)]; omega)
                · refine I_iconst dX11_lineNow_81 ?_
                  exact I_ireturn dX11_lineNow_82 rfl ⟨_, _, rfl, rfl, rfl, rfl⟩
              · exact absurd ((word_1 hT hb).mpr ⟨b2p_of h45, b2p_of h61⟩) w1
          · exact absurd ((word_0 hT hb).mpr ⟨b2p_of h12, b2p_of h27⟩) w0
      · by_cases w3 : wordM tp t 3
        · have hv : lnM tp t = 3 := by unfold lnM; rw [if_neg w0, if_neg w1, if_neg w2, if_pos w3]
          rw [hv]
          rw [show LE mX11_lineNow [.ref 453] = [some (.ref 453)] from rfl]
          refine T_aload_n dX11_lineNow_0 rfl rfl ?_
          refine I_iconst dX11_lineNow_1 ?_
          refine I_iconst dX11_lineNow_2 ?_
          refine I_bipush dX11_lineNow_3 (by decide) ?_
          refine I_bipush dX11_lineNow_5 (by decide) ?_
          refine I_bipush dX11_lineNow_7 (by decide) ?_
          refine Q_callV dX11_lineNow_9 kX11_is lX11_79 (by assumption) rfl (p_is hM hr hT hk hb (by decide) ⟨by omega, by omega⟩ (by decide) (by decide) (by decide)) rfl rfl (Nat.le_of_ble_eq_true rfl) (Nat.le_of_ble_eq_true rfl) (by decide) (by decide) ?_
          refine I_if_eq (tgt := 32) dX11_lineNow_12 (by decide) (b2p_R _) (fun h12 => ?_) (fun h12 => ?_)
          · refine T_aload_n dX11_lineNow_32 rfl rfl ?_
            refine I_bipush dX11_lineNow_33 (by decide) ?_
            refine I_iconst dX11_lineNow_35 ?_
            refine I_bipush dX11_lineNow_36 (by decide) ?_
            refine I_bipush dX11_lineNow_38 (by decide) ?_
            refine I_bipush dX11_lineNow_40 (by decide) ?_
            refine Q_callV dX11_lineNow_42 kX11_is lX11_79 (by assumption) rfl (p_is hM hr hT hk hb (by decide) ⟨by omega, by omega⟩ (by decide) (by decide) (by decide)) rfl rfl (Nat.le_of_ble_eq_true rfl) (Nat.le_of_ble_eq_true rfl) (by decide) (by decide) ?_
            refine I_if_eq (tgt := 66) dX11_lineNow_45 (by decide) (b2p_R _) (fun h45 => ?_) (fun h45 => ?_)
            · refine T_aload_n dX11_lineNow_66 rfl rfl ?_
              refine I_iconst dX11_lineNow_67 ?_
              refine I_iconst dX11_lineNow_68 ?_
              refine I_bipush dX11_lineNow_69 (by decide) ?_
              refine I_bipush dX11_lineNow_71 (by decide) ?_
              refine I_bipush dX11_lineNow_73 (by decide) ?_
              refine Q_callV dX11_lineNow_75 kX11_is lX11_79 (by assumption) rfl (p_is hM hr hT hk hb (by decide) ⟨by omega, by omega⟩ (by decide) (by decide) (by decide)) rfl rfl (Nat.le_of_ble_eq_true rfl) (Nat.le_of_ble_eq_true rfl) (by decide) (by decide) ?_
              refine I_if_eq (tgt := 83) dX11_lineNow_78 (by decide) (b2p_R _) (fun h78 => ?_) (fun h78 => ?_)
              · refine T_aload_n dX11_lineNow_83 rfl rfl ?_
                refine I_iconst dX11_lineNow_84 ?_
                refine I_iconst dX11_lineNow_85 ?_
                refine I_bipush dX11_lineNow_86 (by decide) ?_
                refine I_bipush dX11_lineNow_88 (by decide) ?_
                refine I_bipush dX11_lineNow_90 (by decide) ?_
                refine Q_callV dX11_lineNow_92 kX11_is lX11_79 (by assumption) rfl (p_is hM hr hT hk hb (by decide) ⟨by omega, by omega⟩ (by decide) (by decide) (by decide)) rfl rfl (Nat.le_of_ble_eq_true rfl) (Nat.le_of_ble_eq_true rfl) (by decide) (by decide) ?_
                refine I_if_eq (tgt := 115) dX11_lineNow_95 (by decide) (b2p_R _) (fun h95 => ?_) (fun h95 => ?_)
                · exact absurd h95 (by rw [b2p_t ((word_3 hT hb).mp w3).1]; omega)
                · refine T_aload_n dX11_lineNow_98 rfl rfl ?_
                  refine I_iconst dX11_lineNow_99 ?_
                  refine I_iconst dX11_lineNow_100 ?_
                  refine I_bipush dX11_lineNow_101 (by decide) ?_
                  refine I_bipush dX11_lineNow_103 (by decide) ?_
                  refine I_bipush dX11_lineNow_105 (by decide) ?_
                  refine Q_callV dX11_lineNow_107 kX11_is lX11_79 (by assumption) rfl (p_is hM hr hT hk hb (by decide) ⟨by omega, by omega⟩ (by decide) (by decide) (by decide)) rfl rfl (Nat.le_of_ble_eq_true rfl) (Nat.le_of_ble_eq_true rfl) (by decide) (by decide) ?_
                  refine I_if_eq (tgt := 115) dX11_lineNow_110 (by decide) (b2p_R _) (fun h110 => ?_) (fun h110 => ?_)
                  · exact absurd h110 (by rw [b2p_t ((word_3 hT hb).mp w3).2]; omega)
                  · refine I_iconst dX11_lineNow_113 ?_
                    exact I_ireturn dX11_lineNow_114 rfl ⟨_, _, rfl, rfl, rfl, rfl⟩
              · exact absurd ((word_2 hT hb).mpr (b2p_of h78)) w2
            · refine T_aload_n dX11_lineNow_48 rfl rfl ?_
              refine I_bipush dX11_lineNow_49 (by decide) ?_
              refine I_iconst dX11_lineNow_51 ?_
              refine I_bipush dX11_lineNow_52 (by decide) ?_
              refine I_bipush dX11_lineNow_54 (by decide) ?_
              refine I_bipush dX11_lineNow_56 (by decide) ?_
              refine Q_callV dX11_lineNow_58 kX11_is lX11_79 (by assumption) rfl (p_is hM hr hT hk hb (by decide) ⟨by omega, by omega⟩ (by decide) (by decide) (by decide)) rfl rfl (Nat.le_of_ble_eq_true rfl) (Nat.le_of_ble_eq_true rfl) (by decide) (by decide) ?_
              refine I_if_eq (tgt := 66) dX11_lineNow_61 (by decide) (b2p_R _) (fun h61 => ?_) (fun h61 => ?_)
              · refine T_aload_n dX11_lineNow_66 rfl rfl ?_
                refine I_iconst dX11_lineNow_67 ?_
                refine I_iconst dX11_lineNow_68 ?_
                refine I_bipush dX11_lineNow_69 (by decide) ?_
                refine I_bipush dX11_lineNow_71 (by decide) ?_
                refine I_bipush dX11_lineNow_73 (by decide) ?_
                refine Q_callV dX11_lineNow_75 kX11_is lX11_79 (by assumption) rfl (p_is hM hr hT hk hb (by decide) ⟨by omega, by omega⟩ (by decide) (by decide) (by decide)) rfl rfl (Nat.le_of_ble_eq_true rfl) (Nat.le_of_ble_eq_true rfl) (by decide) (by decide) ?_
                refine I_if_eq (tgt := 83) dX11_lineNow_78 (by decide) (b2p_R _) (fun h78 => ?_) (fun h78 => ?_)
                · refine T_aload_n dX11_lineNow_83 rfl rfl ?_
                  refine I_iconst dX11_lineNow_84 ?_
                  refine I_iconst dX11_lineNow_85 ?_
                  refine I_bipush dX11_lineNow_86 (by decide) ?_
                  refine I_bipush dX11_lineNow_88 (by decide) ?_
                  refine I_bipush dX11_lineNow_90 (by decide) ?_
                  refine Q_callV dX11_lineNow_92 kX11_is lX11_79 (by assumption) rfl (p_is hM hr hT hk hb (by decide) ⟨by omega, by omega⟩ (by decide) (by decide) (by decide)) rfl rfl (Nat.le_of_ble_eq_true rfl) (Nat.le_of_ble_eq_true rfl) (by decide) (by decide) ?_
                  refine I_if_eq (tgt := 115) dX11_lineNow_95 (by decide) (b2p_R _) (fun h95 => ?_) (fun h95 => ?_)
                  · exact absurd h95 (by rw [b2p_t ((word_3 hT hb).mp w3).1]; omega)
                  · refine T_aload_n dX11_lineNow_98 rfl rfl ?_
                    refine I_iconst dX11_lineNow_99 ?_
                    refine I_iconst dX11_lineNow_100 ?_
                    refine I_bipush dX11_lineNow_101 (by decide) ?_
                    refine I_bipush dX11_lineNow_103 (by decide) ?_
                    refine I_bipush dX11_lineNow_105 (by decide) ?_
                    refine Q_callV dX11_lineNow_107 kX11_is lX11_79 (by assumption) rfl (p_is hM hr hT hk hb (by decide) ⟨by omega, by omega⟩ (by decide) (by decide) (by decide)) rfl rfl (Nat.le_of_ble_eq_true rfl) (Nat.le_of_ble_eq_true rfl) (by decide) (by decide) ?_
                    refine I_if_eq (tgt := 115) dX11_lineNow_110 (by decide) (b2p_R _) (fun h110 => ?_) (fun h110 => ?_)
                    · exact absurd h110 (by rw [b2p_t ((word_3 hT hb).mp w3).2]; omega)
                    · refine I_iconst dX11_lineNow_113 ?_
                      exact I_ireturn dX11_lineNow_114 rfl ⟨_, _, rfl, rfl, rfl, rfl⟩
                · exact absurd ((word_2 hT hb).mpr (b2p_of h78)) w2
              · exact absurd ((word_1 hT hb).mpr ⟨b2p_of h45, b2p_of h61⟩) w1
          · refine T_aload_n dX11_lineNow_15 rfl rfl ?_
            refine I_iconst dX11_lineNow_16 ?_
            refine I_iconst dX11_lineNow_17 ?_
            refine I_bipush dX11_lineNow_18 (by decide) ?_
            refine I_bipush dX11_lineNow_20 (by decide) ?_
            refine I_bipush dX11_lineNow_22 (by decide) ?_
            refine Q_callV dX11_lineNow_24 kX11_is lX11_79 (by assumption) rfl (p_is hM hr hT hk hb (by decide) ⟨by omega, by omega⟩ (by decide) (by decide) (by decide)) rfl rfl (Nat.le_of_ble_eq_true rfl) (Nat.le_of_ble_eq_true rfl) (by decide) (by decide) ?_
            refine I_if_eq (tgt := 32) dX11_lineNow_27 (by decide) (b2p_R _) (fun h27 => ?_) (fun h27 => ?_)
            · refine T_aload_n dX11_lineNow_32 rfl rfl ?_
              refine I_bipush dX11_lineNow_33 (by decide) ?_
              refine I_iconst dX11_lineNow_35 ?_
              refine I_bipush dX11_lineNow_36 (by decide) ?_
              refine I_bipush dX11_lineNow_38 (by decide) ?_
              refine I_bipush dX11_lineNow_40 (by decide) ?_
              refine Q_callV dX11_lineNow_42 kX11_is lX11_79 (by assumption) rfl (p_is hM hr hT hk hb (by decide) ⟨by omega, by omega⟩ (by decide) (by decide) (by decide)) rfl rfl (Nat.le_of_ble_eq_true rfl) (Nat.le_of_ble_eq_true rfl) (by decide) (by decide) ?_
              refine I_if_eq (tgt := 66) dX11_lineNow_45 (by decide) (b2p_R _) (fun h45 => ?_) (fun h45 => ?_)
              · refine T_aload_n dX11_lineNow_66 rfl rfl ?_
                refine I_iconst dX11_lineNow_67 ?_
                refine I_iconst dX11_lineNow_68 ?_
                refine I_bipush dX11_lineNow_69 (by decide) ?_
                refine I_bipush dX11_lineNow_71 (by decide) ?_
                refine I_bipush dX11_lineNow_73 (by decide) ?_
                refine Q_callV dX11_lineNow_75 kX11_is lX11_79 (by assumption) rfl (p_is hM hr hT hk hb (by decide) ⟨by omega, by omega⟩ (by decide) (by decide) (by decide)) rfl rfl (Nat.le_of_ble_eq_true rfl) (Nat.le_of_ble_eq_true rfl) (by decide) (by decide) ?_
                refine I_if_eq (tgt := 83) dX11_lineNow_78 (by decide) (b2p_R _) (fun h78 => ?_) (fun h78 => ?_)
                · refine T_aload_n dX11_lineNow_83 rfl rfl ?_
                  refine I_iconst dX11_lineNow_84 ?_
                  refine I_iconst dX11_lineNow_85 ?_
                  refine I_bipush dX11_lineNow_86 (by decide) ?_
                  refine I_bipush dX11_lineNow_88 (by decide) ?_
                  refine I_bipush dX11_lineNow_90 (by decide) ?_
                  refine Q_callV dX11_lineNow_92 kX11_is lX11_79 (by assumption) rfl (p_is hM hr hT hk hb (by decide) ⟨by omega, by omega⟩ (by decide) (by decide) (by decide)) rfl rfl (Nat.le_of_ble_eq_true rfl) (Nat.le_of_ble_eq_true rfl) (by decide) (by decide) ?_
                  refine I_if_eq (tgt := 115) dX11_lineNow_95 (by decide) (b2p_R _) (fun h95 => ?_) (fun h95 => ?_)
                  · exact absurd h95 (by rw [b2p_t ((word_3 hT hb).mp w3).1]; omega)
                  · refine T_aload_n dX11_lineNow_98 rfl rfl ?_
                    refine I_iconst dX11_lineNow_99 ?_
                    refine I_iconst dX11_lineNow_100 ?_
                    refine I_bipush dX11_lineNow_101 (by decide) ?_
                    refine I_bipush dX11_lineNow_103 (by decide) ?_
                    refine I_bipush dX11_lineNow_105 (by decide) ?_
                    refine Q_callV dX11_lineNow_107 kX11_is lX11_79 (by assumption) rfl (p_is hM hr hT hk hb (by decide) ⟨by omega, by omega⟩ (by decide) (by decide) (by decide)) rfl rfl (Nat.le_of_ble_eq_true rfl) (Nat.le_of_ble_eq_true rfl) (by decide) (by decide) ?_
                    refine I_if_eq (tgt := 115) dX11_lineNow_110 (by decide) (b2p_R _) (fun h110 => ?_) (fun h110 => ?_)
                    · exact absurd h110 (by rw [b2p_t ((word_3 hT hb).mp w3).2]; omega)
                    · refine I_iconst dX11_lineNow_113 ?_
                      exact I_ireturn dX11_lineNow_114 rfl ⟨_, _, rfl, rfl, rfl, rfl⟩
                · exact absurd ((word_2 hT hb).mpr (b2p_of h78)) w2
              · refine T_aload_n dX11_lineNow_48 rfl rfl ?_
                refine I_bipush dX11_lineNow_49 (by decide) ?_
                refine I_iconst dX11_lineNow_51 ?_
                refine I_bipush dX11_lineNow_52 (by decide) ?_
                refine I_bipush dX11_lineNow_54 (by decide) ?_
                refine I_bipush dX11_lineNow_56 (by decide) ?_
                refine Q_callV dX11_lineNow_58 kX11_is lX11_79 (by assumption) rfl (p_is hM hr hT hk hb (by decide) ⟨by omega, by omega⟩ (by decide) (by decide) (by decide)) rfl rfl (Nat.le_of_ble_eq_true rfl) (Nat.le_of_ble_eq_true rfl) (by decide) (by decide) ?_
                refine I_if_eq (tgt := 66) dX11_lineNow_61 (by decide) (b2p_R _) (fun h61 => ?_) (fun h61 => ?_)
                · refine T_aload_n dX11_lineNow_66 rfl rfl ?_
                  refine I_iconst dX11_lineNow_67 ?_
                  refine I_iconst dX11_lineNow_68 ?_
                  refine I_bipush dX11_lineNow_69 (by decide) ?_
                  refine I_bipush dX11_lineNow_71 (by decide) ?_
                  refine I_bipush dX11_lineNow_73 (by decide) ?_
                  refine Q_callV dX11_lineNow_75 kX11_is lX11_79 (by assumption) rfl (p_is hM hr hT hk hb (by decide) ⟨by omega, by omega⟩ (by decide) (by decide) (by decide)) rfl rfl (Nat.le_of_ble_eq_true rfl) (Nat.le_of_ble_eq_true rfl) (by decide) (by decide) ?_
                  refine I_if_eq (tgt := 83) dX11_lineNow_78 (by decide) (b2p_R _) (fun h78 => ?_) (fun h78 => ?_)
                  · refine T_aload_n dX11_lineNow_83 rfl rfl ?_
                    refine I_iconst dX11_lineNow_84 ?_
                    refine I_iconst dX11_lineNow_85 ?_
                    refine I_bipush dX11_lineNow_86 (by decide) ?_
                    refine I_bipush dX11_lineNow_88 (by decide) ?_
                    refine I_bipush dX11_lineNow_90 (by decide) ?_
                    refine Q_callV dX11_lineNow_92 kX11_is lX11_79 (by assumption) rfl (p_is hM hr hT hk hb (by decide) ⟨by omega, by omega⟩ (by decide) (by decide) (by decide)) rfl rfl (Nat.le_of_ble_eq_true rfl) (Nat.le_of_ble_eq_true rfl) (by decide) (by decide) ?_
                    refine I_if_eq (tgt := 115) dX11_lineNow_95 (by decide) (b2p_R _) (fun h95 => ?_) (fun h95 => ?_)
                    · exact absurd h95 (by rw [b2p_t ((word_3 hT hb).mp w3).1]; omega)
                    · refine T_aload_n dX11_lineNow_98 rfl rfl ?_
                      refine I_iconst dX11_lineNow_99 ?_
                      refine I_iconst dX11_lineNow_100 ?_
                      refine I_bipush dX11_lineNow_101 (by decide) ?_
                      refine I_bipush dX11_lineNow_103 (by decide) ?_
                      refine I_bipush dX11_lineNow_105 (by decide) ?_
                      refine Q_callV dX11_lineNow_107 kX11_is lX11_79 (by assumption) rfl (p_is hM hr hT hk hb (by decide) ⟨by omega, by omega⟩ (by decide) (by decide) (by decide)) rfl rfl (Nat.le_of_ble_eq_true rfl) (Nat.le_of_ble_eq_true rfl) (by decide) (by decide) ?_
                      refine I_if_eq (tgt := 115) dX11_lineNow_110 (by decide) (b2p_R _) (fun h110 => ?_) (fun h110 => ?_)
                      · exact absurd h110 (by rw [b2p_t ((word_3 hT hb).mp w3).2]; omega)
                      · refine I_iconst dX11_lineNow_113 ?_
                        exact I_ireturn dX11_lineNow_114 rfl ⟨_, _, rfl, rfl, rfl, rfl⟩
                  · exact absurd ((word_2 hT hb).mpr (b2p_of h78)) w2
                · exact absurd ((word_1 hT hb).mpr ⟨b2p_of h45, b2p_of h61⟩) w1
            · exact absurd ((word_0 hT hb).mpr ⟨b2p_of h12, b2p_of h27⟩) w0
        · by_cases w4 : wordM tp t 4
          · have hv : lnM tp t = 4 := by unfold lnM; rw [if_neg w0, if_neg w1, if_neg w2, if_neg w3, if_pos w4]
            rw [hv]
            rw [show LE mX11_lineNow [.ref 453] = [some (.ref 453)] from rfl]
            refine T_aload_n dX11_lineNow_0 rfl rfl ?_
            refine I_iconst dX11_lineNow_1 ?_
            refine I_iconst dX11_lineNow_2 ?_
            refine I_bipush dX11_lineNow_3 (by decide) ?_
            refine I_bipush dX11_lineNow_5 (by decide) ?_
            refine I_bipush dX11_lineNow_7 (by decide) ?_
            refine Q_callV dX11_lineNow_9 kX11_is lX11_79 (by assumption) rfl (p_is hM hr hT hk hb (by decide) ⟨by omega, by omega⟩ (by decide) (by decide) (by decide)) rfl rfl (Nat.le_of_ble_eq_true rfl) (Nat.le_of_ble_eq_true rfl) (by decide) (by decide) ?_
            refine I_if_eq (tgt := 32) dX11_lineNow_12 (by decide) (b2p_R _) (fun h12 => ?_) (fun h12 => ?_)
            · refine T_aload_n dX11_lineNow_32 rfl rfl ?_
              refine I_bipush dX11_lineNow_33 (by decide) ?_
              refine I_iconst dX11_lineNow_35 ?_
              refine I_bipush dX11_lineNow_36 (by decide) ?_
              refine I_bipush dX11_lineNow_38 (by decide) ?_
              refine I_bipush dX11_lineNow_40 (by decide) ?_
              refine Q_callV dX11_lineNow_42 kX11_is lX11_79 (by assumption) rfl (p_is hM hr hT hk hb (by decide) ⟨by omega, by omega⟩ (by decide) (by decide) (by decide)) rfl rfl (Nat.le_of_ble_eq_true rfl) (Nat.le_of_ble_eq_true rfl) (by decide) (by decide) ?_
              refine I_if_eq (tgt := 66) dX11_lineNow_45 (by decide) (b2p_R _) (fun h45 => ?_) (fun h45 => ?_)
              · refine T_aload_n dX11_lineNow_66 rfl rfl ?_
                refine I_iconst dX11_lineNow_67 ?_
                refine I_iconst dX11_lineNow_68 ?_
                refine I_bipush dX11_lineNow_69 (by decide) ?_
                refine I_bipush dX11_lineNow_71 (by decide) ?_
                refine I_bipush dX11_lineNow_73 (by decide) ?_
                refine Q_callV dX11_lineNow_75 kX11_is lX11_79 (by assumption) rfl (p_is hM hr hT hk hb (by decide) ⟨by omega, by omega⟩ (by decide) (by decide) (by decide)) rfl rfl (Nat.le_of_ble_eq_true rfl) (Nat.le_of_ble_eq_true rfl) (by decide) (by decide) ?_
                refine I_if_eq (tgt := 83) dX11_lineNow_78 (by decide) (b2p_R _) (fun h78 => ?_) (fun h78 => ?_)
                · refine T_aload_n dX11_lineNow_83 rfl rfl ?_
                  refine I_iconst dX11_lineNow_84 ?_
                  refine I_iconst dX11_lineNow_85 ?_
                  refine I_bipush dX11_lineNow_86 (by decide) ?_
                  refine I_bipush dX11_lineNow_88 (by decide) ?_
                  refine I_bipush dX11_lineNow_90 (by decide) ?_
                  refine Q_callV dX11_lineNow_92 kX11_is lX11_79 (by assumption) rfl (p_is hM hr hT hk hb (by decide) ⟨by omega, by omega⟩ (by decide) (by decide) (by decide)) rfl rfl (Nat.le_of_ble_eq_true rfl) (Nat.le_of_ble_eq_true rfl) (by decide) (by decide) ?_
                  refine I_if_eq (tgt := 115) dX11_lineNow_95 (by decide) (b2p_R _) (fun h95 => ?_) (fun h95 => ?_)
                  · refine T_aload_n dX11_lineNow_115 rfl rfl ?_
                    refine I_iconst dX11_lineNow_116 ?_
                    refine I_iconst dX11_lineNow_117 ?_
                    refine I_bipush dX11_lineNow_118 (by decide) ?_
                    refine I_bipush dX11_lineNow_120 (by decide) ?_
                    refine I_bipush dX11_lineNow_122 (by decide) ?_
                    refine Q_callV dX11_lineNow_124 kX11_is lX11_79 (by assumption) rfl (p_is hM hr hT hk hb (by decide) ⟨by omega, by omega⟩ (by decide) (by decide) (by decide)) rfl rfl (Nat.le_of_ble_eq_true rfl) (Nat.le_of_ble_eq_true rfl) (by decide) (by decide) ?_
                    refine I_if_eq (tgt := 149) dX11_lineNow_127 (by decide) (b2p_R _) (fun h127 => ?_) (fun h127 => ?_)
                    · exact absurd h127 (by rw [b2p_t ((word_4 hT hb).mp w4).1]; omega)
                    · refine T_aload_n dX11_lineNow_130 rfl rfl ?_
                      refine I_iconst dX11_lineNow_131 ?_
                      refine I_iconst dX11_lineNow_132 ?_
                      refine I_bipush dX11_lineNow_133 (by decide) ?_
                      refine I_bipush dX11_lineNow_135 (by decide) ?_
                      refine I_bipush dX11_lineNow_137 (by decide) ?_
                      refine Q_callV dX11_lineNow_139 kX11_is lX11_79 (by assumption) rfl (p_is hM hr hT hk hb (by decide) ⟨by omega, by omega⟩ (by decide) (by decide) (by decide)) rfl rfl (Nat.le_of_ble_eq_true rfl) (Nat.le_of_ble_eq_true rfl) (by decide) (by decide) ?_
                      refine I_if_eq (tgt := 149) dX11_lineNow_142 (by decide) (b2p_R _) (fun h142 => ?_) (fun h142 => ?_)
                      · exact absurd h142 (by rw [b2p_t ((word_4 hT hb).mp w4).2]; omega)
                      · refine I_iconst dX11_lineNow_145 ?_
                        refine T_goto (tgt := 151) dX11_lineNow_146 (by decide) ?_
                        exact I_ireturn dX11_lineNow_151 rfl ⟨_, _, rfl, rfl, rfl, rfl⟩
                  · refine T_aload_n dX11_lineNow_98 rfl rfl ?_
                    refine I_iconst dX11_lineNow_99 ?_
                    refine I_iconst dX11_lineNow_100 ?_
                    refine I_bipush dX11_lineNow_101 (by decide) ?_
                    refine I_bipush dX11_lineNow_103 (by decide) ?_
                    refine I_bipush dX11_lineNow_105 (by decide) ?_
                    refine Q_callV dX11_lineNow_107 kX11_is lX11_79 (by assumption) rfl (p_is hM hr hT hk hb (by decide) ⟨by omega, by omega⟩ (by decide) (by decide) (by decide)) rfl rfl (Nat.le_of_ble_eq_true rfl) (Nat.le_of_ble_eq_true rfl) (by decide) (by decide) ?_
                    refine I_if_eq (tgt := 115) dX11_lineNow_110 (by decide) (b2p_R _) (fun h110 => ?_) (fun h110 => ?_)
                    · refine T_aload_n dX11_lineNow_115 rfl rfl ?_
                      refine I_iconst dX11_lineNow_116 ?_
                      refine I_iconst dX11_lineNow_117 ?_
                      refine I_bipush dX11_lineNow_118 (by decide) ?_
                      refine I_bipush dX11_lineNow_120 (by decide) ?_
                      refine I_bipush dX11_lineNow_122 (by decide) ?_
                      refine Q_callV dX11_lineNow_124 kX11_is lX11_79 (by assumption) rfl (p_is hM hr hT hk hb (by decide) ⟨by omega, by omega⟩ (by decide) (by decide) (by decide)) rfl rfl (Nat.le_of_ble_eq_true rfl) (Nat.le_of_ble_eq_true rfl) (by decide) (by decide) ?_
                      refine I_if_eq (tgt := 149) dX11_lineNow_127 (by decide) (b2p_R _) (fun h127 => ?_) (fun h127 => ?_)
                      · exact absurd h127 (by rw [b2p_t ((word_4 hT hb).mp w4).1]; omega)
                      · refine T_aload_n dX11_lineNow_130 rfl rfl ?_
                        refine I_iconst dX11_lineNow_131 ?_
                        refine I_iconst dX11_lineNow_132 ?_
                        refine I_bipush dX11_lineNow_133 (by decide) ?_
                        refine I_bipush dX11_lineNow_135 (by decide) ?_
                        refine I_bipush dX11_lineNow_137 (by decide) ?_
                        refine Q_callV dX11_lineNow_139 kX11_is lX11_79 (by assumption) rfl (p_is hM hr hT hk hb (by decide) ⟨by omega, by omega⟩ (by decide) (by decide) (by decide)) rfl rfl (Nat.le_of_ble_eq_true rfl) (Nat.le_of_ble_eq_true rfl) (by decide) (by decide) ?_
                        refine I_if_eq (tgt := 149) dX11_lineNow_142 (by decide) (b2p_R _) (fun h142 => ?_) (fun h142 => ?_)
                        · exact absurd h142 (by rw [b2p_t ((word_4 hT hb).mp w4).2]; omega)
                        · refine I_iconst dX11_lineNow_145 ?_
                          refine T_goto (tgt := 151) dX11_lineNow_146 (by decide) ?_
                          exact I_ireturn dX11_lineNow_151 rfl ⟨_, _, rfl, rfl, rfl, rfl⟩
                    · exact absurd ((word_3 hT hb).mpr ⟨b2p_of h95, b2p_of h110⟩) w3
                · exact absurd ((word_2 hT hb).mpr (b2p_of h78)) w2
              · refine T_aload_n dX11_lineNow_48 rfl rfl ?_
                refine I_bipush dX11_lineNow_49 (by decide) ?_
                refine I_iconst dX11_lineNow_51 ?_
                refine I_bipush dX11_lineNow_52 (by decide) ?_
                refine I_bipush dX11_lineNow_54 (by decide) ?_
                refine I_bipush dX11_lineNow_56 (by decide) ?_
                refine Q_callV dX11_lineNow_58 kX11_is lX11_79 (by assumption) rfl (p_is hM hr hT hk hb (by decide) ⟨by omega, by omega⟩ (by decide) (by decide) (by decide)) rfl rfl (Nat.le_of_ble_eq_true rfl) (Nat.le_of_ble_eq_true rfl) (by decide) (by decide) ?_
                refine I_if_eq (tgt := 66) dX11_lineNow_61 (by decide) (b2p_R _) (fun h61 => ?_) (fun h61 => ?_)
                · refine T_aload_n dX11_lineNow_66 rfl rfl ?_
                  refine I_iconst dX11_lineNow_67 ?_
                  refine I_iconst dX11_lineNow_68 ?_
                  refine I_bipush dX11_lineNow_69 (by decide) ?_
                  refine I_bipush dX11_lineNow_71 (by decide) ?_
                  refine I_bipush dX11_lineNow_73 (by decide) ?_
                  refine Q_callV dX11_lineNow_75 kX11_is lX11_79 (by assumption) rfl (p_is hM hr hT hk hb (by decide) ⟨by omega, by omega⟩ (by decide) (by decide) (by decide)) rfl rfl (Nat.le_of_ble_eq_true rfl) (Nat.le_of_ble_eq_true rfl) (by decide) (by decide) ?_
                  refine I_if_eq (tgt := 83) dX11_lineNow_78 (by decide) (b2p_R _) (fun h78 => ?_) (fun h78 => ?_)
                  · refine T_aload_n dX11_lineNow_83 rfl rfl ?_
                    refine I_iconst dX11_lineNow_84 ?_
                    refine I_iconst dX11_lineNow_85 ?_
                    refine I_bipush dX11_lineNow_86 (by decide) ?_
                    refine I_bipush dX11_lineNow_88 (by decide) ?_
                    refine I_bipush dX11_lineNow_90 (by decide) ?_
                    refine Q_callV dX11_lineNow_92 kX11_is lX11_79 (by assumption) rfl (p_is hM hr hT hk hb (by decide) ⟨by omega, by omega⟩ (by decide) (by decide) (by decide)) rfl rfl (Nat.le_of_ble_eq_true rfl) (Nat.le_of_ble_eq_true rfl) (by decide) (by decide) ?_
                    refine I_if_eq (tgt := 115) dX11_lineNow_95 (by decide) (b2p_R _) (fun h95 => ?_) (fun h95 => ?_)
                    · refine T_aload_n dX11_lineNow_115 rfl rfl ?_
                      refine I_iconst dX11_lineNow_116 ?_
                      refine I_iconst dX11_lineNow_117 ?_
                      refine I_bipush dX11_lineNow_118 (by decide) ?_
                      refine I_bipush dX11_lineNow_120 (by decide) ?_
                      refine I_bipush dX11_lineNow_122 (by decide) ?_
                      refine Q_callV dX11_lineNow_124 kX11_is lX11_79 (by assumption) rfl (p_is hM hr hT hk hb (by decide) ⟨by omega, by omega⟩ (by decide) (by decide) (by decide)) rfl rfl (Nat.le_of_ble_eq_true rfl) (Nat.le_of_ble_eq_true rfl) (by decide) (by decide) ?_
                      refine I_if_eq (tgt := 149) dX11_lineNow_127 (by decide) (b2p_R _) (fun h127 => ?_) (fun h127 => ?_)
                      · exact absurd h127 (by rw [b2p_t ((word_4 hT hb).mp w4).1]; omega)
                      · refine T_aload_n dX11_lineNow_130 rfl rfl ?_
                        refine I_iconst dX11_lineNow_131 ?_
                        refine I_iconst dX11_lineNow_132 ?_
                        refine I_bipush dX11_lineNow_133 (by decide) ?_
                        refine I_bipush dX11_lineNow_135 (by decide) ?_
                        refine I_bipush dX11_lineNow_137 (by decide) ?_
                        refine Q_callV dX11_lineNow_139 kX11_is lX11_79 (by assumption) rfl (p_is hM hr hT hk hb (by decide) ⟨by omega, by omega⟩ (by decide) (by decide) (by decide)) rfl rfl (Nat.le_of_ble_eq_true rfl) (Nat.le_of_ble_eq_true rfl) (by decide) (by decide) ?_
                        refine I_if_eq (tgt := 149) dX11_lineNow_142 (by decide) (b2p_R _) (fun h142 => ?_) (fun h142 => ?_)
                        · exact absurd h142 (by rw [b2p_t ((word_4 hT hb).mp w4).2]; omega)
                        · refine I_iconst dX11_lineNow_145 ?_
                          refine T_goto (tgt := 151) dX11_lineNow_146 (by decide) ?_
                          exact I_ireturn dX11_lineNow_151 rfl ⟨_, _, rfl, rfl, rfl, rfl⟩
                    · refine T_aload_n dX11_lineNow_98 rfl rfl ?_
                      refine I_iconst dX11_lineNow_99 ?_
                      refine I_iconst dX11_lineNow_100 ?_
                      refine I_bipush dX11_lineNow_101 (by decide) ?_
                      refine I_bipush dX11_lineNow_103 (by decide) ?_
                      refine I_bipush dX11_lineNow_105 (by decide) ?_
                      refine Q_callV dX11_lineNow_107 kX11_is lX11_79 (by assumption) rfl (p_is hM hr hT hk hb (by decide) ⟨by omega, by omega⟩ (by decide) (by decide) (by decide)) rfl rfl (Nat.le_of_ble_eq_true rfl) (Nat.le_of_ble_eq_true rfl) (by decide) (by decide) ?_
                      refine I_if_eq (tgt := 115) dX11_lineNow_110 (by decide) (b2p_R _) (fun h110 => ?_) (fun h110 => ?_)
                      · refine T_aload_n dX11_lineNow_115 rfl rfl ?_
                        refine I_iconst dX11_lineNow_116 ?_
                        refine I_iconst dX11_lineNow_117 ?_
                        refine I_bipush dX11_lineNow_118 (by decide) ?_
                        refine I_bipush dX11_lineNow_120 (by decide) ?_
                        refine I_bipush dX11_lineNow_122 (by decide) ?_
                        refine Q_callV dX11_lineNow_124 kX11_is lX11_79 (by assumption) rfl (p_is hM hr hT hk hb (by decide) ⟨by omega, by omega⟩ (by decide) (by decide) (by decide)) rfl rfl (Nat.le_of_ble_eq_true rfl) (Nat.le_of_ble_eq_true rfl) (by decide) (by decide) ?_
                        refine I_if_eq (tgt := 149) dX11_lineNow_127 (by decide) (b2p_R _) (fun h127 => ?_) (fun h127 => ?_)
                        · exact absurd h127 (by rw [b2p_t ((word_4 hT hb).mp w4).1]; omega)
                        · refine T_aload_n dX11_lineNow_130 rfl rfl ?_
                          refine I_iconst dX11_lineNow_131 ?_
                          refine I_iconst dX11_lineNow_132 ?_
                          refine I_bipush dX11_lineNow_133 (by decide) ?_
                          refine I_bipush dX11_lineNow_135 (by decide) ?_
                          refine I_bipush dX11_lineNow_137 (by decide) ?_
                          refine Q_callV dX11_lineNow_139 kX11_is lX11_79 (by assumption) rfl (p_is hM hr hT hk hb (by decide) ⟨by omega, by omega⟩ (by decide) (by decide) (by decide)) rfl rfl (Nat.le_of_ble_eq_true rfl) (Nat.le_of_ble_eq_true rfl) (by decide) (by decide) ?_
                          refine I_if_eq (tgt := 149) dX11_lineNow_142 (by decide) (b2p_R _) (fun h142 => ?_) (fun h142 => ?_)
                          · exact absurd h142 (by rw [b2p_t ((word_4 hT hb).mp w4).2]; omega)
                          · refine I_iconst dX11_lineNow_145 ?_
                            refine T_goto (tgt := 151) dX11_lineNow_146 (by decide) ?_
                            exact I_ireturn dX11_lineNow_151 rfl ⟨_, _, rfl, rfl, rfl, rfl⟩
                      · exact absurd ((word_3 hT hb).mpr ⟨b2p_of h95, b2p_of h110⟩) w3
                  · exact absurd ((word_2 hT hb).mpr (b2p_of h78)) w2
                · exact absurd ((word_1 hT hb).mpr ⟨b2p_of h45, b2p_of h61⟩) w1
            · refine T_aload_n dX11_lineNow_15 rfl rfl ?_
              refine I_iconst dX11_lineNow_16 ?_
              refine I_iconst dX11_lineNow_17 ?_
              refine I_bipush dX11_lineNow_18 (by decide) ?_
              refine I_bipush dX11_lineNow_20 (by decide) ?_
              refine I_bipush dX11_lineNow_22 (by decide) ?_
              refine Q_callV dX11_lineNow_24 kX11_is lX11_79 (by assumption) rfl (p_is hM hr hT hk hb (by decide) ⟨by omega, by omega⟩ (by decide) (by decide) (by decide)) rfl rfl (Nat.le_of_ble_eq_true rfl) (Nat.le_of_ble_eq_true rfl) (by decide) (by decide) ?_
              refine I_if_eq (tgt := 32) dX11_lineNow_27 (by decide) (b2p_R _) (fun h27 => ?_) (fun h27 => ?_)
              · refine T_aload_n dX11_lineNow_32 rfl rfl ?_
                refine I_bipush dX11_lineNow_33 (by decide) ?_
                refine I_iconst dX11_lineNow_35 ?_
                refine I_bipush dX11_lineNow_36 (by decide) ?_
                refine I_bipush dX11_lineNow_38 (by decide) ?_
                refine I_bipush dX11_lineNow_40 (by decide) ?_
                refine Q_callV dX11_lineNow_42 kX11_is lX11_79 (by assumption) rfl (p_is hM hr hT hk hb (by decide) ⟨by omega, by omega⟩ (by decide) (by decide) (by decide)) rfl rfl (Nat.le_of_ble_eq_true rfl) (Nat.le_of_ble_eq_true rfl) (by decide) (by decide) ?_
                refine I_if_eq (tgt := 66) dX11_lineNow_45 (by decide) (b2p_R _) (fun h45 => ?_) (fun h45 => ?_)
                · refine T_aload_n dX11_lineNow_66 rfl rfl ?_
                  refine I_iconst dX11_lineNow_67 ?_
                  refine I_iconst dX11_lineNow_68 ?_
                  refine I_bipush dX11_lineNow_69 (by decide) ?_
                  refine I_bipush dX11_lineNow_71 (by decide) ?_
                  refine I_bipush dX11_lineNow_73 (by decide) ?_
                  refine Q_callV dX11_lineNow_75 kX11_is lX11_79 (by assumption) rfl (p_is hM hr hT hk hb (by decide) ⟨by omega, by omega⟩ (by decide) (by decide) (by decide)) rfl rfl (Nat.le_of_ble_eq_true rfl) (Nat.le_of_ble_eq_true rfl) (by decide) (by decide) ?_
                  refine I_if_eq (tgt := 83) dX11_lineNow_78 (by decide) (b2p_R _) (fun h78 => ?_) (fun h78 => ?_)
                  · refine T_aload_n dX11_lineNow_83 rfl rfl ?_
                    refine I_iconst dX11_lineNow_84 ?_
                    refine I_iconst dX11_lineNow_85 ?_
                    refine I_bipush dX11_lineNow_86 (by decide) ?_
                    refine I_bipush dX11_lineNow_88 (by decide) ?_
                    refine I_bipush dX11_lineNow_90 (by decide) ?_
                    refine Q_callV dX11_lineNow_92 kX11_is lX11_79 (by assumption) rfl (p_is hM hr hT hk hb (by decide) ⟨by omega, by omega⟩ (by decide) (by decide) (by decide)) rfl rfl (Nat.le_of_ble_eq_true rfl) (Nat.le_of_ble_eq_true rfl) (by decide) (by decide) ?_
                    refine I_if_eq (tgt := 115) dX11_lineNow_95 (by decide) (b2p_R _) (fun h95 => ?_) (fun h95 => ?_)
                    · refine T_aload_n dX11_lineNow_115 rfl rfl ?_
                      refine I_iconst dX11_lineNow_116 ?_
                      refine I_iconst dX11_lineNow_117 ?_
                      refine I_bipush dX11_lineNow_118 (by decide) ?_
                      refine I_bipush dX11_lineNow_120 (by decide) ?_
                      refine I_bipush dX11_lineNow_122 (by decide) ?_
                      refine Q_callV dX11_lineNow_124 kX11_is lX11_79 (by assumption) rfl (p_is hM hr hT hk hb (by decide) ⟨by omega, by omega⟩ (by decide) (by decide) (by decide)) rfl rfl (Nat.le_of_ble_eq_true rfl) (Nat.le_of_ble_eq_true rfl) (by decide) (by decide) ?_
                      refine I_if_eq (tgt := 149) dX11_lineNow_127 (by decide) (b2p_R _) (fun h127 => ?_) (fun h127 => ?_)
                      · exact absurd h127 (by rw [b2p_t ((word_4 hT hb).mp w4).1]; omega)
                      · refine T_aload_n dX11_lineNow_130 rfl rfl ?_
                        refine I_iconst dX11_lineNow_131 ?_
                        refine I_iconst dX11_lineNow_132 ?_
                        refine I_bipush dX11_lineNow_133 (by decide) ?_
                        refine I_bipush dX11_lineNow_135 (by decide) ?_
                        refine I_bipush dX11_lineNow_137 (by decide) ?_
                        refine Q_callV dX11_lineNow_139 kX11_is lX11_79 (by assumption) rfl (p_is hM hr hT hk hb (by decide) ⟨by omega, by omega⟩ (by decide) (by decide) (by decide)) rfl rfl (Nat.le_of_ble_eq_true rfl) (Nat.le_of_ble_eq_true rfl) (by decide) (by decide) ?_
                        refine I_if_eq (tgt := 149) dX11_lineNow_142 (by decide) (b2p_R _) (fun h142 => ?_) (fun h142 => ?_)
                        · exact absurd h142 (by rw [b2p_t ((word_4 hT hb).mp w4).2]; omega)
                        · refine I_iconst dX11_lineNow_145 ?_
                          refine T_goto (tgt := 151) dX11_lineNow_146 (by decide) ?_
                          exact I_ireturn dX11_lineNow_151 rfl ⟨_, _, rfl, rfl, rfl, rfl⟩
                    · refine T_aload_n dX11_lineNow_98 rfl rfl ?_
                      refine I_iconst dX11_lineNow_99 ?_
                      refine I_iconst dX11_lineNow_100 ?_
                      refine I_bipush dX11_lineNow_101 (by decide) ?_
                      refine I_bipush dX11_lineNow_103 (by decide) ?_
                      refine I_bipush dX11_lineNow_105 (by decide) ?_
                      refine Q_callV dX11_lineNow_107 kX11_is lX11_79 (by assumption) rfl (p_is hM hr hT hk hb (by decide) ⟨by omega, by omega⟩ (by decide) (by decide) (by decide)) rfl rfl (Nat.le_of_ble_eq_true rfl) (Nat.le_of_ble_eq_true rfl) (by decide) (by decide) ?_
                      refine I_if_eq (tgt := 115) dX11_lineNow_110 (by decide) (b2p_R _) (fun h110 => ?_) (fun h110 => ?_)
                      · refine T_aload_n dX11_lineNow_115 rfl rfl ?_
                        refine I_iconst dX11_lineNow_116 ?_
                        refine I_iconst dX11_lineNow_117 ?_
                        refine I_bipush dX11_lineNow_118 (by decide) ?_
                        refine I_bipush dX11_lineNow_120 (by decide) ?_
                        refine I_bipush dX11_lineNow_122 (by decide) ?_
                        refine Q_callV dX11_lineNow_124 kX11_is lX11_79 (by assumption) rfl (p_is hM hr hT hk hb (by decide) ⟨by omega, by omega⟩ (by decide) (by decide) (by decide)) rfl rfl (Nat.le_of_ble_eq_true rfl) (Nat.le_of_ble_eq_true rfl) (by decide) (by decide) ?_
                        refine I_if_eq (tgt := 149) dX11_lineNow_127 (by decide) (b2p_R _) (fun h127 => ?_) (fun h127 => ?_)
                        · exact absurd h127 (by rw [b2p_t ((word_4 hT hb).mp w4).1]; omega)
                        · refine T_aload_n dX11_lineNow_130 rfl rfl ?_
                          refine I_iconst dX11_lineNow_131 ?_
                          refine I_iconst dX11_lineNow_132 ?_
                          refine I_bipush dX11_lineNow_133 (by decide) ?_
                          refine I_bipush dX11_lineNow_135 (by decide) ?_
                          refine I_bipush dX11_lineNow_137 (by decide) ?_
                          refine Q_callV dX11_lineNow_139 kX11_is lX11_79 (by assumption) rfl (p_is hM hr hT hk hb (by decide) ⟨by omega, by omega⟩ (by decide) (by decide) (by decide)) rfl rfl (Nat.le_of_ble_eq_true rfl) (Nat.le_of_ble_eq_true rfl) (by decide) (by decide) ?_
                          refine I_if_eq (tgt := 149) dX11_lineNow_142 (by decide) (b2p_R _) (fun h142 => ?_) (fun h142 => ?_)
                          · exact absurd h142 (by rw [b2p_t ((word_4 hT hb).mp w4).2]; omega)
                          · refine I_iconst dX11_lineNow_145 ?_
                            refine T_goto (tgt := 151) dX11_lineNow_146 (by decide) ?_
                            exact I_ireturn dX11_lineNow_151 rfl ⟨_, _, rfl, rfl, rfl, rfl⟩
                      · exact absurd ((word_3 hT hb).mpr ⟨b2p_of h95, b2p_of h110⟩) w3
                  · exact absurd ((word_2 hT hb).mpr (b2p_of h78)) w2
                · refine T_aload_n dX11_lineNow_48 rfl rfl ?_
                  refine I_bipush dX11_lineNow_49 (by decide) ?_
                  refine I_iconst dX11_lineNow_51 ?_
                  refine I_bipush dX11_lineNow_52 (by decide) ?_
                  refine I_bipush dX11_lineNow_54 (by decide) ?_
                  refine I_bipush dX11_lineNow_56 (by decide) ?_
                  refine Q_callV dX11_lineNow_58 kX11_is lX11_79 (by assumption) rfl (p_is hM hr hT hk hb (by decide) ⟨by omega, by omega⟩ (by decide) (by decide) (by decide)) rfl rfl (Nat.le_of_ble_eq_true rfl) (Nat.le_of_ble_eq_true rfl) (by decide) (by decide) ?_
                  refine I_if_eq (tgt := 66) dX11_lineNow_61 (by decide) (b2p_R _) (fun h61 => ?_) (fun h61 => ?_)
                  · refine T_aload_n dX11_lineNow_66 rfl rfl ?_
                    refine I_iconst dX11_lineNow_67 ?_
                    refine I_iconst dX11_lineNow_68 ?_
                    refine I_bipush dX11_lineNow_69 (by decide) ?_
                    refine I_bipush dX11_lineNow_71 (by decide) ?_
                    refine I_bipush dX11_lineNow_73 (by decide) ?_
                    refine Q_callV dX11_lineNow_75 kX11_is lX11_79 (by assumption) rfl (p_is hM hr hT hk hb (by decide) ⟨by omega, by omega⟩ (by decide) (by decide) (by decide)) rfl rfl (Nat.le_of_ble_eq_true rfl) (Nat.le_of_ble_eq_true rfl) (by decide) (by decide) ?_
                    refine I_if_eq (tgt := 83) dX11_lineNow_78 (by decide) (b2p_R _) (fun h78 => ?_) (fun h78 => ?_)
                    · refine T_aload_n dX11_lineNow_83 rfl rfl ?_
                      refine I_iconst dX11_lineNow_84 ?_
                      refine I_iconst dX11_lineNow_85 ?_
                      refine I_bipush dX11_lineNow_86 (by decide) ?_
                      refine I_bipush dX11_lineNow_88 (by decide) ?_
                      refine I_bipush dX11_lineNow_90 (by decide) ?_
                      refine Q_callV dX11_lineNow_92 kX11_is lX11_79 (by assumption) rfl (p_is hM hr hT hk hb (by decide) ⟨by omega, by omega⟩ (by decide) (by decide) (by decide)) rfl rfl (Nat.le_of_ble_eq_true rfl) (Nat.le_of_ble_eq_true rfl) (by decide) (by decide) ?_
                      refine I_if_eq (tgt := 115) dX11_lineNow_95 (by decide) (b2p_R _) (fun h95 => ?_) (fun h95 => ?_)
                      · refine T_aload_n dX11_lineNow_115 rfl rfl ?_
                        refine I_iconst dX11_lineNow_116 ?_
                        refine I_iconst dX11_lineNow_117 ?_
                        refine I_bipush dX11_lineNow_118 (by decide) ?_
                        refine I_bipush dX11_lineNow_120 (by decide) ?_
                        refine I_bipush dX11_lineNow_122 (by decide) ?_
                        refine Q_callV dX11_lineNow_124 kX11_is lX11_79 (by assumption) rfl (p_is hM hr hT hk hb (by decide) ⟨by omega, by omega⟩ (by decide) (by decide) (by decide)) rfl rfl (Nat.le_of_ble_eq_true rfl) (Nat.le_of_ble_eq_true rfl) (by decide) (by decide) ?_
                        refine I_if_eq (tgt := 149) dX11_lineNow_127 (by decide) (b2p_R _) (fun h127 => ?_) (fun h127 => ?_)
                        · exact absurd h127 (by rw [b2p_t ((word_4 hT hb).mp w4).1]; omega)
                        · refine T_aload_n dX11_lineNow_130 rfl rfl ?_
                          refine I_iconst dX11_lineNow_131 ?_
                          refine I_iconst dX11_lineNow_132 ?_
                          refine I_bipush dX11_lineNow_133 (by decide) ?_
                          refine I_bipush dX11_lineNow_135 (by decide) ?_
                          refine I_bipush dX11_lineNow_137 (by decide) ?_
                          refine Q_callV dX11_lineNow_139 kX11_is lX11_79 (by assumption) rfl (p_is hM hr hT hk hb (by decide) ⟨by omega, by omega⟩ (by decide) (by decide) (by decide)) rfl rfl (Nat.le_of_ble_eq_true rfl) (Nat.le_of_ble_eq_true rfl) (by decide) (by decide) ?_
                          refine I_if_eq (tgt := 149) dX11_lineNow_142 (by decide) (b2p_R _) (fun h142 => ?_) (fun h142 => ?_)
                          · exact absurd h142 (by rw [b2p_t ((word_4 hT hb).mp w4).2]; omega)
                          · refine I_iconst dX11_lineNow_145 ?_
                            refine T_goto (tgt := 151) dX11_lineNow_146 (by decide) ?_
                            exact I_ireturn dX11_lineNow_151 rfl ⟨_, _, rfl, rfl, rfl, rfl⟩
                      · refine T_aload_n dX11_lineNow_98 rfl rfl ?_
                        refine I_iconst dX11_lineNow_99 ?_
                        refine I_iconst dX11_lineNow_100 ?_
                        refine I_bipush dX11_lineNow_101 (by decide) ?_
                        refine I_bipush dX11_lineNow_103 (by decide) ?_
                        refine I_bipush dX11_lineNow_105 (by decide) ?_
                        refine Q_callV dX11_lineNow_107 kX11_is lX11_79 (by assumption) rfl (p_is hM hr hT hk hb (by decide) ⟨by omega, by omega⟩ (by decide) (by decide) (by decide)) rfl rfl (Nat.le_of_ble_eq_true rfl) (Nat.le_of_ble_eq_true rfl) (by decide) (by decide) ?_
                        refine I_if_eq (tgt := 115) dX11_lineNow_110 (by decide) (b2p_R _) (fun h110 => ?_) (fun h110 => ?_)
                        · refine T_aload_n dX11_lineNow_115 rfl rfl ?_
                          refine I_iconst dX11_lineNow_116 ?_
                          refine I_iconst dX11_lineNow_117 ?_
                          refine I_bipush dX11_lineNow_118 (by decide) ?_
                          refine I_bipush dX11_lineNow_120 (by decide) ?_
                          refine I_bipush dX11_lineNow_122 (by decide) ?_
                          refine Q_callV dX11_lineNow_124 kX11_is lX11_79 (by assumption) rfl (p_is hM hr hT hk hb (by decide) ⟨by omega, by omega⟩ (by decide) (by decide) (by decide)) rfl rfl (Nat.le_of_ble_eq_true rfl) (Nat.le_of_ble_eq_true rfl) (by decide) (by decide) ?_
                          refine I_if_eq (tgt := 149) dX11_lineNow_127 (by decide) (b2p_R _) (fun h127 => ?_) (fun h127 => ?_)
                          · exact absurd h127 (by rw [b2p_t ((word_4 hT hb).mp w4).1]; omega)
                          · refine T_aload_n dX11_lineNow_130 rfl rfl ?_
                            refine I_iconst dX11_lineNow_131 ?_
                            refine I_iconst dX11_lineNow_132 ?_
                            refine I_bipush dX11_lineNow_133 (by decide) ?_
                            refine I_bipush dX11_lineNow_135 (by decide) ?_
                            refine I_bipush dX11_lineNow_137 (by decide) ?_
                            refine Q_callV dX11_lineNow_139 kX11_is lX11_79 (by assumption) rfl (p_is hM hr hT hk hb (by decide) ⟨by omega, by omega⟩ (by decide) (by decide) (by decide)) rfl rfl (Nat.le_of_ble_eq_true rfl) (Nat.le_of_ble_eq_true rfl) (by decide) (by decide) ?_
                            refine I_if_eq (tgt := 149) dX11_lineNow_142 (by decide) (b2p_R _) (fun h142 => ?_) (fun h142 => ?_)
                            · exact absurd h142 (by rw [b2p_t ((word_4 hT hb).mp w4).2]; omega)
                            · refine I_iconst dX11_lineNow_145 ?_
                              refine T_goto (tgt := 151) dX11_lineNow_146 (by decide) ?_
                              exact I_ireturn dX11_lineNow_151 rfl ⟨_, _, rfl, rfl, rfl, rfl⟩
                        · exact absurd ((word_3 hT hb).mpr ⟨b2p_of h95, b2p_of h110⟩) w3
                    · exact absurd ((word_2 hT hb).mpr (b2p_of h78)) w2
                  · exact absurd ((word_1 hT hb).mpr ⟨b2p_of h45, b2p_of h61⟩) w1
              · exact absurd ((word_0 hT hb).mpr ⟨b2p_of h12, b2p_of h27⟩) w0
          · have hv : lnM tp t = -4 := by unfold lnM; rw [if_neg w0, if_neg w1, if_neg w2, if_neg w3, if_neg w4]
            rw [hv]
            rw [show LE mX11_lineNow [.ref 453] = [some (.ref 453)] from rfl]
            refine T_aload_n dX11_lineNow_0 rfl rfl ?_
            refine I_iconst dX11_lineNow_1 ?_
            refine I_iconst dX11_lineNow_2 ?_
            refine I_bipush dX11_lineNow_3 (by decide) ?_
            refine I_bipush dX11_lineNow_5 (by decide) ?_
            refine I_bipush dX11_lineNow_7 (by decide) ?_
            refine Q_callV dX11_lineNow_9 kX11_is lX11_79 (by assumption) rfl (p_is hM hr hT hk hb (by decide) ⟨by omega, by omega⟩ (by decide) (by decide) (by decide)) rfl rfl (Nat.le_of_ble_eq_true rfl) (Nat.le_of_ble_eq_true rfl) (by decide) (by decide) ?_
            refine I_if_eq (tgt := 32) dX11_lineNow_12 (by decide) (b2p_R _) (fun h12 => ?_) (fun h12 => ?_)
            · refine T_aload_n dX11_lineNow_32 rfl rfl ?_
              refine I_bipush dX11_lineNow_33 (by decide) ?_
              refine I_iconst dX11_lineNow_35 ?_
              refine I_bipush dX11_lineNow_36 (by decide) ?_
              refine I_bipush dX11_lineNow_38 (by decide) ?_
              refine I_bipush dX11_lineNow_40 (by decide) ?_
              refine Q_callV dX11_lineNow_42 kX11_is lX11_79 (by assumption) rfl (p_is hM hr hT hk hb (by decide) ⟨by omega, by omega⟩ (by decide) (by decide) (by decide)) rfl rfl (Nat.le_of_ble_eq_true rfl) (Nat.le_of_ble_eq_true rfl) (by decide) (by decide) ?_
              refine I_if_eq (tgt := 66) dX11_lineNow_45 (by decide) (b2p_R _) (fun h45 => ?_) (fun h45 => ?_)
              · refine T_aload_n dX11_lineNow_66 rfl rfl ?_
                refine I_iconst dX11_lineNow_67 ?_
                refine I_iconst dX11_lineNow_68 ?_
                refine I_bipush dX11_lineNow_69 (by decide) ?_
                refine I_bipush dX11_lineNow_71 (by decide) ?_
                refine I_bipush dX11_lineNow_73 (by decide) ?_
                refine Q_callV dX11_lineNow_75 kX11_is lX11_79 (by assumption) rfl (p_is hM hr hT hk hb (by decide) ⟨by omega, by omega⟩ (by decide) (by decide) (by decide)) rfl rfl (Nat.le_of_ble_eq_true rfl) (Nat.le_of_ble_eq_true rfl) (by decide) (by decide) ?_
                refine I_if_eq (tgt := 83) dX11_lineNow_78 (by decide) (b2p_R _) (fun h78 => ?_) (fun h78 => ?_)
                · refine T_aload_n dX11_lineNow_83 rfl rfl ?_
                  refine I_iconst dX11_lineNow_84 ?_
                  refine I_iconst dX11_lineNow_85 ?_
                  refine I_bipush dX11_lineNow_86 (by decide) ?_
                  refine I_bipush dX11_lineNow_88 (by decide) ?_
                  refine I_bipush dX11_lineNow_90 (by decide) ?_
                  refine Q_callV dX11_lineNow_92 kX11_is lX11_79 (by assumption) rfl (p_is hM hr hT hk hb (by decide) ⟨by omega, by omega⟩ (by decide) (by decide) (by decide)) rfl rfl (Nat.le_of_ble_eq_true rfl) (Nat.le_of_ble_eq_true rfl) (by decide) (by decide) ?_
                  refine I_if_eq (tgt := 115) dX11_lineNow_95 (by decide) (b2p_R _) (fun h95 => ?_) (fun h95 => ?_)
                  · refine T_aload_n dX11_lineNow_115 rfl rfl ?_
                    refine I_iconst dX11_lineNow_116 ?_
                    refine I_iconst dX11_lineNow_117 ?_
                    refine I_bipush dX11_lineNow_118 (by decide) ?_
                    refine I_bipush dX11_lineNow_120 (by decide) ?_
                    refine I_bipush dX11_lineNow_122 (by decide) ?_
                    refine Q_callV dX11_lineNow_124 kX11_is lX11_79 (by assumption) rfl (p_is hM hr hT hk hb (by decide) ⟨by omega, by omega⟩ (by decide) (by decide) (by decide)) rfl rfl (Nat.le_of_ble_eq_true rfl) (Nat.le_of_ble_eq_true rfl) (by decide) (by decide) ?_
                    refine I_if_eq (tgt := 149) dX11_lineNow_127 (by decide) (b2p_R _) (fun h127 => ?_) (fun h127 => ?_)
                    · refine I_bipush dX11_lineNow_149 (by decide) ?_
                      exact I_ireturn dX11_lineNow_151 rfl ⟨_, _, rfl, rfl, rfl, rfl⟩
                    · refine T_aload_n dX11_lineNow_130 rfl rfl ?_
                      refine I_iconst dX11_lineNow_131 ?_
                      refine I_iconst dX11_lineNow_132 ?_
                      refine I_bipush dX11_lineNow_133 (by decide) ?_
                      refine I_bipush dX11_lineNow_135 (by decide) ?_
                      refine I_bipush dX11_lineNow_137 (by decide) ?_
                      refine Q_callV dX11_lineNow_139 kX11_is lX11_79 (by assumption) rfl (p_is hM hr hT hk hb (by decide) ⟨by omega, by omega⟩ (by decide) (by decide) (by decide)) rfl rfl (Nat.le_of_ble_eq_true rfl) (Nat.le_of_ble_eq_true rfl) (by decide) (by decide) ?_
                      refine I_if_eq (tgt := 149) dX11_lineNow_142 (by decide) (b2p_R _) (fun h142 => ?_) (fun h142 => ?_)
                      · refine I_bipush dX11_lineNow_149 (by decide) ?_
                        exact I_ireturn dX11_lineNow_151 rfl ⟨_, _, rfl, rfl, rfl, rfl⟩
                      · exact absurd ((word_4 hT hb).mpr ⟨b2p_of h127, b2p_of h142⟩) w4
                  · refine T_aload_n dX11_lineNow_98 rfl rfl ?_
                    refine I_iconst dX11_lineNow_99 ?_
                    refine I_iconst dX11_lineNow_100 ?_
                    refine I_bipush dX11_lineNow_101 (by decide) ?_
                    refine I_bipush dX11_lineNow_103 (by decide) ?_
                    refine I_bipush dX11_lineNow_105 (by decide) ?_
                    refine Q_callV dX11_lineNow_107 kX11_is lX11_79 (by assumption) rfl (p_is hM hr hT hk hb (by decide) ⟨by omega, by omega⟩ (by decide) (by decide) (by decide)) rfl rfl (Nat.le_of_ble_eq_true rfl) (Nat.le_of_ble_eq_true rfl) (by decide) (by decide) ?_
                    refine I_if_eq (tgt := 115) dX11_lineNow_110 (by decide) (b2p_R _) (fun h110 => ?_) (fun h110 => ?_)
                    · refine T_aload_n dX11_lineNow_115 rfl rfl ?_
                      refine I_iconst dX11_lineNow_116 ?_
                      refine I_iconst dX11_lineNow_117 ?_
                      refine I_bipush dX11_lineNow_118 (by decide) ?_
                      refine I_bipush dX11_lineNow_120 (by decide) ?_
                      refine I_bipush dX11_lineNow_122 (by decide) ?_
                      refine Q_callV dX11_lineNow_124 kX11_is lX11_79 (by assumption) rfl (p_is hM hr hT hk hb (by decide) ⟨by omega, by omega⟩ (by decide) (by decide) (by decide)) rfl rfl (Nat.le_of_ble_eq_true rfl) (Nat.le_of_ble_eq_true rfl) (by decide) (by decide) ?_
                      refine I_if_eq (tgt := 149) dX11_lineNow_127 (by decide) (b2p_R _) (fun h127 => ?_) (fun h127 => ?_)
                      · refine I_bipush dX11_lineNow_149 (by decide) ?_
                        exact I_ireturn dX11_lineNow_151 rfl ⟨_, _, rfl, rfl, rfl, rfl⟩
                      · refine T_aload_n dX11_lineNow_130 rfl rfl ?_
                        refine I_iconst dX11_lineNow_131 ?_
                        refine I_iconst dX11_lineNow_132 ?_
                        refine I_bipush dX11_lineNow_133 (by decide) ?_
                        refine I_bipush dX11_lineNow_135 (by decide) ?_
                        refine I_bipush dX11_lineNow_137 (by decide) ?_
                        refine Q_callV dX11_lineNow_139 kX11_is lX11_79 (by assumption) rfl (p_is hM hr hT hk hb (by decide) ⟨by omega, by omega⟩ (by decide) (by decide) (by decide)) rfl rfl (Nat.le_of_ble_eq_true rfl) (Nat.le_of_ble_eq_true rfl) (by decide) (by decide) ?_
                        refine I_if_eq (tgt := 149) dX11_lineNow_142 (by decide) (b2p_R _) (fun h142 => ?_) (fun h142 => ?_)
                        · refine I_bipush dX11_lineNow_149 (by decide) ?_
                          exact I_ireturn dX11_lineNow_151 rfl ⟨_, _, rfl, rfl, rfl, rfl⟩
                        · exact absurd ((word_4 hT hb).mpr ⟨b2p_of h127, b2p_of h142⟩) w4
                    · exact absurd ((word_3 hT hb).mpr ⟨b2p_of h95, b2p_of h110⟩) w3
                · exact absurd ((word_2 hT hb).mpr (b2p_of h78)) w2
              · refine T_aload_n dX11_lineNow_48 rfl rfl ?_
                refine I_bipush dX11_lineNow_49 (by decide) ?_
                refine I_iconst dX11_lineNow_51 ?_
                refine I_bipush dX11_lineNow_52 (by decide) ?_
                refine I_bipush dX11_lineNow_54 (by decide) ?_
                refine I_bipush dX11_lineNow_56 (by decide) ?_
                refine Q_callV dX11_lineNow_58 kX11_is lX11_79 (by assumption) rfl (p_is hM hr hT hk hb (by decide) ⟨by omega, by omega⟩ (by decide) (by decide) (by decide)) rfl rfl (Nat.le_of_ble_eq_true rfl) (Nat.le_of_ble_eq_true rfl) (by decide) (by decide) ?_
                refine I_if_eq (tgt := 66) dX11_lineNow_61 (by decide) (b2p_R _) (fun h61 => ?_) (fun h61 => ?_)
                · refine T_aload_n dX11_lineNow_66 rfl rfl ?_
                  refine I_iconst dX11_lineNow_67 ?_
                  refine I_iconst dX11_lineNow_68 ?_
                  refine I_bipush dX11_lineNow_69 (by decide) ?_
                  refine I_bipush dX11_lineNow_71 (by decide) ?_
                  refine I_bipush dX11_lineNow_73 (by decide) ?_
                  refine Q_callV dX11_lineNow_75 kX11_is lX11_79 (by assumption) rfl (p_is hM hr hT hk hb (by decide) ⟨by omega, by omega⟩ (by decide) (by decide) (by decide)) rfl rfl (Nat.le_of_ble_eq_true rfl) (Nat.le_of_ble_eq_true rfl) (by decide) (by decide) ?_
                  refine I_if_eq (tgt := 83) dX11_lineNow_78 (by decide) (b2p_R _) (fun h78 => ?_) (fun h78 => ?_)
                  · refine T_aload_n dX11_lineNow_83 rfl rfl ?_
                    refine I_iconst dX11_lineNow_84 ?_
                    refine I_iconst dX11_lineNow_85 ?_
                    refine I_bipush dX11_lineNow_86 (by decide) ?_
                    refine I_bipush dX11_lineNow_88 (by decide) ?_
                    refine I_bipush dX11_lineNow_90 (by decide) ?_
                    refine Q_callV dX11_lineNow_92 kX11_is lX11_79 (by assumption) rfl (p_is hM hr hT hk hb (by decide) ⟨by omega, by omega⟩ (by decide) (by decide) (by decide)) rfl rfl (Nat.le_of_ble_eq_true rfl) (Nat.le_of_ble_eq_true rfl) (by decide) (by decide) ?_
                    refine I_if_eq (tgt := 115) dX11_lineNow_95 (by decide) (b2p_R _) (fun h95 => ?_) (fun h95 => ?_)
                    · refine T_aload_n dX11_lineNow_115 rfl rfl ?_
                      refine I_iconst dX11_lineNow_116 ?_
                      refine I_iconst dX11_lineNow_117 ?_
                      refine I_bipush dX11_lineNow_118 (by decide) ?_
                      refine I_bipush dX11_lineNow_120 (by decide) ?_
                      refine I_bipush dX11_lineNow_122 (by decide) ?_
                      refine Q_callV dX11_lineNow_124 kX11_is lX11_79 (by assumption) rfl (p_is hM hr hT hk hb (by decide) ⟨by omega, by omega⟩ (by decide) (by decide) (by decide)) rfl rfl (Nat.le_of_ble_eq_true rfl) (Nat.le_of_ble_eq_true rfl) (by decide) (by decide) ?_
                      refine I_if_eq (tgt := 149) dX11_lineNow_127 (by decide) (b2p_R _) (fun h127 => ?_) (fun h127 => ?_)
                      · refine I_bipush dX11_lineNow_149 (by decide) ?_
                        exact I_ireturn dX11_lineNow_151 rfl ⟨_, _, rfl, rfl, rfl, rfl⟩
                      · refine T_aload_n dX11_lineNow_130 rfl rfl ?_
                        refine I_iconst dX11_lineNow_131 ?_
                        refine I_iconst dX11_lineNow_132 ?_
                        refine I_bipush dX11_lineNow_133 (by decide) ?_
                        refine I_bipush dX11_lineNow_135 (by decide) ?_
                        refine I_bipush dX11_lineNow_137 (by decide) ?_
                        refine Q_callV dX11_lineNow_139 kX11_is lX11_79 (by assumption) rfl (p_is hM hr hT hk hb (by decide) ⟨by omega, by omega⟩ (by decide) (by decide) (by decide)) rfl rfl (Nat.le_of_ble_eq_true rfl) (Nat.le_of_ble_eq_true rfl) (by decide) (by decide) ?_
                        refine I_if_eq (tgt := 149) dX11_lineNow_142 (by decide) (b2p_R _) (fun h142 => ?_) (fun h142 => ?_)
                        · refine I_bipush dX11_lineNow_149 (by decide) ?_
                          exact I_ireturn dX11_lineNow_151 rfl ⟨_, _, rfl, rfl, rfl, rfl⟩
                        · exact absurd ((word_4 hT hb).mpr ⟨b2p_of h127, b2p_of h142⟩) w4
                    · refine T_aload_n dX11_lineNow_98 rfl rfl ?_
                      refine I_iconst dX11_lineNow_99 ?_
                      refine I_iconst dX11_lineNow_100 ?_
                      refine I_bipush dX11_lineNow_101 (by decide) ?_
                      refine I_bipush dX11_lineNow_103 (by decide) ?_
                      refine I_bipush dX11_lineNow_105 (by decide) ?_
                      refine Q_callV dX11_lineNow_107 kX11_is lX11_79 (by assumption) rfl (p_is hM hr hT hk hb (by decide) ⟨by omega, by omega⟩ (by decide) (by decide) (by decide)) rfl rfl (Nat.le_of_ble_eq_true rfl) (Nat.le_of_ble_eq_true rfl) (by decide) (by decide) ?_
                      refine I_if_eq (tgt := 115) dX11_lineNow_110 (by decide) (b2p_R _) (fun h110 => ?_) (fun h110 => ?_)
                      · refine T_aload_n dX11_lineNow_115 rfl rfl ?_
                        refine I_iconst dX11_lineNow_116 ?_
                        refine I_iconst dX11_lineNow_117 ?_
                        refine I_bipush dX11_lineNow_118 (by decide) ?_
                        refine I_bipush dX11_lineNow_120 (by decide) ?_
                        refine I_bipush dX11_lineNow_122 (by decide) ?_
                        refine Q_callV dX11_lineNow_124 kX11_is lX11_79 (by assumption) rfl (p_is hM hr hT hk hb (by decide) ⟨by omega, by omega⟩ (by decide) (by decide) (by decide)) rfl rfl (Nat.le_of_ble_eq_true rfl) (Nat.le_of_ble_eq_true rfl) (by decide) (by decide) ?_
                        refine I_if_eq (tgt := 149) dX11_lineNow_127 (by decide) (b2p_R _) (fun h127 => ?_) (fun h127 => ?_)
                        · refine I_bipush dX11_lineNow_149 (by decide) ?_
                          exact I_ireturn dX11_lineNow_151 rfl ⟨_, _, rfl, rfl, rfl, rfl⟩
                        · refine T_aload_n dX11_lineNow_130 rfl rfl ?_
                          refine I_iconst dX11_lineNow_131 ?_
                          refine I_iconst dX11_lineNow_132 ?_
                          refine I_bipush dX11_lineNow_133 (by decide) ?_
                          refine I_bipush dX11_lineNow_135 (by decide) ?_
                          refine I_bipush dX11_lineNow_137 (by decide) ?_
                          refine Q_callV dX11_lineNow_139 kX11_is lX11_79 (by assumption) rfl (p_is hM hr hT hk hb (by decide) ⟨by omega, by omega⟩ (by decide) (by decide) (by decide)) rfl rfl (Nat.le_of_ble_eq_true rfl) (Nat.le_of_ble_eq_true rfl) (by decide) (by decide) ?_
                          refine I_if_eq (tgt := 149) dX11_lineNow_142 (by decide) (b2p_R _) (fun h142 => ?_) (fun h142 => ?_)
                          · refine I_bipush dX11_lineNow_149 (by decide) ?_
                            exact I_ireturn dX11_lineNow_151 rfl ⟨_, _, rfl, rfl, rfl, rfl⟩
                          · exact absurd ((word_4 hT hb).mpr ⟨b2p_of h127, b2p_of h142⟩) w4
                      · exact absurd ((word_3 hT hb).mpr ⟨b2p_of h95, b2p_of h110⟩) w3
                  · exact absurd ((word_2 hT hb).mpr (b2p_of h78)) w2
                · exact absurd ((word_1 hT hb).mpr ⟨b2p_of h45, b2p_of h61⟩) w1
            · refine T_aload_n dX11_lineNow_15 rfl rfl ?_
              refine I_iconst dX11_lineNow_16 ?_
              refine I_iconst dX11_lineNow_17 ?_
              refine I_bipush dX11_lineNow_18 (by decide) ?_
              refine I_bipush dX11_lineNow_20 (by decide) ?_
              refine I_bipush dX11_lineNow_22 (by decide) ?_
              refine Q_callV dX11_lineNow_24 kX11_is lX11_79 (by assumption) rfl (p_is hM hr hT hk hb (by decide) ⟨by omega, by omega⟩ (by decide) (by decide) (by decide)) rfl rfl (Nat.le_of_ble_eq_true rfl) (Nat.le_of_ble_eq_true rfl) (by decide) (by decide) ?_
              refine I_if_eq (tgt := 32) dX11_lineNow_27 (by decide) (b2p_R _) (fun h27 => ?_) (fun h27 => ?_)
              · refine T_aload_n dX11_lineNow_32 rfl rfl ?_
                refine I_bipush dX11_lineNow_33 (by decide) ?_
                refine I_iconst dX11_lineNow_35 ?_
                refine I_bipush dX11_lineNow_36 (by decide) ?_
                refine I_bipush dX11_lineNow_38 (by decide) ?_
                refine I_bipush dX11_lineNow_40 (by decide) ?_
                refine Q_callV dX11_lineNow_42 kX11_is lX11_79 (by assumption) rfl (p_is hM hr hT hk hb (by decide) ⟨by omega, by omega⟩ (by decide) (by decide) (by decide)) rfl rfl (Nat.le_of_ble_eq_true rfl) (Nat.le_of_ble_eq_true rfl) (by decide) (by decide) ?_
                refine I_if_eq (tgt := 66) dX11_lineNow_45 (by decide) (b2p_R _) (fun h45 => ?_) (fun h45 => ?_)
                · refine T_aload_n dX11_lineNow_66 rfl rfl ?_
                  refine I_iconst dX11_lineNow_67 ?_
                  refine I_iconst dX11_lineNow_68 ?_
                  refine I_bipush dX11_lineNow_69 (by decide) ?_
                  refine I_bipush dX11_lineNow_71 (by decide) ?_
                  refine I_bipush dX11_lineNow_73 (by decide) ?_
                  refine Q_callV dX11_lineNow_75 kX11_is lX11_79 (by assumption) rfl (p_is hM hr hT hk hb (by decide) ⟨by omega, by omega⟩ (by decide) (by decide) (by decide)) rfl rfl (Nat.le_of_ble_eq_true rfl) (Nat.le_of_ble_eq_true rfl) (by decide) (by decide) ?_
                  refine I_if_eq (tgt := 83) dX11_lineNow_78 (by decide) (b2p_R _) (fun h78 => ?_) (fun h78 => ?_)
                  · refine T_aload_n dX11_lineNow_83 rfl rfl ?_
                    refine I_iconst dX11_lineNow_84 ?_
                    refine I_iconst dX11_lineNow_85 ?_
                    refine I_bipush dX11_lineNow_86 (by decide) ?_
                    refine I_bipush dX11_lineNow_88 (by decide) ?_
                    refine I_bipush dX11_lineNow_90 (by decide) ?_
                    refine Q_callV dX11_lineNow_92 kX11_is lX11_79 (by assumption) rfl (p_is hM hr hT hk hb (by decide) ⟨by omega, by omega⟩ (by decide) (by decide) (by decide)) rfl rfl (Nat.le_of_ble_eq_true rfl) (Nat.le_of_ble_eq_true rfl) (by decide) (by decide) ?_
                    refine I_if_eq (tgt := 115) dX11_lineNow_95 (by decide) (b2p_R _) (fun h95 => ?_) (fun h95 => ?_)
                    · refine T_aload_n dX11_lineNow_115 rfl rfl ?_
                      refine I_iconst dX11_lineNow_116 ?_
                      refine I_iconst dX11_lineNow_117 ?_
                      refine I_bipush dX11_lineNow_118 (by decide) ?_
                      refine I_bipush dX11_lineNow_120 (by decide) ?_
                      refine I_bipush dX11_lineNow_122 (by decide) ?_
                      refine Q_callV dX11_lineNow_124 kX11_is lX11_79 (by assumption) rfl (p_is hM hr hT hk hb (by decide) ⟨by omega, by omega⟩ (by decide) (by decide) (by decide)) rfl rfl (Nat.le_of_ble_eq_true rfl) (Nat.le_of_ble_eq_true rfl) (by decide) (by decide) ?_
                      refine I_if_eq (tgt := 149) dX11_lineNow_127 (by decide) (b2p_R _) (fun h127 => ?_) (fun h127 => ?_)
                      · refine I_bipush dX11_lineNow_149 (by decide) ?_
                        exact I_ireturn dX11_lineNow_151 rfl ⟨_, _, rfl, rfl, rfl, rfl⟩
                      · refine T_aload_n dX11_lineNow_130 rfl rfl ?_
                        refine I_iconst dX11_lineNow_131 ?_
                        refine I_iconst dX11_lineNow_132 ?_
                        refine I_bipush dX11_lineNow_133 (by decide) ?_
                        refine I_bipush dX11_lineNow_135 (by decide) ?_
                        refine I_bipush dX11_lineNow_137 (by decide) ?_
                        refine Q_callV dX11_lineNow_139 kX11_is lX11_79 (by assumption) rfl (p_is hM hr hT hk hb (by decide) ⟨by omega, by omega⟩ (by decide) (by decide) (by decide)) rfl rfl (Nat.le_of_ble_eq_true rfl) (Nat.le_of_ble_eq_true rfl) (by decide) (by decide) ?_
                        refine I_if_eq (tgt := 149) dX11_lineNow_142 (by decide) (b2p_R _) (fun h142 => ?_) (fun h142 => ?_)
                        · refine I_bipush dX11_lineNow_149 (by decide) ?_
                          exact I_ireturn dX11_lineNow_151 rfl ⟨_, _, rfl, rfl, rfl, rfl⟩
                        · exact absurd ((word_4 hT hb).mpr ⟨b2p_of h127, b2p_of h142⟩) w4
                    · refine T_aload_n dX11_lineNow_98 rfl rfl ?_
                      refine I_iconst dX11_lineNow_99 ?_
                      refine I_iconst dX11_lineNow_100 ?_
                      refine I_bipush dX11_lineNow_101 (by decide) ?_
                      refine I_bipush dX11_lineNow_103 (by decide) ?_
                      refine I_bipush dX11_lineNow_105 (by decide) ?_
                      refine Q_callV dX11_lineNow_107 kX11_is lX11_79 (by assumption) rfl (p_is hM hr hT hk hb (by decide) ⟨by omega, by omega⟩ (by decide) (by decide) (by decide)) rfl rfl (Nat.le_of_ble_eq_true rfl) (Nat.le_of_ble_eq_true rfl) (by decide) (by decide) ?_
                      refine I_if_eq (tgt := 115) dX11_lineNow_110 (by decide) (b2p_R _) (fun h110 => ?_) (fun h110 => ?_)
                      · refine T_aload_n dX11_lineNow_115 rfl rfl ?_
                        refine I_iconst dX11_lineNow_116 ?_
                        refine I_iconst dX11_lineNow_117 ?_
                        refine I_bipush dX11_lineNow_118 (by decide) ?_
                        refine I_bipush dX11_lineNow_120 (by decide) ?_
                        refine I_bipush dX11_lineNow_122 (by decide) ?_
                        refine Q_callV dX11_lineNow_124 kX11_is lX11_79 (by assumption) rfl (p_is hM hr hT hk hb (by decide) ⟨by omega, by omega⟩ (by decide) (by decide) (by decide)) rfl rfl (Nat.le_of_ble_eq_true rfl) (Nat.le_of_ble_eq_true rfl) (by decide) (by decide) ?_
                        refine I_if_eq (tgt := 149) dX11_lineNow_127 (by decide) (b2p_R _) (fun h127 => ?_) (fun h127 => ?_)
                        · refine I_bipush dX11_lineNow_149 (by decide) ?_
                          exact I_ireturn dX11_lineNow_151 rfl ⟨_, _, rfl, rfl, rfl, rfl⟩
                        · refine T_aload_n dX11_lineNow_130 rfl rfl ?_
                          refine I_iconst dX11_lineNow_131 ?_
                          refine I_iconst dX11_lineNow_132 ?_
                          refine I_bipush dX11_lineNow_133 (by decide) ?_
                          refine I_bipush dX11_lineNow_135 (by decide) ?_
                          refine I_bipush dX11_lineNow_137 (by decide) ?_
                          refine Q_callV dX11_lineNow_139 kX11_is lX11_79 (by assumption) rfl (p_is hM hr hT hk hb (by decide) ⟨by omega, by omega⟩ (by decide) (by decide) (by decide)) rfl rfl (Nat.le_of_ble_eq_true rfl) (Nat.le_of_ble_eq_true rfl) (by decide) (by decide) ?_
                          refine I_if_eq (tgt := 149) dX11_lineNow_142 (by decide) (b2p_R _) (fun h142 => ?_) (fun h142 => ?_)
                          · refine I_bipush dX11_lineNow_149 (by decide) ?_
                            exact I_ireturn dX11_lineNow_151 rfl ⟨_, _, rfl, rfl, rfl, rfl⟩
                          · exact absurd ((word_4 hT hb).mpr ⟨b2p_of h127, b2p_of h142⟩) w4
                      · exact absurd ((word_3 hT hb).mpr ⟨b2p_of h95, b2p_of h110⟩) w3
                  · exact absurd ((word_2 hT hb).mpr (b2p_of h78)) w2
                · refine T_aload_n dX11_lineNow_48 rfl rfl ?_
                  refine I_bipush dX11_lineNow_49 (by decide) ?_
                  refine I_iconst dX11_lineNow_51 ?_
                  refine I_bipush dX11_lineNow_52 (by decide) ?_
                  refine I_bipush dX11_lineNow_54 (by decide) ?_
                  refine I_bipush dX11_lineNow_56 (by decide) ?_
                  refine Q_callV dX11_lineNow_58 kX11_is lX11_79 (by assumption) rfl (p_is hM hr hT hk hb (by decide) ⟨by omega, by omega⟩ (by decide) (by decide) (by decide)) rfl rfl (Nat.le_of_ble_eq_true rfl) (Nat.le_of_ble_eq_true rfl) (by decide) (by decide) ?_
                  refine I_if_eq (tgt := 66) dX11_lineNow_61 (by decide) (b2p_R _) (fun h61 => ?_) (fun h61 => ?_)
                  · refine T_aload_n dX11_lineNow_66 rfl rfl ?_
                    refine I_iconst dX11_lineNow_67 ?_
                    refine I_iconst dX11_lineNow_68 ?_
                    refine I_bipush dX11_lineNow_69 (by decide) ?_
                    refine I_bipush dX11_lineNow_71 (by decide) ?_
                    refine I_bipush dX11_lineNow_73 (by decide) ?_
                    refine Q_callV dX11_lineNow_75 kX11_is lX11_79 (by assumption) rfl (p_is hM hr hT hk hb (by decide) ⟨by omega, by omega⟩ (by decide) (by decide) (by decide)) rfl rfl (Nat.le_of_ble_eq_true rfl) (Nat.le_of_ble_eq_true rfl) (by decide) (by decide) ?_
                    refine I_if_eq (tgt := 83) dX11_lineNow_78 (by decide) (b2p_R _) (fun h78 => ?_) (fun h78 => ?_)
                    · refine T_aload_n dX11_lineNow_83 rfl rfl ?_
                      refine I_iconst dX11_lineNow_84 ?_
                      refine I_iconst dX11_lineNow_85 ?_
                      refine I_bipush dX11_lineNow_86 (by decide) ?_
                      refine I_bipush dX11_lineNow_88 (by decide) ?_
                      refine I_bipush dX11_lineNow_90 (by decide) ?_
                      refine Q_callV dX11_lineNow_92 kX11_is lX11_79 (by assumption) rfl (p_is hM hr hT hk hb (by decide) ⟨by omega, by omega⟩ (by decide) (by decide) (by decide)) rfl rfl (Nat.le_of_ble_eq_true rfl) (Nat.le_of_ble_eq_true rfl) (by decide) (by decide) ?_
                      refine I_if_eq (tgt := 115) dX11_lineNow_95 (by decide) (b2p_R _) (fun h95 => ?_) (fun h95 => ?_)
                      · refine T_aload_n dX11_lineNow_115 rfl rfl ?_
                        refine I_iconst dX11_lineNow_116 ?_
                        refine I_iconst dX11_lineNow_117 ?_
                        refine I_bipush dX11_lineNow_118 (by decide) ?_
                        refine I_bipush dX11_lineNow_120 (by decide) ?_
                        refine I_bipush dX11_lineNow_122 (by decide) ?_
                        refine Q_callV dX11_lineNow_124 kX11_is lX11_79 (by assumption) rfl (p_is hM hr hT hk hb (by decide) ⟨by omega, by omega⟩ (by decide) (by decide) (by decide)) rfl rfl (Nat.le_of_ble_eq_true rfl) (Nat.le_of_ble_eq_true rfl) (by decide) (by decide) ?_
                        refine I_if_eq (tgt := 149) dX11_lineNow_127 (by decide) (b2p_R _) (fun h127 => ?_) (fun h127 => ?_)
                        · refine I_bipush dX11_lineNow_149 (by decide) ?_
                          exact I_ireturn dX11_lineNow_151 rfl ⟨_, _, rfl, rfl, rfl, rfl⟩
                        · refine T_aload_n dX11_lineNow_130 rfl rfl ?_
                          refine I_iconst dX11_lineNow_131 ?_
                          refine I_iconst dX11_lineNow_132 ?_
                          refine I_bipush dX11_lineNow_133 (by decide) ?_
                          refine I_bipush dX11_lineNow_135 (by decide) ?_
                          refine I_bipush dX11_lineNow_137 (by decide) ?_
                          refine Q_callV dX11_lineNow_139 kX11_is lX11_79 (by assumption) rfl (p_is hM hr hT hk hb (by decide) ⟨by omega, by omega⟩ (by decide) (by decide) (by decide)) rfl rfl (Nat.le_of_ble_eq_true rfl) (Nat.le_of_ble_eq_true rfl) (by decide) (by decide) ?_
                          refine I_if_eq (tgt := 149) dX11_lineNow_142 (by decide) (b2p_R _) (fun h142 => ?_) (fun h142 => ?_)
                          · refine I_bipush dX11_lineNow_149 (by decide) ?_
                            exact I_ireturn dX11_lineNow_151 rfl ⟨_, _, rfl, rfl, rfl, rfl⟩
                          · exact absurd ((word_4 hT hb).mpr ⟨b2p_of h127, b2p_of h142⟩) w4
                      · refine T_aload_n dX11_lineNow_98 rfl rfl ?_
                        refine I_iconst dX11_lineNow_99 ?_
                        refine I_iconst dX11_lineNow_100 ?_
                        refine I_bipush dX11_lineNow_101 (by decide) ?_
                        refine I_bipush dX11_lineNow_103 (by decide) ?_
                        refine I_bipush dX11_lineNow_105 (by decide) ?_
                        refine Q_callV dX11_lineNow_107 kX11_is lX11_79 (by assumption) rfl (p_is hM hr hT hk hb (by decide) ⟨by omega, by omega⟩ (by decide) (by decide) (by decide)) rfl rfl (Nat.le_of_ble_eq_true rfl) (Nat.le_of_ble_eq_true rfl) (by decide) (by decide) ?_
                        refine I_if_eq (tgt := 115) dX11_lineNow_110 (by decide) (b2p_R _) (fun h110 => ?_) (fun h110 => ?_)
                        · refine T_aload_n dX11_lineNow_115 rfl rfl ?_
                          refine I_iconst dX11_lineNow_116 ?_
                          refine I_iconst dX11_lineNow_117 ?_
                          refine I_bipush dX11_lineNow_118 (by decide) ?_
                          refine I_bipush dX11_lineNow_120 (by decide) ?_
                          refine I_bipush dX11_lineNow_122 (by decide) ?_
                          refine Q_callV dX11_lineNow_124 kX11_is lX11_79 (by assumption) rfl (p_is hM hr hT hk hb (by decide) ⟨by omega, by omega⟩ (by decide) (by decide) (by decide)) rfl rfl (Nat.le_of_ble_eq_true rfl) (Nat.le_of_ble_eq_true rfl) (by decide) (by decide) ?_
                          refine I_if_eq (tgt := 149) dX11_lineNow_127 (by decide) (b2p_R _) (fun h127 => ?_) (fun h127 => ?_)
                          · refine I_bipush dX11_lineNow_149 (by decide) ?_
                            exact I_ireturn dX11_lineNow_151 rfl ⟨_, _, rfl, rfl, rfl, rfl⟩
                          · refine T_aload_n dX11_lineNow_130 rfl rfl ?_
                            refine I_iconst dX11_lineNow_131 ?_
                            refine I_iconst dX11_lineNow_132 ?_
                            refine I_bipush dX11_lineNow_133 (by decide) ?_
                            refine I_bipush dX11_lineNow_135 (by decide) ?_
                            refine I_bipush dX11_lineNow_137 (by decide) ?_
                            refine Q_callV dX11_lineNow_139 kX11_is lX11_79 (by assumption) rfl (p_is hM hr hT hk hb (by decide) ⟨by omega, by omega⟩ (by decide) (by decide) (by decide)) rfl rfl (Nat.le_of_ble_eq_true rfl) (Nat.le_of_ble_eq_true rfl) (by decide) (by decide) ?_
                            refine I_if_eq (tgt := 149) dX11_lineNow_142 (by decide) (b2p_R _) (fun h142 => ?_) (fun h142 => ?_)
                            · refine I_bipush dX11_lineNow_149 (by decide) ?_
                              exact I_ireturn dX11_lineNow_151 rfl ⟨_, _, rfl, rfl, rfl, rfl⟩
                            · exact absurd ((word_4 hT hb).mpr ⟨b2p_of h127, b2p_of h142⟩) w4
                        · exact absurd ((word_3 hT hb).mpr ⟨b2p_of h95, b2p_of h110⟩) w3
                    · exact absurd ((word_2 hT hb).mpr (b2p_of h78)) w2
                  · exact absurd ((word_1 hT hb).mpr ⟨b2p_of h45, b2p_of h61⟩) w1
              · exact absurd ((word_0 hT hb).mpr ⟨b2p_of h12, b2p_of h27⟩) w0
end RPB
