/-! Book, Strangers, Item, Sheet: what their methods do to their rows -/
def ItemAt (K : List SH) (q : Nat) : Prop := K[q]? = some (.inr (3, [none, none, none, none, none, none, none, none]))
def BookAt (K : List SH) (o : Nat) : Prop := K[o]? = some (.inr (0, [some (o + 1), some (o + 2), none, none])) ∧ K[o + 1]? = some (.inl (0, 9)) ∧ K[o + 2]? = some (.inl (0, 300))
def StrAt (K : List SH) (o : Nat) : Prop := K[o]? = some (.inr (8, [some (o + 1), none])) ∧ K[o + 1]? = some (.inl (0, 40))
section Leaf
variable {G : GT} {K : List SH} {S : SV} {o : Nat}
def bkW (S : SV) (o : Nat) (deed clock letter at_ to_ : Int) : SV := sA (sA (sA (sA (sA (sA S (o + 2) ((fI S o 2 + fI S o 3) % 60 * 5) deed) (o + 2) ((fI S o 2 + fI S o 3) % 60 * 5 + 1) clock) (o + 2) ((fI S o 2 + fI S o 3) % 60 * 5 + 2) letter) (o + 2) ((fI S o 2 + fI S o 3) % 60 * 5 + 3) at_) (o + 2) ((fI S o 2 + fI S o 3) % 60 * 5 + 4) to_) (o + 1) deed (aI S (o + 1) deed + 1)
def bkE (S : SV) (o : Nat) (deed clock letter at_ to_ : Int) : SV := if fI S o 3 < 60 then sF (bkW S o deed clock letter at_ to_) o 3 (fI S o 3 + 1) else sF (bkW S o deed clock letter at_ to_) o 2 ((fI S o 2 + 1) % 60)
theorem p_Book_write {q : Nat} {deed clock at_ : Int} (h : BookAt K o) (hq : ItemAt K q) (hd : 0 ≤ deed ∧ deed < 9) (h2 : 0 ≤ fI S o 2 ∧ fI S o 2 < 60) (h3 : 0 ≤ fI S o 3 ∧ fI S o 3 ≤ 60) : P G 0 0 0 mX0_write 0 (LE mX0_write [.ref o, IV deed, IV clock, .ref q, IV at_]) [] K S (Ret K none (bkE S o deed clock (fI S q 1) at_ (fI S q 3))) := by
  obtain ⟨k0, k1, k2⟩ := h
  unfold ItemAt at hq
  rw [show LE mX0_write [.ref o, IV deed, IV clock, .ref q, IV at_] = [some (.ref o), some (IV deed), some (IV clock), some (.ref q), some (IV at_), none] from rfl]
  refine T_aload_n dX0_write_0 rfl rfl ?_
  refine P_geti dX0_write_1 fX0_24 (by assumption) rfl ?_
  refine T_aload_n dX0_write_4 rfl rfl ?_
  refine P_geti dX0_write_5 fX0_28 (by assumption) rfl ?_
  refine I_iadd dX0_write_8 ?_
  refine I_bipush dX0_write_9 (by decide) ?_
  refine I_irem dX0_write_11 ⟨by omega, by omega⟩ ⟨by decide, by decide⟩ ?_
  refine I_iconst dX0_write_12 ?_
  refine I_imul dX0_write_13 ?_
  refine T_istore dX0_write_14 (by decide) rfl ?_
  refine T_aload_n dX0_write_16 rfl rfl ?_
  refine P_getr dX0_write_17 fX0_15 (by assumption) rfl ?_
  refine T_iload dX0_write_20 rfl ?_
  refine T_iload_n dX0_write_22 rfl ?_
  refine P_iast dX0_write_23 (by assumption) ⟨by omega, by omega⟩ (by first | decide | omega) ?_
  refine T_aload_n dX0_write_24 rfl rfl ?_
  refine P_getr dX0_write_25 fX0_15 (by assumption) rfl ?_
  refine T_iload dX0_write_28 rfl ?_
  refine I_iconst dX0_write_30 ?_
  refine I_iadd dX0_write_31 ?_
  refine T_iload_n dX0_write_32 rfl ?_
  refine P_iast dX0_write_33 (by assumption) ⟨by omega, by omega⟩ (by first | decide | omega) ?_
  refine T_aload_n dX0_write_34 rfl rfl ?_
  refine P_getr dX0_write_35 fX0_15 (by assumption) rfl ?_
  refine T_iload dX0_write_38 rfl ?_
  refine I_iconst dX0_write_40 ?_
  refine I_iadd dX0_write_41 ?_
  refine T_aload_n dX0_write_42 rfl rfl ?_
  refine P_geti dX0_write_43 fX0_37 (by assumption) rfl ?_
  refine P_iast dX0_write_46 (by assumption) ⟨by omega, by omega⟩ (by first | decide | omega) ?_
  refine T_aload_n dX0_write_47 rfl rfl ?_
  refine P_getr dX0_write_48 fX0_15 (by assumption) rfl ?_
  refine T_iload dX0_write_51 rfl ?_
  refine I_iconst dX0_write_53 ?_
  refine I_iadd dX0_write_54 ?_
  refine T_iload dX0_write_55 rfl ?_
  refine P_iast dX0_write_57 (by assumption) ⟨by omega, by omega⟩ (by first | decide | omega) ?_
  refine T_aload_n dX0_write_58 rfl rfl ?_
  refine P_getr dX0_write_59 fX0_15 (by assumption) rfl ?_
  refine T_iload dX0_write_62 rfl ?_
  refine I_iconst dX0_write_64 ?_
  refine I_iadd dX0_write_65 ?_
  refine T_aload_n dX0_write_66 rfl rfl ?_
  refine P_geti dX0_write_67 fX0_42 (by assumption) rfl ?_
  refine P_iast dX0_write_70 (by assumption) ⟨by omega, by omega⟩ (by first | decide | omega) ?_
  refine T_aload_n dX0_write_71 rfl rfl ?_
  refine P_getr dX0_write_72 fX0_9 (by assumption) rfl ?_
  refine T_iload_n dX0_write_75 rfl ?_
  refine T_dup2 dX0_write_76 rfl rfl ?_
  refine P_iald dX0_write_77 (by assumption) ⟨by omega, by omega⟩ (by first | decide | omega) ?_
  refine I_iconst dX0_write_78 ?_
  refine I_iadd dX0_write_79 ?_
  refine P_iast dX0_write_80 (by assumption) ⟨by omega, by omega⟩ (by first | decide | omega) ?_
  refine T_aload_n dX0_write_81 rfl rfl ?_
  refine P_geti dX0_write_82 fX0_28 (by assumption) rfl ?_
  show T _ _ _ _ _ _ _ (IV (fI S o 3) :: _) _ _
  refine I_bipush dX0_write_85 (by decide) ?_
  refine I_icmp_ge (tgt := 103) dX0_write_87 (by decide) ⟨by omega, by omega⟩ ⟨by omega, by omega⟩ (fun h87 => ?_) (fun h87 => ?_)
  · have hb : bkE S o deed clock (fI S q 1) at_ (fI S q 3) = sF (bkW S o deed clock (fI S q 1) at_ (fI S q 3)) o 2 ((fI S o 2 + 1) % 60) := if_neg (by omega)
    refine T_aload_n dX0_write_103 rfl rfl ?_
    refine T_aload_n dX0_write_104 rfl rfl ?_
    refine P_geti dX0_write_105 fX0_24 (by assumption) rfl ?_
    show T _ _ _ _ _ _ _ (IV (fI S o 2) :: _) _ _
    refine I_iconst dX0_write_108 ?_
    refine I_iadd dX0_write_109 ?_
    refine I_bipush dX0_write_110 (by decide) ?_
    refine I_irem dX0_write_112 ⟨by omega, by omega⟩ ⟨by decide, by decide⟩ ?_
    refine P_puti dX0_write_113 fX0_24 (by assumption) rfl rfl ?_
    exact T_return dX0_write_116 rfl ⟨_, _, rfl, rfl, rfl, by rw [hb]; simp [bkW, fI_sA, aI_sA]⟩
  · have hb : bkE S o deed clock (fI S q 1) at_ (fI S q 3) = sF (bkW S o deed clock (fI S q 1) at_ (fI S q 3)) o 3 (fI S o 3 + 1) := if_pos (by omega)
    refine T_aload_n dX0_write_90 rfl rfl ?_
    refine T_dup dX0_write_91 rfl ?_
    refine P_geti dX0_write_92 fX0_28 (by assumption) rfl ?_
    show T _ _ _ _ _ _ _ (IV (fI S o 3) :: _) _ _
    refine I_iconst dX0_write_95 ?_
    refine I_iadd dX0_write_96 ?_
    refine P_puti dX0_write_97 fX0_28 (by assumption) rfl rfl ?_
    refine T_goto (tgt := 116) dX0_write_100 (by decide) ?_
    exact T_return dX0_write_116 rfl ⟨_, _, rfl, rfl, rfl, by rw [hb]; simp [bkW, fI_sA, aI_sA]⟩
theorem p_Book_answer {i what : Int} (h : BookAt K o) (h2 : 0 ≤ fI S o 2 ∧ fI S o 2 < 60) (hi : 0 ≤ i ∧ i < 60) (hw : 0 ≤ what ∧ what < 5) : P G 0 0 0 mX0_answer 0 (LE mX0_answer [.ref o, IV i, IV what]) [] K S (Ret K (some (IV (aI S (o + 2) ((fI S o 2 + i) % 60 * 5 + what)))) S) := by
  obtain ⟨k0, k1, k2⟩ := h
  rw [show LE mX0_answer [.ref o, IV i, IV what] = [some (.ref o), some (IV i), some (IV what)] from rfl]
  refine T_aload_n dX0_answer_0 rfl rfl ?_
  refine P_getr dX0_answer_1 fX0_15 (by assumption) rfl ?_
  refine T_aload_n dX0_answer_4 rfl rfl ?_
  refine P_geti dX0_answer_5 fX0_24 (by assumption) rfl ?_
  refine T_iload_n dX0_answer_8 rfl ?_
  refine I_iadd dX0_answer_9 ?_
  refine I_bipush dX0_answer_10 (by decide) ?_
  refine I_irem dX0_answer_12 ⟨by omega, by omega⟩ ⟨by decide, by decide⟩ ?_
  refine I_iconst dX0_answer_13 ?_
  refine I_imul dX0_answer_14 ?_
  refine T_iload_n dX0_answer_15 rfl ?_
  refine I_iadd dX0_answer_16 ?_
  refine P_iald dX0_answer_17 (by assumption) ⟨by omega, by omega⟩ (by first | decide | omega) ?_
  exact I_ireturn dX0_answer_18 rfl ⟨_, _, rfl, rfl, rfl, rfl⟩
theorem p_Book_clear (h : BookAt K o) : P G 1 0 0 mX0_clear 0 (LE mX0_clear [.ref o]) [] K S (Ret K none (sF (sF (sFill S (o + 1) 0 9) o 2 0) o 3 0)) := by
  obtain ⟨k0, k1, k2⟩ := h
  rw [show LE mX0_clear [.ref o] = [some (.ref o)] from rfl]
  refine T_aload_n dX0_clear_0 rfl rfl ?_
  refine P_getr dX0_clear_1 fX0_9 (by assumption) rfl ?_
  refine I_iconst dX0_clear_4 ?_
  refine Q_callS dX0_clear_5 kJ7_fill_53178 lX0_18 (p_fill k1 (by decide)) rfl rfl (Nat.le_of_ble_eq_true rfl) (Nat.le_of_ble_eq_true rfl) (by decide) (by decide) ?_
  refine T_aload_n dX0_clear_8 rfl rfl ?_
  refine I_iconst dX0_clear_9 ?_
  refine P_puti dX0_clear_10 fX0_24 (by assumption) rfl rfl ?_
  refine T_aload_n dX0_clear_13 rfl rfl ?_
  refine I_iconst dX0_clear_14 ?_
  refine P_puti dX0_clear_15 fX0_28 (by assumption) rfl rfl ?_
  exact T_return dX0_clear_18 rfl ⟨_, _, rfl, rfl, rfl, rfl⟩
theorem p_Book_copyFrom {q : Nat} (h : BookAt K o) (hq : BookAt K q) : P G 1 0 0 mX0_copyFrom 0 (LE mX0_copyFrom [.ref o, .ref q]) [] K S (Ret K none (sF (sF (sC (sC S (o + 1) (q + 1) 0 0 9) (o + 2) (q + 2) 0 0 300) o 2 (fI S q 2)) o 3 (fI (sF S o 2 (fI S q 2)) q 3))) := by
  obtain ⟨h0, h1, h2⟩ := h
  obtain ⟨q0, q1, q2⟩ := hq
  rw [show LE mX0_copyFrom [.ref o, .ref q] = [some (.ref o), some (.ref q)] from rfl]
  refine T_aload_n dX0_copyFrom_0 rfl rfl ?_
  refine P_getr dX0_copyFrom_1 fX0_9 (by assumption) rfl ?_
  refine I_iconst dX0_copyFrom_4 ?_
  refine T_aload_n dX0_copyFrom_5 rfl rfl ?_
  refine P_getr dX0_copyFrom_6 fX0_9 (by assumption) rfl ?_
  refine I_iconst dX0_copyFrom_9 ?_
  refine T_aload_n dX0_copyFrom_10 rfl rfl ?_
  refine P_getr dX0_copyFrom_11 fX0_9 (by assumption) rfl ?_
  refine P_alen dX0_copyFrom_14 (by assumption) (by decide) rfl ?_
  refine P_copy dX0_copyFrom_15 lX0_31 q1 h1 (by decide) (by decide) (by decide) (fun z => by cases z) (by decide) ?_
  refine T_aload_n dX0_copyFrom_18 rfl rfl ?_
  refine P_getr dX0_copyFrom_19 fX0_15 (by assumption) rfl ?_
  refine I_iconst dX0_copyFrom_22 ?_
  refine T_aload_n dX0_copyFrom_23 rfl rfl ?_
  refine P_getr dX0_copyFrom_24 fX0_15 (by assumption) rfl ?_
  refine I_iconst dX0_copyFrom_27 ?_
  refine T_aload_n dX0_copyFrom_28 rfl rfl ?_
  refine P_getr dX0_copyFrom_29 fX0_15 (by assumption) rfl ?_
  refine P_alen dX0_copyFrom_32 (by assumption) (by decide) rfl ?_
  refine P_copy dX0_copyFrom_33 lX0_31 q2 h2 (by decide) (by decide) (by decide) (fun z => by cases z) (by decide) ?_
  refine T_aload_n dX0_copyFrom_36 rfl rfl ?_
  refine T_aload_n dX0_copyFrom_37 rfl rfl ?_
  refine P_geti dX0_copyFrom_38 fX0_24 (by assumption) rfl ?_
  refine P_puti dX0_copyFrom_41 fX0_24 (by assumption) rfl rfl ?_
  refine T_aload_n dX0_copyFrom_44 rfl rfl ?_
  refine T_aload_n dX0_copyFrom_45 rfl rfl ?_
  refine P_geti dX0_copyFrom_46 fX0_28 (by assumption) rfl ?_
  refine P_puti dX0_copyFrom_49 fX0_28 (by assumption) rfl rfl ?_
  exact T_return dX0_copyFrom_52 rfl ⟨_, _, rfl, rfl, rfl, rfl⟩
-- strangers
def stP (S : SV) (o : Nat) (who fr to_ clock : Int) : SV := sF (sA (sA (sA (sA (sA S (o + 1) (fI S o 1 * 5 + 0) who) (o + 1) (fI S o 1 * 5 + 1) fr) (o + 1) (fI S o 1 * 5 + 2) to_) (o + 1) (fI S o 1 * 5 + 3) clock) (o + 1) (fI S o 1 * 5 + 4) 0) o 1 (fI S o 1 + 1)
theorem p_Str_putDown {who fr to_ clock : Int} (h : StrAt K o) (h1 : 0 ≤ fI S o 1 ∧ fI S o 1 < 8) : P G 0 0 0 mX8_putDown 0 (LE mX8_putDown [.ref o, IV who, IV fr, IV to_, IV clock]) [] K S (Ret K none (stP S o who fr to_ clock)) := by
  obtain ⟨k0, k1⟩ := h
  rw [show LE mX8_putDown [.ref o, IV who, IV fr, IV to_, IV clock] = [some (.ref o), some (IV who), some (IV fr), some (IV to_), some (IV clock), none] from rfl]
  refine T_aload_n dX8_putDown_0 rfl rfl ?_
  refine P_geti dX8_putDown_1 fX8_21 (by assumption) rfl ?_
  refine I_iconst dX8_putDown_4 ?_
  refine I_imul dX8_putDown_5 ?_
  refine T_istore dX8_putDown_6 (by decide) rfl ?_
  refine T_aload_n dX8_putDown_8 rfl rfl ?_
  refine P_getr dX8_putDown_9 fX8_11 (by assumption) rfl ?_
  refine T_iload dX8_putDown_12 rfl ?_
  refine I_iconst dX8_putDown_14 ?_
  refine I_iadd dX8_putDown_15 ?_
  refine T_iload_n dX8_putDown_16 rfl ?_
  refine P_iast dX8_putDown_17 (by assumption) ⟨by omega, by omega⟩ (by first | decide | omega) ?_
  refine T_aload_n dX8_putDown_18 rfl rfl ?_
  refine P_getr dX8_putDown_19 fX8_11 (by assumption) rfl ?_
  refine T_iload dX8_putDown_22 rfl ?_
  refine I_iconst dX8_putDown_24 ?_
  refine I_iadd dX8_putDown_25 ?_
  refine T_iload_n dX8_putDown_26 rfl ?_
  refine P_iast dX8_putDown_27 (by assumption) ⟨by omega, by omega⟩ (by first | decide | omega) ?_
  refine T_aload_n dX8_putDown_28 rfl rfl ?_
  refine P_getr dX8_putDown_29 fX8_11 (by assumption) rfl ?_
  refine T_iload dX8_putDown_32 rfl ?_
  refine I_iconst dX8_putDown_34 ?_
  refine I_iadd dX8_putDown_35 ?_
  refine T_iload_n dX8_putDown_36 rfl ?_
  refine P_iast dX8_putDown_37 (by assumption) ⟨by omega, by omega⟩ (by first | decide | omega) ?_
  refine T_aload_n dX8_putDown_38 rfl rfl ?_
  refine P_getr dX8_putDown_39 fX8_11 (by assumption) rfl ?_
  refine T_iload dX8_putDown_42 rfl ?_
  refine I_iconst dX8_putDown_44 ?_
  refine I_iadd dX8_putDown_45 ?_
  refine T_iload dX8_putDown_46 rfl ?_
  refine P_iast dX8_putDown_48 (by assumption) ⟨by omega, by omega⟩ (by first | decide | omega) ?_
  refine T_aload_n dX8_putDown_49 rfl rfl ?_
  refine P_getr dX8_putDown_50 fX8_11 (by assumption) rfl ?_
  refine T_iload dX8_putDown_53 rfl ?_
  refine I_iconst dX8_putDown_55 ?_
  refine I_iadd dX8_putDown_56 ?_
  refine I_iconst dX8_putDown_57 ?_
  refine P_iast dX8_putDown_58 (by assumption) ⟨by omega, by omega⟩ (by first | decide | omega) ?_
  refine T_aload_n dX8_putDown_59 rfl rfl ?_
  refine T_dup dX8_putDown_60 rfl ?_
  refine P_geti dX8_putDown_61 fX8_21 (by assumption) rfl ?_
  refine I_iconst dX8_putDown_64 ?_
  refine I_iadd dX8_putDown_65 ?_
  refine P_puti dX8_putDown_66 fX8_21 (by assumption) rfl rfl ?_
  exact T_return dX8_putDown_69 rfl ⟨_, _, rfl, rfl, rfl, rfl⟩
def stF (S : SV) (o : Nat) (i : Int) : SV := sC (sF S o 1 (fI S o 1 - 1)) (o + 1) (o + 1) ((i + 1) * 5) (i * 5) ((fI S o 1 - 1 - i) * 5)
theorem p_Str_forget {i : Int} (h : StrAt K o) (h1 : fI S o 1 ≤ 8) (hi : 0 ≤ i ∧ i < fI S o 1) : P G 1 0 0 mX8_forget 0 (LE mX8_forget [.ref o, IV i]) [] K S (Ret K none (stF S o i)) := by
  obtain ⟨k0, k1⟩ := h
  rw [show LE mX8_forget [.ref o, IV i] = [some (.ref o), some (IV i)] from rfl]
  refine T_aload_n dX8_forget_0 rfl rfl ?_
  refine T_dup dX8_forget_1 rfl ?_
  refine P_geti dX8_forget_2 fX8_21 (by assumption) rfl ?_
  refine I_iconst dX8_forget_5 ?_
  refine I_isub dX8_forget_6 ?_
  refine P_puti dX8_forget_7 fX8_21 (by assumption) rfl rfl ?_
  refine T_aload_n dX8_forget_10 rfl rfl ?_
  refine P_getr dX8_forget_11 fX8_11 (by assumption) rfl ?_
  refine T_iload_n dX8_forget_14 rfl ?_
  refine I_iconst dX8_forget_15 ?_
  refine I_iadd dX8_forget_16 ?_
  refine I_iconst dX8_forget_17 ?_
  refine I_imul dX8_forget_18 ?_
  refine T_aload_n dX8_forget_19 rfl rfl ?_
  refine P_getr dX8_forget_20 fX8_11 (by assumption) rfl ?_
  refine T_iload_n dX8_forget_23 rfl ?_
  refine I_iconst dX8_forget_24 ?_
  refine I_imul dX8_forget_25 ?_
  refine T_aload_n dX8_forget_26 rfl rfl ?_
  refine P_geti dX8_forget_27 fX8_21 (by assumption) rfl ?_
  rw [show fI (sF S o 1 (fI S o 1 - 1)) o 1 = fI S o 1 - 1 from by simp [fI_sF]]
  refine T_iload_n dX8_forget_30 rfl ?_
  refine I_isub dX8_forget_31 ?_
  refine I_iconst dX8_forget_32 ?_
  refine I_imul dX8_forget_33 ?_
  refine P_copy dX8_forget_34 lX8_15 k1 k1 (by decide) (by omega) (by decide) (fun z => by cases z) (Nat.le_of_ble_eq_true rfl) ?_
  exact T_return dX8_forget_37 rfl ⟨_, _, rfl, rfl, rfl, rfl⟩
theorem p_Str_copyFrom {q : Nat} (h : StrAt K o) (hq : StrAt K q) : P G 1 0 0 mX8_copyFrom 0 (LE mX8_copyFrom [.ref o, .ref q]) [] K S (Ret K none (sF (sC S (o + 1) (q + 1) 0 0 40) o 1 (fI S q 1))) := by
  obtain ⟨h0, h1⟩ := h
  obtain ⟨q0, q1⟩ := hq
  rw [show LE mX8_copyFrom [.ref o, .ref q] = [some (.ref o), some (.ref q)] from rfl]
  refine T_aload_n dX8_copyFrom_0 rfl rfl ?_
  refine P_getr dX8_copyFrom_1 fX8_11 (by assumption) rfl ?_
  refine I_iconst dX8_copyFrom_4 ?_
  refine T_aload_n dX8_copyFrom_5 rfl rfl ?_
  refine P_getr dX8_copyFrom_6 fX8_11 (by assumption) rfl ?_
  refine I_iconst dX8_copyFrom_9 ?_
  refine T_aload_n dX8_copyFrom_10 rfl rfl ?_
  refine P_getr dX8_copyFrom_11 fX8_11 (by assumption) rfl ?_
  refine P_alen dX8_copyFrom_14 (by assumption) (by decide) rfl ?_
  refine P_copy dX8_copyFrom_15 lX8_15 q1 h1 (by decide) (by decide) (by decide) (fun z => by cases z) (by decide) ?_
  refine T_aload_n dX8_copyFrom_18 rfl rfl ?_
  refine T_aload_n dX8_copyFrom_19 rfl rfl ?_
  refine P_geti dX8_copyFrom_20 fX8_21 (by assumption) rfl ?_
  refine P_puti dX8_copyFrom_23 fX8_21 (by assumption) rfl rfl ?_
  exact T_return dX8_copyFrom_26 rfl ⟨_, _, rfl, rfl, rfl, rfl⟩
theorem l_Str_passed (h : StrAt K o) (h1 : 0 ≤ fI S o 1 ∧ fI S o 1 ≤ 8) (i acc : Int) (hi : 0 ≤ i ∧ i ≤ fI S o 1) : P G 0 0 0 mX8_passed 4 [some (.ref o), some (IV acc), some (IV i)] [] K S (Ret K (some (IV (acc + sumF (fun t => aI S (o + 1) (t * 5 + 4)) (fI S o 1 - i).toNat i))) S) := by
  obtain ⟨k0, k1⟩ := id h
  induction hm : (fI S o 1 - i).toNat using Nat.strongRecOn generalizing i acc with
  | _ m ih =>
    refine T_iload_n dX8_passed_4 rfl ?_
    refine T_aload_n dX8_passed_5 rfl rfl ?_
    refine P_geti dX8_passed_6 fX8_21 (by assumption) rfl ?_
    refine I_icmp_ge (tgt := 31) dX8_passed_9 (by decide) ⟨by omega, by omega⟩ ⟨by omega, by omega⟩ (fun h9 => ?_) (fun h9 => ?_)
    · refine T_iload_n dX8_passed_31 rfl ?_
      exact I_ireturn dX8_passed_32 rfl ⟨_, _, rfl, by rw [← hm, toNat_0 h9, sumF, Int.add_zero], rfl, rfl⟩
    · refine T_iload_n dX8_passed_12 rfl ?_
      refine T_aload_n dX8_passed_13 rfl rfl ?_
      refine P_getr dX8_passed_14 fX8_11 (by assumption) rfl ?_
      refine T_iload_n dX8_passed_17 rfl ?_
      refine I_iconst dX8_passed_18 ?_
      refine I_imul dX8_passed_19 ?_
      refine I_iconst dX8_passed_20 ?_
      refine I_iadd dX8_passed_21 ?_
      refine P_iald dX8_passed_22 (by assumption) ⟨by omega, by omega⟩ (by first | decide | omega) ?_
      refine I_iadd dX8_passed_23 ?_
      refine T_istore_n dX8_passed_24 (by decide) rfl ?_
      refine I_iinc dX8_passed_25 rfl (by decide) rfl ?_
      refine T_goto (tgt := 4) dX8_passed_28 (by decide) ?_
      have e := ih _ (by omega) (i + 1) (acc + aI S (o + 1) (i * 5 + 4)) ⟨by omega, by omega⟩ rfl
      rw [← hm, toNat_1 (by omega : i < fI S o 1), sumF, ← Int.add_assoc]
      exact e
theorem p_Str_passed (h : StrAt K o) (h1 : 0 ≤ fI S o 1 ∧ fI S o 1 ≤ 8) : P G 0 0 0 mX8_passed 0 (LE mX8_passed [.ref o]) [] K S (Ret K (some (IV (sumF (fun t => aI S (o + 1) (t * 5 + 4)) (fI S o 1).toNat 0))) S) := by
  rw [show LE mX8_passed [.ref o] = [some (.ref o), none, none] from rfl]
  refine I_iconst dX8_passed_0 ?_
  refine T_istore_n dX8_passed_1 (by decide) rfl ?_
  refine I_iconst dX8_passed_2 ?_
  refine T_istore_n dX8_passed_3 (by decide) rfl ?_
  have e := l_Str_passed (G := G) h h1 0 0 ⟨by omega, by omega⟩
  rw [Int.sub_zero, Int.zero_add] at e
  exact e
def stM (S : SV) (o : Nat) (who fr to_ : Int) (i : Int) : Prop := aI S (o + 1) (i * 5 + 0) = who ∧ aI S (o + 1) (i * 5 + 1) = fr ∧ aI S (o + 1) (i * 5 + 2) = to_
theorem l_Str_find {who fr to_ : Int} (h : StrAt K o) (h1 : 0 ≤ fI S o 1 ∧ fI S o 1 ≤ 8) (hr : ∀ i, R32 (aI S (o + 1) i)) (hw : R32 who) (hf : R32 fr) (ht : R32 to_) (x5 : Option Value) (h5 : x5 = none ∨ ∃ z, x5 = some (IV z)) (i : Int) (hi : 0 ≤ i ∧ i ≤ fI S o 1) : P G 0 0 0 mX8_find 3 [some (.ref o), some (IV who), some (IV fr), some (IV to_), some (IV i), x5] [] K S (Ret K (some (IV (fndF (stM S o who fr to_) (fI S o 1 - i).toNat i))) S) := by
  obtain ⟨k0, k1⟩ := id h
  induction hm : (fI S o 1 - i).toNat using Nat.strongRecOn generalizing i x5 with
  | _ m ih =>
    have hno : noL2 [some (.ref o), some (IV who), some (IV fr), some (IV to_), some (IV i), x5] = true := by
      rcases h5 with rfl | ⟨z, rfl⟩ <;> rfl
    refine T_iload dX8_find_3 rfl ?_
    refine T_aload_n dX8_find_5 rfl rfl ?_
    refine P_geti dX8_find_6 fX8_21 (by assumption) rfl ?_
    refine I_icmp_ge (tgt := 66) dX8_find_9 (by decide) ⟨by omega, by omega⟩ ⟨by omega, by omega⟩ (fun h9 => ?_) (fun h9 => ?_)
    · refine I_bipush dX8_find_66 (by decide) ?_
      exact I_ireturn dX8_find_68 rfl ⟨_, _, rfl, by rw [← hm, toNat_0 h9]; rfl, rfl, rfl⟩
    · refine T_iload dX8_find_12 rfl ?_
      refine I_iconst dX8_find_14 ?_
      refine I_imul dX8_find_15 ?_
      refine T_istore dX8_find_16 (by decide) hno ?_
      refine T_aload_n dX8_find_18 rfl rfl ?_
      refine P_getr dX8_find_19 fX8_11 (by assumption) rfl ?_
      refine T_iload dX8_find_22 rfl ?_
      refine I_iconst dX8_find_24 ?_
      refine I_iadd dX8_find_25 ?_
      refine P_iald dX8_find_26 (by assumption) ⟨by omega, by omega⟩ (by first | decide | omega) ?_
      refine T_iload_n dX8_find_27 rfl ?_
      refine I_icmp_ne (tgt := 60) dX8_find_28 (by decide) (hr _) hw (fun h28 => ?_) (fun h28 => ?_)
      · refine I_iinc dX8_find_60 rfl (by decide) rfl ?_
        refine T_goto (tgt := 3) dX8_find_63 (by decide) ?_
        have e := ih _ (by omega) (some (IV (i * 5))) (Or.inr ⟨_, rfl⟩) (i + 1) ⟨by omega, by omega⟩ rfl
        rw [← hm, toNat_1 (by omega : i < fI S o 1), fndF_f (fun z => by first | exact h28 z.1 | exact h41 z.2.1 | exact h54 z.2.2)]
        exact e
      · refine T_aload_n dX8_find_31 rfl rfl ?_
        refine P_getr dX8_find_32 fX8_11 (by assumption) rfl ?_
        refine T_iload dX8_find_35 rfl ?_
        refine I_iconst dX8_find_37 ?_
        refine I_iadd dX8_find_38 ?_
        refine P_iald dX8_find_39 (by assumption) ⟨by omega, by omega⟩ (by first | decide | omega) ?_
        refine T_iload_n dX8_find_40 rfl ?_
        refine I_icmp_ne (tgt := 60) dX8_find_41 (by decide) (hr _) hf (fun h41 => ?_) (fun h41 => ?_)
        · refine I_iinc dX8_find_60 rfl (by decide) rfl ?_
          refine T_goto (tgt := 3) dX8_find_63 (by decide) ?_
          have e := ih _ (by omega) (some (IV (i * 5))) (Or.inr ⟨_, rfl⟩) (i + 1) ⟨by omega, by omega⟩ rfl
          rw [← hm, toNat_1 (by omega : i < fI S o 1), fndF_f (fun z => by first | exact h28 z.1 | exact h41 z.2.1 | exact h54 z.2.2)]
          exact e
        · refine T_aload_n dX8_find_44 rfl rfl ?_
          refine P_getr dX8_find_45 fX8_11 (by assumption) rfl ?_
          refine T_iload dX8_find_48 rfl ?_
          refine I_iconst dX8_find_50 ?_
          refine I_iadd dX8_find_51 ?_
          refine P_iald dX8_find_52 (by assumption) ⟨by omega, by omega⟩ (by first | decide | omega) ?_
          refine T_iload_n dX8_find_53 rfl ?_
          refine I_icmp_ne (tgt := 60) dX8_find_54 (by decide) (hr _) ht (fun h54 => ?_) (fun h54 => ?_)
          · refine I_iinc dX8_find_60 rfl (by decide) rfl ?_
            refine T_goto (tgt := 3) dX8_find_63 (by decide) ?_
            have e := ih _ (by omega) (some (IV (i * 5))) (Or.inr ⟨_, rfl⟩) (i + 1) ⟨by omega, by omega⟩ rfl
            rw [← hm, toNat_1 (by omega : i < fI S o 1), fndF_f (fun z => by first | exact h28 z.1 | exact h41 z.2.1 | exact h54 z.2.2)]
            exact e
          · refine T_iload dX8_find_57 rfl ?_
            exact I_ireturn dX8_find_59 rfl ⟨_, _, rfl, by rw [← hm, fndF_t (by omega) ⟨h28, h41, h54⟩], rfl, rfl⟩
theorem p_Str_find {who fr to_ : Int} (h : StrAt K o) (h1 : 0 ≤ fI S o 1 ∧ fI S o 1 ≤ 8) (hr : ∀ i, R32 (aI S (o + 1) i)) (hw : R32 who) (hf : R32 fr) (ht : R32 to_) : P G 0 0 0 mX8_find 0 (LE mX8_find [.ref o, IV who, IV fr, IV to_]) [] K S (Ret K (some (IV (fndF (stM S o who fr to_) (fI S o 1).toNat 0))) S) := by
  rw [show LE mX8_find [.ref o, IV who, IV fr, IV to_] = [some (.ref o), some (IV who), some (IV fr), some (IV to_), none, none] from rfl]
  refine I_iconst dX8_find_0 ?_
  refine T_istore dX8_find_1 (by decide) rfl ?_
  have e := l_Str_find (G := G) h h1 hr hw hf ht none (Or.inl rfl) 0 ⟨by omega, by omega⟩
  rw [Int.sub_zero] at e
  exact e
end Leaf
