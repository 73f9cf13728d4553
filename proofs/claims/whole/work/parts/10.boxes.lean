/-! Boxes: what each box was given -/
def BoxesAt (K : List SH) (o : Nat) : Prop := K[o]? = some (.inr (1, [some (o + 1), some (o + 2), some (o + 3)])) ∧ K[o + 1]? = some (.inl (0, 32)) ∧ K[o + 2]? = some (.inl (0, 32)) ∧ K[o + 3]? = some (.inl (0, 256))
section Boxes
variable {G : GT} {K : List SH} {S : SV} {o : Nat}
theorem p_Boxes_put {a letter fr : Int} (h : BoxesAt K o) (ha : 0 ≤ a ∧ a < 32) (hg : 0 ≤ aI S (o + 1) a ∧ aI S (o + 1) a < 2147483647) : P G 0 0 0 mX1_put 0 (LE mX1_put [.ref o, IV a, IV letter, IV fr]) [] K S (Ret K none (sA (sA (sA S (o + 3) (a * 8 + aI S (o + 1) a % 8) letter) (o + 2) a fr) (o + 1) a (aI S (o + 1) a + 1))) := by
  obtain ⟨h0, h1, h2, h3⟩ := h
  rw [show LE mX1_put [.ref o, IV a, IV letter, IV fr] = [some (.ref o), some (IV a), some (IV letter), some (IV fr)] from rfl]
  refine T_aload_n dX1_put_0 rfl rfl ?_
  refine P_getr dX1_put_1 fX1_18 (by assumption) rfl ?_
  refine T_iload_n dX1_put_4 rfl ?_
  refine I_bipush dX1_put_5 (by decide) ?_
  refine I_imul dX1_put_7 ?_
  refine T_aload_n dX1_put_8 rfl rfl ?_
  refine P_getr dX1_put_9 fX1_9 (by assumption) rfl ?_
  refine T_iload_n dX1_put_12 rfl ?_
  refine P_iald dX1_put_13 (by assumption) ⟨by omega, by omega⟩ (by first | decide | omega) ?_
  refine I_bipush dX1_put_14 (by decide) ?_
  refine I_irem dX1_put_16 ⟨by omega, by omega⟩ ⟨by decide, by decide⟩ ?_
  refine I_iadd dX1_put_17 ?_
  refine T_iload_n dX1_put_18 rfl ?_
  refine P_iast dX1_put_19 (by assumption) ⟨by omega, by omega⟩ (by first | decide | omega) ?_
  refine T_aload_n dX1_put_20 rfl rfl ?_
  refine P_getr dX1_put_21 fX1_15 (by assumption) rfl ?_
  refine T_iload_n dX1_put_24 rfl ?_
  refine T_iload_n dX1_put_25 rfl ?_
  refine P_iast dX1_put_26 (by assumption) ⟨by omega, by omega⟩ (by first | decide | omega) ?_
  refine T_aload_n dX1_put_27 rfl rfl ?_
  refine P_getr dX1_put_28 fX1_9 (by assumption) rfl ?_
  refine T_iload_n dX1_put_31 rfl ?_
  refine T_dup2 dX1_put_32 rfl rfl ?_
  refine P_iald dX1_put_33 (by assumption) ⟨by omega, by omega⟩ (by first | decide | omega) ?_
  refine I_iconst dX1_put_34 ?_
  refine I_iadd dX1_put_35 ?_
  refine P_iast dX1_put_36 (by assumption) ⟨by omega, by omega⟩ (by first | decide | omega) ?_
  exact T_return dX1_put_37 rfl ⟨_, _, rfl, rfl, rfl, by simp [aI_sA]⟩
theorem p_Boxes_answer {a what : Int} (h : BoxesAt K o) (ha : 0 ≤ a ∧ a < 32) (hw : R32 what) (hg : 0 ≤ aI S (o + 1) a ∧ aI S (o + 1) a < 2147483647) : P G 0 0 0 mX1_answer 0 (LE mX1_answer [.ref o, IV a, IV what]) [] K S (Ret K (some (IV (if what = 1 then aI S (o + 1) a else if aI S (o + 1) a = 0 then -4 else if what = 2 then aI S (o + 3) (a * 8 + (aI S (o + 1) a - 1) % 8) else aI S (o + 2) a))) S) := by
  obtain ⟨h0, h1, h2, h3⟩ := h
  have := hw.1
  have := hw.2
  rw [show LE mX1_answer [.ref o, IV a, IV what] = [some (.ref o), some (IV a), some (IV what)] from rfl]
  refine T_iload_n dX1_answer_0 rfl ?_
  refine I_iconst dX1_answer_1 ?_
  refine I_icmp_ne (tgt := 12) dX1_answer_2 (by decide) ⟨by omega, by omega⟩ ⟨by omega, by omega⟩ (fun h2 => ?_) (fun h2 => ?_)
  · refine T_aload_n dX1_answer_12 rfl rfl ?_
    refine P_getr dX1_answer_13 fX1_9 (by assumption) rfl ?_
    refine T_iload_n dX1_answer_16 rfl ?_
    refine P_iald dX1_answer_17 (by assumption) ⟨by omega, by omega⟩ (by first | decide | omega) ?_
    refine I_if_ne (tgt := 24) dX1_answer_18 (by decide) ⟨by omega, by omega⟩ (fun h18 => ?_) (fun h18 => ?_)
    · refine T_iload_n dX1_answer_24 rfl ?_
      refine I_iconst dX1_answer_25 ?_
      refine I_icmp_ne (tgt := 53) dX1_answer_26 (by decide) ⟨by omega, by omega⟩ ⟨by omega, by omega⟩ (fun h26 => ?_) (fun h26 => ?_)
      · refine T_aload_n dX1_answer_53 rfl rfl ?_
        refine P_getr dX1_answer_54 fX1_15 (by assumption) rfl ?_
        refine T_iload_n dX1_answer_57 rfl ?_
        refine P_iald dX1_answer_58 (by assumption) ⟨by omega, by omega⟩ (by first | decide | omega) ?_
        exact I_ireturn dX1_answer_59 rfl ⟨_, _, rfl, by simp [*], rfl, rfl⟩
      · refine T_aload_n dX1_answer_29 rfl rfl ?_
        refine P_getr dX1_answer_30 fX1_18 (by assumption) rfl ?_
        refine T_iload_n dX1_answer_33 rfl ?_
        refine I_bipush dX1_answer_34 (by decide) ?_
        refine I_imul dX1_answer_36 ?_
        refine T_aload_n dX1_answer_37 rfl rfl ?_
        refine P_getr dX1_answer_38 fX1_9 (by assumption) rfl ?_
        refine T_iload_n dX1_answer_41 rfl ?_
        refine P_iald dX1_answer_42 (by assumption) ⟨by omega, by omega⟩ (by first | decide | omega) ?_
        refine I_iconst dX1_answer_43 ?_
        refine I_isub dX1_answer_44 ?_
        refine I_bipush dX1_answer_45 (by decide) ?_
        refine I_irem dX1_answer_47 ⟨by omega, by omega⟩ ⟨by omega, by omega⟩ ?_
        refine I_iadd dX1_answer_48 ?_
        refine P_iald dX1_answer_49 (by assumption) ⟨by omega, by omega⟩ (by first | decide | omega) ?_
        refine T_goto (tgt := 59) dX1_answer_50 (by decide) ?_
        exact I_ireturn dX1_answer_59 rfl ⟨_, _, rfl, by simp [*], rfl, rfl⟩
    · refine I_bipush dX1_answer_21 (by decide) ?_
      exact I_ireturn dX1_answer_23 rfl ⟨_, _, rfl, by simp [*], rfl, rfl⟩
  · refine T_aload_n dX1_answer_5 rfl rfl ?_
    refine P_getr dX1_answer_6 fX1_9 (by assumption) rfl ?_
    refine T_iload_n dX1_answer_9 rfl ?_
    refine P_iald dX1_answer_10 (by assumption) ⟨by omega, by omega⟩ (by first | decide | omega) ?_
    exact I_ireturn dX1_answer_11 rfl ⟨_, _, rfl, by simp [*], rfl, rfl⟩
def knowsB (S : SV) (o : Nat) (a letter : Int) : Prop := ∃ t : Int, 0 ≤ t ∧ t < 8 ∧ t < aI S (o + 1) a ∧ aI S (o + 3) (a * 8 + t) = letter
theorem l_Boxes_knows {a letter n : Int} (h : BoxesAt K o) (ha : 0 ≤ a ∧ a < 32) (hl : R32 letter) (hr : ∀ i : Int, R32 (aI S (o + 3) i)) (hn : n = if 8 < aI S (o + 1) a then 8 else aI S (o + 1) a) (hn0 : 0 ≤ n) (i : Int) (hi : 0 ≤ i ∧ i ≤ n) (hb : ∀ t : Int, 0 ≤ t → t < i → aI S (o + 3) (a * 8 + t) ≠ letter) : P G 1 0 0 mX1_knows 15 [some (.ref o), some (IV a), some (IV letter), some (IV n), some (IV i)] [] K S (Ret K (some (IV (b2p (knowsB S o a letter)))) S) := by
  obtain ⟨h0, h1, h2, h3⟩ := id h
  have hn8 : n ≤ 8 ∧ n ≤ aI S (o + 1) a ∧ (n = 8 ∨ n = aI S (o + 1) a) := by rw [hn]; split <;> omega
  induction hm : (n - i).toNat using Nat.strongRecOn generalizing i with
  | _ m ih =>
    have hli := hr (a * 8 + i)
    refine T_iload dX1_knows_15 rfl ?_
    refine T_iload_n dX1_knows_17 rfl ?_
    refine I_icmp_ge (tgt := 45) dX1_knows_18 (by decide) ⟨by omega, by omega⟩ ⟨by omega, by omega⟩ (fun h18 => ?_) (fun h18 => ?_)
    · refine I_iconst dX1_knows_45 ?_
      exact I_zreturn dX1_knows_46 rfl (by decide) ⟨_, _, rfl, by rw [b2p_f (fun z => by
        obtain ⟨t, q1, q2, q3, q4⟩ := z
        exact hb t q1 (by omega) q4)], rfl, rfl⟩
    · refine T_aload_n dX1_knows_21 rfl rfl ?_
      refine P_getr dX1_knows_22 fX1_18 (by assumption) rfl ?_
      refine T_iload_n dX1_knows_25 rfl ?_
      refine I_bipush dX1_knows_26 (by decide) ?_
      refine I_imul dX1_knows_28 ?_
      refine T_iload dX1_knows_29 rfl ?_
      refine I_iadd dX1_knows_31 ?_
      refine P_iald dX1_knows_32 (by assumption) ⟨by omega, by omega⟩ (by first | decide | omega) ?_
      refine T_iload_n dX1_knows_33 rfl ?_
      refine I_icmp_ne (tgt := 39) dX1_knows_34 (by decide) hli hl (fun h34 => ?_) (fun h34 => ?_)
      · refine I_iinc dX1_knows_39 rfl (by decide) rfl ?_
        refine T_goto (tgt := 15) dX1_knows_42 (by decide) ?_
        exact ih _ (by omega) (i + 1) ⟨by omega, by omega⟩ (fun t q1 q2 => by
          by_cases q : t = i
          · rw [q]; exact h34
          · exact hb t q1 (by omega)) rfl
      · refine I_iconst dX1_knows_37 ?_
        exact I_zreturn dX1_knows_38 rfl (by decide) ⟨_, _, rfl, by rw [b2p_t ⟨i, hi.1, by omega, by omega, h34⟩], rfl, rfl⟩
theorem p_Boxes_knows {a letter : Int} (h : BoxesAt K o) (ha : 0 ≤ a ∧ a < 32) (hl : R32 letter) (hr : ∀ i : Int, R32 (aI S (o + 3) i)) (hg : 0 ≤ aI S (o + 1) a ∧ aI S (o + 1) a < 2147483647) : P G 1 0 0 mX1_knows 0 (LE mX1_knows [.ref o, IV a, IV letter]) [] K S (Ret K (some (IV (b2p (knowsB S o a letter)))) S) := by
  obtain ⟨h0, h1, h2, h3⟩ := id h
  rw [show LE mX1_knows [.ref o, IV a, IV letter] = [some (.ref o), some (IV a), some (IV letter), none, none] from rfl]
  refine T_aload_n dX1_knows_0 rfl rfl ?_
  refine P_getr dX1_knows_1 fX1_9 (by assumption) rfl ?_
  refine T_iload_n dX1_knows_4 rfl ?_
  refine P_iald dX1_knows_5 (by assumption) ⟨by omega, by omega⟩ (by first | decide | omega) ?_
  refine I_bipush dX1_knows_6 (by decide) ?_
  refine I_mmin dX1_knows_8 lX1_33 (Nat.le_of_ble_eq_true rfl) ⟨by omega, by omega⟩ ⟨by omega, by omega⟩ ?_
  refine T_istore_n dX1_knows_11 (by decide) rfl ?_
  refine I_iconst dX1_knows_12 ?_
  refine T_istore dX1_knows_13 (by decide) rfl ?_
  exact l_Boxes_knows h ha hl hr rfl (by split <;> omega) 0 ⟨by omega, by split <;> omega⟩ (fun t q1 q2 => by omega)
theorem p_Boxes_clear (h : BoxesAt K o) : P G 1 0 0 mX1_clear 0 (LE mX1_clear [.ref o]) [] K S (Ret K none (sFill S (o + 1) 0 32)) := by
  obtain ⟨h0, h1, h2, h3⟩ := h
  rw [show LE mX1_clear [.ref o] = [some (.ref o)] from rfl]
  refine T_aload_n dX1_clear_0 rfl rfl ?_
  refine P_getr dX1_clear_1 fX1_9 (by assumption) rfl ?_
  refine I_iconst dX1_clear_4 ?_
  refine Q_callS dX1_clear_5 kJ7_fill_53178 lX1_21 (p_fill h1 (by decide)) rfl rfl (Nat.le_of_ble_eq_true rfl) (Nat.le_of_ble_eq_true rfl) (by decide) (by decide) ?_
  exact T_return dX1_clear_8 rfl ⟨_, _, rfl, rfl, rfl, rfl⟩
theorem p_Boxes_copyFrom {q : Nat} (h : BoxesAt K o) (hq : BoxesAt K q) : P G 1 0 0 mX1_copyFrom 0 (LE mX1_copyFrom [.ref o, .ref q]) [] K S (Ret K none (sC (sC (sC S (o + 1) (q + 1) 0 0 32) (o + 2) (q + 2) 0 0 32) (o + 3) (q + 3) 0 0 256)) := by
  obtain ⟨h0, h1, h2, h3⟩ := h
  obtain ⟨q0, q1, q2, q3⟩ := hq
  rw [show LE mX1_copyFrom [.ref o, .ref q] = [some (.ref o), some (.ref q)] from rfl]
  refine T_aload_n dX1_copyFrom_0 rfl rfl ?_
  refine P_getr dX1_copyFrom_1 fX1_9 (by assumption) rfl ?_
  refine I_iconst dX1_copyFrom_4 ?_
  refine T_aload_n dX1_copyFrom_5 rfl rfl ?_
  refine P_getr dX1_copyFrom_6 fX1_9 (by assumption) rfl ?_
  refine I_iconst dX1_copyFrom_9 ?_
  refine T_aload_n dX1_copyFrom_10 rfl rfl ?_
  refine P_getr dX1_copyFrom_11 fX1_9 (by assumption) rfl ?_
  refine P_alen dX1_copyFrom_14 (by assumption) (by decide) rfl ?_
  refine P_copy dX1_copyFrom_15 lX1_27 q1 h1 (by decide) (by decide) (by decide) (fun z => by cases z) (by decide) ?_
  refine T_aload_n dX1_copyFrom_18 rfl rfl ?_
  refine P_getr dX1_copyFrom_19 fX1_15 (by assumption) rfl ?_
  refine I_iconst dX1_copyFrom_22 ?_
  refine T_aload_n dX1_copyFrom_23 rfl rfl ?_
  refine P_getr dX1_copyFrom_24 fX1_15 (by assumption) rfl ?_
  refine I_iconst dX1_copyFrom_27 ?_
  refine T_aload_n dX1_copyFrom_28 rfl rfl ?_
  refine P_getr dX1_copyFrom_29 fX1_15 (by assumption) rfl ?_
  refine P_alen dX1_copyFrom_32 (by assumption) (by decide) rfl ?_
  refine P_copy dX1_copyFrom_33 lX1_27 q2 h2 (by decide) (by decide) (by decide) (fun z => by cases z) (by decide) ?_
  refine T_aload_n dX1_copyFrom_36 rfl rfl ?_
  refine P_getr dX1_copyFrom_37 fX1_18 (by assumption) rfl ?_
  refine I_iconst dX1_copyFrom_40 ?_
  refine T_aload_n dX1_copyFrom_41 rfl rfl ?_
  refine P_getr dX1_copyFrom_42 fX1_18 (by assumption) rfl ?_
  refine I_iconst dX1_copyFrom_45 ?_
  refine T_aload_n dX1_copyFrom_46 rfl rfl ?_
  refine P_getr dX1_copyFrom_47 fX1_18 (by assumption) rfl ?_
  refine P_alen dX1_copyFrom_50 (by assumption) (by decide) rfl ?_
  refine P_copy dX1_copyFrom_51 lX1_27 q3 h3 (by decide) (by decide) (by decide) (fun z => by cases z) (by decide) ?_
  exact T_return dX1_copyFrom_54 rfl ⟨_, _, rfl, rfl, rfl, rfl⟩
end Boxes
