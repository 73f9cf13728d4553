/-! Boxes: what each box was given -/
def BoxesAt (K : List SH) (o : Nat) : Prop := K[o]? = some (.inr (1, [some (o + 1), some (o + 2), some (o + 3)])) ∧ K[o + 1]? = some (.inl (0, 32)) ∧ K[o + 2]? = some (.inl (0, 32)) ∧ K[o + 3]? = some (.inl (0, 256))
section Boxes
variable {G : GT} {K : List SH} {S : SV} {o : Nat}
theorem p_Boxes_put {a letter fr : Int} (h : BoxesAt K o) (ha : 0 ≤ a ∧ a < 32) (hg : 0 ≤ aI S (o + 1) a ∧ aI S (o + 1) a < 2147483647) : P G 0 0 0 mX1_put 0 (LE mX1_put [.ref o, IV a, IV letter, IV fr]) [] K S (Ret K none (sA (sA (sA S (o + 3) (a * 8 + aI S (o + 1) a % 8) letter) (o + 2) a fr) (o + 1) a (aI S (o + 1) a + 1))) := by
  obtain ⟨h0, h1, h2, h3⟩ := h
  rw [show LE mX1_put [.ref o, IV a, IV letter, IV fr] = [some (.ref o), some (IV a), some (IV letter), some (IV fr)] from rfl]
  refine T_aload_n dX1_put_0 rfl rfl ?_
  refine P_getr dX1_put_1 fX1_18 (by assumption) rfl ?_
  refine T_iload_n dX1_put_4 rfl ?_
  refine I_bipush dX1_put_5 (by decide) ?_
  refine I_imul dX1_put_7 ?_
  refine T_aload_n dX1_put_8 rfl rfl ?_
  refine P_getr dX1_put_9 fX1_9 (by assumption) rfl ?_
  refine T_iload_n dX1_put_12 rfl ?_
  refine P_iald dX1_put_13 (by assumption) ⟨by omega, by omega⟩ (by decide) ?_
  refine I_bipush dX1_put_14 (by decide) ?_
  refine I_irem dX1_put_16 ⟨by omega, by omega⟩ ⟨by decide, by decide⟩ ?_
  refine I_iadd dX1_put_17 ?_
  refine T_iload_n dX1_put_18 rfl ?_
  refine P_iast dX1_put_19 (by assumption) ⟨by omega, by omega⟩ (by decide) ?_
  refine T_aload_n dX1_put_20 rfl rfl ?_
  refine P_getr dX1_put_21 fX1_15 (by assumption) rfl ?_
  refine T_iload_n dX1_put_24 rfl ?_
  refine T_iload_n dX1_put_25 rfl ?_
  refine P_iast dX1_put_26 (by assumption) ⟨by omega, by omega⟩ (by decide) ?_
  refine T_aload_n dX1_put_27 rfl rfl ?_
  refine P_getr dX1_put_28 fX1_9 (by assumption) rfl ?_
  refine T_iload_n dX1_put_31 rfl ?_
  refine T_dup2 dX1_put_32 rfl rfl ?_
  refine P_iald dX1_put_33 (by assumption) ⟨by omega, by omega⟩ (by decide) ?_
  refine I_iconst dX1_put_34 ?_
  refine I_iadd dX1_put_35 ?_
  refine P_iast dX1_put_36 (by assumption) ⟨by omega, by omega⟩ (by decide) ?_
  exact T_return dX1_put_37 rfl ⟨_, _, rfl, rfl, rfl, by simp [aI_sA]⟩
theorem p_Boxes_answer {a what : Int} (h : BoxesAt K o) (ha : 0 ≤ a ∧ a < 32) (hw : R32 what) (hg : 0 ≤ aI S (o + 1) a ∧ aI S (o + 1) a < 2147483647) : P G 0 0 0 mX1_answer 0 (LE mX1_answer [.ref o, IV a, IV what]) [] K S (Ret K (some (IV (if what = 1 then aI S (o + 1) a else if aI S (o + 1) a = 0 then -4 else if what = 2 then aI S (o + 3) (a * 8 + (aI S (o + 1) a - 1) % 8) else aI S (o + 2) a))) S) := by
  obtain ⟨h0, h1, h2, h3⟩ := h
  have := hw.1
  have := hw.2
  rw [show LE mX1_answer [.ref o, IV a, IV what] = [some (.ref o), some (IV a), some (IV what)] from rfl]
  refine T_iload_n dX1_answer_0 rfl ?_
  refine I_iconst dX1_answer_1 ?_
  refine I_icmp_ne (tgt := 12) dX1_answer_2 (by decide) ⟨by omega, by omega⟩ ⟨by omega, by omega⟩ (fun h2 => ?_) (fun h2 => ?_)
  · refine T_aload_n dX1_answer_12 rfl rfl ?_
    refine P_getr dX1_answer_13 fX1_9 (by assumption) rfl ?_
    refine T_iload_n dX1_answer_16 rfl ?_
    refine P_iald dX1_answer_17 (by assumption) ⟨by omega, by omega⟩ (by decide) ?_
    refine I_if_ne (tgt := 24) dX1_answer_18 (by decide) ⟨by omega, by omega⟩ (fun h18 => ?_) (fun h18 => ?_)
    · refine T_iload_n dX1_answer_24 rfl ?_
      refine I_iconst dX1_answer_25 ?_
      refine I_icmp_ne (tgt := 53) dX1_answer_26 (by decide) ⟨by omega, by omega⟩ ⟨by omega, by omega⟩ (fun h26 => ?_) (fun h26 => ?_)
      · refine T_aload_n dX1_answer_53 rfl rfl ?_
        refine P_getr dX1_answer_54 fX1_15 (by assumption) rfl ?_
        refine T_iload_n dX1_answer_57 rfl ?_
        refine P_iald dX1_answer_58 (by assumption) ⟨by omega, by omega⟩ (by decide) ?_
        exact I_ireturn dX1_answer_59 rfl ⟨_, _, rfl, by simp [*], rfl, rfl⟩
      · refine T_aload_n dX1_answer_29 rfl rfl ?_
        refine P_getr dX1_answer_30 fX1_18 (by assumption) rfl ?_
        refine T_iload_n dX1_answer_33 rfl ?_
        refine I_bipush dX1_answer_34 (by decide) ?_
        refine I_imul dX1_answer_36 ?_
        refine T_aload_n dX1_answer_37 rfl rfl ?_
        refine P_getr dX1_answer_38 fX1_9 (by assumption) rfl ?_
        refine T_iload_n dX1_answer_41 rfl ?_
        refine P_iald dX1_answer_42 (by assumption) ⟨by omega, by omega⟩ (by decide) ?_
        refine I_iconst dX1_answer_43 ?_
        refine I_isub dX1_answer_44 ?_
        refine I_bipush dX1_answer_45 (by decide) ?_
        refine I_irem dX1_answer_47 ⟨by omega, by omega⟩ ⟨by omega, by omega⟩ ?_
        refine I_iadd dX1_answer_48 ?_
        refine P_iald dX1_answer_49 (by assumption) ⟨by omega, by omega⟩ (by decide) ?_
        refine T_goto (tgt := 59) dX1_answer_50 (by decide) ?_
        exact I_ireturn dX1_answer_59 rfl ⟨_, _, rfl, by simp [*], rfl, rfl⟩
    · refine I_bipush dX1_answer_21 (by decide) ?_
      exact I_ireturn dX1_answer_23 rfl ⟨_, _, rfl, by simp [*], rfl, rfl⟩
  · refine T_aload_n dX1_answer_5 rfl rfl ?_
    refine P_getr dX1_answer_6 fX1_9 (by assumption) rfl ?_
    refine T_iload_n dX1_answer_9 rfl ?_
    refine P_iald dX1_answer_10 (by assumption) ⟨by omega, by omega⟩ (by decide) ?_
    exact I_ireturn dX1_answer_11 rfl ⟨_, _, rfl, by simp [*], rfl, rfl⟩
end Boxes
