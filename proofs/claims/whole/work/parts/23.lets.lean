/-! a wary house looks for a stranger -/
def Outs (S S' : SV) (lo hi : Nat) : Prop := ∀ x y : Nat, y ≤ lo ∨ hi ≤ x → Same S S' x y
theorem Outs.rf {S : SV} {lo hi : Nat} : Outs S S lo hi := fun _ _ _ => Same.rf
theorem Outs.tr {S S1 S2 : SV} {lo hi : Nat} (h : Outs S S1 lo hi) (h2 : Outs S1 S2 lo hi) : Outs S S2 lo hi := fun x y q => (h x y q).tr (h2 x y q)
theorem Outs.sub {S S' : SV} {lo hi lo' hi' : Nat} (h : Outs S S' lo hi) (h1 : lo' ≤ lo) (h2 : hi ≤ hi') : Outs S S' lo' hi' := fun x y q => h x y (by omega)
section Lets
variable {G : GT} {K : List SH} {S : SV} {o : Nat}
theorem p_Str_lets {w f t c : Int} {l : List Row} (h : StrAt K o) (hr : AllR S) (hl : StrR S o l) (hw : R32 w) (hf : R32 f) (ht : R32 t) (hc : 0 ≤ c ∧ c < 1073741824) (hb : ∀ r ∈ l, 0 ≤ r 3 ∧ r 3 < 1073741824) : P G 2 0 0 mX8_lets 0 (LE mX8_lets [.ref o, IV w, IV f, IV t, IV c]) [] K S (fun r K' S' => r = some (IV (if (letsM l w f t c).2 then 1 else 0)) ∧ K' = K ∧ StrR S' o (letsM l w f t c).1 ∧ AllR S' ∧ Outs S S' o (o + 2)) := by
  obtain ⟨k0, k1⟩ := id h
  have hn := hl.1
  have hn8 := hl.2.1
  have hfd := hl.find w f t
  cases hi : l.findIdx? (strIs w f t) with
  | none =>
    rw [hi] at hfd
    have hfd : fndF (stM S o w f t) (fI S o 1).toNat 0 = -4 := hfd
    by_cases h8 : l.length < 8
    · have e : letsM l w f t c = (l ++ [row5 w f t c 0], false) := by simp only [letsM, hi, pushN, if_pos h8]
      rw [e]
      rw [show LE mX8_lets [.ref o, IV w, IV f, IV t, IV c] = [some (.ref o), some (IV w), some (IV f), some (IV t), some (IV c), none, none, none] from rfl]
      refine T_aload_n dX8_lets_0 rfl rfl ?_
      refine T_iload_n dX8_lets_1 rfl ?_
      refine T_iload_n dX8_lets_2 rfl ?_
      refine T_iload_n dX8_lets_3 rfl ?_
      refine Q_callV dX8_lets_4 kX8_find lX8_25 (by assumption) rfl (p_Str_find h ⟨by omega, by omega⟩ (fun i => hr.2 _ i) hw hf ht) rfl rfl (Nat.le_of_ble_eq_true rfl) (Nat.le_of_ble_eq_true rfl) (by decide) (by decide) ?_
      rw [hfd]
      refine T_istore dX8_lets_7 (by decide) rfl ?_
      refine T_iload dX8_lets_9 rfl ?_
      refine I_bipush dX8_lets_11 (by decide) ?_
      refine I_icmp_ne (tgt := 41) dX8_lets_13 (by decide) ⟨by decide, by decide⟩ ⟨by omega, by omega⟩ (fun h13 => ?_) (fun h13 => ?_)
      · exact absurd rfl h13
      · refine T_aload_n dX8_lets_16 rfl rfl ?_
        refine P_geti dX8_lets_17 fX8_21 (by assumption) rfl ?_
        refine I_bipush dX8_lets_20 (by decide) ?_
        refine I_icmp_lt (tgt := 30) dX8_lets_22 (by decide) ⟨by omega, by omega⟩ ⟨by omega, by omega⟩ (fun h22 => ?_) (fun h22 => ?_)
        · refine T_aload_n dX8_lets_30 rfl rfl ?_
          refine T_iload_n dX8_lets_31 rfl ?_
          refine T_iload_n dX8_lets_32 rfl ?_
          refine T_iload_n dX8_lets_33 rfl ?_
          refine T_iload dX8_lets_34 rfl ?_
          refine Q_callV dX8_lets_36 kX8_putDown lX8_33 (by assumption) rfl (p_Str_putDown h ⟨by omega, by omega⟩) rfl rfl (Nat.le_of_ble_eq_true rfl) (Nat.le_of_ble_eq_true rfl) (by decide) (by decide) ?_
          refine I_iconst dX8_lets_39 ?_
          exact I_zreturn dX8_lets_40 rfl (by decide) ⟨_, _, rfl, rfl, rfl, hl.down h8 w f t c, stP_all hr o hw hf ht ⟨by omega, by omega⟩ ⟨by omega, by omega⟩, fun x y q => stP_same S o w f t c (by omega)⟩
        · omega
    · have e : letsM l w f t c = (l.drop 1 ++ [row5 w f t c 0], false) := by simp only [letsM, hi, pushN, if_neg h8]
      rw [e]
      have hl1 := hl.forget 0 (by omega)
      rw [List.eraseIdx_zero, ← List.drop_one] at hl1
      have hlen : (l.drop 1).length = 7 := by rw [List.length_drop]; omega
      have hk1 : fI (stF S o ((0 : Nat) : Int)) o 1 = 7 := by rw [hl1.1, hlen]; rfl
      have hr1 : AllR (stF S o ((0 : Nat) : Int)) := stF_all hr o ⟨by omega, by omega⟩
      rw [show LE mX8_lets [.ref o, IV w, IV f, IV t, IV c] = [some (.ref o), some (IV w), some (IV f), some (IV t), some (IV c), none, none, none] from rfl]
      refine T_aload_n dX8_lets_0 rfl rfl ?_
      refine T_iload_n dX8_lets_1 rfl ?_
      refine T_iload_n dX8_lets_2 rfl ?_
      refine T_iload_n dX8_lets_3 rfl ?_
      refine Q_callV dX8_lets_4 kX8_find lX8_25 (by assumption) rfl (p_Str_find h ⟨by omega, by omega⟩ (fun i => hr.2 _ i) hw hf ht) rfl rfl (Nat.le_of_ble_eq_true rfl) (Nat.le_of_ble_eq_true rfl) (by decide) (by decide) ?_
      rw [hfd]
      refine T_istore dX8_lets_7 (by decide) rfl ?_
      refine T_iload dX8_lets_9 rfl ?_
      refine I_bipush dX8_lets_11 (by decide) ?_
      refine I_icmp_ne (tgt := 41) dX8_lets_13 (by decide) ⟨by decide, by decide⟩ ⟨by omega, by omega⟩ (fun h13 => ?_) (fun h13 => ?_)
      · exact absurd rfl h13
      · refine T_aload_n dX8_lets_16 rfl rfl ?_
        refine P_geti dX8_lets_17 fX8_21 (by assumption) rfl ?_
        refine I_bipush dX8_lets_20 (by decide) ?_
        refine I_icmp_lt (tgt := 30) dX8_lets_22 (by decide) ⟨by omega, by omega⟩ ⟨by omega, by omega⟩ (fun h22 => ?_) (fun h22 => ?_)
        · omega
        · refine T_aload_n dX8_lets_25 rfl rfl ?_
          refine I_iconst dX8_lets_26 ?_
          refine Q_callV dX8_lets_27 kX8_forget lX8_29 (by assumption) rfl (p_Str_forget (i := ((0 : Nat) : Int)) h (by omega) ⟨by omega, by omega⟩) rfl rfl (Nat.le_of_ble_eq_true rfl) (Nat.le_of_ble_eq_true rfl) (by decide) (by decide) ?_
          refine T_aload_n dX8_lets_30 rfl rfl ?_
          refine T_iload_n dX8_lets_31 rfl ?_
          refine T_iload_n dX8_lets_32 rfl ?_
          refine T_iload_n dX8_lets_33 rfl ?_
          refine T_iload dX8_lets_34 rfl ?_
          refine Q_callV dX8_lets_36 kX8_putDown lX8_33 (by assumption) rfl (p_Str_putDown h ⟨by omega, by omega⟩) rfl rfl (Nat.le_of_ble_eq_true rfl) (Nat.le_of_ble_eq_true rfl) (by decide) (by decide) ?_
          refine I_iconst dX8_lets_39 ?_
          exact I_zreturn dX8_lets_40 rfl (by decide) ⟨_, _, rfl, rfl, rfl, hl1.down (by omega) w f t c, stP_all hr1 o hw hf ht ⟨by omega, by omega⟩ ⟨by omega, by omega⟩, fun x y q => (stF_same S o _ (by omega)).tr (stP_same _ o w f t c (by omega))⟩
  | some i =>
    rw [hi] at hfd
    have hfd : fndF (stM S o w f t) (fI S o 1).toNat 0 = (i : Int) := hfd
    have hlt : i < l.length := (List.findIdx?_eq_some_iff_getElem.mp hi).1
    have hg : l[i]? = some (l.getD i (fun _ => 0)) := by rw [List.getD_eq_getElem?_getD, List.getElem?_eq_getElem hlt]; rfl
    have e3 := hl.2.2 i _ hg 3 (by omega)
    have e4 := hl.2.2 i _ hg 4 (by omega)
    have hb3 := hb _ (List.mem_of_getElem? hg)
    have hle : letsM l w f t c = if (l.getD i (fun _ => 0)) 4 = 1 ∨ 3 ≤ c - (l.getD i (fun _ => 0)) 3 ∧ c - (l.getD i (fun _ => 0)) 3 ≤ 20 then (l.set i (rset (l.getD i (fun _ => 0)) 4 1), true) else if 20 < c - (l.getD i (fun _ => 0)) 3 then (l.eraseIdx i ++ [row5 w f t c 0], false) else (l, false) := by simp only [letsM, hi]
    have hl1 := hl.forget i hlt
    have hlen : (l.eraseIdx i).length = l.length - 1 := by rw [List.length_eraseIdx, if_pos hlt]
    have hk1 : fI (stF S o (i : Int)) o 1 = l.length - 1 := by rw [hl1.1, hlen]; omega
    have hr1 : AllR (stF S o (i : Int)) := stF_all hr o ⟨by omega, by omega⟩
    have e4r : R32 ((l.getD i (fun _ => 0)) 4) := by rw [← e4]; exact hr.2 _ _
    generalize l.getD i (fun _ => 0) = x at e3 e4 hb3 hle e4r hg
    rw [show LE mX8_lets [.ref o, IV w, IV f, IV t, IV c] = [some (.ref o), some (IV w), some (IV f), some (IV t), some (IV c), none, none, none] from rfl]
    refine T_aload_n dX8_lets_0 rfl rfl ?_
    refine T_iload_n dX8_lets_1 rfl ?_
    refine T_iload_n dX8_lets_2 rfl ?_
    refine T_iload_n dX8_lets_3 rfl ?_
    refine Q_callV dX8_lets_4 kX8_find lX8_25 (by assumption) rfl (p_Str_find h ⟨by omega, by omega⟩ (fun i => hr.2 _ i) hw hf ht) rfl rfl (Nat.le_of_ble_eq_true rfl) (Nat.le_of_ble_eq_true rfl) (by decide) (by decide) ?_
    rw [hfd]
    refine T_istore dX8_lets_7 (by decide) rfl ?_
    refine T_iload dX8_lets_9 rfl ?_
    refine I_bipush dX8_lets_11 (by decide) ?_
    refine I_icmp_ne (tgt := 41) dX8_lets_13 (by decide) ⟨by omega, by omega⟩ ⟨by omega, by omega⟩ (fun h13 => ?_) (fun h13 => ?_)
    · refine T_iload dX8_lets_41 rfl ?_
      refine I_iconst dX8_lets_43 ?_
      refine I_imul dX8_lets_44 ?_
      refine T_istore dX8_lets_45 (by decide) rfl ?_
      refine T_iload dX8_lets_47 rfl ?_
      refine T_aload_n dX8_lets_49 rfl rfl ?_
      refine P_getr dX8_lets_50 fX8_11 (by assumption) rfl ?_
      refine T_iload dX8_lets_53 rfl ?_
      refine I_iconst dX8_lets_55 ?_
      refine I_iadd dX8_lets_56 ?_
      refine P_iald dX8_lets_57 (by assumption) ⟨by omega, by omega⟩ (by first | decide | omega) ?_
      rw [show aI S (o + 1) ((i : Int) * 5 + 3) = x 3 from e3]
      refine I_isub dX8_lets_58 ?_
      refine T_istore dX8_lets_59 (by decide) rfl ?_
      refine T_aload_n dX8_lets_61 rfl rfl ?_
      refine P_getr dX8_lets_62 fX8_11 (by assumption) rfl ?_
      refine T_iload dX8_lets_65 rfl ?_
      refine I_iconst dX8_lets_67 ?_
      refine I_iadd dX8_lets_68 ?_
      refine P_iald dX8_lets_69 (by assumption) ⟨by omega, by omega⟩ (by first | decide | omega) ?_
      rw [show aI S (o + 1) ((i : Int) * 5 + 4) = x 4 from e4]
      refine I_iconst dX8_lets_70 ?_
      refine I_icmp_eq (tgt := 87) dX8_lets_71 (by decide) e4r ⟨by omega, by omega⟩ (fun h71 => ?_) (fun h71 => ?_)
      · have hcd : x 4 = 1 ∨ 3 ≤ c - x 3 ∧ c - x 3 ≤ 20 := by first | exact Or.inl h71 | exact Or.inr ⟨by omega, by omega⟩
        rw [if_pos hcd] at hle
        rw [hle]
        refine T_aload_n dX8_lets_87 rfl rfl ?_
        refine P_getr dX8_lets_88 fX8_11 (by assumption) rfl ?_
        refine T_iload dX8_lets_91 rfl ?_
        refine I_iconst dX8_lets_93 ?_
        refine I_iadd dX8_lets_94 ?_
        refine I_iconst dX8_lets_95 ?_
        refine P_iast dX8_lets_96 (by assumption) ⟨by omega, by omega⟩ (by first | decide | omega) ?_
        refine I_iconst dX8_lets_97 ?_
        exact I_zreturn dX8_lets_98 rfl (by decide) ⟨_, _, rfl, rfl, rfl, by have := hl.mark i hlt; rw [List.getD_eq_getElem?_getD, hg] at this; exact this, hr.sA (by decide), fun x y q => Same.sA (by omega)⟩
      · refine T_iload dX8_lets_74 rfl ?_
        refine I_iconst dX8_lets_76 ?_
        refine I_icmp_lt (tgt := 99) dX8_lets_77 (by decide) ⟨by omega, by omega⟩ ⟨by omega, by omega⟩ (fun h77 => ?_) (fun h77 => ?_)
        · have hcd : ¬ (x 4 = 1 ∨ 3 ≤ c - x 3 ∧ c - x 3 ≤ 20) := by
            intro z
            rcases z with z | z
            · exact h71 z
            · omega
          rw [if_neg hcd] at hle
          refine T_iload dX8_lets_99 rfl ?_
          refine I_bipush dX8_lets_101 (by decide) ?_
          refine I_icmp_le (tgt := 121) dX8_lets_103 (by decide) ⟨by omega, by omega⟩ ⟨by omega, by omega⟩ (fun h103 => ?_) (fun h103 => ?_)
          · refine I_iconst dX8_lets_121 ?_
            exact I_zreturn dX8_lets_122 rfl (by decide) ⟨_, _, rfl, by first | exact ⟨rfl, rfl, hl1.down (by omega) w f t c, stP_all hr1 o hw hf ht ⟨by omega, by omega⟩ ⟨by omega, by omega⟩, fun x y q => (stF_same S o _ (by omega)).tr (stP_same _ o w f t c (by omega))⟩ | (rw [if_neg (by omega)] at hle; rw [hle]; exact ⟨rfl, rfl, hl, hr, Outs.rf⟩)⟩
          · rw [if_pos (by omega)] at hle
            rw [hle]
            refine T_aload_n dX8_lets_106 rfl rfl ?_
            refine T_iload dX8_lets_107 rfl ?_
            refine Q_callV dX8_lets_109 kX8_forget lX8_29 (by assumption) rfl (p_Str_forget (i := (i : Int)) h (by omega) ⟨by omega, by omega⟩) rfl rfl (Nat.le_of_ble_eq_true rfl) (Nat.le_of_ble_eq_true rfl) (by decide) (by decide) ?_
            refine T_aload_n dX8_lets_112 rfl rfl ?_
            refine T_iload_n dX8_lets_113 rfl ?_
            refine T_iload_n dX8_lets_114 rfl ?_
            refine T_iload_n dX8_lets_115 rfl ?_
            refine T_iload dX8_lets_116 rfl ?_
            refine Q_callV dX8_lets_118 kX8_putDown lX8_33 (by assumption) rfl (p_Str_putDown h ⟨by omega, by omega⟩) rfl rfl (Nat.le_of_ble_eq_true rfl) (Nat.le_of_ble_eq_true rfl) (by decide) (by decide) ?_
            refine I_iconst dX8_lets_121 ?_
            exact I_zreturn dX8_lets_122 rfl (by decide) ⟨_, _, rfl, by first | exact ⟨rfl, rfl, hl1.down (by omega) w f t c, stP_all hr1 o hw hf ht ⟨by omega, by omega⟩ ⟨by omega, by omega⟩, fun x y q => (stF_same S o _ (by omega)).tr (stP_same _ o w f t c (by omega))⟩ | (rw [if_neg (by omega)] at hle; rw [hle]; exact ⟨rfl, rfl, hl, hr, Outs.rf⟩)⟩
        · refine T_iload dX8_lets_80 rfl ?_
          refine I_bipush dX8_lets_82 (by decide) ?_
          refine I_icmp_gt (tgt := 99) dX8_lets_84 (by decide) ⟨by omega, by omega⟩ ⟨by omega, by omega⟩ (fun h84 => ?_) (fun h84 => ?_)
          · have hcd : ¬ (x 4 = 1 ∨ 3 ≤ c - x 3 ∧ c - x 3 ≤ 20) := by
              intro z
              rcases z with z | z
              · exact h71 z
              · omega
            rw [if_neg hcd] at hle
            refine T_iload dX8_lets_99 rfl ?_
            refine I_bipush dX8_lets_101 (by decide) ?_
            refine I_icmp_le (tgt := 121) dX8_lets_103 (by decide) ⟨by omega, by omega⟩ ⟨by omega, by omega⟩ (fun h103 => ?_) (fun h103 => ?_)
            · refine I_iconst dX8_lets_121 ?_
              exact I_zreturn dX8_lets_122 rfl (by decide) ⟨_, _, rfl, by first | exact ⟨rfl, rfl, hl1.down (by omega) w f t c, stP_all hr1 o hw hf ht ⟨by omega, by omega⟩ ⟨by omega, by omega⟩, fun x y q => (stF_same S o _ (by omega)).tr (stP_same _ o w f t c (by omega))⟩ | (rw [if_neg (by omega)] at hle; rw [hle]; exact ⟨rfl, rfl, hl, hr, Outs.rf⟩)⟩
            · rw [if_pos (by omega)] at hle
              rw [hle]
              refine T_aload_n dX8_lets_106 rfl rfl ?_
              refine T_iload dX8_lets_107 rfl ?_
              refine Q_callV dX8_lets_109 kX8_forget lX8_29 (by assumption) rfl (p_Str_forget (i := (i : Int)) h (by omega) ⟨by omega, by omega⟩) rfl rfl (Nat.le_of_ble_eq_true rfl) (Nat.le_of_ble_eq_true rfl) (by decide) (by decide) ?_
              refine T_aload_n dX8_lets_112 rfl rfl ?_
              refine T_iload_n dX8_lets_113 rfl ?_
              refine T_iload_n dX8_lets_114 rfl ?_
              refine T_iload_n dX8_lets_115 rfl ?_
              refine T_iload dX8_lets_116 rfl ?_
              refine Q_callV dX8_lets_118 kX8_putDown lX8_33 (by assumption) rfl (p_Str_putDown h ⟨by omega, by omega⟩) rfl rfl (Nat.le_of_ble_eq_true rfl) (Nat.le_of_ble_eq_true rfl) (by decide) (by decide) ?_
              refine I_iconst dX8_lets_121 ?_
              exact I_zreturn dX8_lets_122 rfl (by decide) ⟨_, _, rfl, by first | exact ⟨rfl, rfl, hl1.down (by omega) w f t c, stP_all hr1 o hw hf ht ⟨by omega, by omega⟩ ⟨by omega, by omega⟩, fun x y q => (stF_same S o _ (by omega)).tr (stP_same _ o w f t c (by omega))⟩ | (rw [if_neg (by omega)] at hle; rw [hle]; exact ⟨rfl, rfl, hl, hr, Outs.rf⟩)⟩
          · have hcd : x 4 = 1 ∨ 3 ≤ c - x 3 ∧ c - x 3 ≤ 20 := by first | exact Or.inl h71 | exact Or.inr ⟨by omega, by omega⟩
            rw [if_pos hcd] at hle
            rw [hle]
            refine T_aload_n dX8_lets_87 rfl rfl ?_
            refine P_getr dX8_lets_88 fX8_11 (by assumption) rfl ?_
            refine T_iload dX8_lets_91 rfl ?_
            refine I_iconst dX8_lets_93 ?_
            refine I_iadd dX8_lets_94 ?_
            refine I_iconst dX8_lets_95 ?_
            refine P_iast dX8_lets_96 (by assumption) ⟨by omega, by omega⟩ (by first | decide | omega) ?_
            refine I_iconst dX8_lets_97 ?_
            exact I_zreturn dX8_lets_98 rfl (by decide) ⟨_, _, rfl, rfl, rfl, by have := hl.mark i hlt; rw [List.getD_eq_getElem?_getD, hg] at this; exact this, hr.sA (by decide), fun x y q => Same.sA (by omega)⟩
    · omega
end Lets
