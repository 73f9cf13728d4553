/-! Mail: rows of items -/
def MailAt (K : List SH) (o : Nat) : Prop := K[o]? = some (.inr (4, [some (o + 1), none, none])) ∧ K[o + 1]? = some (.inl (3, 120)) ∧ ∀ q : Nat, o + 2 ≤ q → q < o + 122 → ItemAt K q
def qa (S : SV) (o : Nat) (i : Int) : Nat := (rI S (o + 1) i).getD 0
def RowsOk (S : SV) (o : Nat) : Prop := (∀ i : Int, 0 ≤ i → i < 120 → rI S (o + 1) i = some (qa S o i) ∧ o + 2 ≤ qa S o i ∧ qa S o i < o + 122) ∧ ∀ i j : Int, 0 ≤ i → i < 120 → 0 ≤ j → j < 120 → qa S o i = qa S o j → i = j
def set8 (S : SV) (q : Nat) (a b c d e f g h : Int) : SV := sF (sF (sF (sF (sF (sF (sF (sF S q 0 a) q 1 b) q 2 c) q 3 d) q 4 e) q 5 f) q 6 g) q 7 h
section Mail
variable {G : GT} {K : List SH} {S : SV} {o : Nat}
theorem MailAt.it (h : MailAt K o) (hR : RowsOk S o) {i : Int} (h0 : 0 ≤ i) (h1 : i < 120) : K[qa S o i]? = some (.inr (3, [none, none, none, none, none, none, none, none])) := h.2.2 _ (hR.1 i h0 h1).2.1 (hR.1 i h0 h1).2.2
def addS (S : SV) (o : Nat) (at_ letter fr to_ due : Int) : SV := sF (sF (set8 S (qa S o (fI S o 1)) at_ letter fr to_ 0 0 due 0) o 1 (fI S o 1 + 1)) o 2 (fI S o 2 + 1)
theorem p_Mail_add {at_ letter fr to_ due : Int} (h : MailAt K o) (hR : RowsOk S o) (hu : 0 ≤ fI S o 1 ∧ fI S o 1 ≤ 119) : P G 1 0 0 mX4_add 0 (LE mX4_add [.ref o, IV at_, IV letter, IV fr, IV to_, IV due]) [] K S (Ret K (some (.ref (qa S o (fI S o 1)))) (addS S o at_ letter fr to_ due)) := by
  obtain ⟨k0, k1, -⟩ := id h
  have hIt := h.it hR (i := fI S o 1) (by omega) (by omega)
  have hq := (hR.1 (fI S o 1) (by omega) (by omega)).2
  have hne : o ≠ qa S o (fI S o 1) := by omega
  rw [show LE mX4_add [.ref o, IV at_, IV letter, IV fr, IV to_, IV due] = [some (.ref o), some (IV at_), some (IV letter), some (IV fr), some (IV to_), some (IV due), none, none] from rfl]
  refine T_aload_n dX4_add_0 rfl rfl ?_
  refine P_geti dX4_add_1 fX4_18 (by assumption) rfl ?_
  refine T_aload_n dX4_add_4 rfl rfl ?_
  refine P_getr dX4_add_5 fX4_11 (by assumption) rfl ?_
  refine P_alen dX4_add_8 (by assumption) (by decide) rfl ?_
  refine I_icmp_ge (tgt := 19) dX4_add_9 (by decide) ⟨by omega, by omega⟩ ⟨by omega, by omega⟩ (fun h9 => ?_) (fun h9 => ?_)
  · exact absurd h9 (by omega)
  · refine T_aload_n dX4_add_12 rfl rfl ?_
    refine P_geti dX4_add_13 fX4_18 (by assumption) rfl ?_
    refine T_goto (tgt := 26) dX4_add_16 (by decide) ?_
    refine T_istore dX4_add_26 (by decide) rfl ?_
    refine T_aload_n dX4_add_28 rfl rfl ?_
    refine P_getr dX4_add_29 fX4_11 (by assumption) rfl ?_
    refine T_iload dX4_add_32 rfl ?_
    refine P_aald dX4_add_34 (by assumption) (by decide) ⟨by omega, by omega⟩ (by decide) (hR.1 _ (by omega) (by omega)).1 ?_
    refine T_astore dX4_add_35 (by decide) rfl ?_
    refine T_aload dX4_add_37 rfl rfl ?_
    refine T_iload_n dX4_add_39 rfl ?_
    refine P_puti dX4_add_40 fX4_29 (by assumption) rfl rfl ?_
    refine T_aload dX4_add_43 rfl rfl ?_
    refine T_iload_n dX4_add_45 rfl ?_
    refine P_puti dX4_add_46 fX4_32 (by assumption) rfl rfl ?_
    refine T_aload dX4_add_49 rfl rfl ?_
    refine T_iload_n dX4_add_51 rfl ?_
    refine P_puti dX4_add_52 fX4_35 (by assumption) rfl rfl ?_
    refine T_aload dX4_add_55 rfl rfl ?_
    refine T_iload dX4_add_57 rfl ?_
    refine P_puti dX4_add_59 fX4_38 (by assumption) rfl rfl ?_
    refine T_aload dX4_add_62 rfl rfl ?_
    refine I_iconst dX4_add_64 ?_
    refine P_puti dX4_add_65 fX4_41 (by assumption) rfl rfl ?_
    refine T_aload dX4_add_68 rfl rfl ?_
    refine I_iconst dX4_add_70 ?_
    refine P_puti dX4_add_71 fX4_44 (by assumption) rfl rfl ?_
    refine T_aload dX4_add_74 rfl rfl ?_
    refine T_iload dX4_add_76 rfl ?_
    refine P_puti dX4_add_78 fX4_47 (by assumption) rfl rfl ?_
    refine T_aload dX4_add_81 rfl rfl ?_
    refine I_iconst dX4_add_83 ?_
    refine P_puti dX4_add_84 fX4_50 (by assumption) rfl rfl ?_
    show T _ _ _ _ _ _ _ _ (HP K (set8 S (qa S o (fI S o 1)) at_ letter fr to_ 0 0 due 0)) _
    refine T_aload_n dX4_add_87 rfl rfl ?_
    refine T_iload dX4_add_88 rfl ?_
    refine I_iconst dX4_add_90 ?_
    refine I_iadd dX4_add_91 ?_
    refine P_puti dX4_add_92 fX4_18 (by assumption) rfl rfl ?_
    refine T_aload_n dX4_add_95 rfl rfl ?_
    refine T_dup dX4_add_96 rfl ?_
    refine P_geti dX4_add_97 fX4_22 (by assumption) rfl ?_
    rw [show fI (sF (set8 S (qa S o (fI S o 1)) at_ letter fr to_ 0 0 due 0) o 1 (fI S o 1 + 1)) o 2 = fI S o 2 from by simp [fI_sF, set8, hne]]
    refine I_iconst dX4_add_100 ?_
    refine I_iadd dX4_add_101 ?_
    refine P_puti dX4_add_102 fX4_22 (by assumption) rfl rfl ?_
    refine T_aload dX4_add_105 rfl rfl ?_
    exact T_areturn dX4_add_107 rfl ⟨_, _, rfl, rfl, rfl, rfl⟩
theorem p_Mail_remove {q : Nat} (h : MailAt K o) (hq : K[q]? = some (.inr (3, [none, none, none, none, none, none, none, none]))) (hne : o ≠ q) : P G 0 0 0 mX4_remove 0 (LE mX4_remove [.ref o, .ref q]) [] K S (Ret K none (sF (sF S q 0 (-1)) o 2 (fI S o 2 - 1))) := by
  obtain ⟨k0, k1, -⟩ := id h
  rw [show LE mX4_remove [.ref o, .ref q] = [some (.ref o), some (.ref q)] from rfl]
  refine T_aload_n dX4_remove_0 rfl rfl ?_
  refine I_iconst dX4_remove_1 ?_
  refine P_puti dX4_remove_2 fX4_29 (by assumption) rfl rfl ?_
  refine T_aload_n dX4_remove_5 rfl rfl ?_
  refine T_dup dX4_remove_6 rfl ?_
  refine P_geti dX4_remove_7 fX4_22 (by assumption) rfl ?_
  rw [show fI (sF S q 0 (-1)) o 2 = fI S o 2 from by simp [fI_sF]]
  refine I_iconst dX4_remove_10 ?_
  refine I_isub dX4_remove_11 ?_
  refine P_puti dX4_remove_12 fX4_22 (by assumption) rfl rfl ?_
  exact T_return dX4_remove_15 rfl ⟨_, _, rfl, rfl, rfl, rfl⟩
def onwS (S : SV) (o q : Nat) (at_ to_ marks due : Int) : SV := sF (sF (addS S o at_ (fI S q 1) (fI S q 2) to_ due) (qa S o (fI S o 1)) 5 (fI S q 5 + 1)) (qa S o (fI S o 1)) 7 marks
theorem p_Mail_addOnward {q : Nat} {at_ to_ marks due : Int} (h : MailAt K o) (hR : RowsOk S o) (hu : 0 ≤ fI S o 1 ∧ fI S o 1 ≤ 119) (hq : K[q]? = some (.inr (3, [none, none, none, none, none, none, none, none]))) (hne : q ≠ qa S o (fI S o 1)) (hno : q ≠ o) : P G 2 0 0 mX4_addOnward 0 (LE mX4_addOnward [.ref o, .ref q, IV at_, IV to_, IV marks, IV due]) [] K S (Ret K none (onwS S o q at_ to_ marks due)) := by
  obtain ⟨k0, k1, -⟩ := id h
  have hIt := h.it hR (i := fI S o 1) (by omega) (by omega)
  rw [show LE mX4_addOnward [.ref o, .ref q, IV at_, IV to_, IV marks, IV due] = [some (.ref o), some (.ref q), some (IV at_), some (IV to_), some (IV marks), some (IV due), none] from rfl]
  refine T_aload_n dX4_addOnward_0 rfl rfl ?_
  refine T_iload_n dX4_addOnward_1 rfl ?_
  refine T_aload_n dX4_addOnward_2 rfl rfl ?_
  refine P_geti dX4_addOnward_3 fX4_32 (by assumption) rfl ?_
  refine T_aload_n dX4_addOnward_6 rfl rfl ?_
  refine P_geti dX4_addOnward_7 fX4_35 (by assumption) rfl ?_
  refine T_iload_n dX4_addOnward_10 rfl ?_
  refine T_iload dX4_addOnward_11 rfl ?_
  refine Q_callV dX4_addOnward_13 kX4_add lX4_53 (by assumption) rfl (p_Mail_add h hR hu) rfl rfl (Nat.le_of_ble_eq_true rfl) (Nat.le_of_ble_eq_true rfl) (by decide) (by decide) ?_
  refine T_astore dX4_addOnward_16 (by decide) rfl ?_
  refine T_aload dX4_addOnward_18 rfl rfl ?_
  refine T_aload_n dX4_addOnward_20 rfl rfl ?_
  refine P_geti dX4_addOnward_21 fX4_44 (by assumption) rfl ?_
  rw [show fI (addS S o at_ (fI S q 1) (fI S q 2) to_ due) q 5 = fI S q 5 from by simp [fI_sF, addS, set8, hne, hno]]
  refine I_iconst dX4_addOnward_24 ?_
  refine I_iadd dX4_addOnward_25 ?_
  refine P_puti dX4_addOnward_26 fX4_44 (by assumption) rfl rfl ?_
  refine T_aload dX4_addOnward_29 rfl rfl ?_
  refine T_iload dX4_addOnward_31 rfl ?_
  refine P_puti dX4_addOnward_33 fX4_50 (by assumption) rfl rfl ?_
  exact T_return dX4_addOnward_36 rfl ⟨_, _, rfl, rfl, rfl, rfl⟩
theorem p_Mail_clear (h : MailAt K o) : P G 0 0 0 mX4_clear 0 (LE mX4_clear [.ref o]) [] K S (Ret K none (sF (sF S o 1 0) o 2 0)) := by
  obtain ⟨k0, k1, -⟩ := id h
  rw [show LE mX4_clear [.ref o] = [some (.ref o)] from rfl]
  refine T_aload_n dX4_clear_0 rfl rfl ?_
  refine I_iconst dX4_clear_1 ?_
  refine P_puti dX4_clear_2 fX4_18 (by assumption) rfl rfl ?_
  refine T_aload_n dX4_clear_5 rfl rfl ?_
  refine I_iconst dX4_clear_6 ?_
  refine P_puti dX4_clear_7 fX4_22 (by assumption) rfl rfl ?_
  exact T_return dX4_clear_10 rfl ⟨_, _, rfl, rfl, rfl, rfl⟩
def inH (S : SV) (o : Nat) (h : Int) (t : Int) : Prop := fI S (qa S o t) 0 = h
theorem l_Mail_itemsIn {h : Int} (hM : MailAt K o) (hR : RowsOk S o) (hu : 0 ≤ fI S o 1 ∧ fI S o 1 ≤ 120) (hr : ∀ i : Int, 0 ≤ i → i < fI S o 1 → R32 (fI S (qa S o i) 0)) (hh : R32 h) (i acc : Int) (hi : 0 ≤ i ∧ i ≤ fI S o 1) : P G 0 0 0 mX4_itemsIn 4 [some (.ref o), some (IV h), some (IV acc), some (IV i)] [] K S (Ret K (some (IV (acc + sumF (fun t => b2p (inH S o h t)) (fI S o 1 - i).toNat i))) S) := by
  obtain ⟨k0, k1, -⟩ := id hM
  induction hm : (fI S o 1 - i).toNat using Nat.strongRecOn generalizing i acc with
  | _ m ih =>
    refine T_iload_n dX4_itemsIn_4 rfl ?_
    refine T_aload_n dX4_itemsIn_5 rfl rfl ?_
    refine P_geti dX4_itemsIn_6 fX4_18 (by assumption) rfl ?_
    refine I_icmp_ge (tgt := 34) dX4_itemsIn_9 (by decide) ⟨by omega, by omega⟩ ⟨by omega, by omega⟩ (fun h9 => ?_) (fun h9 => ?_)
    · refine T_iload_n dX4_itemsIn_34 rfl ?_
      exact I_ireturn dX4_itemsIn_35 rfl ⟨_, _, rfl, by rw [← hm, toNat_0 h9, sumF, Int.add_zero], rfl, rfl⟩
    · have hIt := hM.it hR (i := i) (by omega) (by omega)
      refine T_aload_n dX4_itemsIn_12 rfl rfl ?_
      refine P_getr dX4_itemsIn_13 fX4_11 (by assumption) rfl ?_
      refine T_iload_n dX4_itemsIn_16 rfl ?_
      refine P_aald dX4_itemsIn_17 (by assumption) (by decide) ⟨by omega, by omega⟩ (by decide) (hR.1 _ (by omega) (by omega)).1 ?_
      refine P_geti dX4_itemsIn_18 fX4_29 (by assumption) rfl ?_
      refine T_iload_n dX4_itemsIn_21 rfl ?_
      refine I_icmp_ne (tgt := 28) dX4_itemsIn_22 (by decide) (hr i (by omega) (by omega)) hh (fun h22 => ?_) (fun h22 => ?_)
      · refine I_iinc dX4_itemsIn_28 rfl (by decide) rfl ?_
        refine T_goto (tgt := 4) dX4_itemsIn_31 (by decide) ?_
        rw [← hm, toNat_1 (by omega : i < fI S o 1), sumF, ← Int.add_assoc]
        first
          | (rw [b2p_t (show inH S o h i from h22)]; exact ih _ (by omega) (i + 1) (acc + 1) ⟨by omega, by omega⟩ rfl)
          | (rw [b2p_f (show ¬ inH S o h i from h22), Int.add_zero]; exact ih _ (by omega) (i + 1) acc ⟨by omega, by omega⟩ rfl)
      · have hb : b2p (inH S o h i) = 1 := b2p_t h22
        refine I_iinc dX4_itemsIn_25 rfl (by decide) rfl ?_
        refine I_iinc dX4_itemsIn_28 rfl (by decide) rfl ?_
        refine T_goto (tgt := 4) dX4_itemsIn_31 (by decide) ?_
        rw [← hm, toNat_1 (by omega : i < fI S o 1), sumF, ← Int.add_assoc]
        first
          | (rw [b2p_t (show inH S o h i from h22)]; exact ih _ (by omega) (i + 1) (acc + 1) ⟨by omega, by omega⟩ rfl)
          | (rw [b2p_f (show ¬ inH S o h i from h22), Int.add_zero]; exact ih _ (by omega) (i + 1) acc ⟨by omega, by omega⟩ rfl)
theorem p_Mail_itemsIn {h : Int} (hM : MailAt K o) (hR : RowsOk S o) (hu : 0 ≤ fI S o 1 ∧ fI S o 1 ≤ 120) (hr : ∀ i : Int, 0 ≤ i → i < fI S o 1 → R32 (fI S (qa S o i) 0)) (hh : R32 h) : P G 0 0 0 mX4_itemsIn 0 (LE mX4_itemsIn [.ref o, IV h]) [] K S (Ret K (some (IV (sumF (fun t => b2p (inH S o h t)) (fI S o 1).toNat 0))) S) := by
  rw [show LE mX4_itemsIn [.ref o, IV h] = [some (.ref o), some (IV h), none, none] from rfl]
  refine I_iconst dX4_itemsIn_0 ?_
  refine T_istore_n dX4_itemsIn_1 (by decide) rfl ?_
  refine I_iconst dX4_itemsIn_2 ?_
  refine T_istore_n dX4_itemsIn_3 (by decide) rfl ?_
  have e := l_Mail_itemsIn (G := G) hM hR hu hr hh 0 0 ⟨by omega, by omega⟩
  rw [Int.sub_zero, Int.zero_add] at e
  exact e
def foundV (S : SV) (o : Nat) (z : Int) : Value := if z = -4 then .null else .ref (qa S o z)
theorem l_Mail_find {h p0 : Int} (hM : MailAt K o) (hR : RowsOk S o) (hu : 0 ≤ fI S o 1 ∧ fI S o 1 ≤ 120) (hr : ∀ i : Int, 0 ≤ i → i < fI S o 1 → R32 (fI S (qa S o i) 0)) (hh : R32 h) (i left : Int) (hi : 0 ≤ i ∧ i ≤ fI S o 1) (hl : R32 left ∧ -2147483000 < left - (fI S o 1 - i)) : P G 0 0 0 mX4_find 5 [some (.ref o), some (IV h), some (IV p0), some (IV left), some (IV i)] [] K S (Ret K (some (foundV S o (nthF (inH S o h) (fI S o 1 - i).toNat i left))) S) := by
  obtain ⟨k0, k1, -⟩ := id hM
  induction hm : (fI S o 1 - i).toNat using Nat.strongRecOn generalizing i left with
  | _ m ih =>
    refine T_iload dX4_find_5 rfl ?_
    refine T_aload_n dX4_find_7 rfl rfl ?_
    refine P_geti dX4_find_8 fX4_18 (by assumption) rfl ?_
    refine I_icmp_ge (tgt := 49) dX4_find_11 (by decide) ⟨by omega, by omega⟩ ⟨by omega, by omega⟩ (fun h11 => ?_) (fun h11 => ?_)
    · refine T_null dX4_find_49 ?_
      exact T_areturnN dX4_find_50 rfl ⟨_, _, rfl, by rw [← hm, toNat_0 h11]; rfl, rfl, rfl⟩
    · have hIt := hM.it hR (i := i) (by omega) (by omega)
      refine T_aload_n dX4_find_14 rfl rfl ?_
      refine P_getr dX4_find_15 fX4_11 (by assumption) rfl ?_
      refine T_iload dX4_find_18 rfl ?_
      refine P_aald dX4_find_20 (by assumption) (by decide) ⟨by omega, by omega⟩ (by decide) (hR.1 _ (by omega) (by omega)).1 ?_
      refine P_geti dX4_find_21 fX4_29 (by assumption) rfl ?_
      refine T_iload_n dX4_find_24 rfl ?_
      refine I_icmp_ne (tgt := 43) dX4_find_25 (by decide) (hr i (by omega) (by omega)) hh (fun h25 => ?_) (fun h25 => ?_)
      · refine I_iinc dX4_find_43 rfl (by decide) rfl ?_
        refine T_goto (tgt := 5) dX4_find_46 (by decide) ?_
        rw [← hm, toNat_1 (by omega : i < fI S o 1)]
        first
          | (rw [nthF_t (show inH S o h i from h25), if_neg h29]; exact ih _ (by omega) (i + 1) (left - 1) ⟨by omega, by omega⟩ ⟨⟨by omega, by omega⟩, by omega⟩ rfl)
          | (rw [nthF_f (show ¬ inH S o h i from h25)]; exact ih _ (by omega) (i + 1) left ⟨by omega, by omega⟩ ⟨hl.1, by omega⟩ rfl)
      · refine T_iload_n dX4_find_28 rfl ?_
        refine I_if_ne (tgt := 40) dX4_find_29 (by decide) hl.1 (fun h29 => ?_) (fun h29 => ?_)
        · refine I_iinc dX4_find_40 rfl (by decide) rfl ?_
          refine I_iinc dX4_find_43 rfl (by decide) rfl ?_
          refine T_goto (tgt := 5) dX4_find_46 (by decide) ?_
          rw [← hm, toNat_1 (by omega : i < fI S o 1)]
          first
            | (rw [nthF_t (show inH S o h i from h25), if_neg h29]; exact ih _ (by omega) (i + 1) (left - 1) ⟨by omega, by omega⟩ ⟨⟨by omega, by omega⟩, by omega⟩ rfl)
            | (rw [nthF_f (show ¬ inH S o h i from h25)]; exact ih _ (by omega) (i + 1) left ⟨by omega, by omega⟩ ⟨hl.1, by omega⟩ rfl)
        · refine T_aload_n dX4_find_32 rfl rfl ?_
          refine P_getr dX4_find_33 fX4_11 (by assumption) rfl ?_
          refine T_iload dX4_find_36 rfl ?_
          refine P_aald dX4_find_38 (by assumption) (by decide) ⟨by omega, by omega⟩ (by decide) (hR.1 _ (by omega) (by omega)).1 ?_
          exact T_areturn dX4_find_39 rfl ⟨_, _, rfl, by rw [← hm, toNat_1 (by omega : i < fI S o 1), nthF_t (show inH S o h i from h25), if_pos h29, foundV, if_neg (by omega)], rfl, rfl⟩
theorem p_Mail_find {h p0 : Int} (hM : MailAt K o) (hR : RowsOk S o) (hu : 0 ≤ fI S o 1 ∧ fI S o 1 ≤ 120) (hr : ∀ i : Int, 0 ≤ i → i < fI S o 1 → R32 (fI S (qa S o i) 0)) (hh : R32 h) (hp : 0 ≤ p0 ∧ p0 < 2147483648) : P G 0 0 0 mX4_find 0 (LE mX4_find [.ref o, IV h, IV p0]) [] K S (Ret K (some (foundV S o (nthF (inH S o h) (fI S o 1).toNat 0 p0))) S) := by
  rw [show LE mX4_find [.ref o, IV h, IV p0] = [some (.ref o), some (IV h), some (IV p0), none, none] from rfl]
  refine T_iload_n dX4_find_0 rfl ?_
  refine T_istore_n dX4_find_1 (by decide) rfl ?_
  refine I_iconst dX4_find_2 ?_
  refine T_istore dX4_find_3 (by decide) rfl ?_
  have e := l_Mail_find (G := G) (p0 := p0) hM hR hu hr hh 0 p0 ⟨by omega, by omega⟩ ⟨⟨by omega, by omega⟩, by omega⟩
  rw [Int.sub_zero] at e
  exact e
end Mail
