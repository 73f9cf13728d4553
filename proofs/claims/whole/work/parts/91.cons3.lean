/-! the round's, the carrier's constructors -/
section CONS4
variable {G : GT} {σ : List va_E}
theorem CQ.at {σ : List va_E} {b : Nat → List va_E} {m : Nat} (e : σ.length = m) {d mc ms : Nat} {j : MD} {L : List (Option Value)} {H : List va_E} (h : T G d mc ms j 0 L [] H (CQ σ (b σ.length))) : T G d mc ms j 0 L [] H (CQ σ (b m)) := e ▸ h
theorem bMail_l (L : Nat) : (bMail L).length = 122 := rfl
theorem bBoxes_l (L : Nat) : (bBoxes L).length = 4 := rfl
theorem bBook_l (L : Nat) : (bBook L).length = 3 := rfl
theorem bStr_l (L : Nat) : (bStr L).length = 2 := rfl
theorem bPlan_l (L : Nat) : (bPlan L).length = 10 := rfl
theorem bTape_l (L : Nat) : (bTape L).length = 12 := rfl
def preR (L : Nat) : List va_E := [z0E 0 5] ++ bMail (L + 2) ++ bBoxes (L + 124) ++ bBook (L + 128)
theorem preR_l (L : Nat) : (preR L).length = 130 := by simp [preR, bMail_l, bBoxes_l, bBook_l]
def strs (L : Nat) : Nat → List va_E
  | 0 => []
  | i + 1 => strs L i ++ bStr (L + 132 + 2 * i)
theorem strs_l (L : Nat) : ∀ i, (strs L i).length = 2 * i
  | 0 => rfl
  | i + 1 => by rw [strs, List.length_append, strs_l L i, bStr_l]; omega
def srF (L i : Nat) : Nat → Option Nat := fun k => if k < i then some (L + 132 + 2 * k) else none
theorem srF_up (L i : Nat) : va_up (srF L i) i (some (L + 132 + 2 * i)) = srF L (i + 1) := by
  funext k
  simp only [va_up, srF]
  by_cases h : k = i
  · subst h; rw [if_pos rfl, if_pos (by omega)]
  · rw [if_neg h]
    by_cases h2 : k < i
    · rw [if_pos h2, if_pos (by omega)]
    · rw [if_neg h2, if_neg (by omega)]
def rdO (L : Nat) : va_E := .inr (6, [IV 0, IV 0, IV 0, .ref (L + 1), .ref (L + 2), .ref (L + 124), .ref (L + 128), .ref (L + 131)])
def bRound (L : Nat) : List va_E := rdO L :: (preR L ++ q0E 6 5 (srF L 5) :: strs L 5)
theorem bRound_l (L : Nat) : (bRound L).length = 142 := by simp [bRound, preR_l, strs_l]
theorem c_RoundL : ∀ (k i : Nat), i + k = 5 → T G 3 (2 * k) (42 * k) mX6_init 54 [some (.ref σ.length), some (IV (i : Nat))] [] (σ ++ rdO σ.length :: (preR σ.length ++ q0E 6 5 (srF σ.length i) :: strs σ.length i)) (CQ σ (bRound σ.length)) := by
  intro k
  induction k with
  | zero =>
    intro i hk
    obtain rfl : i = 5 := by omega
    refine T_iload_n dX6_init_54 rfl ?_
    refine I_iconst dX6_init_55 ?_
    refine I_icmp_ge (tgt := 78) dX6_init_56 (by decide) ⟨by omega, by omega⟩ ⟨by omega, by omega⟩ (fun h56 => ?_) (fun h56 => ?_)
    · exact T_return dX6_init_78 rfl ⟨rfl, rfl⟩
    · exact absurd h56 (by omega)
  | succ k ih =>
    intro i hk
    have c := CQ.at (m := σ.length + 132 + 2 * i) (by simp [preR_l, strs_l]; omega) (c_Str (G := G) (σ := σ ++ rdO σ.length :: (preR σ.length ++ q0E 6 5 (srF σ.length i) :: strs σ.length i)))
    have e1 : σ.length + ((preR σ.length ++ q0E 6 5 (srF σ.length i) :: strs σ.length i).length + 1) = σ.length + 132 + 2 * i := by simp [preR_l, strs_l]; omega
    have e2 : ∀ (x q : va_E) (A B : List va_E), σ ++ x :: (A ++ q :: B) = (σ ++ x :: A) ++ q :: B := fun x q A B => by simp
    refine T_iload_n dX6_init_54 rfl ?_
    refine I_iconst dX6_init_55 ?_
    refine I_icmp_ge (tgt := 78) dX6_init_56 (by decide) ⟨by omega, by omega⟩ ⟨by omega, by omega⟩ (fun h56 => ?_) (fun h56 => ?_)
    · exact absurd h56 (by omega)
    · refine T_aload_n dX6_init_59 rfl rfl ?_
      refine C_get dX6_init_60 fX6_38 rfl ?_
      refine T_iload_n dX6_init_63 rfl ?_
      refine C_makeN dX6_init_64 clX6_36 inX8 rfl rfl dfX8 dX6_init_67 dX6_init_68 kX8_init rfl lX6_42 c (Nat.le_of_ble_eq_true rfl) (Nat.le_of_ble_eq_true rfl) (by decide) (by decide) (by first | decide | omega) (by first | decide | omega) ?_
      rw [e1]
      refine C_aast dX6_init_71 (A := σ ++ rdO σ.length :: preR σ.length) (B := strs σ.length i ++ bStr (σ.length + 132 + 2 * i)) (kx := 2 * i) (t := 6) (n := 5) (f := srF σ.length i) (ci := 8) (fs := [.ref (σ.length + 132 + 2 * i + 1), IV 0]) (by simp [rdO]) (by simp [preR_l]) rfl (by rw [List.getElem?_append_right (by rw [strs_l]; omega), strs_l, Nat.sub_self]; rfl) (by simp [preR_l]; omega) rfl (by omega) (by decide) ?_
      refine I_iinc dX6_init_72 rfl (by decide) rfl ?_
      refine T_goto (tgt := 54) dX6_init_75 (by decide) ?_
      have w := ih (i + 1) (by omega)
      rw [strs, ← srF_up, e2, show ((i + 1 : Nat) : Int) = (i : Int) + 1 from rfl] at w
      exact T.room w (by decide) (by omega) (by omega)
theorem c_Round : T G 3 141 1939 mX6_init 0 (LE mX6_init [.ref σ.length]) [] (σ ++ [.inr (6, [IV 0, IV 0, IV 0, .null, .null, .null, .null, .null])]) (CQ σ (bRound σ.length)) := by
  rw [show LE mX6_init [.ref σ.length] = [some (.ref σ.length), none] from rfl]
  refine T_aload_n dX6_init_0 rfl rfl ?_
  refine T_objInit dX6_init_1 lX6_3 (Nat.le_of_ble_eq_true rfl) ?_
  refine T_aload_n dX6_init_4 rfl rfl ?_
  refine I_iconst dX6_init_5 ?_
  refine C_newi dX6_init_6 ⟨by decide, by decide⟩ (by decide) (by decide) ?_
  refine C_put dX6_init_8 fX6_9 rfl (fun _ _ _ h => by cases h; rfl) (by simp) rfl ?_
  refine T_aload_n dX6_init_11 rfl rfl ?_
  refine C_make dX6_init_12 clX6_15 inX4 rfl rfl dfX4 dX6_init_15 dX6_init_16 kX4_init rfl lX6_17 (CQ.at (m := σ.length + 2) (by simp) c_Mail) (Nat.le_of_ble_eq_true rfl) (Nat.le_of_ble_eq_true rfl) (by decide) (by decide) (by first | decide | omega) (by first | decide | omega) ?_
  refine C_put dX6_init_19 fX6_18 rfl (fun _ _ _ h => by cases h; rfl) (by simp) rfl ?_
  refine T_aload_n dX6_init_22 rfl rfl ?_
  refine C_makeN dX6_init_23 clX6_22 inX1 rfl rfl dfX1 dX6_init_26 dX6_init_27 kX1_init rfl lX6_24 (CQ.at (m := σ.length + 124) (by simp [bMail_l]) c_Boxes) (Nat.le_of_ble_eq_true rfl) (Nat.le_of_ble_eq_true rfl) (by decide) (by decide) (by first | decide | omega) (by first | decide | omega) ?_
  refine C_put dX6_init_30 fX6_25 rfl (fun _ _ _ h => by cases h; rfl) (by simp) rfl ?_
  refine T_aload_n dX6_init_33 rfl rfl ?_
  refine C_makeN dX6_init_34 clX6_29 inX0 rfl rfl dfX0 dX6_init_37 dX6_init_38 kX0_init rfl lX6_31 (CQ.at (m := σ.length + 128) (by simp [bMail_l, bBoxes_l]) c_Book) (Nat.le_of_ble_eq_true rfl) (Nat.le_of_ble_eq_true rfl) (by decide) (by decide) (by first | decide | omega) (by first | decide | omega) ?_
  refine C_put dX6_init_41 fX6_32 rfl (fun _ _ _ h => by cases h; rfl) (by simp) rfl ?_
  refine T_aload_n dX6_init_44 rfl rfl ?_
  refine I_iconst dX6_init_45 ?_
  refine C_newq (t := 6) dX6_init_46 clX6_36 ao8 rfl ⟨by decide, by decide⟩ (by decide) (by decide) ?_
  refine C_put dX6_init_49 fX6_38 rfl (fun _ _ _ h => by cases h; rfl) (by simp) rfl ?_
  refine I_iconst dX6_init_52 ?_
  refine T_istore_n dX6_init_53 (by decide) rfl ?_
  exact c_RoundL 5 0 rfl
theorem c_Car {p r : Nat} : T G 1 0 0 mX2_init 0 (LE mX2_init [.ref σ.length, .ref p, .ref r]) [] (σ ++ [.inr (2, [.null, .null])]) (CQ σ [.inr (2, [.ref p, .ref r])]) := by
  rw [show LE mX2_init [.ref σ.length, .ref p, .ref r] = [some (.ref σ.length), some (.ref p), some (.ref r)] from rfl]
  refine T_aload_n dX2_init_0 rfl rfl ?_
  refine T_objInit dX2_init_1 lX2_3 (Nat.le_of_ble_eq_true rfl) ?_
  refine T_aload_n dX2_init_4 rfl rfl ?_
  refine T_aload_n dX2_init_5 rfl rfl ?_
  refine C_put dX2_init_6 fX2_9 rfl (fun _ _ _ h => by cases h; rfl) (by simp) rfl ?_
  refine T_aload_n dX2_init_9 rfl rfl ?_
  refine T_aload_n dX2_init_10 rfl rfl ?_
  refine C_put dX2_init_11 fX2_15 rfl (fun _ _ _ h => by cases h; rfl) (by simp) rfl ?_
  exact T_return dX2_init_14 rfl ⟨rfl, rfl⟩
end CONS4
