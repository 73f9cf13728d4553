/-! the mail's, the round's, the carrier's constructors -/
section CONS3
variable {G : GT} {d mc ms : Nat} {j : MD} {pc : Nat} {L : List (Option Value)} {st : List Value} {σ : List va_E} {Q : Option Value → List va_E → Prop}
theorem ao3 : ∀ s, EnvOK G s → va_AO RX3 s := fun _ h => h.2.2.1.1
theorem ao6 : ∀ s, EnvOK G s → va_AO RX6 s := fun _ h => h.2.2.1.2.1
theorem ao7 : ∀ s, EnvOK G s → va_AO RX7 s := fun _ h => h.2.2.1.2.2.1
theorem ao8 : ∀ s, EnvOK G s → va_AO RX8 s := fun _ h => h.2.2.1.2.2.2
theorem C_aast {H A B : List va_E} {a t n v ci kx i : Nat} {f : Nat → Option Nat} {fs : List Value} {r : vw_C} (hd : decode j.2.1 pc = .ok (.aastore, 1)) (hh : H = A ++ q0E t n f :: B) (ha : a = A.length) (ht : (tysG G)[t]? = some (G.2.1 t, .object r.1)) (hv : B[kx]? = some (.inr (ci, fs))) (hvv : v = A.length + (kx + 1)) (hc : vwCl[ci]? = some r) (hi : i < n) (hn : n ≤ 65536) (kk : T G d mc ms j (pc + 1) L st (A ++ q0E t n (va_up f i (some v)) :: B) Q) : T G d mc ms j pc L (.ref v :: IV (i : Nat) :: .ref a :: st) H Q := by
  subst hh; subst ha
  refine T_aast hd (ap_get _ _ _) ht (v := v) (ci := ci) (fs := fs) ?_ hc (iv_in (by omega) (by omega) (by omega)) ?_
  · rw [hvv, List.getElem?_append_right (by omega), Nat.add_sub_cancel_left]
    exact hv
  · rw [ap_set, iv_nat (by omega) (by omega), Int.toNat_natCast]
    exact kk
def mrF (L i : Nat) : Nat → Option Nat := fun k => if k < i then some (L + 2 + k) else none
theorem mrF_up (L i : Nat) : va_up (mrF L i) i (some (L + 2 + i)) = mrF L (i + 1) := by
  funext k
  simp only [va_up, mrF]
  by_cases h : k = i
  · subst h; rw [if_pos rfl, if_pos (by omega)]
  · rw [if_neg h]
    by_cases h2 : k < i
    · rw [if_pos h2, if_pos (by omega)]
    · rw [if_neg h2, if_neg (by omega)]
def bMail (L : Nat) : List va_E := .inr (4, [.ref (L + 1), IV 0, IV 0]) :: q0E 3 120 (mrF L 120) :: List.replicate 120 itE
theorem c_MailL : ∀ (k i : Nat), i + k = 120 → T G 2 k (8 * k) mX4_init 15 [some (.ref σ.length), some (IV (i : Nat))] [] (σ ++ .inr (4, [.ref (σ.length + 1), IV 0, IV 0]) :: q0E 3 120 (mrF σ.length i) :: List.replicate i itE) (CQ σ (bMail σ.length)) := by
  intro k
  induction k with
  | zero =>
    intro i hk
    obtain rfl : i = 120 := by omega
    refine T_iload_n dX4_init_15 rfl ?_
    refine T_aload_n dX4_init_16 rfl rfl ?_
    refine C_get dX4_init_17 fX4_11 rfl ?_
    refine T_alen dX4_init_20 (t := 3) (n := 120) (v := iv 120) (by rw [List.getElem?_append_right (by omega), Nat.add_sub_cancel_left]; rfl) (by decide) rfl ?_
    refine I_icmp_ge (tgt := 43) dX4_init_21 (by decide) ⟨by omega, by omega⟩ ⟨by omega, by omega⟩ (fun h21 => ?_) (fun h21 => ?_)
    · exact T_return dX4_init_43 rfl ⟨rfl, rfl⟩
    · exact absurd h21 (by omega)
  | succ k ih =>
    intro i hk
    have c := c_Item (G := G) (σ := σ ++ .inr (4, [.ref (σ.length + 1), IV 0, IV 0]) :: q0E 3 120 (mrF σ.length i) :: List.replicate i itE)
    have e1 : σ.length + ((q0E 3 120 (mrF σ.length i) :: List.replicate i itE).length + 1) = σ.length + 2 + i := by simp; omega
    have e2 : ∀ (x q : va_E) (B : List va_E), σ ++ x :: q :: B = (σ ++ [x]) ++ q :: B := fun x q B => by simp
    refine T_iload_n dX4_init_15 rfl ?_
    refine T_aload_n dX4_init_16 rfl rfl ?_
    refine C_get dX4_init_17 fX4_11 rfl ?_
    refine T_alen dX4_init_20 (t := 3) (n := 120) (v := iv 120) (by rw [List.getElem?_append_right (by omega), Nat.add_sub_cancel_left]; rfl) (by decide) rfl ?_
    refine I_icmp_ge (tgt := 43) dX4_init_21 (by decide) ⟨by omega, by omega⟩ ⟨by omega, by omega⟩ (fun h21 => ?_) (fun h21 => ?_)
    · exact absurd h21 (by omega)
    · refine T_aload_n dX4_init_24 rfl rfl ?_
      refine C_get dX4_init_25 fX4_11 rfl ?_
      refine T_iload_n dX4_init_28 rfl ?_
      refine C_makeN dX4_init_29 clX4_9 inX3 rfl rfl dfX3 dX4_init_32 dX4_init_33 kX3_init rfl lX4_17 c (Nat.le_of_ble_eq_true rfl) (Nat.le_of_ble_eq_true rfl) (by decide) (by decide) (by first | decide | omega) (by first | decide | omega) ?_
      rw [e1]
      refine C_aast dX4_init_36 (A := σ ++ [.inr (4, [.ref (σ.length + 1), IV 0, IV 0])]) (B := List.replicate i itE ++ [itE]) (kx := i) (t := 3) (n := 120) (f := mrF σ.length i) (ci := 3) (fs := [IV 0, IV 0, IV 0, IV 0, IV 0, IV 0, IV 0, IV 0]) (by simp) (by simp) rfl (by simp [itE]) (by simp; omega) rfl (by omega) (by decide) ?_
      refine I_iinc dX4_init_37 rfl (by decide) rfl ?_
      refine T_goto (tgt := 15) dX4_init_40 (by decide) ?_
      have w := ih (i + 1) (by omega)
      rw [List.replicate_succ', ← mrF_up, e2, show ((i + 1 : Nat) : Int) = (i : Int) + 1 from rfl] at w
      exact T.room w (by decide) (by omega) (by omega)
theorem c_Mail : T G 2 121 1080 mX4_init 0 (LE mX4_init [.ref σ.length]) [] (σ ++ [.inr (4, [.null, IV 0, IV 0])]) (CQ σ (bMail σ.length)) := by
  rw [show LE mX4_init [.ref σ.length] = [some (.ref σ.length), none] from rfl]
  refine T_aload_n dX4_init_0 rfl rfl ?_
  refine T_objInit dX4_init_1 lX4_3 (Nat.le_of_ble_eq_true rfl) ?_
  refine T_aload_n dX4_init_4 rfl rfl ?_
  refine I_bipush dX4_init_5 (by decide) ?_
  refine C_newq (t := 3) dX4_init_7 clX4_9 ao3 rfl ⟨by decide, by decide⟩ (by decide) (by decide) ?_
  refine C_put dX4_init_10 fX4_11 rfl (fun _ _ _ h => by cases h; rfl) (by simp) rfl ?_
  refine I_iconst dX4_init_13 ?_
  refine T_istore_n dX4_init_14 (by decide) rfl ?_
  exact c_MailL 120 0 rfl
end CONS3
