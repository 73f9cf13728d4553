/-! the class's constructor -/
section CONS5
variable {G : GT} {σ : List va_E}
theorem C_new {d mc ms : Nat} {j : MD} {pc : Nat} {L : List (Option Value)} {st : List Value} {Q : Option Value → List va_E → Prop} {idx ci N : Nat} {Cn : String} {F : u_T} {fs : List Value} {x : va_E} {l : List va_E} (hd : decode j.2.1 pc = .ok (.new idx, 3)) (hcl : Cond.classLink j.1.cls idx Cn ∈ gtbl) (hin : Cond.instantiable Cn N ∈ gtbl ∧ Cond.initialized Cn ∈ gtbl) (hc : vwCl[ci]? = some (Cn, F, N)) (hfm : fs.map (tr G) = fs) (hfs : ∀ k, k < N → defaultValue (tyG ci k) = vp_V fs k) (hmc : 1 ≤ mc) (hms : N ≤ ms) (kk : T G d (mc - 1) (ms - N) j (pc + 3) L (.ref (σ.length + (l.length + 1)) :: st) (σ ++ x :: (l ++ [.inr (ci, fs)])) Q) : T G d mc ms j pc L st (σ ++ x :: l) Q := by
  have q := T_new (mc := mc - 1) (ms := ms - N) (st := st) (L := L) (σ := σ ++ x :: l) (Q := Q) (d := d) (j := j) (pc := pc) hd hcl hin hc hfm hfs (by rw [ap_len, List.append_assoc, List.cons_append]; exact kk)
  rwa [Nat.sub_add_cancel hmc, Nat.sub_add_cancel hms] at q
theorem C_init2 {d mc ms d' mc' ms' : Nat} {j j' : MD} {pc : Nat} {L : List (Option Value)} {st : List Value} {Q : Option Value → List va_E → Prop} {idx : Nat} {v1 v2 : Value} {x y : va_E} {l blk : List va_E} (hd : decode j.2.1 pc = .ok (.invokespecial idx, 3)) (hk : MOk j' ∧ MIni j' ∧ MPar j' 2) (hr : j'.2.2.2 = none) (hl : MLk j.1.cls idx j') (hM : T G d' mc' ms' j' 0 (LE j' [.ref (σ ++ x :: l).length, v1, v2]) [] ((σ ++ x :: l) ++ [y]) (CQ (σ ++ x :: l) blk)) (h8 : ((st).map fun v => v.category).sum ≤ 8) (hL : (LA [.ref (σ ++ x :: l).length, v1, v2]).length ≤ j'.2.2.1) (hdd : d' + 1 ≤ d) (hmx : j'.2.2.1 ≤ 16) (hmc : mc' ≤ mc) (hms : ms' ≤ ms) (kk : T G d (mc - mc') (ms - ms') j (pc + 3) L st (σ ++ x :: (l ++ blk)) Q) : T G d mc ms j pc L (v2 :: v1 :: .ref (σ.length + (l.length + 1)) :: st) (σ ++ x :: (l ++ [y])) Q := by
  obtain ⟨mc, rfl⟩ : ∃ m, mc = mc' + m := ⟨mc - mc', by omega⟩
  obtain ⟨ms, rfl⟩ : ∃ m, ms = ms' + m := ⟨ms - ms', by omega⟩
  rw [Nat.add_sub_cancel_left, Nat.add_sub_cancel_left] at kk
  rw [← ap_len σ x l, show σ ++ x :: (l ++ [y]) = (σ ++ x :: l) ++ [y] by simp]
  refine T_callI hd hk hr hl hM rfl rfl h8 hL hdd hmx (fun r σ' q => ?_)
  obtain ⟨rfl, rfl⟩ := q
  show T G d mc ms j (pc + 3) L st ((σ ++ x :: l) ++ blk) Q
  rw [List.append_assoc, List.cons_append]
  exact kk
def preW (L : Nat) : List va_E := bTape (L + 1) ++ bPlan (L + 13) ++ bRound (L + 23) ++ [.inr (2, [.ref (L + 13), .ref (L + 23)])]
theorem preW_l (L : Nat) : (preW L).length = 165 := by simp [preW, bTape_l, bPlan_l, bRound_l]
def rds (L : Nat) : Nat → List va_E
  | 0 => []
  | i + 1 => rds L i ++ bRound (L + 169 + 142 * i)
theorem rds_l (L : Nat) : ∀ i, (rds L i).length = 142 * i
  | 0 => rfl
  | i + 1 => by rw [rds, List.length_append, rds_l L i, bRound_l]; omega
def imF (L i : Nat) : Nat → Option Nat := fun k => if k < i then some (L + 169 + 142 * k) else none
theorem imF_up (L i : Nat) : va_up (imF L i) i (some (L + 169 + 142 * i)) = imF L (i + 1) := by
  funext k
  simp only [va_up, imF]
  by_cases h : k = i
  · subst h; rw [if_pos rfl, if_pos (by omega)]
  · rw [if_neg h]
    by_cases h2 : k < i
    · rw [if_pos h2, if_pos (by omega)]
    · rw [if_neg h2, if_neg (by omega)]
def whO (L : Nat) : va_E := .inr (10, [.ref (L + 1), .ref (L + 13), .ref (L + 23), .ref (L + 165), .ref (L + 166), .ref (L + 167), .ref (L + 168)])
def midW (L i : Nat) : List va_E := preW L ++ q0E 4 2 (imF L i) :: ([z0E 2 2, q0E 5 4 (fun _ => none)] ++ rds L i)
def bWary (L : Nat) : List va_E := whO L :: midW L 2
theorem c_WaryL : ∀ (k i : Nat), i + k = 2 → T G 4 (142 * k) (1947 * k) mX10_init 81 [some (.ref σ.length), some (IV (i : Nat))] [] (σ ++ whO σ.length :: midW σ.length i) (CQ σ (bWary σ.length)) := by
  intro k
  induction k with
  | zero =>
    intro i hk
    obtain rfl : i = 2 := by omega
    refine T_iload_n dX10_init_81 rfl ?_
    refine I_iconst dX10_init_82 ?_
    refine I_icmp_ge (tgt := 105) dX10_init_83 (by decide) ⟨by omega, by omega⟩ ⟨by omega, by omega⟩ (fun h83 => ?_) (fun h83 => ?_)
    · exact T_return dX10_init_105 rfl ⟨rfl, rfl⟩
    · exact absurd h83 (by omega)
  | succ k ih =>
    intro i hk
    have c := CQ.at (m := σ.length + 169 + 142 * i) (by simp [midW, preW_l, rds_l]; omega) (c_Round (G := G) (σ := σ ++ whO σ.length :: midW σ.length i))
    have e1 : σ.length + ((midW σ.length i).length + 1) = σ.length + 169 + 142 * i := by simp [midW, preW_l, rds_l]; omega
    have e2 : ∀ (x q : va_E) (A B C : List va_E), σ ++ x :: (A ++ q :: (B ++ C)) = (σ ++ x :: A) ++ q :: (B ++ C) := fun x q A B C => by simp
    refine T_iload_n dX10_init_81 rfl ?_
    refine I_iconst dX10_init_82 ?_
    refine I_icmp_ge (tgt := 105) dX10_init_83 (by decide) ⟨by omega, by omega⟩ ⟨by omega, by omega⟩ (fun h83 => ?_) (fun h83 => ?_)
    · exact absurd h83 (by omega)
    · refine T_aload_n dX10_init_86 rfl rfl ?_
      refine C_get dX10_init_87 fX10_39 rfl ?_
      refine T_iload_n dX10_init_90 rfl ?_
      refine C_make dX10_init_91 clX10_23 inX6 rfl rfl dfX6 dX10_init_94 dX10_init_95 kX6_init rfl lX10_25 c (Nat.le_of_ble_eq_true rfl) (Nat.le_of_ble_eq_true rfl) (by decide) (by decide) (by first | decide | omega) (by first | decide | omega) ?_
      rw [e1]
      refine C_aast dX10_init_98 (A := σ ++ whO σ.length :: preW σ.length) (B := [z0E 2 2, q0E 5 4 (fun _ => none)] ++ (rds σ.length i ++ bRound (σ.length + 169 + 142 * i))) (kx := 2 + 142 * i) (t := 4) (n := 2) (f := imF σ.length i) (ci := 6) (fs := [IV 0, IV 0, IV 0, .ref (σ.length + 169 + 142 * i + 1), .ref (σ.length + 169 + 142 * i + 2), .ref (σ.length + 169 + 142 * i + 124), .ref (σ.length + 169 + 142 * i + 128), .ref (σ.length + 169 + 142 * i + 131)]) (by simp [whO, midW]) (by simp [preW_l]) rfl (by rw [List.getElem?_append_right (by simp), List.getElem?_append_right (by simp [rds_l])]; simp [rds_l, bRound, rdO]) (by simp [preW_l]; omega) rfl (by omega) (by decide) ?_
      refine I_iinc dX10_init_99 rfl (by decide) rfl ?_
      refine T_goto (tgt := 81) dX10_init_102 (by decide) ?_
      have w := ih (i + 1) (by omega)
      rw [midW, rds, ← imF_up, e2, show ((i + 1 : Nat) : Int) = (i : Int) + 1 from rfl] at w
      exact T.room w (by decide) (by omega) (by omega)
theorem c_Wary : T G 4 452 6566 mX10_init 0 (LE mX10_init [.ref σ.length]) [] (σ ++ [.inr (10, [.null, .null, .null, .null, .null, .null, .null])]) (CQ σ (bWary σ.length)) := by
  rw [show LE mX10_init [.ref σ.length] = [some (.ref σ.length), none] from rfl]
  refine T_aload_n dX10_init_0 rfl rfl ?_
  refine T_objInit dX10_init_1 lX10_1 (Nat.le_of_ble_eq_true rfl) ?_
  refine T_aload_n dX10_init_4 rfl rfl ?_
  refine C_makeN dX10_init_5 clX10_7 inX9 rfl rfl dfX9 dX10_init_8 dX10_init_9 kX9_init rfl lX10_9 (CQ.at (m := σ.length + 1) (by simp) c_Tape) (Nat.le_of_ble_eq_true rfl) (Nat.le_of_ble_eq_true rfl) (by decide) (by decide) (by first | decide | omega) (by first | decide | omega) ?_
  refine C_put dX10_init_12 fX10_10 rfl (fun _ _ _ h => by cases h; rfl) (by simp) rfl ?_
  refine T_aload_n dX10_init_15 rfl rfl ?_
  refine C_makeN dX10_init_16 clX10_16 inX5 rfl rfl dfX5 dX10_init_19 dX10_init_20 kX5_init rfl lX10_18 (CQ.at (m := σ.length + 13) (by simp [bTape_l]) c_Plan) (Nat.le_of_ble_eq_true rfl) (Nat.le_of_ble_eq_true rfl) (by decide) (by decide) (by first | decide | omega) (by first | decide | omega) ?_
  refine C_put dX10_init_23 fX10_19 rfl (fun _ _ _ h => by cases h; rfl) (by simp) rfl ?_
  refine T_aload_n dX10_init_26 rfl rfl ?_
  refine C_make dX10_init_27 clX10_23 inX6 rfl rfl dfX6 dX10_init_30 dX10_init_31 kX6_init rfl lX10_25 (CQ.at (m := σ.length + 23) (by simp [bTape_l, bPlan_l]) c_Round) (Nat.le_of_ble_eq_true rfl) (Nat.le_of_ble_eq_true rfl) (by decide) (by decide) (by first | decide | omega) (by first | decide | omega) ?_
  refine C_put dX10_init_34 fX10_26 rfl (fun _ _ _ h => by cases h; rfl) (by simp) rfl ?_
  refine T_aload_n dX10_init_37 rfl rfl ?_
  refine C_new (ci := 2) (fs := [.null, .null]) dX10_init_38 clX10_30 inX2 rfl rfl dfX2 (by decide) (by decide) ?_
  refine T_dup dX10_init_41 rfl ?_
  refine T_aload_n dX10_init_42 rfl rfl ?_
  refine C_get dX10_init_43 fX10_19 rfl ?_
  refine T_aload_n dX10_init_46 rfl rfl ?_
  refine C_get dX10_init_47 fX10_26 rfl ?_
  refine C_init2 dX10_init_50 kX2_init rfl lX10_32 c_Car (Nat.le_of_ble_eq_true rfl) (Nat.le_of_ble_eq_true rfl) (by decide) (by decide) (by decide) (by decide) ?_
  refine C_put dX10_init_53 fX10_35 rfl (fun _ _ _ h => by cases h; rfl) (by simp) rfl ?_
  refine T_aload_n dX10_init_56 rfl rfl ?_
  refine I_iconst dX10_init_57 ?_
  refine C_newq (t := 4) dX10_init_58 clX10_23 ao6 rfl ⟨by decide, by decide⟩ (by decide) (by decide) ?_
  refine C_put dX10_init_61 fX10_39 rfl (fun _ _ _ h => by cases h; rfl) (by simp) rfl ?_
  refine T_aload_n dX10_init_64 rfl rfl ?_
  refine I_iconst dX10_init_65 ?_
  refine C_newz dX10_init_66 ⟨by decide, by decide⟩ (by decide) (by decide) ?_
  refine C_put dX10_init_68 fX10_43 rfl (fun _ _ _ h => by cases h; rfl) (by simp) rfl ?_
  refine T_aload_n dX10_init_71 rfl rfl ?_
  refine I_iconst dX10_init_72 ?_
  refine C_newq (t := 5) dX10_init_73 clX10_47 ao7 rfl ⟨by decide, by decide⟩ (by decide) (by decide) ?_
  refine C_put dX10_init_76 fX10_49 rfl (fun _ _ _ h => by cases h; rfl) (by simp) rfl ?_
  refine I_iconst dX10_init_79 ?_
  refine T_istore_n dX10_init_80 (by decide) rfl ?_
  exact c_WaryL 2 0 rfl
end CONS5
