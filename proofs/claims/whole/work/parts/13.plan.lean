/-! Plan: what a text tells -/
def AllR (S : SV) : Prop := (∀ a k, R32 (fI S a k)) ∧ ∀ a i, R32 (aI S a i)
theorem AllR.sF {S : SV} (h : AllR S) {a k : Nat} {v : Int} (hv : R32 v) : AllR (sF S a k v) := ⟨fun a' k' => by rw [fI_sF]; split; exact hv; exact h.1 a' k', fun a' i => h.2 a' i⟩
theorem AllR.sA {S : SV} (h : AllR S) {a : Nat} {k v : Int} (hv : R32 v) : AllR (sA S a k v) := ⟨fun a' k' => h.1 a' k', fun a' i => by rw [aI_sA]; split; exact hv; exact h.2 a' i⟩
theorem AllR.sC {S : SV} (h : AllR S) {a b : Nat} {sp dp n : Int} : AllR (sC S a b sp dp n) := ⟨fun a' k' => h.1 a' k', fun a' i => by rw [aI_sC]; split; exact h.2 _ _; exact h.2 a' i⟩
theorem AllR.sFill {S : SV} (h : AllR S) {a : Nat} {v n : Int} (hv : R32 v) : AllR (sFill S a v n) := ⟨fun a' k' => h.1 a' k', fun a' i => by rw [aI_sFill]; split; exact hv; exact h.2 a' i⟩
theorem AllR.sR {S : SV} (h : AllR S) {a : Nat} {i : Int} {v : Option Nat} : AllR (sR S a i v) := ⟨fun a' k' => h.1 a' k', fun a' i => h.2 a' i⟩
def PlanAt (K : List SH) (p : Nat) : Prop := K[p]? = some (.inr (5, [none, none, some (p + 1), some (p + 2), some (p + 3), some (p + 4), some (p + 5), some (p + 6), some (p + 7), some (p + 8), some (p + 9)])) ∧ K[p + 1]? = some (.inl (0, 5)) ∧ K[p + 2]? = some (.inl (0, 4)) ∧ K[p + 3]? = some (.inl (0, 12)) ∧ K[p + 4]? = some (.inl (0, 12)) ∧ K[p + 5]? = some (.inl (0, 12)) ∧ K[p + 6]? = some (.inl (0, 32)) ∧ K[p + 7]? = some (.inl (0, 4)) ∧ K[p + 8]? = some (.inl (0, 32)) ∧ K[p + 9]? = some (.inl (0, 128))
section Plan
variable {G : GT} {K : List SH} {S : SV} {p : Nat}
theorem p_Plan_lead {a i : Int} (h : PlanAt K p) (ha : 0 ≤ a ∧ a < 32) (hi : 0 ≤ i ∧ i < 4) : P G 0 0 0 mX5_lead 0 (LE mX5_lead [.ref p, IV a, IV i]) [] K S (Ret K (some (IV (aI S (p + 9) (a * 4 + i)))) S) := by
  obtain ⟨k0, k1, k2, k3, k4, k5, k6, k7, k8, k9⟩ := h
  rw [show LE mX5_lead [.ref p, IV a, IV i] = [some (.ref p), some (IV a), some (IV i)] from rfl]
  refine T_aload_n dX5_lead_0 rfl rfl ?_
  refine P_getr dX5_lead_1 fX5_36 (by assumption) rfl ?_
  refine T_iload_n dX5_lead_4 rfl ?_
  refine I_iconst dX5_lead_5 ?_
  refine I_imul dX5_lead_6 ?_
  refine T_iload_n dX5_lead_7 rfl ?_
  refine I_iadd dX5_lead_8 ?_
  refine P_iald dX5_lead_9 (by assumption) ⟨by omega, by omega⟩ (by first | decide | omega) ?_
  exact I_ireturn dX5_lead_10 rfl ⟨_, _, rfl, rfl, rfl, rfl⟩
theorem l_Plan_hasLead {a to_ : Int} (h : PlanAt K p) (hr : AllR S) (ha : 0 ≤ a ∧ a < 32) (hc : 0 ≤ aI S (p + 8) a ∧ aI S (p + 8) a ≤ 4) (ht : R32 to_) (i : Int) (hi : 0 ≤ i ∧ i ≤ aI S (p + 8) a) (hb : ∀ t, 0 ≤ t → t < i → aI S (p + 9) (a * 4 + t) ≠ to_) : P G 1 0 0 mX5_hasLead 2 [some (.ref p), some (IV a), some (IV to_), some (IV i)] [] K S (Ret K (some (IV (b2p (∃ t, 0 ≤ t ∧ t < aI S (p + 8) a ∧ aI S (p + 9) (a * 4 + t) = to_)))) S) := by
  obtain ⟨k0, k1, k2, k3, k4, k5, k6, k7, k8, k9⟩ := id h
  induction hm : (aI S (p + 8) a - i).toNat using Nat.strongRecOn generalizing i with
  | _ m ih =>
    refine T_iload_n dX5_hasLead_2 rfl ?_
    refine T_aload_n dX5_hasLead_3 rfl rfl ?_
    refine P_getr dX5_hasLead_4 fX5_33 (by assumption) rfl ?_
    refine T_iload_n dX5_hasLead_7 rfl ?_
    refine P_iald dX5_hasLead_8 (by assumption) ⟨by omega, by omega⟩ (by first | decide | omega) ?_
    refine I_icmp_ge (tgt := 30) dX5_hasLead_9 (by decide) ⟨by omega, by omega⟩ ⟨by omega, by omega⟩ (fun h9 => ?_) (fun h9 => ?_)
    · refine I_iconst dX5_hasLead_30 ?_
      exact I_zreturn dX5_hasLead_31 rfl (by decide) ⟨_, _, rfl, by rw [b2p_f (fun z => by obtain ⟨t, q1, q2, q3⟩ := z; exact hb t q1 (by omega) q3)], rfl, rfl⟩
    · refine T_aload_n dX5_hasLead_12 rfl rfl ?_
      refine T_iload_n dX5_hasLead_13 rfl ?_
      refine T_iload_n dX5_hasLead_14 rfl ?_
      refine Q_callV dX5_hasLead_15 kX5_lead lX5_62 (by assumption) rfl (p_Plan_lead h ha ⟨by omega, by omega⟩) rfl rfl (Nat.le_of_ble_eq_true rfl) (Nat.le_of_ble_eq_true rfl) (by decide) (by decide) ?_
      refine T_iload_n dX5_hasLead_18 rfl ?_
      refine I_icmp_ne (tgt := 24) dX5_hasLead_19 (by decide) (hr.2 _ _) ht (fun h19 => ?_) (fun h19 => ?_)
      · refine I_iinc dX5_hasLead_24 rfl (by decide) rfl ?_
        refine T_goto (tgt := 2) dX5_hasLead_27 (by decide) ?_
        exact ih _ (by omega) (i + 1) ⟨by omega, by omega⟩ (fun t q1 q2 => by
          by_cases q : t = i
          · rw [q]; exact h19
          · exact hb t q1 (by omega)) rfl
      · refine I_iconst dX5_hasLead_22 ?_
        exact I_zreturn dX5_hasLead_23 rfl (by decide) ⟨_, _, rfl, by rw [b2p_t ⟨i, by omega, by omega, h19⟩], rfl, rfl⟩
theorem p_Plan_hasLead {a to_ : Int} (h : PlanAt K p) (hr : AllR S) (ha : 0 ≤ a ∧ a < 32) (hc : 0 ≤ aI S (p + 8) a ∧ aI S (p + 8) a ≤ 4) (ht : R32 to_) : P G 1 0 0 mX5_hasLead 0 (LE mX5_hasLead [.ref p, IV a, IV to_]) [] K S (Ret K (some (IV (b2p (∃ t, 0 ≤ t ∧ t < aI S (p + 8) a ∧ aI S (p + 9) (a * 4 + t) = to_)))) S) := by
  rw [show LE mX5_hasLead [.ref p, IV a, IV to_] = [some (.ref p), some (IV a), some (IV to_), none] from rfl]
  refine I_iconst dX5_hasLead_0 ?_
  refine T_istore_n dX5_hasLead_1 (by decide) rfl ?_
  exact l_Plan_hasLead h hr ha hc ht 0 ⟨by omega, by omega⟩ (fun t q1 q2 => by omega)
def hasRc (S : SV) (p : Nat) (d : Int) : Prop := 0 ≤ d ∧ d < fI S p 1 ∧ 0 < aI S (p + 2) d
theorem p_Plan_hasReceivers {d : Int} (h : PlanAt K p) (hr : AllR S) (hd : R32 d) (hD : fI S p 1 ≤ 4) : P G 0 0 0 mX5_hasReceivers 0 (LE mX5_hasReceivers [.ref p, IV d]) [] K S (Ret K (some (IV (b2p (hasRc S p d)))) S) := by
  obtain ⟨k0, k1, k2, k3, k4, k5, k6, k7, k8, k9⟩ := h
  rw [show LE mX5_hasReceivers [.ref p, IV d] = [some (.ref p), some (IV d)] from rfl]
  refine T_iload_n dX5_hasReceivers_0 rfl ?_
  refine I_if_lt (tgt := 25) dX5_hasReceivers_1 (by decide) hd (fun h1 => ?_) (fun h1 => ?_)
  · refine I_iconst dX5_hasReceivers_25 ?_
    exact I_zreturn dX5_hasReceivers_26 rfl (by decide) ⟨_, _, rfl, by first | rw [b2p_t ⟨by omega, by omega, by omega⟩] | rw [b2p_f (fun z => by have := z.1; have := z.2.1; have := z.2.2; omega)], rfl, rfl⟩
  · refine T_iload_n dX5_hasReceivers_4 rfl ?_
    refine T_aload_n dX5_hasReceivers_5 rfl rfl ?_
    refine P_geti dX5_hasReceivers_6 fX5_43 (by assumption) rfl ?_
    refine I_icmp_ge (tgt := 25) dX5_hasReceivers_9 (by decide) hd (hr.1 _ _) (fun h9 => ?_) (fun h9 => ?_)
    · refine I_iconst dX5_hasReceivers_25 ?_
      exact I_zreturn dX5_hasReceivers_26 rfl (by decide) ⟨_, _, rfl, by first | rw [b2p_t ⟨by omega, by omega, by omega⟩] | rw [b2p_f (fun z => by have := z.1; have := z.2.1; have := z.2.2; omega)], rfl, rfl⟩
    · refine T_aload_n dX5_hasReceivers_12 rfl rfl ?_
      refine P_getr dX5_hasReceivers_13 fX5_15 (by assumption) rfl ?_
      refine T_iload_n dX5_hasReceivers_16 rfl ?_
      refine P_iald dX5_hasReceivers_17 (by assumption) ⟨by omega, by omega⟩ (by first | decide | omega) ?_
      refine I_if_le (tgt := 25) dX5_hasReceivers_18 (by decide) (hr.2 _ _) (fun h18 => ?_) (fun h18 => ?_)
      · refine I_iconst dX5_hasReceivers_25 ?_
        exact I_zreturn dX5_hasReceivers_26 rfl (by decide) ⟨_, _, rfl, by first | rw [b2p_t ⟨by omega, by omega, by omega⟩] | rw [b2p_f (fun z => by have := z.1; have := z.2.1; have := z.2.2; omega)], rfl, rfl⟩
      · refine I_iconst dX5_hasReceivers_21 ?_
        refine T_goto (tgt := 26) dX5_hasReceivers_22 (by decide) ?_
        exact I_zreturn dX5_hasReceivers_26 rfl (by decide) ⟨_, _, rfl, by first | rw [b2p_t ⟨by omega, by omega, by omega⟩] | rw [b2p_f (fun z => by have := z.1; have := z.2.1; have := z.2.2; omega)], rfl, rfl⟩
def rhIs (S : SV) (p : Nat) (h : Int) (i : Int) : Prop := aI S (p + 3) i = h
noncomputable def prefO (S : SV) (p : Nat) (h d : Int) : Int := if fndF (rhIs S p h) (aI S (p + 2) d).toNat (d * 3) = -4 then -4 else aI S (p + 4) (fndF (rhIs S p h) (aI S (p + 2) d).toNat (d * 3))
theorem l_Plan_preferenceOf {h d : Int} (hP : PlanAt K p) (hr : AllR S) (hd : 0 ≤ d ∧ d < 4) (hc : 0 ≤ aI S (p + 2) d ∧ aI S (p + 2) d ≤ 3) (hh : R32 h) (i : Int) (hi : d * 3 ≤ i ∧ i ≤ d * 3 + aI S (p + 2) d) : P G 0 0 0 mX5_preferenceOf 7 [some (.ref p), some (IV h), some (IV d), some (IV (d * 3)), some (IV i)] [] K S (Ret K (some (IV (if fndF (rhIs S p h) (d * 3 + aI S (p + 2) d - i).toNat i = -4 then -4 else aI S (p + 4) (fndF (rhIs S p h) (d * 3 + aI S (p + 2) d - i).toNat i)))) S) := by
  obtain ⟨k0, k1, k2, k3, k4, k5, k6, k7, k8, k9⟩ := id hP
  induction hm : (d * 3 + aI S (p + 2) d - i).toNat using Nat.strongRecOn generalizing i with
  | _ m ih =>
    refine T_iload dX5_preferenceOf_7 rfl ?_
    refine T_iload_n dX5_preferenceOf_9 rfl ?_
    refine T_aload_n dX5_preferenceOf_10 rfl rfl ?_
    refine P_getr dX5_preferenceOf_11 fX5_15 (by assumption) rfl ?_
    refine T_iload_n dX5_preferenceOf_14 rfl ?_
    refine P_iald dX5_preferenceOf_15 (by assumption) ⟨by omega, by omega⟩ (by first | decide | omega) ?_
    refine I_iadd dX5_preferenceOf_16 ?_
    refine I_icmp_ge (tgt := 45) dX5_preferenceOf_17 (by decide) ⟨by omega, by omega⟩ ⟨by omega, by omega⟩ (fun h17 => ?_) (fun h17 => ?_)
    · refine I_bipush dX5_preferenceOf_45 (by decide) ?_
      exact I_ireturn dX5_preferenceOf_47 rfl ⟨_, _, rfl, by rw [← hm, toNat_0 h17]; rfl, rfl, rfl⟩
    · refine T_aload_n dX5_preferenceOf_20 rfl rfl ?_
      refine P_getr dX5_preferenceOf_21 fX5_18 (by assumption) rfl ?_
      refine T_iload dX5_preferenceOf_24 rfl ?_
      refine P_iald dX5_preferenceOf_26 (by assumption) ⟨by omega, by omega⟩ (by first | decide | omega) ?_
      refine T_iload_n dX5_preferenceOf_27 rfl ?_
      refine I_icmp_ne (tgt := 39) dX5_preferenceOf_28 (by decide) (hr.2 _ _) hh (fun h28 => ?_) (fun h28 => ?_)
      · refine I_iinc dX5_preferenceOf_39 rfl (by decide) rfl ?_
        refine T_goto (tgt := 7) dX5_preferenceOf_42 (by decide) ?_
        rw [← hm, toNat_1 (by omega : i < d * 3 + aI S (p + 2) d), fndF_f (p := rhIs S p h) h28]
        exact ih _ (by omega) (i + 1) ⟨by omega, by omega⟩ rfl
      · refine T_aload_n dX5_preferenceOf_31 rfl rfl ?_
        refine P_getr dX5_preferenceOf_32 fX5_21 (by assumption) rfl ?_
        refine T_iload dX5_preferenceOf_35 rfl ?_
        refine P_iald dX5_preferenceOf_37 (by assumption) ⟨by omega, by omega⟩ (by first | decide | omega) ?_
        exact I_ireturn dX5_preferenceOf_38 rfl ⟨_, _, rfl, by rw [← hm, fndF_t (p := rhIs S p h) (by omega) h28, if_neg (by omega)], rfl, rfl⟩
theorem p_Plan_preferenceOf {h d : Int} (hP : PlanAt K p) (hr : AllR S) (hd : 0 ≤ d ∧ d < 4) (hc : 0 ≤ aI S (p + 2) d ∧ aI S (p + 2) d ≤ 3) (hh : R32 h) : P G 0 0 0 mX5_preferenceOf 0 (LE mX5_preferenceOf [.ref p, IV h, IV d]) [] K S (Ret K (some (IV (prefO S p h d))) S) := by
  rw [show LE mX5_preferenceOf [.ref p, IV h, IV d] = [some (.ref p), some (IV h), some (IV d), none, none] from rfl]
  refine T_iload_n dX5_preferenceOf_0 rfl ?_
  refine I_iconst dX5_preferenceOf_1 ?_
  refine I_imul dX5_preferenceOf_2 ?_
  refine T_istore_n dX5_preferenceOf_3 (by decide) rfl ?_
  refine T_iload_n dX5_preferenceOf_4 rfl ?_
  refine T_istore dX5_preferenceOf_5 (by decide) rfl ?_
  have e := l_Plan_preferenceOf (G := G) hP hr hd hc hh (d * 3) ⟨by omega, by omega⟩
  rw [show d * 3 + aI S (p + 2) d - d * 3 = aI S (p + 2) d by omega] at e
  exact e
theorem prefO_R {h d : Int} (hr : AllR S) : R32 (prefO S p h d) := by
  unfold prefO
  split
  · decide
  · exact hr.2 _ _
def PlanOk (S : SV) (p : Nat) : Prop := (0 ≤ fI S p 0 ∧ fI S p 0 ≤ 5) ∧ (0 ≤ fI S p 1 ∧ fI S p 1 ≤ 4) ∧ (∀ d, 0 ≤ d → d < 4 → 0 ≤ aI S (p + 2) d ∧ aI S (p + 2) d ≤ 3) ∧ (∀ d i, 0 ≤ d → d < 4 → 0 ≤ i → i < aI S (p + 2) d → d * 3 ≤ aI S (p + 5) (d * 3 + i) ∧ aI S (p + 5) (d * 3 + i) < d * 3 + aI S (p + 2) d)
def isLastP (S : SV) (p : Nat) (h d : Int) : Prop := hasRc S p d ∧ prefO S p h d = aI S (p + 4) (aI S (p + 5) (d * 3))
theorem p_Plan_isLast {h d : Int} (hP : PlanAt K p) (hr : AllR S) (hO : PlanOk S p) (hd : R32 d) (hh : R32 h) : P G 1 0 0 mX5_isLast 0 (LE mX5_isLast [.ref p, IV h, IV d]) [] K S (Ret K (some (IV (b2p (isLastP S p h d)))) S) := by
  obtain ⟨k0, k1, k2, k3, k4, k5, k6, k7, k8, k9⟩ := id hP
  obtain ⟨o1, o2, o3, o4⟩ := hO
  by_cases hR : hasRc S p d
  · have hd4 : 0 ≤ d ∧ d < 4 := ⟨hR.1, by have := hR.2.1; omega⟩
    have hc := o3 d hd4.1 hd4.2
    have h4 := o4 d 0 hd4.1 hd4.2 (by omega) hR.2.2
    rw [Int.add_zero] at h4
    rw [show LE mX5_isLast [.ref p, IV h, IV d] = [some (.ref p), some (IV h), some (IV d)] from rfl]
    refine T_aload_n dX5_isLast_0 rfl rfl ?_
    refine T_iload_n dX5_isLast_1 rfl ?_
    refine Q_callV dX5_isLast_2 kX5_hasReceivers lX5_66 (by assumption) rfl (p_Plan_hasReceivers hP hr hd o2.2) rfl rfl (Nat.le_of_ble_eq_true rfl) (Nat.le_of_ble_eq_true rfl) (by decide) (by decide) ?_
    rw [b2p_t hR]
    refine I_if_eq (tgt := 34) dX5_isLast_5 (by decide) ⟨by decide, by decide⟩ (fun h5 => ?_) (fun h5 => ?_)
    · exact absurd h5 (by decide)
    · refine T_aload_n dX5_isLast_8 rfl rfl ?_
      refine T_iload_n dX5_isLast_9 rfl ?_
      refine T_iload_n dX5_isLast_10 rfl ?_
      refine Q_callV dX5_isLast_11 kX5_preferenceOf lX5_70 (by assumption) rfl (p_Plan_preferenceOf hP hr hd4 hc hh) rfl rfl (Nat.le_of_ble_eq_true rfl) (Nat.le_of_ble_eq_true rfl) (by decide) (by decide) ?_
      refine T_aload_n dX5_isLast_14 rfl rfl ?_
      refine P_getr dX5_isLast_15 fX5_21 (by assumption) rfl ?_
      refine T_aload_n dX5_isLast_18 rfl rfl ?_
      refine P_getr dX5_isLast_19 fX5_24 (by assumption) rfl ?_
      refine T_iload_n dX5_isLast_22 rfl ?_
      refine I_iconst dX5_isLast_23 ?_
      refine I_imul dX5_isLast_24 ?_
      refine P_iald dX5_isLast_25 (by assumption) ⟨by omega, by omega⟩ (by first | decide | omega) ?_
      refine P_iald dX5_isLast_26 (by assumption) ⟨by omega, by omega⟩ (by first | decide | omega) ?_
      refine I_icmp_ne (tgt := 34) dX5_isLast_27 (by decide) (prefO_R hr) (hr.2 _ _) (fun h27 => ?_) (fun h27 => ?_)
      · have hb : b2p (isLastP S p h d) = 0 := b2p_f (fun z => h27 z.2)
        refine I_iconst dX5_isLast_34 ?_
        exact I_zreturn dX5_isLast_35 rfl (by decide) ⟨_, _, rfl, by rw [hb], rfl, rfl⟩
      · have hb : b2p (isLastP S p h d) = 1 := b2p_t ⟨hR, h27⟩
        refine I_iconst dX5_isLast_30 ?_
        refine T_goto (tgt := 35) dX5_isLast_31 (by decide) ?_
        exact I_zreturn dX5_isLast_35 rfl (by decide) ⟨_, _, rfl, by rw [hb], rfl, rfl⟩
  · rw [show LE mX5_isLast [.ref p, IV h, IV d] = [some (.ref p), some (IV h), some (IV d)] from rfl]
    refine T_aload_n dX5_isLast_0 rfl rfl ?_
    refine T_iload_n dX5_isLast_1 rfl ?_
    refine Q_callV dX5_isLast_2 kX5_hasReceivers lX5_66 (by assumption) rfl (p_Plan_hasReceivers hP hr hd o2.2) rfl rfl (Nat.le_of_ble_eq_true rfl) (Nat.le_of_ble_eq_true rfl) (by decide) (by decide) ?_
    rw [b2p_f hR]
    refine I_if_eq (tgt := 34) dX5_isLast_5 (by decide) ⟨by decide, by decide⟩ (fun h5 => ?_) (fun h5 => ?_)
    · refine I_iconst dX5_isLast_34 ?_
      exact I_zreturn dX5_isLast_35 rfl (by decide) ⟨_, _, rfl, by rw [b2p_f (fun z => hR z.1)], rfl, rfl⟩
    · exact absurd rfl h5
theorem l_Plan_ending {h : Int} (hP : PlanAt K p) (hr : AllR S) (hO : PlanOk S p) (hh : R32 h) (i acc : Int) (hi : 0 ≤ i ∧ i ≤ fI S p 1) : P G 2 0 0 mX5_domainsEndingIn 4 [some (.ref p), some (IV h), some (IV acc), some (IV i)] [] K S (Ret K (some (IV (acc + sumF (fun t => b2p (isLastP S p h t)) (fI S p 1 - i).toNat i))) S) := by
  obtain ⟨k0, k1, k2, k3, k4, k5, k6, k7, k8, k9⟩ := id hP
  have o2 := hO.2.1
  induction hm : (fI S p 1 - i).toNat using Nat.strongRecOn generalizing i acc with
  | _ m ih =>
    refine T_iload_n dX5_domainsEndingIn_4 rfl ?_
    refine T_aload_n dX5_domainsEndingIn_5 rfl rfl ?_
    refine P_geti dX5_domainsEndingIn_6 fX5_43 (by assumption) rfl ?_
    refine I_icmp_ge (tgt := 30) dX5_domainsEndingIn_9 (by decide) ⟨by omega, by omega⟩ ⟨by omega, by omega⟩ (fun h9 => ?_) (fun h9 => ?_)
    · refine T_iload_n dX5_domainsEndingIn_30 rfl ?_
      exact I_ireturn dX5_domainsEndingIn_31 rfl ⟨_, _, rfl, by rw [← hm, toNat_0 h9, sumF, Int.add_zero], rfl, rfl⟩
    · refine T_aload_n dX5_domainsEndingIn_12 rfl rfl ?_
      refine T_iload_n dX5_domainsEndingIn_13 rfl ?_
      refine T_iload_n dX5_domainsEndingIn_14 rfl ?_
      refine Q_callV dX5_domainsEndingIn_15 kX5_isLast lX5_73 (by assumption) rfl (p_Plan_isLast hP hr hO ⟨by omega, by omega⟩ hh) rfl rfl (Nat.le_of_ble_eq_true rfl) (Nat.le_of_ble_eq_true rfl) (by decide) (by decide) ?_
      refine I_if_eq (tgt := 24) dX5_domainsEndingIn_18 (by decide) (by rcases b2p_01 (isLastP S p h i) with e | e <;> rw [e] <;> decide) (fun h18 => ?_) (fun h18 => ?_)
      · refine I_iinc dX5_domainsEndingIn_24 rfl (by decide) rfl ?_
        refine T_goto (tgt := 4) dX5_domainsEndingIn_27 (by decide) ?_
        rw [← hm, toNat_1 (by omega : i < fI S p 1), sumF, ← Int.add_assoc]
        first
          | (rw [h18, Int.add_zero]; exact ih _ (by omega) (i + 1) acc ⟨by omega, by omega⟩ rfl)
          | (rw [(b2p_01 (isLastP S p h i)).resolve_left h18]; exact ih _ (by omega) (i + 1) (acc + 1) ⟨by omega, by omega⟩ rfl)
      · refine I_iinc dX5_domainsEndingIn_21 rfl (by decide) rfl ?_
        refine I_iinc dX5_domainsEndingIn_24 rfl (by decide) rfl ?_
        refine T_goto (tgt := 4) dX5_domainsEndingIn_27 (by decide) ?_
        rw [← hm, toNat_1 (by omega : i < fI S p 1), sumF, ← Int.add_assoc]
        first
          | (rw [h18, Int.add_zero]; exact ih _ (by omega) (i + 1) acc ⟨by omega, by omega⟩ rfl)
          | (rw [(b2p_01 (isLastP S p h i)).resolve_left h18]; exact ih _ (by omega) (i + 1) (acc + 1) ⟨by omega, by omega⟩ rfl)
theorem p_Plan_ending {h : Int} (hP : PlanAt K p) (hr : AllR S) (hO : PlanOk S p) (hh : R32 h) : P G 2 0 0 mX5_domainsEndingIn 0 (LE mX5_domainsEndingIn [.ref p, IV h]) [] K S (Ret K (some (IV (sumF (fun t => b2p (isLastP S p h t)) (fI S p 1).toNat 0))) S) := by
  have o2 := hO.2.1
  rw [show LE mX5_domainsEndingIn [.ref p, IV h] = [some (.ref p), some (IV h), none, none] from rfl]
  refine I_iconst dX5_domainsEndingIn_0 ?_
  refine T_istore_n dX5_domainsEndingIn_1 (by decide) rfl ?_
  refine I_iconst dX5_domainsEndingIn_2 ?_
  refine T_istore_n dX5_domainsEndingIn_3 (by decide) rfl ?_
  have e := l_Plan_ending (G := G) hP hr hO hh 0 0 ⟨by omega, by omega⟩
  rw [Int.sub_zero, Int.zero_add] at e
  exact e
noncomputable def askedO (S : SV) (p : Nat) (h d i : Int) : Int := if aI S (p + 2) d ≤ i then -4 else if prefO S p h d = -4 ∨ aI S (p + 4) (aI S (p + 5) (d * 3 + i)) < prefO S p h d then aI S (p + 3) (aI S (p + 5) (d * 3 + i)) else -4
theorem p_Plan_asked {h d i : Int} (hP : PlanAt K p) (hr : AllR S) (hO : PlanOk S p) (hd : 0 ≤ d ∧ d < 4) (hi : 0 ≤ i ∧ i < 2147483648) (hh : R32 h) : P G 1 0 0 mX5_asked 0 (LE mX5_asked [.ref p, IV h, IV d, IV i]) [] K S (Ret K (some (IV (askedO S p h d i))) S) := by
  obtain ⟨k0, k1, k2, k3, k4, k5, k6, k7, k8, k9⟩ := id hP
  obtain ⟨o1, o2, o3, o4⟩ := hO
  have hc := o3 d hd.1 hd.2
  rw [show LE mX5_asked [.ref p, IV h, IV d, IV i] = [some (.ref p), some (IV h), some (IV d), some (IV i), none, none] from rfl]
  refine T_iload_n dX5_asked_0 rfl ?_
  refine T_aload_n dX5_asked_1 rfl rfl ?_
  refine P_getr dX5_asked_2 fX5_15 (by assumption) rfl ?_
  refine T_iload_n dX5_asked_5 rfl ?_
  refine P_iald dX5_asked_6 (by assumption) ⟨by omega, by omega⟩ (by first | decide | omega) ?_
  refine I_icmp_lt (tgt := 13) dX5_asked_7 (by decide) ⟨by omega, by omega⟩ ⟨by omega, by omega⟩ (fun h7 => ?_) (fun h7 => ?_)
  · have h4 := o4 d i hd.1 hd.2 hi.1 h7
    refine T_aload_n dX5_asked_13 rfl rfl ?_
    refine T_iload_n dX5_asked_14 rfl ?_
    refine T_iload_n dX5_asked_15 rfl ?_
    refine Q_callV dX5_asked_16 kX5_preferenceOf lX5_70 (by assumption) rfl (p_Plan_preferenceOf hP hr hd hc hh) rfl rfl (Nat.le_of_ble_eq_true rfl) (Nat.le_of_ble_eq_true rfl) (by decide) (by decide) ?_
    refine T_istore dX5_asked_19 (by decide) rfl ?_
    refine T_aload_n dX5_asked_21 rfl rfl ?_
    refine P_getr dX5_asked_22 fX5_24 (by assumption) rfl ?_
    refine T_iload_n dX5_asked_25 rfl ?_
    refine I_iconst dX5_asked_26 ?_
    refine I_imul dX5_asked_27 ?_
    refine T_iload_n dX5_asked_28 rfl ?_
    refine I_iadd dX5_asked_29 ?_
    refine P_iald dX5_asked_30 (by assumption) ⟨by omega, by omega⟩ (by first | decide | omega) ?_
    refine T_istore dX5_asked_31 (by decide) rfl ?_
    refine T_iload dX5_asked_33 rfl ?_
    refine I_bipush dX5_asked_35 (by decide) ?_
    refine I_icmp_eq (tgt := 52) dX5_asked_37 (by decide) (prefO_R hr) ⟨by decide, by decide⟩ (fun h37 => ?_) (fun h37 => ?_)
    · refine T_aload_n dX5_asked_52 rfl rfl ?_
      refine P_getr dX5_asked_53 fX5_18 (by assumption) rfl ?_
      refine T_iload dX5_asked_56 rfl ?_
      refine P_iald dX5_asked_58 (by assumption) ⟨by omega, by omega⟩ (by first | decide | omega) ?_
      refine T_goto (tgt := 64) dX5_asked_59 (by decide) ?_
      exact I_ireturn dX5_asked_64 rfl ⟨_, _, rfl, by first | (rw [askedO, if_neg (by omega), if_pos (Or.inl h37)]; done) | (rw [askedO, if_neg (by omega), if_pos (Or.inr (by omega))]; done) | (rw [askedO, if_neg (by omega), if_neg (by omega)]; done), rfl, rfl⟩
    · refine T_aload_n dX5_asked_40 rfl rfl ?_
      refine P_getr dX5_asked_41 fX5_21 (by assumption) rfl ?_
      refine T_iload dX5_asked_44 rfl ?_
      refine P_iald dX5_asked_46 (by assumption) ⟨by omega, by omega⟩ (by first | decide | omega) ?_
      refine T_iload dX5_asked_47 rfl ?_
      refine I_icmp_ge (tgt := 62) dX5_asked_49 (by decide) (hr.2 _ _) (prefO_R hr) (fun h49 => ?_) (fun h49 => ?_)
      · refine I_bipush dX5_asked_62 (by decide) ?_
        exact I_ireturn dX5_asked_64 rfl ⟨_, _, rfl, by first | (rw [askedO, if_neg (by omega), if_pos (Or.inl h37)]; done) | (rw [askedO, if_neg (by omega), if_pos (Or.inr (by omega))]; done) | (rw [askedO, if_neg (by omega), if_neg (by omega)]; done), rfl, rfl⟩
      · refine T_aload_n dX5_asked_52 rfl rfl ?_
        refine P_getr dX5_asked_53 fX5_18 (by assumption) rfl ?_
        refine T_iload dX5_asked_56 rfl ?_
        refine P_iald dX5_asked_58 (by assumption) ⟨by omega, by omega⟩ (by first | decide | omega) ?_
        refine T_goto (tgt := 64) dX5_asked_59 (by decide) ?_
        exact I_ireturn dX5_asked_64 rfl ⟨_, _, rfl, by first | (rw [askedO, if_neg (by omega), if_pos (Or.inl h37)]; done) | (rw [askedO, if_neg (by omega), if_pos (Or.inr (by omega))]; done) | (rw [askedO, if_neg (by omega), if_neg (by omega)]; done), rfl, rfl⟩
  · refine I_bipush dX5_asked_10 (by decide) ?_
    exact I_ireturn dX5_asked_12 rfl ⟨_, _, rfl, by rw [askedO, if_pos (by omega)], rfl, rfl⟩
end Plan
