/-! a receiver is told: it comes to its place among the ranked -/
theorem keyLt.tr {S : SV} {p : Nat} {x y z : Int} (h : keyLt S p x y) (h2 : keyLt S p y z) : keyLt S p x z := by
  unfold keyLt at *
  omega
theorem keyLt.tot {S : SV} {p : Nat} {x y : Int} (h : ¬ keyLt S p x y) (hn : aI S (p + 3) x ≠ aI S (p + 3) y) : keyLt S p y x := by
  unfold keyLt at *
  omega
def shf (S : SV) (p : Nat) (lo hi : Int) : SV := (S.1, fun a i => if a = p + 5 ∧ lo < i ∧ i ≤ hi then S.2.1 (p + 5) (i - 1) else S.2.1 a i, S.2.2)
theorem aI_shf (S : SV) (p : Nat) (lo hi : Int) (a : Nat) (i : Int) : aI (shf S p lo hi) a i = if a = p + 5 ∧ lo < i ∧ i ≤ hi then aI S (p + 5) (i - 1) else aI S a i := rfl
theorem shf_0 (S : SV) (p : Nat) (hi : Int) : shf S p hi hi = S := by
  refine SV_ext (fun _ _ => rfl) (fun a i => ?_) (fun _ _ => rfl)
  rw [aI_shf, if_neg (by omega)]
theorem shf_1 (S : SV) (p : Nat) (lo hi : Int) (h : lo ≤ hi) : sA (shf S p lo hi) (p + 5) lo (aI S (p + 5) (lo - 1)) = shf S p (lo - 1) hi := by
  refine SV_ext (fun _ _ => rfl) (fun a i => ?_) (fun _ _ => rfl)
  rw [aI_sA, aI_shf, aI_shf]
  by_cases e : a = p + 5
  · subst e
    by_cases e2 : i = lo
    · rw [if_pos ⟨rfl, e2⟩, if_pos ⟨rfl, by omega, by omega⟩, e2]
    · rw [if_neg (by omega)]
      by_cases e3 : lo < i ∧ i ≤ hi
      · rw [if_pos ⟨rfl, e3⟩, if_pos ⟨rfl, by omega, by omega⟩]
      · rw [if_neg (by omega), if_neg (by omega)]
  · rw [if_neg (fun z => e z.1), if_neg (fun z => e z.1), if_neg (fun z => e z.1)]
theorem keyLt_shf (S : SV) (p : Nat) (lo hi x y : Int) : keyLt (shf S p lo hi) p x y = keyLt S p x y := by
  unfold keyLt
  rw [aI_shf, if_neg (by omega), aI_shf, if_neg (by omega), aI_shf, if_neg (by omega), aI_shf, if_neg (by omega)]
theorem AllR.shf {S : SV} (h : AllR S) {p : Nat} {lo hi : Int} : AllR (shf S p lo hi) := ⟨h.1, fun a i => by rw [aI_shf]; split; exact h.2 _ _; exact h.2 _ _⟩
theorem Same.shf {S : SV} {p : Nat} {lo hi : Int} {x y : Nat} (h : p + 5 < x ∨ y ≤ p + 5) : Same S (shf S p lo hi) x y := fun a q1 q2 => ⟨fun _ => rfl, fun i => by rw [aI_shf, if_neg (by omega)], fun _ => rfl⟩
/-- the k that is found, and the rows then -/
def insS (S : SV) (p : Nat) (d n k : Int) : SV := sA (sA (shf S p (d * 3 + k) (d * 3 + n)) (p + 5) (d * 3 + k) (d * 3 + n)) (p + 2) d (n + 1)
section Rank
variable {G : GT} {K : List SH} {p : Nat} {pl : PL}
theorem p_Plan_ahead {S : SV} {x y : Int} (h : PlanAt K p) (hr : AllR S) (hx : 0 ≤ x ∧ x < 12) (hy : 0 ≤ y ∧ y < 12) : P G 0 0 0 mX5_isAskedAhead 0 (LE mX5_isAskedAhead [.ref p, IV x, IV y]) [] K S (Ret K (some (IV (b2p (keyLt S p x y)))) S) := by
  obtain ⟨k0, k1, k2, k3, k4, k5, k6, k7, k8, k9⟩ := h
  rw [show LE mX5_isAskedAhead [.ref p, IV x, IV y] = [some (.ref p), some (IV x), some (IV y)] from rfl]
  refine T_aload_n dX5_isAskedAhead_0 rfl rfl ?_
  refine P_getr dX5_isAskedAhead_1 fX5_21 (by assumption) rfl ?_
  refine T_iload_n dX5_isAskedAhead_4 rfl ?_
  refine P_iald dX5_isAskedAhead_5 (by assumption) ⟨by omega, by omega⟩ (by first | decide | omega) ?_
  refine T_aload_n dX5_isAskedAhead_6 rfl rfl ?_
  refine P_getr dX5_isAskedAhead_7 fX5_21 (by assumption) rfl ?_
  refine T_iload_n dX5_isAskedAhead_10 rfl ?_
  refine P_iald dX5_isAskedAhead_11 (by assumption) ⟨by omega, by omega⟩ (by first | decide | omega) ?_
  refine I_icmp_eq (tgt := 36) dX5_isAskedAhead_12 (by decide) (hr.2 _ _) (hr.2 _ _) (fun h12 => ?_) (fun h12 => ?_)
  · refine T_aload_n dX5_isAskedAhead_36 rfl rfl ?_
    refine P_getr dX5_isAskedAhead_37 fX5_18 (by assumption) rfl ?_
    refine T_iload_n dX5_isAskedAhead_40 rfl ?_
    refine P_iald dX5_isAskedAhead_41 (by assumption) ⟨by omega, by omega⟩ (by first | decide | omega) ?_
    refine T_aload_n dX5_isAskedAhead_42 rfl rfl ?_
    refine P_getr dX5_isAskedAhead_43 fX5_18 (by assumption) rfl ?_
    refine T_iload_n dX5_isAskedAhead_46 rfl ?_
    refine P_iald dX5_isAskedAhead_47 (by assumption) ⟨by omega, by omega⟩ (by first | decide | omega) ?_
    refine I_icmp_ge (tgt := 55) dX5_isAskedAhead_48 (by decide) (hr.2 _ _) (hr.2 _ _) (fun h48 => ?_) (fun h48 => ?_)
    · have hb : b2p (keyLt S p x y) = 0 := b2p_f (fun z => by unfold keyLt at z; omega)
      refine I_iconst dX5_isAskedAhead_55 ?_
      exact I_zreturn dX5_isAskedAhead_56 rfl (by decide) ⟨_, _, rfl, by rw [hb], rfl, rfl⟩
    · have hb : b2p (keyLt S p x y) = 1 := b2p_t (Or.inr ⟨h12, by omega⟩)
      refine I_iconst dX5_isAskedAhead_51 ?_
      refine T_goto (tgt := 56) dX5_isAskedAhead_52 (by decide) ?_
      exact I_zreturn dX5_isAskedAhead_56 rfl (by decide) ⟨_, _, rfl, by rw [hb], rfl, rfl⟩
  · refine T_aload_n dX5_isAskedAhead_15 rfl rfl ?_
    refine P_getr dX5_isAskedAhead_16 fX5_21 (by assumption) rfl ?_
    refine T_iload_n dX5_isAskedAhead_19 rfl ?_
    refine P_iald dX5_isAskedAhead_20 (by assumption) ⟨by omega, by omega⟩ (by first | decide | omega) ?_
    refine T_aload_n dX5_isAskedAhead_21 rfl rfl ?_
    refine P_getr dX5_isAskedAhead_22 fX5_21 (by assumption) rfl ?_
    refine T_iload_n dX5_isAskedAhead_25 rfl ?_
    refine P_iald dX5_isAskedAhead_26 (by assumption) ⟨by omega, by omega⟩ (by first | decide | omega) ?_
    refine I_icmp_ge (tgt := 34) dX5_isAskedAhead_27 (by decide) (hr.2 _ _) (hr.2 _ _) (fun h27 => ?_) (fun h27 => ?_)
    · have hb : b2p (keyLt S p x y) = 0 := b2p_f (fun z => by unfold keyLt at z; omega)
      refine I_iconst dX5_isAskedAhead_34 ?_
      exact I_zreturn dX5_isAskedAhead_35 rfl (by decide) ⟨_, _, rfl, by rw [hb], rfl, rfl⟩
    · have hb : b2p (keyLt S p x y) = 1 := b2p_t (Or.inl (by omega))
      refine I_iconst dX5_isAskedAhead_30 ?_
      refine T_goto (tgt := 35) dX5_isAskedAhead_31 (by decide) ?_
      exact I_zreturn dX5_isAskedAhead_35 rfl (by decide) ⟨_, _, rfl, by rw [hb], rfl, rfl⟩
theorem l_rank {S : SV} {d h w n : Int} (hP : PlanAt K p) (hr : AllR S) (hd : 0 ≤ d ∧ d < 4) (hn : n ≤ 2) (hR : ∀ i, 0 ≤ i → i < n → d * 3 ≤ aI S (p + 5) (d * 3 + i) ∧ aI S (p + 5) (d * 3 + i) < d * 3 + n) (m : Nat) : ∀ k : Int, k = m → k ≤ n → (∀ j, k ≤ j → j < n → keyLt S p (d * 3 + n) (aI S (p + 5) (d * 3 + j))) → P G 1 0 0 mX5_addReceiver 46 [some (.ref p), some (IV d), some (IV h), some (IV w), some (IV n), some (IV (d * 3)), some (IV k)] [] K (shf S p (d * 3 + k) (d * 3 + n)) (fun rv K' S' => rv = none ∧ K' = K ∧ ∃ k', (0 ≤ k' ∧ k' ≤ n) ∧ (∀ j, k' ≤ j → j < n → keyLt S p (d * 3 + n) (aI S (p + 5) (d * 3 + j))) ∧ (k' = 0 ∨ ¬ keyLt S p (d * 3 + n) (aI S (p + 5) (d * 3 + k' - 1))) ∧ S' = insS S p d n k') := by
  obtain ⟨k0, k1, k2, k3, k4, k5, k6, k7, k8, k9⟩ := id hP
  induction m with
  | zero =>
    intro k hk hkn hj
    refine T_iload dX5_addReceiver_46 rfl ?_
    refine I_if_le (tgt := 103) dX5_addReceiver_48 (by decide) ⟨by omega, by omega⟩ (fun h48 => ?_) (fun h48 => ?_)
    · refine T_aload_n dX5_addReceiver_103 rfl rfl ?_
      refine P_getr dX5_addReceiver_104 fX5_24 (by assumption) rfl ?_
      refine T_iload dX5_addReceiver_107 rfl ?_
      refine T_iload dX5_addReceiver_109 rfl ?_
      refine I_iadd dX5_addReceiver_111 ?_
      refine T_iload dX5_addReceiver_112 rfl ?_
      refine T_iload dX5_addReceiver_114 rfl ?_
      refine I_iadd dX5_addReceiver_116 ?_
      refine P_iast dX5_addReceiver_117 (by assumption) ⟨by omega, by omega⟩ (by first | decide | omega) ?_
      refine T_aload_n dX5_addReceiver_118 rfl rfl ?_
      refine P_getr dX5_addReceiver_119 fX5_15 (by assumption) rfl ?_
      refine T_iload_n dX5_addReceiver_122 rfl ?_
      refine T_iload dX5_addReceiver_123 rfl ?_
      refine I_iconst dX5_addReceiver_125 ?_
      refine I_iadd dX5_addReceiver_126 ?_
      refine P_iast dX5_addReceiver_127 (by assumption) ⟨by omega, by omega⟩ (by first | decide | omega) ?_
      exact T_return dX5_addReceiver_128 rfl ⟨_, _, rfl, rfl, rfl, k, ⟨by omega, hkn⟩, hj, Or.inl (by omega), rfl⟩
    · omega
  | succ m ih =>
    intro k hk hkn hj
    have hv : aI (shf S p (d * 3 + k) (d * 3 + n)) (p + 5) (d * 3 + k - 1) = aI S (p + 5) (d * 3 + k - 1) := by rw [aI_shf, if_neg (by omega)]
    have hv2 := hR (k - 1) (by omega) (by omega)
    rw [show d * 3 + (k - 1) = d * 3 + k - 1 by omega] at hv2
    refine T_iload dX5_addReceiver_46 rfl ?_
    refine I_if_le (tgt := 103) dX5_addReceiver_48 (by decide) ⟨by omega, by omega⟩ (fun h48 => ?_) (fun h48 => ?_)
    · omega
    · refine T_aload_n dX5_addReceiver_51 rfl rfl ?_
      refine T_iload dX5_addReceiver_52 rfl ?_
      refine T_iload dX5_addReceiver_54 rfl ?_
      refine I_iadd dX5_addReceiver_56 ?_
      refine T_aload_n dX5_addReceiver_57 rfl rfl ?_
      refine P_getr dX5_addReceiver_58 fX5_24 (by assumption) rfl ?_
      refine T_iload dX5_addReceiver_61 rfl ?_
      refine T_iload dX5_addReceiver_63 rfl ?_
      refine I_iadd dX5_addReceiver_65 ?_
      refine I_iconst dX5_addReceiver_66 ?_
      refine I_isub dX5_addReceiver_67 ?_
      refine P_iald dX5_addReceiver_68 (by assumption) ⟨by omega, by omega⟩ (by first | decide | omega) ?_
      rw [hv]
      refine Q_callV dX5_addReceiver_69 kX5_isAskedAhead lX5_58 (by assumption) rfl (p_Plan_ahead hP hr.shf ⟨by omega, by omega⟩ ⟨by omega, by omega⟩) rfl rfl (Nat.le_of_ble_eq_true rfl) (Nat.le_of_ble_eq_true rfl) (by decide) (by decide) ?_
      rw [keyLt_shf]
      refine I_if_eq (tgt := 103) dX5_addReceiver_72 (by decide) (by rcases b2p_01 (keyLt S p (d * 3 + n) (aI S (p + 5) (d * 3 + k - 1))) with z | z <;> rw [z] <;> decide) (fun h72 => ?_) (fun h72 => ?_)
      · have hna : ¬ keyLt S p (d * 3 + n) (aI S (p + 5) (d * 3 + k - 1)) := fun z => by
          rw [b2p_t z] at h72
          omega
        refine T_aload_n dX5_addReceiver_103 rfl rfl ?_
        refine P_getr dX5_addReceiver_104 fX5_24 (by assumption) rfl ?_
        refine T_iload dX5_addReceiver_107 rfl ?_
        refine T_iload dX5_addReceiver_109 rfl ?_
        refine I_iadd dX5_addReceiver_111 ?_
        refine T_iload dX5_addReceiver_112 rfl ?_
        refine T_iload dX5_addReceiver_114 rfl ?_
        refine I_iadd dX5_addReceiver_116 ?_
        refine P_iast dX5_addReceiver_117 (by assumption) ⟨by omega, by omega⟩ (by first | decide | omega) ?_
        refine T_aload_n dX5_addReceiver_118 rfl rfl ?_
        refine P_getr dX5_addReceiver_119 fX5_15 (by assumption) rfl ?_
        refine T_iload_n dX5_addReceiver_122 rfl ?_
        refine T_iload dX5_addReceiver_123 rfl ?_
        refine I_iconst dX5_addReceiver_125 ?_
        refine I_iadd dX5_addReceiver_126 ?_
        refine P_iast dX5_addReceiver_127 (by assumption) ⟨by omega, by omega⟩ (by first | decide | omega) ?_
        exact T_return dX5_addReceiver_128 rfl ⟨_, _, rfl, rfl, rfl, k, ⟨by omega, hkn⟩, hj, Or.inr hna, rfl⟩
      · have ha : keyLt S p (d * 3 + n) (aI S (p + 5) (d * 3 + k - 1)) := Classical.byContradiction (fun z => h72 (b2p_f z))
        have z := ih (k - 1) (by omega) (by omega) (fun j u v => by
          by_cases e : j = k - 1
          · rw [e, show d * 3 + (k - 1) = d * 3 + k - 1 by omega]
            exact ha
          · exact hj j (by omega) v)
        refine T_aload_n dX5_addReceiver_75 rfl rfl ?_
        refine P_getr dX5_addReceiver_76 fX5_24 (by assumption) rfl ?_
        refine T_iload dX5_addReceiver_79 rfl ?_
        refine T_iload dX5_addReceiver_81 rfl ?_
        refine I_iadd dX5_addReceiver_83 ?_
        refine T_aload_n dX5_addReceiver_84 rfl rfl ?_
        refine P_getr dX5_addReceiver_85 fX5_24 (by assumption) rfl ?_
        refine T_iload dX5_addReceiver_88 rfl ?_
        refine T_iload dX5_addReceiver_90 rfl ?_
        refine I_iadd dX5_addReceiver_92 ?_
        refine I_iconst dX5_addReceiver_93 ?_
        refine I_isub dX5_addReceiver_94 ?_
        refine P_iald dX5_addReceiver_95 (by assumption) ⟨by omega, by omega⟩ (by first | decide | omega) ?_
        rw [hv]
        refine P_iast dX5_addReceiver_96 (by assumption) ⟨by omega, by omega⟩ (by first | decide | omega) ?_
        rw [shf_1 _ _ _ _ (by omega)]
        refine I_iinc dX5_addReceiver_97 rfl (by decide) rfl ?_
        refine T_goto (tgt := 46) dX5_addReceiver_100 (by decide) ?_
        rw [show d * 3 + k - 1 = d * 3 + (k - 1) by omega]
        exact z
def rcS (S : SV) (p : Nat) (d h w n : Int) : SV := sA (sA S (p + 3) (d * 3 + n) h) (p + 4) (d * 3 + n) w
theorem PlanR.addRc {S : SV} (hR : PlanR S p pl) (hB : PlB pl) {d h w k : Int} (hd : 0 ≤ d ∧ d < 4) (hn : pRc pl d < 3) (hh : ∀ i, 0 ≤ i → i < pRc pl d → pRh pl d i ≠ h) (hk : 0 ≤ k ∧ k ≤ pRc pl d) (h1 : ∀ j, k ≤ j → j < pRc pl d → keyLt (rcS S p d h w (pRc pl d)) p (d * 3 + pRc pl d) (aI (rcS S p d h w (pRc pl d)) (p + 5) (d * 3 + j))) (h2 : k = 0 ∨ ¬ keyLt (rcS S p d h w (pRc pl d)) p (d * 3 + pRc pl d) (aI (rcS S p d h w (pRc pl d)) (p + 5) (d * 3 + k - 1))) : PlanR (insS (rcS S p d h w (pRc pl d)) p d (pRc pl d) k) p (addRcM pl d h w) := by
  obtain ⟨n, en⟩ : ∃ n, n = pRc pl d := ⟨_, rfl⟩
  rw [← en] at hn hh hk h1 h2 ⊢
  obtain ⟨⟨c1, c2⟩, c3, c4, c5, c6⟩ := hR
  have q : ∀ (j : Nat) (y : Int), j ≠ 2 → j ≠ 3 → j ≠ 4 → j ≠ 5 → aI (insS (rcS S p d h w n) p d n k) (p + j) y = aI S (p + j) y := fun j y u1 u2 u3 u4 => by
    unfold insS rcS
    rw [aI_sA, if_neg (by omega), aI_sA, if_neg (by omega), aI_shf, if_neg (by omega), aI_sA, if_neg (by omega), aI_sA, if_neg (by omega)]
  have q2 : ∀ y, aI (insS (rcS S p d h w n) p d n k) (p + 2) y = if y = d then n + 1 else aI S (p + 2) y := fun y => by
    unfold insS rcS
    rw [aI_sA]
    by_cases e : y = d
    · rw [if_pos ⟨rfl, e⟩, if_pos e]
    · rw [if_neg (fun z => e z.2), if_neg e, aI_sA, if_neg (by omega), aI_shf, if_neg (by omega), aI_sA, if_neg (by omega), aI_sA, if_neg (by omega)]
  have q3 : ∀ y, aI (insS (rcS S p d h w n) p d n k) (p + 3) y = if y = d * 3 + n then h else aI S (p + 3) y := fun y => by
    unfold insS rcS
    rw [aI_sA, if_neg (by omega), aI_sA, if_neg (by omega), aI_shf, if_neg (by omega), aI_sA, if_neg (by omega), aI_sA]
    by_cases e : y = d * 3 + n
    · rw [if_pos ⟨rfl, e⟩, if_pos e]
    · rw [if_neg (fun z => e z.2), if_neg e]
  have q4 : ∀ y, aI (insS (rcS S p d h w n) p d n k) (p + 4) y = if y = d * 3 + n then w else aI S (p + 4) y := fun y => by
    unfold insS rcS
    rw [aI_sA, if_neg (by omega), aI_sA, if_neg (by omega), aI_shf, if_neg (by omega), aI_sA]
    by_cases e : y = d * 3 + n
    · rw [if_pos ⟨rfl, e⟩, if_pos e]
    · rw [if_neg (fun z => e z.2), if_neg e, aI_sA, if_neg (by omega)]
  have q5 : ∀ y, aI (insS (rcS S p d h w n) p d n k) (p + 5) y = if y = d * 3 + k then d * 3 + n else if d * 3 + k < y ∧ y ≤ d * 3 + n then aI S (p + 5) (y - 1) else aI S (p + 5) y := fun y => by
    unfold insS rcS
    rw [aI_sA, if_neg (by omega), aI_sA]
    by_cases e : y = d * 3 + k
    · rw [if_pos ⟨rfl, e⟩, if_pos e]
    · rw [if_neg (fun z => e z.2), if_neg e, aI_shf]
      by_cases e2 : d * 3 + k < y ∧ y ≤ d * 3 + n
      · rw [if_pos ⟨rfl, e2⟩, if_pos e2, aI_sA, if_neg (by omega), aI_sA, if_neg (by omega)]
      · rw [if_neg (fun z => e2 z.2), if_neg e2, aI_sA, if_neg (by omega), aI_sA, if_neg (by omega)]
  have r3 : ∀ y, aI (rcS S p d h w n) (p + 3) y = if y = d * 3 + n then h else aI S (p + 3) y := fun y => by
    unfold rcS
    rw [aI_sA, if_neg (by omega), aI_sA]
    by_cases e : y = d * 3 + n
    · rw [if_pos ⟨rfl, e⟩, if_pos e]
    · rw [if_neg (fun z => e z.2), if_neg e]
  have r4 : ∀ y, aI (rcS S p d h w n) (p + 4) y = if y = d * 3 + n then w else aI S (p + 4) y := fun y => by
    unfold rcS
    rw [aI_sA]
    by_cases e : y = d * 3 + n
    · rw [if_pos ⟨rfl, e⟩, if_pos e]
    · rw [if_neg (fun z => e z.2), if_neg e, aI_sA, if_neg (by omega)]
  have r5 : ∀ y, aI (rcS S p d h w n) (p + 5) y = aI S (p + 5) y := fun y => by
    unfold rcS
    rw [aI_sA, if_neg (by omega), aI_sA, if_neg (by omega)]
  have ek : ∀ x y, keyLt (insS (rcS S p d h w n) p d n k) p x y ↔ keyLt (rcS S p d h w n) p x y := fun x y => by
    unfold keyLt
    rw [q3, q3, q4, q4, r3, r3, r4, r4]
  simp only [r5] at h1 h2
  refine ⟨⟨c1, c2⟩, fun x u v => (q 1 x (by omega) (by omega) (by omega) (by omega)).trans (c3 x u v), fun x u v => ?_, fun x u v => ?_, fun j u v => (q 7 j (by omega) (by omega) (by omega) (by omega)).trans (c6 j u v)⟩
  · obtain ⟨g1, g2, g3, g4⟩ := c4 x u v
    have hb := hB.1 x u v
    have eR : pRc (addRcM pl d h w) x = if x = d then n + 1 else pRc pl x := by rw [en]; rfl
    have eH : pRh (addRcM pl d h w) x = if x = d then fset (pRh pl d) n h else pRh pl x := by rw [en]; rfl
    have eP : pRp (addRcM pl d h w) x = if x = d then fset (pRp pl d) n w else pRp pl x := by rw [en]; rfl
    rw [eR, eH, eP, q2]
    by_cases e : x = d
    · subst e
      rw [← en] at g2 g3 g4 hb
      simp only [if_true]
      have old : ∀ i j, 0 ≤ i → i < j → j < n → keyLt (rcS S p x h w n) p (aI S (p + 5) (x * 3 + i)) (aI S (p + 5) (x * 3 + j)) := fun i j a b c => by
        have y1 := g3 i a (by omega)
        have y2 := g3 j (by omega) c
        unfold keyLt
        rw [r3, r3, r4, r4, if_neg (by omega), if_neg (by omega), if_neg (by omega), if_neg (by omega)]
        exact g4 i j a b c
      have new : ∀ i, 0 ≤ i → i < k → keyLt (rcS S p x h w n) p (aI S (p + 5) (x * 3 + i)) (x * 3 + n) := fun i a b => by
        have y1 := g3 (k - 1) (by omega) (by omega)
        have hz : keyLt (rcS S p x h w n) p (aI S (p + 5) (x * 3 + (k - 1))) (x * 3 + n) := by
          rcases h2 with z | z
          · omega
          · rw [show x * 3 + k - 1 = x * 3 + (k - 1) by omega] at z
            refine keyLt.tot z ?_
            rw [r3, r3, if_pos rfl, if_neg (by omega)]
            obtain ⟨t, ht⟩ : ∃ t, aI S (p + 5) (x * 3 + (k - 1)) = x * 3 + t := ⟨aI S (p + 5) (x * 3 + (k - 1)) - x * 3, by omega⟩
            rw [ht, (g2 t (by omega) (by omega)).1]
            exact fun y => hh t (by omega) (by omega) y.symm
        by_cases e : i = k - 1
        · rw [e]; exact hz
        · exact (old i (k - 1) a (by omega) (by omega)).tr hz
      refine ⟨trivial, fun i a b => ?_, fun i a b => ?_, fun i j a b c => ?_⟩
      · rw [q3, q4]
        by_cases e2 : i = n
        · rw [if_pos (by omega), if_pos (by omega), e2, fset_t, fset_t]
          exact ⟨rfl, rfl⟩
        · rw [if_neg (by omega), if_neg (by omega), fset_f _ _ e2, fset_f _ _ e2]
          exact g2 i a (by omega)
      · rw [q5]
        by_cases e2 : i = k
        · rw [if_pos (by omega)]
          omega
        · rw [if_neg (by omega)]
          by_cases e3 : k < i
          · rw [if_pos (by omega), show x * 3 + i - 1 = x * 3 + (i - 1) by omega]
            have := g3 (i - 1) (by omega) (by omega)
            omega
          · rw [if_neg (by omega)]
            have := g3 i a (by omega)
            omega
      · rw [ek, q5, q5]
        by_cases e2 : j < k
        · rw [if_neg (by omega), if_neg (by omega), if_neg (by omega), if_neg (by omega)]
          exact old i j a b (by omega)
        · by_cases e3 : j = k
          · rw [if_neg (by omega), if_neg (by omega), if_pos (by omega)]
            exact new i a (by omega)
          · rw [if_neg (c := x * 3 + j = x * 3 + k) (by omega), if_pos (c := x * 3 + k < x * 3 + j ∧ x * 3 + j ≤ x * 3 + n) (by omega), show x * 3 + j - 1 = x * 3 + (j - 1) by omega]
            by_cases e4 : i < k
            · rw [if_neg (by omega), if_neg (by omega)]
              exact old i (j - 1) a (by omega) (by omega)
            · by_cases e5 : i = k
              · rw [if_pos (by omega)]
                exact h1 (j - 1) (by omega) (by omega)
              · rw [if_neg (by omega), if_pos (by omega), show x * 3 + i - 1 = x * 3 + (i - 1) by omega]
                exact old (i - 1) (j - 1) (by omega) (by omega) (by omega)
    · simp only [if_neg e]
      refine ⟨g1, fun i a b => ?_, fun i a b => ?_, fun i j a b c => ?_⟩
      · rw [q3, q4, if_neg (by omega), if_neg (by omega)]
        exact g2 i a b
      · rw [q5, if_neg (by omega), if_neg (by omega)]
        exact g3 i a b
      · have y1 := g3 i a (by omega)
        have y2 := g3 j (by omega) c
        rw [ek, q5, q5, if_neg (by omega), if_neg (by omega), if_neg (by omega), if_neg (by omega)]
        unfold keyLt
        rw [r3, r3, r4, r4, if_neg (by omega), if_neg (by omega), if_neg (by omega), if_neg (by omega)]
        exact g4 i j a b c
  · obtain ⟨g1, g2, g3⟩ := c5 x u v
    exact ⟨(q 6 x (by omega) (by omega) (by omega) (by omega)).trans g1, (q 8 x (by omega) (by omega) (by omega) (by omega)).trans g2, fun i a b => (q 9 _ (by omega) (by omega) (by omega) (by omega)).trans (g3 i a b)⟩
theorem p_Plan_addReceiver {S : SV} {d h w : Int} (hP : PlanAt K p) (hr : AllR S) (hR : PlanR S p pl) (hB : PlB pl) (hd : 0 ≤ d ∧ d < 4) (hn : pRc pl d < 3) (hh : ∀ i, 0 ≤ i → i < pRc pl d → pRh pl d i ≠ h) (rh : R32 h) (rw' : R32 w) : P G 1 0 0 mX5_addReceiver 0 (LE mX5_addReceiver [.ref p, IV d, IV h, IV w]) [] K S (plQ K S p (addRcM pl d h w)) := by
  obtain ⟨k0, k1, k2, k3, k4, k5, k6, k7, k8, k9⟩ := id hP
  have hc : aI S (p + 2) d = pRc pl d := (hR.2.2.1 d hd.1 hd.2).1
  have hb := hB.1 d hd.1 hd.2
  have r5 : ∀ y, aI (rcS S p d h w (pRc pl d)) (p + 5) y = aI S (p + 5) y := fun y => by
    unfold rcS
    rw [aI_sA, if_neg (by omega), aI_sA, if_neg (by omega)]
  have hA1 : AllR (rcS S p d h w (pRc pl d)) := (hr.sA rh).sA rw'
  have z := l_rank (G := G) (h := h) (w := w) (S := rcS S p d h w (pRc pl d)) hP hA1 hd (by omega : pRc pl d ≤ 2) (fun i a b => by rw [r5]; exact (hR.2.2.1 d hd.1 hd.2).2.2.1 i a b) (pRc pl d).toNat (pRc pl d) (by omega) (by omega) (fun j a b => by omega)
  rw [shf_0] at z
  rw [show LE mX5_addReceiver [.ref p, IV d, IV h, IV w] = [some (.ref p), some (IV d), some (IV h), some (IV w), none, none, none] from rfl]
  refine T_aload_n dX5_addReceiver_0 rfl rfl ?_
  refine P_getr dX5_addReceiver_1 fX5_15 (by assumption) rfl ?_
  refine T_iload_n dX5_addReceiver_4 rfl ?_
  refine P_iald dX5_addReceiver_5 (by assumption) ⟨by omega, by omega⟩ (by first | decide | omega) ?_
  rw [hc]
  refine T_istore dX5_addReceiver_6 (by decide) rfl ?_
  refine T_iload dX5_addReceiver_8 rfl ?_
  refine I_iconst dX5_addReceiver_10 ?_
  refine I_icmp_lt (tgt := 15) dX5_addReceiver_11 (by decide) ⟨by omega, by omega⟩ ⟨by omega, by omega⟩ (fun h11 => ?_) (fun h11 => ?_)
  · refine T_iload_n dX5_addReceiver_15 rfl ?_
    refine I_iconst dX5_addReceiver_16 ?_
    refine I_imul dX5_addReceiver_17 ?_
    refine T_istore dX5_addReceiver_18 (by decide) rfl ?_
    refine T_aload_n dX5_addReceiver_20 rfl rfl ?_
    refine P_getr dX5_addReceiver_21 fX5_18 (by assumption) rfl ?_
    refine T_iload dX5_addReceiver_24 rfl ?_
    refine T_iload dX5_addReceiver_26 rfl ?_
    refine I_iadd dX5_addReceiver_28 ?_
    refine T_iload_n dX5_addReceiver_29 rfl ?_
    refine P_iast dX5_addReceiver_30 (by assumption) ⟨by omega, by omega⟩ (by first | decide | omega) ?_
    refine T_aload_n dX5_addReceiver_31 rfl rfl ?_
    refine P_getr dX5_addReceiver_32 fX5_21 (by assumption) rfl ?_
    refine T_iload dX5_addReceiver_35 rfl ?_
    refine T_iload dX5_addReceiver_37 rfl ?_
    refine I_iadd dX5_addReceiver_39 ?_
    refine T_iload_n dX5_addReceiver_40 rfl ?_
    refine P_iast dX5_addReceiver_41 (by assumption) ⟨by omega, by omega⟩ (by first | decide | omega) ?_
    refine T_iload dX5_addReceiver_42 rfl ?_
    refine T_istore dX5_addReceiver_44 (by decide) rfl ?_
    exact P.weaken z (fun rv K' S' q => by
      obtain ⟨q1, q2, k, q3, q4, q5, q6⟩ := q
      refine ⟨q1, q2, ?_, ?_, ?_⟩
      · rw [q6]
        exact hR.addRc hB hd hn hh q3 q4 q5
      · rw [q6]
        exact fun x y w => ((((Same.sA (by omega)).tr (Same.sA (by omega))).tr (Same.shf (by omega))).tr (Same.sA (by omega))).tr (Same.sA (by omega))
      · rw [q6]
        exact ((hA1.shf).sA ⟨by omega, by omega⟩).sA ⟨by omega, by omega⟩)
  · omega
end Rank
