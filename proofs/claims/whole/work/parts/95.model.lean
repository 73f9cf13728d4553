/-! the reference's constructor -/
section MODEL
variable {G : GT} {σ : List va_E}
def MOQ : Option Value → List SH → SV → Prop := fun rv K' S' => rv = none ∧ K' = K0 ∧ WR K0 S' M0 1 ∧ RR K0 S' M0
theorem c_ModelA {Q : Option Value → List va_E → Prop} (hk : T G 1 0 0 mX11_init 104 [some (.ref σ.length), some (IV 0)] [] (σ ++ bModel σ.length) Q) : T G 1 12 6992 mX11_init 0 (LE mX11_init [.ref σ.length]) [] (σ ++ [.inr (11, [.null, .null, .null, .null, .null, .null, IV 0, IV 0, IV 0, IV 0, IV 0, IV 0, IV 0, IV 0, IV 0, .null, .null, .null, IV 0, .null, .null, .null])]) Q := by
  rw [show LE mX11_init [.ref σ.length] = [some (.ref σ.length), none] from rfl]
  refine T_aload_n dX11_init_0 rfl rfl ?_
  refine T_objInit dX11_init_1 lX11_1 (Nat.le_of_ble_eq_true rfl) ?_
  refine T_aload_n dX11_init_4 rfl rfl ?_
  refine I_sipush dX11_init_5 (by decide) ?_
  refine C_newi dX11_init_8 ⟨by decide, by decide⟩ (by decide) (by decide) ?_
  refine C_put dX11_init_10 fX11_7 rfl (fun _ _ _ h => by cases h; rfl) (by simp) rfl ?_
  refine T_aload_n dX11_init_13 rfl rfl ?_
  refine I_sipush dX11_init_14 (by decide) ?_
  refine C_newi dX11_init_17 ⟨by decide, by decide⟩ (by decide) (by decide) ?_
  refine C_put dX11_init_19 fX11_13 rfl (fun _ _ _ h => by cases h; rfl) (by simp) rfl ?_
  refine T_aload_n dX11_init_22 rfl rfl ?_
  refine I_sipush dX11_init_23 (by decide) ?_
  refine C_newi dX11_init_26 ⟨by decide, by decide⟩ (by decide) (by decide) ?_
  refine C_put dX11_init_28 fX11_16 rfl (fun _ _ _ h => by cases h; rfl) (by simp) rfl ?_
  refine T_aload_n dX11_init_31 rfl rfl ?_
  refine I_iconst dX11_init_32 ?_
  refine C_newz dX11_init_33 ⟨by decide, by decide⟩ (by decide) (by decide) ?_
  refine C_put dX11_init_35 fX11_19 rfl (fun _ _ _ h => by cases h; rfl) (by simp) rfl ?_
  refine T_aload_n dX11_init_38 rfl rfl ?_
  refine I_sipush dX11_init_39 (by decide) ?_
  refine C_newi dX11_init_42 ⟨by decide, by decide⟩ (by decide) (by decide) ?_
  refine C_put dX11_init_44 fX11_23 rfl (fun _ _ _ h => by cases h; rfl) (by simp) rfl ?_
  refine T_aload_n dX11_init_47 rfl rfl ?_
  refine I_sipush dX11_init_48 (by decide) ?_
  refine C_newi dX11_init_51 ⟨by decide, by decide⟩ (by decide) (by decide) ?_
  refine C_put dX11_init_53 fX11_26 rfl (fun _ _ _ h => by cases h; rfl) (by simp) rfl ?_
  refine T_aload_n dX11_init_56 rfl rfl ?_
  refine I_bipush dX11_init_57 (by decide) ?_
  refine C_newz dX11_init_59 ⟨by decide, by decide⟩ (by decide) (by decide) ?_
  refine C_put dX11_init_61 fX11_29 rfl (fun _ _ _ h => by cases h; rfl) (by simp) rfl ?_
  refine T_aload_n dX11_init_64 rfl rfl ?_
  refine I_bipush dX11_init_65 (by decide) ?_
  refine C_newi dX11_init_67 ⟨by decide, by decide⟩ (by decide) (by decide) ?_
  refine C_put dX11_init_69 fX11_32 rfl (fun _ _ _ h => by cases h; rfl) (by simp) rfl ?_
  refine T_aload_n dX11_init_72 rfl rfl ?_
  refine I_iconst dX11_init_73 ?_
  refine C_newz dX11_init_74 ⟨by decide, by decide⟩ (by decide) (by decide) ?_
  refine C_put dX11_init_76 fX11_35 rfl (fun _ _ _ h => by cases h; rfl) (by simp) rfl ?_
  refine T_aload_n dX11_init_79 rfl rfl ?_
  refine I_iconst dX11_init_80 ?_
  refine C_newi dX11_init_81 ⟨by decide, by decide⟩ (by decide) (by decide) ?_
  refine C_put dX11_init_83 fX11_38 rfl (fun _ _ _ h => by cases h; rfl) (by simp) rfl ?_
  refine T_aload_n dX11_init_86 rfl rfl ?_
  refine I_iconst dX11_init_87 ?_
  refine C_newi dX11_init_88 ⟨by decide, by decide⟩ (by decide) (by decide) ?_
  refine C_put dX11_init_90 fX11_41 rfl (fun _ _ _ h => by cases h; rfl) (by simp) rfl ?_
  refine T_aload_n dX11_init_93 rfl rfl ?_
  refine I_sipush dX11_init_94 (by decide) ?_
  refine C_newi dX11_init_97 ⟨by decide, by decide⟩ (by decide) (by decide) ?_
  refine C_put dX11_init_99 fX11_44 rfl (fun _ _ _ h => by cases h; rfl) (by simp) rfl ?_
  refine I_iconst dX11_init_102 ?_
  refine T_istore_n dX11_init_103 (by decide) rfl ?_
  exact hk
theorem s00_all (E : List va_E) : AllR (S00 E) := ⟨fun a k => ⟨by show (-2147483648 : Int) ≤ 0; omega, by show (0 : Int) < 2147483648; omega⟩, fun a k => ⟨by show (-2147483648 : Int) ≤ 0; omega, by show (0 : Int) < 2147483648; omega⟩⟩
theorem mo_end {S1 S' : SV} (hr : AllR S1) (hs : ∀ a, a ≠ 463 → Same (S00 E0) S1 a (a + 1)) (hl : ∀ k, 0 ≤ k → k < 4 → aI S1 463 k = -4) (q : ANQ K0 S1 none K0 S') : MOQ none K0 S' := by
  obtain ⟨-, -, q1, q2, q3, q4, q5⟩ := q
  have f' : ∀ a k, a ≠ 454 → a ≠ 457 → a ≠ 463 → fI S' a k = 0 := fun a k x y z => ((q2 a x y a (by omega) (by omega)).1 k).trans ((hs a z a (by omega) (by omega)).1 k)
  have a' : ∀ a k, a ≠ 454 → a ≠ 457 → a ≠ 463 → aI S' a k = 0 := fun a k x y z => ((q2 a x y a (by omega) (by omega)).2.1 k).trans ((hs a z a (by omega) (by omega)).2.1 k)
  have r' : ∀ a k, a ≠ 454 → a ≠ 457 → a ≠ 463 → rI S' a k = rfE E0[a]? k := fun a k x y z => ((q2 a x y a (by omega) (by omega)).2.2 k).trans ((hs a z a (by omega) (by omega)).2.2 k)
  have z1 : ∀ j, aI S1 454 j = 0 := fun j => (hs 454 (by omega) 454 (by omega) (by omega)).2.1 j
  have e454 : aI S' 454 = anF (aI S1 454) := funext q3
  refine ⟨rfl, rfl, Z0.wr ⟨fun a k h => f' a k (by omega) (by omega) (by omega), fun a k h => a' a k (by omega) (by omega) (by omega), fun a k h => r' a k (by omega) (by omega) (by omega)⟩ q1, ⟨mo0, q1, p0_plok, ?_, ?_⟩, ⟨f' _ _ (by omega) (by omega) (by omega), ⟨by decide, by decide⟩, fun i a b => ?_⟩, f' _ _ (by omega) (by omega) (by omega), fun x hx => (by cases hx), fun k a b => Or.inl ⟨rfl, ?_⟩, fun k a b => Or.inl ⟨rfl, ?_⟩⟩
  · rw [e454]
    exact anF_pl (p0_PlC (fun j a b => z1 j)) p0_plok
  · rw [e454]
    exact anF_e00 (z1 0)
  · have b : i < 0 := b
    omega
  · rcases (show k = 0 ∨ k = 1 by omega) with rfl | rfl
    · exact q4
    · exact q5
  · exact ((q2 463 (by omega) (by omega) 463 (by omega) (by omega)).2.1 k).trans (hl k a b)
theorem c_ModelL (m : Nat) : ∀ (i : Int) (S1 : SV), 0 ≤ i → 4 - i = m → AllR S1 → (∀ a, a ≠ 463 → Same (S00 E0) S1 a (a + 1)) → (∀ k, 0 ≤ k → k < i → aI S1 463 k = -4) → P G 1 0 0 mX11_init 104 [some (.ref 453), some (IV i)] [] K0 S1 MOQ := by
  have m0 := mo0.1
  have m10 := mo0.2.2.2.2.2.2.2.2.2.2.1
  induction m with
  | zero =>
    intro i S1 i0 hm hr hs hl
    refine T_iload_n dX11_init_104 rfl ?_
    refine I_iconst dX11_init_105 ?_
    refine I_icmp_ge (tgt := 123) dX11_init_106 (by decide) ⟨by omega, by omega⟩ ⟨by omega, by omega⟩ (fun h106 => ?_) (fun h106 => ?_)
    · refine T_aload_n dX11_init_123 rfl rfl ?_
      refine R_callV dX11_init_124 kX11_anew lX11_47 (by assumption) rfl (p_anew mo0 hr) rfl rfl (Nat.le_of_ble_eq_true rfl) (Nat.le_of_ble_eq_true rfl) (by decide) (by decide) (fun r_ K_ S_ q_ => ?_)
      have q_' := q_
      obtain ⟨rfl, rfl, -⟩ := q_'
      exact T_return dX11_init_127 rfl ⟨_, _, rfl, mo_end hr hs (fun k a b => hl k a (by omega)) q_⟩
    · omega
  | succ m ih =>
    intro i S1 i0 hm hr hs hl
    have w := ih (i + 1) (sA S1 463 i (-4)) (by omega) (by omega) (hr.sA ⟨by omega, by omega⟩) (fun a x => (hs a x).tr (Same.sA (by omega))) (fun k a b => by
      by_cases e : k = i
      · rw [aI_sA, if_pos ⟨rfl, e⟩]
      · rw [aI_sA, if_neg (by omega)]; exact hl k a (by omega))
    refine T_iload_n dX11_init_104 rfl ?_
    refine I_iconst dX11_init_105 ?_
    refine I_icmp_ge (tgt := 123) dX11_init_106 (by decide) ⟨by omega, by omega⟩ ⟨by omega, by omega⟩ (fun h106 => ?_) (fun h106 => ?_)
    · omega
    · refine T_aload_n dX11_init_109 rfl rfl ?_
      refine P_getr dX11_init_110 fX11_38 (by assumption) rfl ?_
      refine T_iload_n dX11_init_113 rfl ?_
      refine I_bipush dX11_init_114 (by decide) ?_
      refine P_iast dX11_init_116 (by assumption) ⟨by omega, by omega⟩ (by first | decide | omega) ?_
      refine I_iinc dX11_init_117 rfl (by decide) rfl ?_
      refine T_goto (tgt := 104) dX11_init_120 (by decide) ?_
      exact w
theorem c_Model : T G 1 12 6992 mX11_init 0 (LE mX11_init [.ref 453]) [] (bWary 0 ++ [.inr (11, [.null, .null, .null, .null, .null, .null, IV 0, IV 0, IV 0, IV 0, IV 0, IV 0, IV 0, IV 0, IV 0, .null, .null, .null, IV 0, .null, .null, .null])]) (fun r σ' => ∃ K' S', σ' = HP K' S' ∧ MOQ r K' S') := by
  have c := c_ModelA (G := G) (σ := bWary 0) (Q := fun r σ' => ∃ K' S', σ' = HP K' S' ∧ MOQ r K' S')
  rw [bWary_l] at c
  refine c ?_
  have w := c_ModelL (G := G) 4 0 (S00 E0) (by omega) (by omega) (s00_all E0) (fun a _ => Same.rf) (fun k a b => by omega)
  unfold P at w
  rw [hp0] at w
  exact w
end MODEL
