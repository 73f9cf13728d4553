/-! the class: sheet, lay -/
section WSHEET
variable {G : GT} {K : List SH} {S : SV} {M : MS} {N : Int}
def nbN (lane n : Int) : Nat := (if lane = 0 then n else 0).toNat
def niN (lane n : Int) : Nat := (if lane = 1 then n else 0).toNat
theorem c_Sheet {σ : List va_E} {lane n : Int} (hl : lane = 0 ∨ lane = 1) (hn : 0 ≤ n ∧ n ≤ 40) : T G 1 2 40 mX7_init 0 (LE mX7_init [.ref σ.length, IV lane, IV n]) [] (σ ++ [.inr (7, [IV 0, IV 0, .null, .null])]) (CQ σ (shE σ.length lane n (nbN lane n) (niN lane n))) := by
  rcases hl with rfl | rfl
  · rw [show LE mX7_init [.ref σ.length, IV 0, IV n] = [some (.ref σ.length), some (IV 0), some (IV n)] from rfl]
    refine T_aload_n dX7_init_0 rfl rfl ?_
    refine T_objInit dX7_init_1 lX7_3 (Nat.le_of_ble_eq_true rfl) ?_
    refine T_aload_n dX7_init_4 rfl rfl ?_
    refine T_iload_n dX7_init_5 rfl ?_
    refine C_put dX7_init_6 fX7_9 rfl (fun _ _ _ h => by cases h; rfl) (by simp) rfl ?_
    refine T_aload_n dX7_init_9 rfl rfl ?_
    refine T_iload_n dX7_init_10 rfl ?_
    refine C_put dX7_init_11 fX7_15 rfl (fun _ _ _ h => by cases h; rfl) (by simp) rfl ?_
    refine T_aload_n dX7_init_14 rfl rfl ?_
    refine T_iload_n dX7_init_15 rfl ?_
    refine I_if_ne (tgt := 23) dX7_init_16 (by decide) ⟨by omega, by omega⟩ (fun h16 => ?_) (fun h16 => ?_)
    · exact absurd rfl h16
    · refine T_iload_n dX7_init_19 rfl ?_
      refine T_goto (tgt := 24) dX7_init_20 (by decide) ?_
      refine C_newb dX7_init_24 ⟨by omega, by omega⟩ (by decide) (by omega) ?_
      refine C_put dX7_init_26 fX7_18 rfl (fun _ _ _ h => by cases h; rfl) (by simp) rfl ?_
      refine T_aload_n dX7_init_29 rfl rfl ?_
      refine T_iload_n dX7_init_30 rfl ?_
      refine I_iconst dX7_init_31 ?_
      refine I_icmp_ne (tgt := 39) dX7_init_32 (by decide) ⟨by omega, by omega⟩ ⟨by omega, by omega⟩ (fun h32 => ?_) (fun h32 => ?_)
      · refine I_iconst dX7_init_39 ?_
        refine C_newi dX7_init_40 ⟨by omega, by omega⟩ (by decide) (by omega) ?_
        refine C_put dX7_init_42 fX7_22 rfl (fun _ _ _ h => by cases h; rfl) (by simp) rfl ?_
        exact T_return dX7_init_45 rfl ⟨rfl, rfl⟩
      · omega
  · rw [show LE mX7_init [.ref σ.length, IV 1, IV n] = [some (.ref σ.length), some (IV 1), some (IV n)] from rfl]
    refine T_aload_n dX7_init_0 rfl rfl ?_
    refine T_objInit dX7_init_1 lX7_3 (Nat.le_of_ble_eq_true rfl) ?_
    refine T_aload_n dX7_init_4 rfl rfl ?_
    refine T_iload_n dX7_init_5 rfl ?_
    refine C_put dX7_init_6 fX7_9 rfl (fun _ _ _ h => by cases h; rfl) (by simp) rfl ?_
    refine T_aload_n dX7_init_9 rfl rfl ?_
    refine T_iload_n dX7_init_10 rfl ?_
    refine C_put dX7_init_11 fX7_15 rfl (fun _ _ _ h => by cases h; rfl) (by simp) rfl ?_
    refine T_aload_n dX7_init_14 rfl rfl ?_
    refine T_iload_n dX7_init_15 rfl ?_
    refine I_if_ne (tgt := 23) dX7_init_16 (by decide) ⟨by omega, by omega⟩ (fun h16 => ?_) (fun h16 => ?_)
    · refine I_iconst dX7_init_23 ?_
      refine C_newb dX7_init_24 ⟨by omega, by omega⟩ (by decide) (by omega) ?_
      refine C_put dX7_init_26 fX7_18 rfl (fun _ _ _ h => by cases h; rfl) (by simp) rfl ?_
      refine T_aload_n dX7_init_29 rfl rfl ?_
      refine T_iload_n dX7_init_30 rfl ?_
      refine I_iconst dX7_init_31 ?_
      refine I_icmp_ne (tgt := 39) dX7_init_32 (by decide) ⟨by omega, by omega⟩ ⟨by omega, by omega⟩ (fun h32 => ?_) (fun h32 => ?_)
      · omega
      · refine T_iload_n dX7_init_35 rfl ?_
        refine T_goto (tgt := 40) dX7_init_36 (by decide) ?_
        refine C_newi dX7_init_40 ⟨by omega, by omega⟩ (by decide) (by omega) ?_
        refine C_put dX7_init_42 fX7_22 rfl (fun _ _ _ h => by cases h; rfl) (by simp) rfl ?_
        exact T_return dX7_init_45 rfl ⟨rfl, rfl⟩
    · omega
theorem p_W_isSheet {k : Int} (hk : R32 k) : P G 0 0 0 mX10_isSheet 0 (LE mX10_isSheet [IV k]) [] K S (Ret K (some (IV (b2p (0 ≤ k ∧ k < 4)))) S) := by
  by_cases h1 : 0 ≤ k ∧ k < 4
  · rw [b2p_t h1]
    rw [show LE mX10_isSheet [IV k] = [some (IV k)] from rfl]
    refine T_iload_n dX10_isSheet_0 rfl ?_
    refine I_if_lt (tgt := 13) dX10_isSheet_1 (by decide) hk (fun h1 => ?_) (fun h1 => ?_)
    · omega
    · refine T_iload_n dX10_isSheet_4 rfl ?_
      refine I_iconst dX10_isSheet_5 ?_
      refine I_icmp_ge (tgt := 13) dX10_isSheet_6 (by decide) hk ⟨by omega, by omega⟩ (fun h6 => ?_) (fun h6 => ?_)
      · omega
      · refine I_iconst dX10_isSheet_9 ?_
        refine T_goto (tgt := 14) dX10_isSheet_10 (by decide) ?_
        exact I_zreturn dX10_isSheet_14 rfl (by decide) ⟨_, _, rfl, rfl, rfl, rfl⟩
  · rw [b2p_f h1]
    rw [show LE mX10_isSheet [IV k] = [some (IV k)] from rfl]
    refine T_iload_n dX10_isSheet_0 rfl ?_
    refine I_if_lt (tgt := 13) dX10_isSheet_1 (by decide) hk (fun h1 => ?_) (fun h1 => ?_)
    · refine I_iconst dX10_isSheet_13 ?_
      exact I_zreturn dX10_isSheet_14 rfl (by decide) ⟨_, _, rfl, rfl, rfl, rfl⟩
    · refine T_iload_n dX10_isSheet_4 rfl ?_
      refine I_iconst dX10_isSheet_5 ?_
      refine I_icmp_ge (tgt := 13) dX10_isSheet_6 (by decide) hk ⟨by omega, by omega⟩ (fun h6 => ?_) (fun h6 => ?_)
      · refine I_iconst dX10_isSheet_13 ?_
        exact I_zreturn dX10_isSheet_14 rfl (by decide) ⟨_, _, rfl, rfl, rfl, rfl⟩
      · omega
theorem p_W_isLane {k : Int} (hk : R32 k) : P G 0 0 0 mX10_isLane 0 (LE mX10_isLane [IV k]) [] K S (Ret K (some (IV (b2p (k = 0 ∨ k = 1)))) S) := by
  by_cases h1 : k = 0 ∨ k = 1
  · rw [b2p_t h1]
    rw [show LE mX10_isLane [IV k] = [some (IV k)] from rfl]
    refine T_iload_n dX10_isLane_0 rfl ?_
    refine I_if_eq (tgt := 9) dX10_isLane_1 (by decide) hk (fun h1 => ?_) (fun h1 => ?_)
    · refine I_iconst dX10_isLane_9 ?_
      refine T_goto (tgt := 14) dX10_isLane_10 (by decide) ?_
      exact I_zreturn dX10_isLane_14 rfl (by decide) ⟨_, _, rfl, rfl, rfl, rfl⟩
    · refine T_iload_n dX10_isLane_4 rfl ?_
      refine I_iconst dX10_isLane_5 ?_
      refine I_icmp_ne (tgt := 13) dX10_isLane_6 (by decide) hk ⟨by omega, by omega⟩ (fun h6 => ?_) (fun h6 => ?_)
      · omega
      · refine I_iconst dX10_isLane_9 ?_
        refine T_goto (tgt := 14) dX10_isLane_10 (by decide) ?_
        exact I_zreturn dX10_isLane_14 rfl (by decide) ⟨_, _, rfl, rfl, rfl, rfl⟩
  · rw [b2p_f h1]
    rw [show LE mX10_isLane [IV k] = [some (IV k)] from rfl]
    refine T_iload_n dX10_isLane_0 rfl ?_
    refine I_if_eq (tgt := 9) dX10_isLane_1 (by decide) hk (fun h1 => ?_) (fun h1 => ?_)
    · omega
    · refine T_iload_n dX10_isLane_4 rfl ?_
      refine I_iconst dX10_isLane_5 ?_
      refine I_icmp_ne (tgt := 13) dX10_isLane_6 (by decide) hk ⟨by omega, by omega⟩ (fun h6 => ?_) (fun h6 => ?_)
      · refine I_iconst dX10_isLane_13 ?_
        exact I_zreturn dX10_isLane_14 rfl (by decide) ⟨_, _, rfl, rfl, rfl, rfl⟩
      · omega
/-- answer v, state M', over shapes that may have grown -/
def WG (K : List SH) (S : SV) (v : Int) (M : MS) (N : Int) : Option Value → List SH → SV → Prop := fun rv K' S' => rv = some (IV v) ∧ (∃ X, K' = K ++ X) ∧ WR K' S' M N ∧ Same S S' 453 466
theorem WG.here {v : Int} (h : WR K S M N) : WG K S v M N (some (IV v)) K S := ⟨rfl, ⟨[], (List.append_nil K).symm⟩, h, Same.rf⟩
theorem nbN_le {lane n : Int} (hn : 0 ≤ n ∧ n ≤ 40) : nbN lane n ≤ 40 := by unfold nbN; split <;> omega
theorem niN_le {lane n : Int} (hn : 0 ≤ n ∧ n ≤ 40) : niN lane n ≤ 40 := by unfold niN; split <;> omega
theorem sh_new {lane n : Int} {L : Nat} (hl : lane = 0 ∨ lane = 1) (hn : 0 ≤ n ∧ n ≤ 40) : sheetIs (shS S L lane n) L (nbN lane n) (niN lane n) (lane, n, fun _ => 0) := by
  refine ⟨hl, hn, by rw [shS_f, if_pos rfl, if_pos rfl], by rw [shS_f, if_pos rfl, if_neg (by omega)], ?_, ?_, fun i a b => ?_, fun i => by rw [shS_a, if_pos (Or.inl rfl)]; omega⟩
  · show ((nbN lane n : Nat) : Int) = if lane = 0 then n else 0
    unfold nbN; split <;> omega
  · show ((niN lane n : Nat) : Int) = if lane = 1 then n else 0
    unfold niN; split <;> omega
  · unfold cellO
    rw [shS_a, shS_a, if_pos (Or.inl rfl), if_pos (Or.inr rfl)]
    split <;> rfl
theorem WR.sheet {k lane n : Int} {L : Nat} (h : WR K S M N) (hL : K.length = L) (h466 : 466 ≤ L) (hk : 0 ≤ k ∧ k < 4) (hl : lane = 0 ∨ lane = 1) (hn : 0 ≤ n ∧ n ≤ 40) : WR (K ++ shX L (nbN lane n) (niN lane n)) (sR (shS S L lane n) 168 k (some L)) (mShS M (fset (mSh M) k (some (lane, n, fun _ => 0)))) N := by
  have hR32l : R32 lane := ⟨by omega, by omega⟩
  have hR32n : R32 n := ⟨by omega, by omega⟩
  have w := h.grow (nb := nbN lane n) (ni := niN lane n) hL h466 hR32l hR32n
  have hsn := sh_new (S := S) (L := L) hl hn
  have hO : Outs (shS S L lane n) (sR (shS S L lane n) 168 k (some L)) 168 169 := fun x y z a p q => ⟨fun _ => rfl, fun _ => rfl, fun i => by rw [rI_sR, if_neg (by omega)]⟩
  have hat := shX_at (nb := nbN lane n) (ni := niN lane n) hL (nbN_le hn) (niN_le hn)
  have hlo : ∀ k' o, 0 ≤ k' → k' < 4 → rI S 168 k' = some o → o + 3 ≤ L := fun k' o a b z => by
    rcases h.2.2.2.2.2.1 k' a b with ⟨z1, z2⟩ | ⟨q, o', nb', ni', z1, z2, z3, z4, z5⟩
    · rw [z2] at z; cases z
    · rw [z2] at z; cases z
      have := gKl z3.2.2.1
      omega
  have hr : AllR (sR (shS S L lane n) 168 k (some L)) := ⟨fun a k => w.allR.1 a k, fun a i => w.allR.2 a i⟩
  obtain ⟨g1, ⟨g2, g3⟩, ⟨g4, g5⟩, g6, g7, g8⟩ := w
  refine ⟨g1, ⟨g2.outs hO hr (by omega), (hO.f (by omega) 8).trans g3⟩, ⟨g4.same (hO _ _ (by omega)), g5⟩, g6.outs hO hr (by omega) (by omega), g7.outs hO (by omega), fun k' a b => ?_, fun k1 k2 o1 o2 a b c d e f g => ?_⟩
  · show (fset (mSh M) k (some (lane, n, fun _ => 0)) k' = none ∧ _) ∨ ∃ (q : SHT) (o nb ni : Nat), fset (mSh M) k (some (lane, n, fun _ => 0)) k' = some q ∧ _
    by_cases e : k' = k
    · subst e
      rw [fset_t]
      exact Or.inr ⟨_, L, _, _, rfl, by rw [rI_sR, if_pos ⟨rfl, rfl⟩], hat, h466, hsn.same (hO _ _ (by omega))⟩
    · rw [fset_f _ _ e, rI_sR, if_neg (fun z => e z.2)]
      rcases g8.1 k' a b with ⟨z1, z2⟩ | ⟨q, o', nb', ni', z1, z2, z3, z4, z5⟩
      · exact Or.inl ⟨z1, z2⟩
      · exact Or.inr ⟨q, o', nb', ni', z1, z2, z3, z4, z5.same (hO _ _ (by omega))⟩
  · rw [rI_sR] at f g
    by_cases e1 : k1 = k
    · rw [if_pos ⟨rfl, e1⟩] at f
      rw [if_neg (by omega)] at g
      have := hlo k2 o2 c d g
      cases f
      omega
    · rw [if_neg (by omega)] at f
      have := hlo k1 o1 a b f
      by_cases e2 : k2 = k
      · rw [if_pos ⟨rfl, e2⟩] at g
        cases g
        omega
      · rw [if_neg (by omega)] at g
        exact g8.2 k1 k2 o1 o2 a b c d e f g
end WSHEET
