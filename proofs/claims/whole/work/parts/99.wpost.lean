/-! the class: post -/
section WPOST
variable {G : GT} {K : List SH} {S : SV} {M : MS} {N : Int}
theorem p_W_cf0 {lane f z : Int} : P G 0 0 0 mX10_copyFault 0 (LE mX10_copyFault [.null, IV lane, IV f, IV z]) [] K S (Ret K (some (IV 1)) S) := by
  rw [show LE mX10_copyFault [.null, IV lane, IV f, IV z] = [some (.null), some (IV lane), some (IV f), some (IV z)] from rfl]
  refine T_aload_n dX10_copyFault_0 rfl rfl ?_
  refine T_ifnonnullN dX10_copyFault_1 ?_
  refine I_iconst dX10_copyFault_4 ?_
  exact I_ireturn dX10_copyFault_5 rfl ⟨_, _, rfl, rfl, rfl, rfl⟩
theorem p_W_cf {o nb ni : Nat} {q : SHT} {lane f z v : Int} (hat : SheetAt K o nb ni) (hs : sheetIs S o nb ni q) (hl : R32 lane) (hf : R32 f) (hz : 0 ≤ z ∧ z ≤ 18) (hv : v = if q.1 = lane then (if f < 0 ∨ q.2.1 < f + z then 3 else 0) else 2) : P G 0 0 0 mX10_copyFault 0 (LE mX10_copyFault [.ref o, IV lane, IV f, IV z]) [] K S (Ret K (some (IV v)) S) := by
  have y0 := hat.1
  have e0 := hs.2.2.1
  have e1 := hs.2.2.2.1
  have hq := hs.2.1
  have hq0 := hs.1
  by_cases h1 : q.1 = lane
  · rw [if_pos h1] at hv
    by_cases h2 : f < 0 ∨ q.2.1 < f + z
    · rw [if_pos h2] at hv
      subst hv
      rw [show LE mX10_copyFault [.ref o, IV lane, IV f, IV z] = [some (.ref o), some (IV lane), some (IV f), some (IV z)] from rfl]
      refine T_aload_n dX10_copyFault_0 rfl rfl ?_
      refine T_ifnonnull (tgt := 6) dX10_copyFault_1 (by decide) ?_
      refine T_aload_n dX10_copyFault_6 rfl rfl ?_
      refine P_geti dX10_copyFault_7 fX10_260 (by assumption) rfl ?_
      refine T_iload_n dX10_copyFault_10 rfl ?_
      rw [e0]
      refine I_icmp_eq (tgt := 16) dX10_copyFault_11 (by decide) ⟨by omega, by omega⟩ hl (fun h11 => ?_) (fun h11 => ?_)
      · refine T_iload_n dX10_copyFault_16 rfl ?_
        refine I_if_lt (tgt := 30) dX10_copyFault_17 (by decide) hf (fun h17 => ?_) (fun h17 => ?_)
        · refine I_iconst dX10_copyFault_30 ?_
          refine T_goto (tgt := 35) dX10_copyFault_31 (by decide) ?_
          exact I_ireturn dX10_copyFault_35 rfl ⟨_, _, rfl, rfl, rfl, rfl⟩
        · refine T_iload_n dX10_copyFault_20 rfl ?_
          refine T_aload_n dX10_copyFault_21 rfl rfl ?_
          refine P_geti dX10_copyFault_22 fX10_241 (by assumption) rfl ?_
          rw [e1]
          refine T_iload_n dX10_copyFault_25 rfl ?_
          refine I_isub dX10_copyFault_26 ?_
          refine I_icmp_le (tgt := 34) dX10_copyFault_27 (by decide) hf ⟨by omega, by omega⟩ (fun h27 => ?_) (fun h27 => ?_)
          · omega
          · refine I_iconst dX10_copyFault_30 ?_
            refine T_goto (tgt := 35) dX10_copyFault_31 (by decide) ?_
            exact I_ireturn dX10_copyFault_35 rfl ⟨_, _, rfl, rfl, rfl, rfl⟩
      · exact absurd h1 h11
    · rw [if_neg h2] at hv
      subst hv
      rw [show LE mX10_copyFault [.ref o, IV lane, IV f, IV z] = [some (.ref o), some (IV lane), some (IV f), some (IV z)] from rfl]
      refine T_aload_n dX10_copyFault_0 rfl rfl ?_
      refine T_ifnonnull (tgt := 6) dX10_copyFault_1 (by decide) ?_
      refine T_aload_n dX10_copyFault_6 rfl rfl ?_
      refine P_geti dX10_copyFault_7 fX10_260 (by assumption) rfl ?_
      refine T_iload_n dX10_copyFault_10 rfl ?_
      rw [e0]
      refine I_icmp_eq (tgt := 16) dX10_copyFault_11 (by decide) ⟨by omega, by omega⟩ hl (fun h11 => ?_) (fun h11 => ?_)
      · refine T_iload_n dX10_copyFault_16 rfl ?_
        refine I_if_lt (tgt := 30) dX10_copyFault_17 (by decide) hf (fun h17 => ?_) (fun h17 => ?_)
        · omega
        · refine T_iload_n dX10_copyFault_20 rfl ?_
          refine T_aload_n dX10_copyFault_21 rfl rfl ?_
          refine P_geti dX10_copyFault_22 fX10_241 (by assumption) rfl ?_
          rw [e1]
          refine T_iload_n dX10_copyFault_25 rfl ?_
          refine I_isub dX10_copyFault_26 ?_
          refine I_icmp_le (tgt := 34) dX10_copyFault_27 (by decide) hf ⟨by omega, by omega⟩ (fun h27 => ?_) (fun h27 => ?_)
          · refine I_iconst dX10_copyFault_34 ?_
            exact I_ireturn dX10_copyFault_35 rfl ⟨_, _, rfl, rfl, rfl, rfl⟩
          · omega
      · exact absurd h1 h11
  · rw [if_neg h1] at hv
    subst hv
    rw [show LE mX10_copyFault [.ref o, IV lane, IV f, IV z] = [some (.ref o), some (IV lane), some (IV f), some (IV z)] from rfl]
    refine T_aload_n dX10_copyFault_0 rfl rfl ?_
    refine T_ifnonnull (tgt := 6) dX10_copyFault_1 (by decide) ?_
    refine T_aload_n dX10_copyFault_6 rfl rfl ?_
    refine P_geti dX10_copyFault_7 fX10_260 (by assumption) rfl ?_
    refine T_iload_n dX10_copyFault_10 rfl ?_
    rw [e0]
    refine I_icmp_eq (tgt := 16) dX10_copyFault_11 (by decide) ⟨by omega, by omega⟩ hl (fun h11 => ?_) (fun h11 => ?_)
    · exact absurd h11 h1
    · refine I_iconst dX10_copyFault_14 ?_
      exact I_ireturn dX10_copyFault_15 rfl ⟨_, _, rfl, rfl, rfl, rfl⟩
theorem WR.top {S' : SV} {L hi : Nat} (h : WR K S M N) (h466 : 466 ≤ L) (hlo : ∀ k o, 0 ≤ k → k < 4 → rI S 168 k = some o → o + 3 ≤ L) (hO : Outs S S' L hi) (hr : AllR S') : WR K S' M N := by
  obtain ⟨g1, ⟨g2, g3⟩, ⟨g4, g5⟩, g6, g7, g8⟩ := h
  refine ⟨g1, ⟨g2.outs hO hr (by omega), (hO.f (by omega) 8).trans g3⟩, ⟨g4.same (hO _ _ (by omega)), g5⟩, g6.outs hO hr (by omega) (by omega), g7.outs hO (by omega), fun k' a b => ?_, fun k1 k2 o1 o2 a b c d e f g => g8.2 k1 k2 o1 o2 a b c d e ((hO.r (by omega) k1).symm.trans f) ((hO.r (by omega) k2).symm.trans g)⟩
  rcases g8.1 k' a b with ⟨z1, z2⟩ | ⟨q', o', nb', ni', z1, z2, z3, z4, z5⟩
  · exact Or.inl ⟨z1, (hO.r (by omega) _).trans z2⟩
  · have := hlo k' o' a b z2
    exact Or.inr ⟨q', o', nb', ni', z1, (hO.r (by omega) _).trans z2, z3, z4, z5.same (hO _ _ (by omega))⟩
theorem WR.lo (h : WR K S M N) {k : Int} {o : Nat} (a : 0 ≤ k) (b : k < 4) (z : rI S 168 k = some o) : o + 3 ≤ K.length := by
  rcases h.2.2.2.2.2.1 k a b with ⟨z1, z2⟩ | ⟨q, o', nb', ni', z1, z2, z3, z4, z5⟩
  · rw [z2] at z; cases z
  · rw [z2] at z; cases z
    have := gKl z3.2.2.1
    omega
theorem fill_ok {o L qb qi : Nat} {q : SHT} {f n : Int} (hr : AllR S) (hoL : o + 3 ≤ L) (hs : sheetIs S o qb qi q) (hn : 0 ≤ n) (hf : 0 ≤ f) (hb : f + n ≤ q.2.1) : AllR (fillS (shS S L q.1 n) L o f) ∧ Outs (shS S L q.1 n) (fillS (shS S L q.1 n) L o f) L (L + 3) ∧ ∀ i, 0 ≤ i → i < n → cellO (fillS (shS S L q.1 n) L o f) L i = q.2.2 (f + i) := by
  obtain ⟨h1, h2, h3, h4, h5, h6, h7, h8⟩ := hs
  have hA := shS_all (L := L) (lane := q.1) (n := n) hr ⟨by omega, by omega⟩ ⟨by omega, by omega⟩
  have e0 : fI (shS S L q.1 n) L 0 = q.1 := by rw [shS_f, if_pos rfl, if_pos rfl]
  have e1 : fI (shS S L q.1 n) L 1 = n := by rw [shS_f, if_pos rfl, if_neg (by omega)]
  unfold fillS
  rw [e0, e1]
  have hc : ∀ a b, AllR (sC (shS S L q.1 n) a b f 0 n) := fun a b => ⟨fun x y => hA.1 x y, fun x y => by
    rw [aI_sC]
    split
    · exact hA.2 _ _
    · exact hA.2 _ _⟩
  by_cases e : q.1 = 0
  · rw [if_pos e]
    refine ⟨hc _ _, fun x y z a p t => ⟨fun _ => rfl, fun i => by rw [aI_sC, if_neg (by omega)], fun _ => rfl⟩, fun i a b => ?_⟩
    have w := h7 (f + i) (by omega) (by omega)
    unfold cellO at w ⊢
    rw [h3, if_pos e] at w
    rw [show fI (sC (shS S L q.1 n) (L + 1) (o + 1) f 0 n) L 0 = q.1 from e0, if_pos e, aI_sC, if_pos ⟨rfl, a, by omega⟩, shS_a, if_neg (by omega), ← w]
    congr 1
    omega
  · rw [if_neg e]
    refine ⟨hc _ _, fun x y z a p t => ⟨fun _ => rfl, fun i => by rw [aI_sC, if_neg (by omega)], fun _ => rfl⟩, fun i a b => ?_⟩
    have w := h7 (f + i) (by omega) (by omega)
    unfold cellO at w ⊢
    rw [h3, if_neg e] at w
    rw [show fI (sC (shS S L q.1 n) (L + 2) (o + 2) f 0 n) L 0 = q.1 from e0, if_neg e, aI_sC, if_pos ⟨rfl, a, by omega⟩, shS_a, if_neg (by omega), ← w]
    congr 1
    omega
theorem p_W_post {k lane f n : Int} (h : WR K S M N) (h466 : 466 ≤ K.length) (hN : N + 20 ≤ 1000000000) (hk : R32 k) (hla : R32 lane) (hf : R32 f) (hn : R32 n) : P G 4 3 44 mX10_post 0 (LE mX10_post [.ref 0, IV k, IV lane, IV f, IV n]) [] K S (WG K S (postQ M k lane f n).1 (postQ M k lane f n).2 (N + 20)) := by
  have w0 := h.1.1
  have k168 := h.1.2.2.2.2.2.2.2.1
  have h' : WR K S M (N + 20) := h.mono (by omega) hN
  by_cases h1 : shtB k lane ∧ 0 ≤ n ∧ n ≤ 6
  · obtain ⟨⟨hk4, hl⟩, hn0, hn6⟩ := h1
    have h1 : shtB k lane ∧ 0 ≤ n ∧ n ≤ 6 := ⟨⟨hk4, hl⟩, hn0, hn6⟩
    rcases h.2.2.2.2.2.1 k hk4.1 hk4.2 with ⟨z1, z2⟩ | ⟨q, o, nb, ni, z1, z2, z3, z4, z5⟩
    · have e : postQ M k lane f n = (-11, M) := by unfold postQ; rw [if_pos h1, z1]
      rw [e]
      rw [show LE mX10_post [.ref 0, IV k, IV lane, IV f, IV n] = [some (.ref 0), some (IV k), some (IV lane), some (IV f), some (IV n), none, none, none] from rfl]
      refine T_iload_n dX10_post_0 rfl ?_
      refine Q_callS dX10_post_1 kX10_isSheet lX10_232 (p_W_isSheet hk) rfl rfl (Nat.le_of_ble_eq_true rfl) (Nat.le_of_ble_eq_true rfl) (by decide) (by decide) ?_
      rw [b2p_t hk4]
      refine I_if_eq (tgt := 26) dX10_post_4 (by decide) ⟨by omega, by omega⟩ (fun h4 => ?_) (fun h4 => ?_)
      · cases h4
      · refine T_iload_n dX10_post_7 rfl ?_
        refine Q_callS dX10_post_8 kX10_isLane lX10_235 (p_W_isLane hla) rfl rfl (Nat.le_of_ble_eq_true rfl) (Nat.le_of_ble_eq_true rfl) (by decide) (by decide) ?_
        rw [b2p_t hl]
        refine I_if_eq (tgt := 26) dX10_post_11 (by decide) ⟨by omega, by omega⟩ (fun h11 => ?_) (fun h11 => ?_)
        · cases h11
        · refine T_iload dX10_post_14 rfl ?_
          refine I_if_lt (tgt := 26) dX10_post_16 (by decide) hn (fun h16 => ?_) (fun h16 => ?_)
          · omega
          · refine T_iload dX10_post_19 rfl ?_
            refine I_bipush dX10_post_21 (by decide) ?_
            refine I_icmp_le (tgt := 28) dX10_post_23 (by decide) hn ⟨by omega, by omega⟩ (fun h23 => ?_) (fun h23 => ?_)
            · refine T_aload_n dX10_post_28 rfl rfl ?_
              refine P_getr dX10_post_29 fX10_49 (by assumption) rfl ?_
              refine T_iload_n dX10_post_32 rfl ?_
              refine P_aaldN dX10_post_33 (by assumption) (by decide) ⟨by omega, by omega⟩ (by decide) z2 ?_
              refine T_astoreN dX10_post_34 (by decide) rfl ?_
              refine T_aload dX10_post_36 rfl rfl ?_
              refine T_iload_n dX10_post_38 rfl ?_
              refine T_iload_n dX10_post_39 rfl ?_
              refine I_iconst dX10_post_40 ?_
              refine T_iload dX10_post_41 rfl ?_
              refine I_imul dX10_post_43 ?_
              refine Q_callS dX10_post_44 kX10_copyFault lX10_247 p_W_cf0 rfl rfl (Nat.le_of_ble_eq_true rfl) (Nat.le_of_ble_eq_true rfl) (by decide) (by decide) ?_
              refine T_istore dX10_post_47 (by decide) rfl ?_
              refine T_aload dX10_post_49 rfl rfl ?_
              refine T_ifnullN (tgt := 59) dX10_post_51 (by decide) ?_
              refine I_bipush dX10_post_59 (by decide) ?_
              refine T_iload dX10_post_61 rfl ?_
              refine I_isub dX10_post_63 ?_
              exact I_ireturn dX10_post_64 rfl ⟨_, _, rfl, WG.here h'⟩
            · omega
    · have y0 := z3.1
      have hq := z5.2.1
      have hcf := fun v hv => p_W_cf (G := G) (v := v) (z := 3 * n) z3 z5 hla hf ⟨by omega, by omega⟩ hv
      by_cases h2 : q.1 = lane
      · by_cases h3 : f < 0 ∨ q.2.1 < f + 3 * n
        · have e : postQ M k lane f n = (-13, M) := by unfold postQ; rw [if_pos h1, z1]; show (if q.1 = lane then _ else _) = _; rw [if_pos h2, if_pos h3]
          rw [e]
          have c := hcf 3 (by rw [if_pos h2, if_pos h3])
          rw [show LE mX10_post [.ref 0, IV k, IV lane, IV f, IV n] = [some (.ref 0), some (IV k), some (IV lane), some (IV f), some (IV n), none, none, none] from rfl]
          refine T_iload_n dX10_post_0 rfl ?_
          refine Q_callS dX10_post_1 kX10_isSheet lX10_232 (p_W_isSheet hk) rfl rfl (Nat.le_of_ble_eq_true rfl) (Nat.le_of_ble_eq_true rfl) (by decide) (by decide) ?_
          rw [b2p_t hk4]
          refine I_if_eq (tgt := 26) dX10_post_4 (by decide) ⟨by omega, by omega⟩ (fun h4 => ?_) (fun h4 => ?_)
          · cases h4
          · refine T_iload_n dX10_post_7 rfl ?_
            refine Q_callS dX10_post_8 kX10_isLane lX10_235 (p_W_isLane hla) rfl rfl (Nat.le_of_ble_eq_true rfl) (Nat.le_of_ble_eq_true rfl) (by decide) (by decide) ?_
            rw [b2p_t hl]
            refine I_if_eq (tgt := 26) dX10_post_11 (by decide) ⟨by omega, by omega⟩ (fun h11 => ?_) (fun h11 => ?_)
            · cases h11
            · refine T_iload dX10_post_14 rfl ?_
              refine I_if_lt (tgt := 26) dX10_post_16 (by decide) hn (fun h16 => ?_) (fun h16 => ?_)
              · omega
              · refine T_iload dX10_post_19 rfl ?_
                refine I_bipush dX10_post_21 (by decide) ?_
                refine I_icmp_le (tgt := 28) dX10_post_23 (by decide) hn ⟨by omega, by omega⟩ (fun h23 => ?_) (fun h23 => ?_)
                · refine T_aload_n dX10_post_28 rfl rfl ?_
                  refine P_getr dX10_post_29 fX10_49 (by assumption) rfl ?_
                  refine T_iload_n dX10_post_32 rfl ?_
                  refine P_aald dX10_post_33 (by assumption) (by decide) ⟨by omega, by omega⟩ (by decide) z2 ?_
                  refine T_astore dX10_post_34 (by decide) rfl ?_
                  refine T_aload dX10_post_36 rfl rfl ?_
                  refine T_iload_n dX10_post_38 rfl ?_
                  refine T_iload_n dX10_post_39 rfl ?_
                  refine I_iconst dX10_post_40 ?_
                  refine T_iload dX10_post_41 rfl ?_
                  refine I_imul dX10_post_43 ?_
                  refine Q_callS dX10_post_44 kX10_copyFault lX10_247 c rfl rfl (Nat.le_of_ble_eq_true rfl) (Nat.le_of_ble_eq_true rfl) (by decide) (by decide) ?_
                  refine T_istore dX10_post_47 (by decide) rfl ?_
                  refine T_aload dX10_post_49 rfl rfl ?_
                  refine T_ifnull dX10_post_51 ?_
                  refine T_iload dX10_post_54 rfl ?_
                  refine I_if_eq (tgt := 65) dX10_post_56 (by decide) ⟨by omega, by omega⟩ (fun h56 => ?_) (fun h56 => ?_)
                  · cases h56
                  · refine I_bipush dX10_post_59 (by decide) ?_
                    refine T_iload dX10_post_61 rfl ?_
                    refine I_isub dX10_post_63 ?_
                    exact I_ireturn dX10_post_64 rfl ⟨_, _, rfl, WG.here h'⟩
                · omega
        · subst h2
          have e : postQ M k q.1 f n = ((takeM (mPl M) (mNw M) (fun j => q.2.2 (f + j)) n).1, mNwS M (takeM (mPl M) (mNw M) (fun j => q.2.2 (f + j)) n).2) := by unfold postQ; rw [if_pos h1, z1]; show (if q.1 = q.1 then _ else _) = _; rw [if_pos rfl, if_neg h3]
          rw [e]
          have c := hcf 0 (by rw [if_pos rfl, if_neg h3])
          have hlo := h.lo hk4.1 hk4.2 z2
          have hz4 : 0 ≤ 3 * n ∧ 3 * n ≤ 40 := ⟨by omega, by omega⟩
          have hg := h.grow (nb := nbN q.1 (3 * n)) (ni := niN q.1 (3 * n)) (lane := q.1) (n := 3 * n) rfl h466 hla ⟨by omega, by omega⟩
          obtain ⟨f1, f2, f3⟩ := fill_ok (L := K.length) (n := 3 * n) (f := f) h.allR hlo z5 (by omega) (by omega) (by omega)
          have hT := hg.top h466 (fun k o a b z => h.lo a b z) f2 f1
          have hat := shX_at (K := K) (nb := nbN q.1 (3 * n)) (ni := niN q.1 (3 * n)) rfl (nbN_le hz4) (niN_le hz4)
          have s0 : fI (shS S K.length q.1 (3 * n)) K.length 0 = q.1 := by rw [shS_f, if_pos rfl, if_pos rfl]
          have s1 : fI (shS S K.length q.1 (3 * n)) K.length 1 = 3 * n := by rw [shS_f, if_pos rfl, if_neg (by omega)]
          have hnb := z5.2.2.2.2.1
          have hni := z5.2.2.2.2.2.1
          have hb8 := z5.2.2.2.2.2.2.2
          have g1 : fI (shS S K.length q.1 (3 * n)) K.length 0 = 0 → f + fI (shS S K.length q.1 (3 * n)) K.length 1 ≤ (nb : Int) ∧ fI (shS S K.length q.1 (3 * n)) K.length 1 ≤ ((nbN q.1 (3 * n) : Nat) : Int) := fun z => by
            rw [s0] at z
            rw [s1]
            rw [if_pos z] at hnb
            unfold nbN
            rw [if_pos z]
            omega
          have g2 : ¬ fI (shS S K.length q.1 (3 * n)) K.length 0 = 0 → f + fI (shS S K.length q.1 (3 * n)) K.length 1 ≤ (ni : Int) ∧ fI (shS S K.length q.1 (3 * n)) K.length 1 ≤ ((niN q.1 (3 * n) : Nat) : Int) := fun z => by
            rw [s0] at z
            have z' : q.1 = 1 := by omega
            rw [s1]
            rw [if_pos z'] at hni
            unfold niN
            rw [if_pos z']
            omega
          have cfill := p_Sheet_fill (G := G) (S := shS S K.length q.1 (3 * n)) (f := f) hat (z3.app (shX K.length (nbN q.1 (3 * n)) (niN q.1 (3 * n)))) hg.allR (by omega) (by rw [s1]; omega) g1 g2 (fun z i => by rw [shS_a, if_neg (by omega)]; exact hb8 i)
          have hcells : CellsR (K ++ shX K.length (nbN q.1 (3 * n)) (niN q.1 (3 * n))) (fillS (shS S K.length q.1 (3 * n)) K.length o f) K.length (3 * n) (fun j => q.2.2 (f + j)) := by
            have s0' : fI (fillS (shS S K.length q.1 (3 * n)) K.length o f) K.length 0 = q.1 := by unfold fillS; split <;> exact s0
            refine ⟨⟨_, _, hat, fun z => ?_, fun z => ?_⟩, fun i a b => ⟨f3 i a b, ?_⟩⟩
            · rw [s0'] at z; unfold nbN; rw [if_pos z]; omega
            · rw [s0'] at z; unfold niN; rw [if_pos (by omega)]; omega
            · show R32 (q.2.2 (f + i)); rw [← f3 i a b]; unfold cellO; split <;> exact f1.2 _ _
          have ctk := p_takeAll (G := G) (o := K.length) (by omega) ⟨hn0, hn6⟩ hT.2.2.2.1 hcells hN
          have w1 := hT.1.1
          have hsame : ∀ S', Outs (fillS (shS S K.length q.1 (3 * n)) K.length o f) S' 23 165 → Same S S' 453 466 := fun S' z => ((shS_outs S K.length q.1 (3 * n) 453 466 (by omega)).tr (f2 453 466 (by omega))).tr (z 453 466 (by omega))
          rw [show LE mX10_post [.ref 0, IV k, IV q.1, IV f, IV n] = [some (.ref 0), some (IV k), some (IV q.1), some (IV f), some (IV n), none, none, none] from rfl]
          refine T_iload_n dX10_post_0 rfl ?_
          refine Q_callS dX10_post_1 kX10_isSheet lX10_232 (p_W_isSheet hk) rfl rfl (Nat.le_of_ble_eq_true rfl) (Nat.le_of_ble_eq_true rfl) (by decide) (by decide) ?_
          rw [b2p_t hk4]
          refine I_if_eq (tgt := 26) dX10_post_4 (by decide) ⟨by omega, by omega⟩ (fun h4 => ?_) (fun h4 => ?_)
          · cases h4
          · refine T_iload_n dX10_post_7 rfl ?_
            refine Q_callS dX10_post_8 kX10_isLane lX10_235 (p_W_isLane hla) rfl rfl (Nat.le_of_ble_eq_true rfl) (Nat.le_of_ble_eq_true rfl) (by decide) (by decide) ?_
            rw [b2p_t hl]
            refine I_if_eq (tgt := 26) dX10_post_11 (by decide) ⟨by omega, by omega⟩ (fun h11 => ?_) (fun h11 => ?_)
            · cases h11
            · refine T_iload dX10_post_14 rfl ?_
              refine I_if_lt (tgt := 26) dX10_post_16 (by decide) hn (fun h16 => ?_) (fun h16 => ?_)
              · omega
              · refine T_iload dX10_post_19 rfl ?_
                refine I_bipush dX10_post_21 (by decide) ?_
                refine I_icmp_le (tgt := 28) dX10_post_23 (by decide) hn ⟨by omega, by omega⟩ (fun h23 => ?_) (fun h23 => ?_)
                · refine T_aload_n dX10_post_28 rfl rfl ?_
                  refine P_getr dX10_post_29 fX10_49 (by assumption) rfl ?_
                  refine T_iload_n dX10_post_32 rfl ?_
                  refine P_aald dX10_post_33 (by assumption) (by decide) ⟨by omega, by omega⟩ (by decide) z2 ?_
                  refine T_astore dX10_post_34 (by decide) rfl ?_
                  refine T_aload dX10_post_36 rfl rfl ?_
                  refine T_iload_n dX10_post_38 rfl ?_
                  refine T_iload_n dX10_post_39 rfl ?_
                  refine I_iconst dX10_post_40 ?_
                  refine T_iload dX10_post_41 rfl ?_
                  refine I_imul dX10_post_43 ?_
                  refine Q_callS dX10_post_44 kX10_copyFault lX10_247 c rfl rfl (Nat.le_of_ble_eq_true rfl) (Nat.le_of_ble_eq_true rfl) (by decide) (by decide) ?_
                  refine T_istore dX10_post_47 (by decide) rfl ?_
                  refine T_aload dX10_post_49 rfl rfl ?_
                  refine T_ifnull dX10_post_51 ?_
                  refine T_iload dX10_post_54 rfl ?_
                  refine I_if_eq (tgt := 65) dX10_post_56 (by decide) ⟨by omega, by omega⟩ (fun h56 => ?_) (fun h56 => ?_)
                  · refine T_new (mc := 2) (ms := 40) (N := 4) (ci := 7) (fs := [IV 0, IV 0, .null, .null]) dX10_post_65 clX10_47 inX7 rfl rfl dfX7 ?_
                    refine T_dup dX10_post_68 rfl ?_
                    refine T_iload_n dX10_post_69 rfl ?_
                    refine I_iconst dX10_post_70 ?_
                    refine T_iload dX10_post_71 rfl ?_
                    refine I_imul dX10_post_73 ?_
                    refine T_callI (mc := 0) (ms := 0) dX10_post_74 kX7_init rfl lX10_238 (c_Sheet hl hz4) rfl rfl (Nat.le_of_ble_eq_true rfl) (Nat.le_of_ble_eq_true rfl) (by decide) (by decide) (fun r σ' q => ?_)
                    obtain ⟨rfl, rfl⟩ := q
                    rw [HP_len, hp_sheet rfl]
                    refine T_astore dX10_post_77 (by decide) rfl ?_
                    refine T_aload dX10_post_79 rfl rfl ?_
                    refine T_aload dX10_post_81 rfl rfl ?_
                    refine T_iload_n dX10_post_83 rfl ?_
                    refine Q_callV dX10_post_84 kX7_fillFrom lX10_251 hat.1 rfl cfill rfl rfl (Nat.le_of_ble_eq_true rfl) (Nat.le_of_ble_eq_true rfl) (by decide) (by decide) ?_
                    refine T_aload_n dX10_post_87 rfl rfl ?_
                    refine P_getr dX10_post_88 fX10_35 w1 rfl ?_
                    refine T_aload dX10_post_91 rfl rfl ?_
                    refine T_iload dX10_post_93 rfl ?_
                    refine R_callV dX10_post_95 kX2_takeAll lX10_255 hT.1.2.2.2.2.1 rfl ctk rfl rfl (Nat.le_of_ble_eq_true rfl) (Nat.le_of_ble_eq_true rfl) (by decide) (by decide) (fun r_ K_ S_ q_ => ?_)
                    obtain ⟨rfl, rfl, q3, q4⟩ := q_
                    exact I_ireturn dX10_post_98 rfl ⟨_, _, rfl, rfl, ⟨_, rfl⟩, hT.now q3 q4 (by omega) hN, hsame _ q3⟩
                  · exact absurd rfl h56
                · omega
      · have e : postQ M k lane f n = (-12, M) := by unfold postQ; rw [if_pos h1, z1]; show (if q.1 = lane then _ else _) = _; rw [if_neg h2]
        rw [e]
        have c := hcf 2 (by rw [if_neg h2])
        rw [show LE mX10_post [.ref 0, IV k, IV lane, IV f, IV n] = [some (.ref 0), some (IV k), some (IV lane), some (IV f), some (IV n), none, none, none] from rfl]
        refine T_iload_n dX10_post_0 rfl ?_
        refine Q_callS dX10_post_1 kX10_isSheet lX10_232 (p_W_isSheet hk) rfl rfl (Nat.le_of_ble_eq_true rfl) (Nat.le_of_ble_eq_true rfl) (by decide) (by decide) ?_
        rw [b2p_t hk4]
        refine I_if_eq (tgt := 26) dX10_post_4 (by decide) ⟨by omega, by omega⟩ (fun h4 => ?_) (fun h4 => ?_)
        · cases h4
        · refine T_iload_n dX10_post_7 rfl ?_
          refine Q_callS dX10_post_8 kX10_isLane lX10_235 (p_W_isLane hla) rfl rfl (Nat.le_of_ble_eq_true rfl) (Nat.le_of_ble_eq_true rfl) (by decide) (by decide) ?_
          rw [b2p_t hl]
          refine I_if_eq (tgt := 26) dX10_post_11 (by decide) ⟨by omega, by omega⟩ (fun h11 => ?_) (fun h11 => ?_)
          · cases h11
          · refine T_iload dX10_post_14 rfl ?_
            refine I_if_lt (tgt := 26) dX10_post_16 (by decide) hn (fun h16 => ?_) (fun h16 => ?_)
            · omega
            · refine T_iload dX10_post_19 rfl ?_
              refine I_bipush dX10_post_21 (by decide) ?_
              refine I_icmp_le (tgt := 28) dX10_post_23 (by decide) hn ⟨by omega, by omega⟩ (fun h23 => ?_) (fun h23 => ?_)
              · refine T_aload_n dX10_post_28 rfl rfl ?_
                refine P_getr dX10_post_29 fX10_49 (by assumption) rfl ?_
                refine T_iload_n dX10_post_32 rfl ?_
                refine P_aald dX10_post_33 (by assumption) (by decide) ⟨by omega, by omega⟩ (by decide) z2 ?_
                refine T_astore dX10_post_34 (by decide) rfl ?_
                refine T_aload dX10_post_36 rfl rfl ?_
                refine T_iload_n dX10_post_38 rfl ?_
                refine T_iload_n dX10_post_39 rfl ?_
                refine I_iconst dX10_post_40 ?_
                refine T_iload dX10_post_41 rfl ?_
                refine I_imul dX10_post_43 ?_
                refine Q_callS dX10_post_44 kX10_copyFault lX10_247 c rfl rfl (Nat.le_of_ble_eq_true rfl) (Nat.le_of_ble_eq_true rfl) (by decide) (by decide) ?_
                refine T_istore dX10_post_47 (by decide) rfl ?_
                refine T_aload dX10_post_49 rfl rfl ?_
                refine T_ifnull dX10_post_51 ?_
                refine T_iload dX10_post_54 rfl ?_
                refine I_if_eq (tgt := 65) dX10_post_56 (by decide) ⟨by omega, by omega⟩ (fun h56 => ?_) (fun h56 => ?_)
                · cases h56
                · refine I_bipush dX10_post_59 (by decide) ?_
                  refine T_iload dX10_post_61 rfl ?_
                  refine I_isub dX10_post_63 ?_
                  exact I_ireturn dX10_post_64 rfl ⟨_, _, rfl, WG.here h'⟩
              · omega
  · have e : postQ M k lane f n = (-1, M) := by unfold postQ; rw [if_neg h1]
    rw [e]
    by_cases a1 : 0 ≤ k ∧ k < 4
    · by_cases a2 : lane = 0 ∨ lane = 1
      · by_cases a3 : 0 ≤ n
        · rw [show LE mX10_post [.ref 0, IV k, IV lane, IV f, IV n] = [some (.ref 0), some (IV k), some (IV lane), some (IV f), some (IV n), none, none, none] from rfl]
          refine T_iload_n dX10_post_0 rfl ?_
          refine Q_callS dX10_post_1 kX10_isSheet lX10_232 (p_W_isSheet hk) rfl rfl (Nat.le_of_ble_eq_true rfl) (Nat.le_of_ble_eq_true rfl) (by decide) (by decide) ?_
          rw [b2p_t a1]
          refine I_if_eq (tgt := 26) dX10_post_4 (by decide) ⟨by omega, by omega⟩ (fun h4 => ?_) (fun h4 => ?_)
          · cases h4
          · refine T_iload_n dX10_post_7 rfl ?_
            refine Q_callS dX10_post_8 kX10_isLane lX10_235 (p_W_isLane hla) rfl rfl (Nat.le_of_ble_eq_true rfl) (Nat.le_of_ble_eq_true rfl) (by decide) (by decide) ?_
            rw [b2p_t a2]
            refine I_if_eq (tgt := 26) dX10_post_11 (by decide) ⟨by omega, by omega⟩ (fun h11 => ?_) (fun h11 => ?_)
            · cases h11
            · refine T_iload dX10_post_14 rfl ?_
              refine I_if_lt (tgt := 26) dX10_post_16 (by decide) hn (fun h16 => ?_) (fun h16 => ?_)
              · omega
              · refine T_iload dX10_post_19 rfl ?_
                refine I_bipush dX10_post_21 (by decide) ?_
                refine I_icmp_le (tgt := 28) dX10_post_23 (by decide) hn ⟨by omega, by omega⟩ (fun h23 => ?_) (fun h23 => ?_)
                · exact absurd ⟨⟨a1, a2⟩, a3, h23⟩ h1
                · refine I_iconst dX10_post_26 ?_
                  exact I_ireturn dX10_post_27 rfl ⟨_, _, rfl, WG.here h'⟩
        · rw [show LE mX10_post [.ref 0, IV k, IV lane, IV f, IV n] = [some (.ref 0), some (IV k), some (IV lane), some (IV f), some (IV n), none, none, none] from rfl]
          refine T_iload_n dX10_post_0 rfl ?_
          refine Q_callS dX10_post_1 kX10_isSheet lX10_232 (p_W_isSheet hk) rfl rfl (Nat.le_of_ble_eq_true rfl) (Nat.le_of_ble_eq_true rfl) (by decide) (by decide) ?_
          rw [b2p_t a1]
          refine I_if_eq (tgt := 26) dX10_post_4 (by decide) ⟨by omega, by omega⟩ (fun h4 => ?_) (fun h4 => ?_)
          · cases h4
          · refine T_iload_n dX10_post_7 rfl ?_
            refine Q_callS dX10_post_8 kX10_isLane lX10_235 (p_W_isLane hla) rfl rfl (Nat.le_of_ble_eq_true rfl) (Nat.le_of_ble_eq_true rfl) (by decide) (by decide) ?_
            rw [b2p_t a2]
            refine I_if_eq (tgt := 26) dX10_post_11 (by decide) ⟨by omega, by omega⟩ (fun h11 => ?_) (fun h11 => ?_)
            · cases h11
            · refine T_iload dX10_post_14 rfl ?_
              refine I_if_lt (tgt := 26) dX10_post_16 (by decide) hn (fun h16 => ?_) (fun h16 => ?_)
              · refine I_iconst dX10_post_26 ?_
                exact I_ireturn dX10_post_27 rfl ⟨_, _, rfl, WG.here h'⟩
              · omega
      · rw [show LE mX10_post [.ref 0, IV k, IV lane, IV f, IV n] = [some (.ref 0), some (IV k), some (IV lane), some (IV f), some (IV n), none, none, none] from rfl]
        refine T_iload_n dX10_post_0 rfl ?_
        refine Q_callS dX10_post_1 kX10_isSheet lX10_232 (p_W_isSheet hk) rfl rfl (Nat.le_of_ble_eq_true rfl) (Nat.le_of_ble_eq_true rfl) (by decide) (by decide) ?_
        rw [b2p_t a1]
        refine I_if_eq (tgt := 26) dX10_post_4 (by decide) ⟨by omega, by omega⟩ (fun h4 => ?_) (fun h4 => ?_)
        · cases h4
        · refine T_iload_n dX10_post_7 rfl ?_
          refine Q_callS dX10_post_8 kX10_isLane lX10_235 (p_W_isLane hla) rfl rfl (Nat.le_of_ble_eq_true rfl) (Nat.le_of_ble_eq_true rfl) (by decide) (by decide) ?_
          rw [b2p_f a2]
          refine I_if_eq (tgt := 26) dX10_post_11 (by decide) ⟨by omega, by omega⟩ (fun h11 => ?_) (fun h11 => ?_)
          · refine I_iconst dX10_post_26 ?_
            exact I_ireturn dX10_post_27 rfl ⟨_, _, rfl, WG.here h'⟩
          · exact absurd rfl h11
    · rw [show LE mX10_post [.ref 0, IV k, IV lane, IV f, IV n] = [some (.ref 0), some (IV k), some (IV lane), some (IV f), some (IV n), none, none, none] from rfl]
      refine T_iload_n dX10_post_0 rfl ?_
      refine Q_callS dX10_post_1 kX10_isSheet lX10_232 (p_W_isSheet hk) rfl rfl (Nat.le_of_ble_eq_true rfl) (Nat.le_of_ble_eq_true rfl) (by decide) (by decide) ?_
      rw [b2p_f a1]
      refine I_if_eq (tgt := 26) dX10_post_4 (by decide) ⟨by omega, by omega⟩ (fun h4 => ?_) (fun h4 => ?_)
      · refine I_iconst dX10_post_26 ?_
        exact I_ireturn dX10_post_27 rfl ⟨_, _, rfl, WG.here h'⟩
      · exact absurd rfl h4
end WPOST
