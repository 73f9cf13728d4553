/-! the reference: a list is opened -/
def shutP (pl : PL) (x : Row) (a : Int) : Prop := pKd pl a = 3 ∧ (a = x 3 ∨ bitM (x 7) a)
def MkOk (pl : PL) (x : Row) : Prop := ∀ a, 0 ≤ a → a < 32 → bitM (x 7) a → pKd pl a = 3
def resI (its : List Row) (i : Nat) (res : EN × Option Row × List Row) : List Row := (match res.2.1 with
  | some z => its.set i z
  | none => its.eraseIdx i) ++ res.2.2
def HDQ (K : List SH) (S : SV) (pl : PL) (its : List Row) (i : Nat) (res : EN × Option Row × List Row) : Option Value → List SH → SV → Prop := fun rv K' S' => rv = some (IV (if res.2.1.isSome then 1 else 0)) ∧ K' = K ∧ RS K S' pl res.1 (resI its i res) ∧ Wo S S'
section RF6
variable {G : GT} {K : List SH} {S : SV} {pl : PL} {e : EN} {its : List Row} {N : Int} {i : Nat} {x : Row}
theorem RS.setI {k : Nat} {v : Int} (hR : RS K S pl e its) (hi : its[i]? = some x) (hk : k < 8) (hv : R32 v) : RS K (sA S 454 (803 + 8 * i + k) v) pl e (its.set i (rset x k v)) := by
  have hlt := (List.getElem?_eq_some_iff.mp hi).1
  have h60 := hR.n60
  refine hR.itm (hR.2.1.sA hv) ⟨?_, ?_, ?_⟩ ?_
  · rw [aS, fset_f _ _ (by omega), List.length_set]; exact hR.n4
  · rw [List.length_set]; exact h60
  · intro j r hj k' hk'
    have hjl := (List.getElem?_eq_some_iff.mp hj).1
    rw [aS]
    by_cases hji : i = j
    · subst hji
      rw [List.getElem?_set_self hlt] at hj
      injection hj with hj
      subst hj
      unfold rset
      by_cases hkk : k' = k
      · rw [if_pos hkk, fset_e _ _ (by omega)]
      · rw [if_neg hkk, fset_f _ _ (by omega)]
        exact hR.item hi hk'
    · rw [List.getElem?_set_ne hji] at hj
      rw [fset_f _ _ (by omega)]
      exact hR.item hj hk'
  · intro j h1 h2
    rw [aS, fset_f _ _ (by omega)]
theorem RS.oth {a : Nat} {k v : Int} (hR : RS K S pl e its) (ha : a ≠ 454) (hv : R32 v) : RS K (sA S a k v) pl e its := by
  have he : aI (sA S a k v) 454 = aI S 454 := by funext j; rw [aI_sA, if_neg (fun z => ha z.1.symm)]
  obtain ⟨h1, h2, h3, h4, h5⟩ := hR
  exact ⟨h1, h2.sA hv, h3, by rw [he]; exact h4, by rw [he]; exact h5⟩
theorem p_R_isShut {a : Int} (hR : RS K S pl e its) (hi : its[i]? = some x) (ha : 0 ≤ a ∧ a < 32) (h3 : R32 (x 3)) : P G 1 0 0 mX11_isShut 0 (LE mX11_isShut [.ref 453, IV i, IV a]) [] K S (Ret K (some (IV (b2p (shutP pl x a)))) S) := by
  have m0 := hR.1.1
  have hk := (hR.2.2.1.2.2.2.2.2 a ha.1 ha.2).1
  rw [show LE mX11_isShut [.ref 453, IV i, IV a] = [some (.ref 453), some (IV i), some (IV a)] from rfl]
  refine T_aload_n dX11_isShut_0 rfl rfl ?_
  refine T_iload_n dX11_isShut_1 rfl ?_
  refine Q_callV dX11_isShut_2 kX11_kindOf lX11_156 (by assumption) rfl (p_R_kindOf hR ha) rfl rfl (Nat.le_of_ble_eq_true rfl) (Nat.le_of_ble_eq_true rfl) (by decide) (by decide) ?_
  refine I_iconst dX11_isShut_5 ?_
  refine I_icmp_ne (tgt := 38) dX11_isShut_6 (by decide) ⟨by omega, by omega⟩ ⟨by omega, by omega⟩ (fun h6 => ?_) (fun h6 => ?_)
  · have hq : b2p (shutP pl x a) = 0 := b2p_f (fun z => by
      first
      | exact absurd z.1 h6
      | rcases z.2 with y | y
        · exact h16 y
        · rw [b2p_t y] at h31; omega)
    refine I_iconst dX11_isShut_38 ?_
    exact I_zreturn dX11_isShut_39 rfl (by decide) ⟨_, _, rfl, by rw [hq], rfl, rfl⟩
  · refine T_iload_n dX11_isShut_9 rfl ?_
    refine T_aload_n dX11_isShut_10 rfl rfl ?_
    refine T_iload_n dX11_isShut_11 rfl ?_
    refine I_iconst dX11_isShut_12 ?_
    refine Q_callV dX11_isShut_13 kX11_ofItem lX11_164 (by assumption) rfl (p_of3 hR hi) rfl rfl (Nat.le_of_ble_eq_true rfl) (Nat.le_of_ble_eq_true rfl) (by decide) (by decide) ?_
    refine I_icmp_eq (tgt := 34) dX11_isShut_16 (by decide) ⟨by omega, by omega⟩ h3 (fun h16 => ?_) (fun h16 => ?_)
    · have hq : b2p (shutP pl x a) = 1 := b2p_t ⟨by omega, by
        first
        | exact Or.inl h16
        | exact Or.inr (Classical.byContradiction (fun y => by rw [b2p_f y] at h31; omega))⟩
      refine I_iconst dX11_isShut_34 ?_
      refine T_goto (tgt := 39) dX11_isShut_35 (by decide) ?_
      exact I_zreturn dX11_isShut_39 rfl (by decide) ⟨_, _, rfl, by rw [hq], rfl, rfl⟩
    · refine T_aload_n dX11_isShut_19 rfl rfl ?_
      refine T_iload_n dX11_isShut_20 rfl ?_
      refine I_bipush dX11_isShut_21 (by decide) ?_
      refine Q_callV dX11_isShut_23 kX11_ofItem lX11_164 (by assumption) rfl (p_of7 hR hi) rfl rfl (Nat.le_of_ble_eq_true rfl) (Nat.le_of_ble_eq_true rfl) (by decide) (by decide) ?_
      refine T_iload_n dX11_isShut_26 rfl ?_
      refine T_ishr dX11_isShut_27 ?_
      refine I_iconst dX11_isShut_28 ?_
      refine T_iand dX11_isShut_29 ?_
      rw [bit_shr ha]
      refine I_iconst dX11_isShut_30 ?_
      refine I_icmp_ne (tgt := 38) dX11_isShut_31 (by decide) (by rcases b2p_01 (bitM (x 7) a) with z | z <;> rw [z] <;> decide) (by decide) (fun h31 => ?_) (fun h31 => ?_)
      · have hq : b2p (shutP pl x a) = 0 := b2p_f (fun z => by
          first
          | exact absurd z.1 h6
          | rcases z.2 with y | y
            · exact h16 y
            · rw [b2p_t y] at h31; omega)
        refine I_iconst dX11_isShut_38 ?_
        exact I_zreturn dX11_isShut_39 rfl (by decide) ⟨_, _, rfl, by rw [hq], rfl, rfl⟩
      · have hq : b2p (shutP pl x a) = 1 := b2p_t ⟨by omega, by
          first
          | exact Or.inl h16
          | exact Or.inr (Classical.byContradiction (fun y => by rw [b2p_f y] at h31; omega))⟩
        refine I_iconst dX11_isShut_34 ?_
        refine T_goto (tgt := 39) dX11_isShut_35 (by decide) ?_
        exact I_zreturn dX11_isShut_39 rfl (by decide) ⟨_, _, rfl, by rw [hq], rfl, rfl⟩
theorem shut_iff {a : Int} (hk : pKd pl (x 3) = 3) (hm : MkOk pl x) (h3 : 0 ≤ x 3 ∧ x 3 < 32) (ha : 0 ≤ a ∧ a < 32) : shutP pl x a ↔ bitM (markM (x 7) (x 3)) a := by
  rw [bit_mark h3 ha]
  constructor
  · intro z
    exact z.2.symm
  · intro z
    rcases z with z | z
    · exact ⟨hm a ha.1 ha.2 z, Or.inr z⟩
    · exact ⟨by rw [z]; exact hk, Or.inl z⟩
theorem l_open4 {S0 : SV} {mk : Int} (hP : PlOk pl) (hx : RowB N pl x) (hx8 : x 5 ≤ 7) (hE : EnB N e) (hmk : markM (x 7) (x 3) = mk) (hm : MkOk pl x) (hk3 : pKd pl (x 3) = 3) (hg : (its.eraseIdx i).length + (freeM pl mk (x 3)).length ≤ 60) (m : Nat) : ∀ (k : Nat) (S : SV), pLc pl (x 3) - k = m → Wo S0 S → RS K S pl (eOlS (logI e 5 x (x 0)) (eOl e + (freeU pl mk (x 3) k).length)) (its.eraseIdx i ++ listRows e x mk (freeU pl mk (x 3) k)) → (∀ c : Nat, c < 8 → aI S 461 c = x c) → (∀ t : Nat, (t : Int) < pLc pl (x 3) → aI S 462 t = b2p (shutP pl x (pLd pl (x 3) t))) → ∀ (many : Int), P G 2 0 0 mX11_opens 177 [some (.ref 453), some (IV i), some (IV (x 3)), some (IV many), some (IV 0), some (IV k)] [] K S (HDQ K S0 pl its i (eOlS (logI e 5 x (x 0)) (eOl e + (freeM pl mk (x 3)).length), none, listRows e x mk (freeM pl mk (x 3)))) := by
  have x0 := hx.1
  have x1 := hx.2.1
  have x2 := hx.2.2.1
  have x3 := hx.2.2.2.1
  have x5 := hx.2.2.2.2.2.1
  have hN := hE.2.2.2.2.2.2
  have hol := hE.2.2.1
  have hcl := hE.1
  have hb5 := hP.1
  have hlc := (hP.2.2.2.2.2 (x 3) x3.1 x3.2).2.1
  induction m with
  | zero =>
    intro k S hmm hW hR h461 h462 many
    have m0 := hR.1.1
    have hkk : k = (pLc pl (x 3)).toNat := by omega
    subst hkk
    rw [← freeM_eq] at hR
    refine T_iload dX11_opens_177 rfl ?_
    refine T_aload_n dX11_opens_179 rfl rfl ?_
    refine T_iload_n dX11_opens_180 rfl ?_
    refine Q_callV dX11_opens_181 kX11_targets lX11_197 (by assumption) rfl (p_R_targets hR x3) rfl rfl (Nat.le_of_ble_eq_true rfl) (Nat.le_of_ble_eq_true rfl) (by decide) (by decide) ?_
    refine I_icmp_ge (tgt := 262) dX11_opens_184 (by decide) ⟨by omega, by omega⟩ ⟨by omega, by omega⟩ (fun h184 => ?_) (fun h184 => ?_)
    · refine T_iload dX11_opens_262 rfl ?_
      exact I_zreturn dX11_opens_264 rfl (by decide) ⟨_, _, rfl, rfl, rfl, hR, hW⟩
    · omega
  | succ m ih =>
    intro k S hmm hW hR h461 h462 many
    have m0 := hR.1.1
    have m1 := hR.1.2.1
    have m8 := hR.1.2.2.2.2.2.2.2.2.1
    have m9 := hR.1.2.2.2.2.2.2.2.2.2.1
    have hld := (hP.2.2.2.2.2 (x 3) x3.1 x3.2).2.2.2.2 k (by omega) (by omega)
    have hsh := h462 k (by omega)
    have hiff := shut_iff (x := x) (a := pLd pl (x 3) k) hk3 hm x3 hld
    rw [hmk] at hiff
    by_cases hs : shutP pl x (pLd pl (x 3) k)
    · have hb := hiff.mp hs
      rw [b2p_t hs] at hsh
      have w := ih (k + 1) S (by omega) hW (by rw [freeU_t hb]; exact hR) h461 h462 many
      refine T_iload dX11_opens_177 rfl ?_
      refine T_aload_n dX11_opens_179 rfl rfl ?_
      refine T_iload_n dX11_opens_180 rfl ?_
      refine Q_callV dX11_opens_181 kX11_targets lX11_197 (by assumption) rfl (p_R_targets hR x3) rfl rfl (Nat.le_of_ble_eq_true rfl) (Nat.le_of_ble_eq_true rfl) (by decide) (by decide) ?_
      refine I_icmp_ge (tgt := 262) dX11_opens_184 (by decide) ⟨by omega, by omega⟩ ⟨by omega, by omega⟩ (fun h184 => ?_) (fun h184 => ?_)
      · omega
      · refine T_aload_n dX11_opens_187 rfl rfl ?_
        refine P_getr dX11_opens_188 fX11_35 (by assumption) rfl ?_
        refine T_iload dX11_opens_191 rfl ?_
        refine P_zald dX11_opens_193 (by assumption) ⟨by omega, by omega⟩ (by first | decide | omega) ?_
        rw [hsh]
        refine I_if_ne (tgt := 256) dX11_opens_194 (by decide) ⟨by omega, by omega⟩ (fun h194 => ?_) (fun h194 => ?_)
        · refine I_iinc dX11_opens_256 rfl (by decide) rfl ?_
          refine T_goto (tgt := 177) dX11_opens_259 (by decide) ?_
          exact w
        · cases h194
    · have hb : ¬ bitM mk (pLd pl (x 3) k) := fun z => hs (hiff.mpr z)
      rw [b2p_f hs] at hsh
      have hmo := freeU_mono pl mk (x 3) (k + 1) ((pLc pl (x 3)).toNat - (k + 1))
      rw [show k + 1 + ((pLc pl (x 3)).toNat - (k + 1)) = (pLc pl (x 3)).toNat by omega, ← freeM_eq, freeU_f hb, List.length_append] at hmo
      have hmo1 : (freeU pl mk (x 3) k).length + 1 ≤ (freeM pl mk (x 3)).length := hmo
      have hful := freeU_len pl mk (x 3) k
      have o0 : aI S 461 0 = x 0 := h461 0 (by omega)
      have o1 : aI S 461 1 = x 1 := h461 1 (by omega)
      have o2 : aI S 461 2 = x 2 := h461 2 (by omega)
      have o5 : aI S 461 5 = x 5 := h461 5 (by omega)
      have o7 : aI S 461 7 = x 7 := h461 7 (by omega)
      have hlen : (its.eraseIdx i ++ listRows e x mk (freeU pl mk (x 3) k)).length < 60 := by
        rw [List.length_append]
        unfold listRows
        rw [List.length_map]
        omega
      have hc := p_R_comes (G := G) (h := x 0) (l := x 1) (f := x 2) (t := pLd pl (x 3) k) (p := x 5 + 1) (m := mk) hR hlen ⟨by omega, by omega⟩ ⟨by omega, by omega⟩ ⟨by omega, by omega⟩ ⟨by omega, by omega⟩ ⟨by omega, by omega⟩ (show R32 (eCl e + 1) from ⟨by omega, by omega⟩) (by rw [← hmk]; exact mark_R _ _)
      refine T_iload dX11_opens_177 rfl ?_
      refine T_aload_n dX11_opens_179 rfl rfl ?_
      refine T_iload_n dX11_opens_180 rfl ?_
      refine Q_callV dX11_opens_181 kX11_targets lX11_197 (by assumption) rfl (p_R_targets hR x3) rfl rfl (Nat.le_of_ble_eq_true rfl) (Nat.le_of_ble_eq_true rfl) (by decide) (by decide) ?_
      refine I_icmp_ge (tgt := 262) dX11_opens_184 (by decide) ⟨by omega, by omega⟩ ⟨by omega, by omega⟩ (fun h184 => ?_) (fun h184 => ?_)
      · omega
      · refine T_aload_n dX11_opens_187 rfl rfl ?_
        refine P_getr dX11_opens_188 fX11_35 (by assumption) rfl ?_
        refine T_iload dX11_opens_191 rfl ?_
        refine P_zald dX11_opens_193 (by assumption) ⟨by omega, by omega⟩ (by first | decide | omega) ?_
        rw [hsh]
        refine I_if_ne (tgt := 256) dX11_opens_194 (by decide) ⟨by omega, by omega⟩ (fun h194 => ?_) (fun h194 => ?_)
        · exact absurd rfl h194
        · refine T_aload_n dX11_opens_197 rfl rfl ?_
          refine T_aload_n dX11_opens_198 rfl rfl ?_
          refine P_getr dX11_opens_199 fX11_32 (by assumption) rfl ?_
          refine I_iconst dX11_opens_202 ?_
          refine P_iald dX11_opens_203 (by assumption) ⟨by omega, by omega⟩ (by first | decide | omega) ?_
          rw [o0]
          refine T_aload_n dX11_opens_204 rfl rfl ?_
          refine P_getr dX11_opens_205 fX11_32 (by assumption) rfl ?_
          refine I_iconst dX11_opens_208 ?_
          refine P_iald dX11_opens_209 (by assumption) ⟨by omega, by omega⟩ (by first | decide | omega) ?_
          rw [o1]
          refine T_aload_n dX11_opens_210 rfl rfl ?_
          refine P_getr dX11_opens_211 fX11_32 (by assumption) rfl ?_
          refine I_iconst dX11_opens_214 ?_
          refine P_iald dX11_opens_215 (by assumption) ⟨by omega, by omega⟩ (by first | decide | omega) ?_
          rw [o2]
          refine T_aload_n dX11_opens_216 rfl rfl ?_
          refine T_iload_n dX11_opens_217 rfl ?_
          refine T_iload dX11_opens_218 rfl ?_
          refine Q_callV dX11_opens_220 kX11_target lX11_203 (by assumption) rfl (p_R_target hR x3 ⟨by omega, by omega⟩) rfl rfl (Nat.le_of_ble_eq_true rfl) (Nat.le_of_ble_eq_true rfl) (by decide) (by decide) ?_
          refine T_aload_n dX11_opens_223 rfl rfl ?_
          refine P_getr dX11_opens_224 fX11_32 (by assumption) rfl ?_
          refine I_iconst dX11_opens_227 ?_
          refine P_iald dX11_opens_228 (by assumption) ⟨by omega, by omega⟩ (by first | decide | omega) ?_
          rw [o5]
          refine I_iconst dX11_opens_229 ?_
          refine I_iadd dX11_opens_230 ?_
          refine T_aload_n dX11_opens_231 rfl rfl ?_
          refine P_getr dX11_opens_232 fX11_32 (by assumption) rfl ?_
          refine I_bipush dX11_opens_235 (by decide) ?_
          refine P_iald dX11_opens_237 (by assumption) ⟨by omega, by omega⟩ (by first | decide | omega) ?_
          rw [o7]
          refine I_iconst dX11_opens_238 ?_
          refine T_iload_n dX11_opens_239 rfl ?_
          refine T_ishl dX11_opens_240 ?_
          refine T_ior dX11_opens_241 ?_
          rw [mark_iv, hmk]
          refine R_callV dX11_opens_242 kX11_comes lX11_214 (by assumption) rfl hc rfl rfl (Nat.le_of_ble_eq_true rfl) (Nat.le_of_ble_eq_true rfl) (by decide) (by decide) (fun r_ K_ S_ q_ => ?_)
          obtain ⟨rfl, hKe, hq, hw1⟩ := q_
          have hKe := hKe.symm
          subst hKe
          have e6 : aI S_ 454 6 = eOl e + (freeU pl mk (x 3) k).length := hq.2.2.2.2.1.2.2
          refine T_aload_n dX11_opens_245 rfl rfl ?_
          refine P_getr dX11_opens_246 fX11_7 (by assumption) rfl ?_
          refine I_bipush dX11_opens_249 (by decide) ?_
          refine T_dup2 dX11_opens_251 rfl rfl ?_
          refine P_iald dX11_opens_252 (by assumption) ⟨by omega, by omega⟩ (by first | decide | omega) ?_
          rw [e6]
          refine I_iconst dX11_opens_253 ?_
          refine I_iadd dX11_opens_254 ?_
          refine P_iast dX11_opens_255 (by assumption) ⟨by omega, by omega⟩ (by first | decide | omega) ?_
          refine I_iinc dX11_opens_256 rfl (by decide) rfl ?_
          refine T_goto (tgt := 177) dX11_opens_259 (by decide) ?_
          refine ih (k + 1) _ (by omega) ((hW.tr hw1.o).tr (Wo.sA (Or.inl rfl))) ?_ (fun c hc => ?_) (fun t ht => ?_) many
          · have hq2 := hq.olN (v := eOl e + (freeU pl mk (x 3) k).length + 1) ⟨by omega, by omega⟩
            rw [freeU_f hb]
            unfold listRows at hq2 ⊢
            rw [List.map_append, ← List.append_assoc, List.length_append]
            rw [show eOl e + (((freeU pl mk (x 3) k).length + [pLd pl (x 3) k].length : Nat) : Int) = eOl e + (freeU pl mk (x 3) k).length + 1 by simp; omega]
            exact hq2
          · rw [aI_sA, if_neg (by omega), hw1.a (by omega)]
            exact h461 c hc
          · rw [aI_sA, if_neg (by omega), hw1.a (by omega)]
            exact h462 t ht
theorem l_open3 {S0 : SV} {mk : Int} (hP : PlOk pl) (hi : its[i]? = some x) (hx : RowB N pl x) (hx8 : x 5 ≤ 7) (hE : EnB N e) (hmk : markM (x 7) (x 3) = mk) (hm : MkOk pl x) (hk3 : pKd pl (x 3) = 3) (hg : (its.eraseIdx i).length + (freeM pl mk (x 3)).length ≤ 60) (m : Nat) : ∀ (k : Nat) (S : SV), pLc pl (x 3) - k = m → Wo S0 S → RS K S pl (logI e 5 x (x 0)) its → (∀ c : Nat, c < 8 → aI S 461 c = x c) → (∀ t : Nat, t < k → aI S 462 t = b2p (shutP pl x (pLd pl (x 3) t))) → ∀ (many : Int), P G 2 0 0 mX11_opens 134 [some (.ref 453), some (IV i), some (IV (x 3)), some (IV many), some (IV 0), some (IV k)] [] K S (HDQ K S0 pl its i (eOlS (logI e 5 x (x 0)) (eOl e + (freeM pl mk (x 3)).length), none, listRows e x mk (freeM pl mk (x 3)))) := by
  have x3 := hx.2.2.2.1
  have hlc := (hP.2.2.2.2.2 (x 3) x3.1 x3.2).2.1
  have hlt := (List.getElem?_eq_some_iff.mp hi).1
  induction m with
  | zero =>
    intro k S hmm hW hR h461 h462 many
    have m0 := hR.1.1
    refine T_iload dX11_opens_134 rfl ?_
    refine T_aload_n dX11_opens_136 rfl rfl ?_
    refine T_iload_n dX11_opens_137 rfl ?_
    refine Q_callV dX11_opens_138 kX11_targets lX11_197 (by assumption) rfl (p_R_targets hR x3) rfl rfl (Nat.le_of_ble_eq_true rfl) (Nat.le_of_ble_eq_true rfl) (by decide) (by decide) ?_
    refine I_icmp_ge (tgt := 169) dX11_opens_141 (by decide) ⟨by omega, by omega⟩ ⟨by omega, by omega⟩ (fun h141 => ?_) (fun h141 => ?_)
    · refine T_aload_n dX11_opens_169 rfl rfl ?_
      refine T_iload_n dX11_opens_170 rfl ?_
      refine R_callV dX11_opens_171 kX11_leaves lX11_237 (by assumption) rfl (p_R_leaves hR hlt) rfl rfl (Nat.le_of_ble_eq_true rfl) (Nat.le_of_ble_eq_true rfl) (by decide) (by decide) (fun r_ K_ S_ q_ => ?_)
      obtain ⟨rfl, hKe, hq, hw1⟩ := q_
      have hKe := hKe.symm
      subst hKe
      refine I_iconst dX11_opens_174 ?_
      refine T_istore dX11_opens_175 (by decide) rfl ?_
      refine l_open4 hP hx hx8 hE hmk hm hk3 hg (pLc pl (x 3)).toNat 0 _ (by omega) (hW.tr hw1.o) ?_ (fun c hc => ?_) (fun t ht => ?_) many
      · have hq2 : RS K S_ pl (eOlS (logI e 5 x (x 0)) (eOl e + ((freeU pl mk (x 3) 0).length : Int))) (its.eraseIdx i) := by
          rw [show eOl e + ((freeU pl mk (x 3) 0).length : Int) = eOl e from Int.add_zero _]
          exact hq
        rw [show listRows e x mk (freeU pl mk (x 3) 0) = [] from rfl, List.append_nil]
        exact hq2
      · rw [hw1.a (by omega)]
        exact h461 c hc
      · rw [hw1.a (by omega)]
        exact h462 t (by omega)
    · omega
  | succ m ih =>
    intro k S hmm hW hR h461 h462 many
    have m0 := hR.1.1
    have m9 := hR.1.2.2.2.2.2.2.2.2.2.1
    have hld := (hP.2.2.2.2.2 (x 3) x3.1 x3.2).2.2.2.2 k (by omega) (by omega)
    have w := ih (k + 1) (sA S 462 k (b2p (shutP pl x (pLd pl (x 3) k)))) (by omega) (hW.tr (Wo.sA (by omega))) (hR.oth (by omega) (by rcases b2p_01 (shutP pl x (pLd pl (x 3) k)) with z | z <;> rw [z] <;> decide)) (fun c hc => by rw [aI_sA, if_neg (by omega)]; exact h461 c hc) (fun t ht => by
      rw [aI_sA]
      by_cases e : t = k
      · rw [if_pos ⟨rfl, by omega⟩, e]
      · rw [if_neg (fun z => e (by omega))]
        exact h462 t (by omega)) many
    refine T_iload dX11_opens_134 rfl ?_
    refine T_aload_n dX11_opens_136 rfl rfl ?_
    refine T_iload_n dX11_opens_137 rfl ?_
    refine Q_callV dX11_opens_138 kX11_targets lX11_197 (by assumption) rfl (p_R_targets hR x3) rfl rfl (Nat.le_of_ble_eq_true rfl) (Nat.le_of_ble_eq_true rfl) (by decide) (by decide) ?_
    refine I_icmp_ge (tgt := 169) dX11_opens_141 (by decide) ⟨by omega, by omega⟩ ⟨by omega, by omega⟩ (fun h141 => ?_) (fun h141 => ?_)
    · omega
    · refine T_aload_n dX11_opens_144 rfl rfl ?_
      refine P_getr dX11_opens_145 fX11_35 (by assumption) rfl ?_
      refine T_iload dX11_opens_148 rfl ?_
      refine T_aload_n dX11_opens_150 rfl rfl ?_
      refine T_iload_n dX11_opens_151 rfl ?_
      refine T_aload_n dX11_opens_152 rfl rfl ?_
      refine T_iload_n dX11_opens_153 rfl ?_
      refine T_iload dX11_opens_154 rfl ?_
      refine Q_callV dX11_opens_156 kX11_target lX11_203 (by assumption) rfl (p_R_target hR x3 ⟨by omega, by omega⟩) rfl rfl (Nat.le_of_ble_eq_true rfl) (Nat.le_of_ble_eq_true rfl) (by decide) (by decide) ?_
      refine Q_callV dX11_opens_159 kX11_isShut lX11_243 (by assumption) rfl (p_R_isShut hR hi hld ⟨by omega, by omega⟩) rfl rfl (Nat.le_of_ble_eq_true rfl) (Nat.le_of_ble_eq_true rfl) (by decide) (by decide) ?_
      refine P_zast dX11_opens_162 (by assumption) ⟨by omega, by omega⟩ (by first | decide | omega) (b2p_01 _) ?_
      refine I_iinc dX11_opens_163 rfl (by decide) rfl ?_
      refine T_goto (tgt := 134) dX11_opens_166 (by decide) ?_
      exact w
theorem l_open2 {S0 : SV} {mk : Int} (hP : PlOk pl) (hi : its[i]? = some x) (hx : RowB N pl x) (hx8 : x 5 ≤ 7) (hE : EnB N e) (hmk : markM (x 7) (x 3) = mk) (hm : MkOk pl x) (hk3 : pKd pl (x 3) = 3) (hg : (its.eraseIdx i).length + (freeM pl mk (x 3)).length ≤ 60) (m : Nat) : ∀ (k : Nat) (S : SV), 8 - (k : Int) = m → Wo S0 S → RS K S pl (logI e 5 x (x 0)) its → (∀ c : Nat, c < k → aI S 461 c = x c) → ∀ (many : Int), P G 2 0 0 mX11_opens 101 [some (.ref 453), some (IV i), some (IV (x 3)), some (IV many), some (IV k), none] [] K S (HDQ K S0 pl its i (eOlS (logI e 5 x (x 0)) (eOl e + (freeM pl mk (x 3)).length), none, listRows e x mk (freeM pl mk (x 3)))) := by
  have x3 := hx.2.2.2.1
  have hlc := (hP.2.2.2.2.2 (x 3) x3.1 x3.2).2.1
  induction m with
  | zero =>
    intro k S hmm hW hR h461 many
    have w := l_open3 (G := G) (S0 := S0) hP hi hx hx8 hE hmk hm hk3 hg (pLc pl (x 3)).toNat 0 S (by omega) hW hR (fun c hc => h461 c (by omega)) (fun t ht => by omega) many
    refine T_iload dX11_opens_101 rfl ?_
    refine I_bipush dX11_opens_103 (by decide) ?_
    refine I_icmp_ge (tgt := 128) dX11_opens_105 (by decide) ⟨by omega, by omega⟩ ⟨by omega, by omega⟩ (fun h105 => ?_) (fun h105 => ?_)
    · refine I_iconst dX11_opens_128 ?_
      refine T_istore dX11_opens_129 (by decide) rfl ?_
      refine I_iconst dX11_opens_131 ?_
      refine T_istore dX11_opens_132 (by decide) rfl ?_
      exact w
    · omega
  | succ m ih =>
    intro k S hmm hW hR h461 many
    have m0 := hR.1.1
    have m8 := hR.1.2.2.2.2.2.2.2.2.1
    have hof := p_R_ofItem (G := G) (k := (k : Int)) hR hi ⟨by omega, by omega⟩
    rw [Int.toNat_natCast] at hof
    have hrk : R32 (x k) := by rw [← hR.item hi (k := k) (by omega)]; exact hR.2.1.2 _ _
    have w := ih (k + 1) (sA S 461 k (x k)) (by omega) (hW.tr (Wo.sA (by omega))) (hR.oth (by omega) hrk) (fun c hc => by
      rw [aI_sA]
      by_cases e : c = k
      · rw [if_pos ⟨rfl, by omega⟩, e]
      · rw [if_neg (fun z => e (by omega))]
        exact h461 c (by omega)) many
    refine T_iload dX11_opens_101 rfl ?_
    refine I_bipush dX11_opens_103 (by decide) ?_
    refine I_icmp_ge (tgt := 128) dX11_opens_105 (by decide) ⟨by omega, by omega⟩ ⟨by omega, by omega⟩ (fun h105 => ?_) (fun h105 => ?_)
    · omega
    · refine T_aload_n dX11_opens_108 rfl rfl ?_
      refine P_getr dX11_opens_109 fX11_32 (by assumption) rfl ?_
      refine T_iload dX11_opens_112 rfl ?_
      refine T_aload_n dX11_opens_114 rfl rfl ?_
      refine T_iload_n dX11_opens_115 rfl ?_
      refine T_iload dX11_opens_116 rfl ?_
      refine Q_callV dX11_opens_118 kX11_ofItem lX11_164 (by assumption) rfl hof rfl rfl (Nat.le_of_ble_eq_true rfl) (Nat.le_of_ble_eq_true rfl) (by decide) (by decide) ?_
      refine P_iast dX11_opens_121 (by assumption) ⟨by omega, by omega⟩ (by first | decide | omega) ?_
      refine I_iinc dX11_opens_122 rfl (by decide) rfl ?_
      refine T_goto (tgt := 101) dX11_opens_125 (by decide) ?_
      exact w
theorem l_open1 {mk : Int} (hR : RS K S pl e its) (hi : its[i]? = some x) (h3 : 0 ≤ x 3 ∧ x 3 < 32) (hmk : markM (x 7) (x 3) = mk) (hm : MkOk pl x) (hk3 : pKd pl (x 3) = 3) {Q : Option Value → List SH → SV → Prop} (hk : P G 2 0 0 mX11_opens 54 [some (.ref 453), some (IV i), some (IV (x 3)), some (IV (freeM pl mk (x 3)).length), none, none] [] K S Q) (m : Nat) : ∀ k : Nat, pLc pl (x 3) - k = m → P G 2 0 0 mX11_opens 12 [some (.ref 453), some (IV i), some (IV (x 3)), some (IV (freeU pl mk (x 3) k).length), some (IV k), none] [] K S Q := by
  have m0 := hR.1.1
  have hP := hR.2.2.1
  have hlc := (hP.2.2.2.2.2 (x 3) h3.1 h3.2).2.1
  induction m with
  | zero =>
    intro k hmm
    have hkk : k = (pLc pl (x 3)).toNat := by omega
    subst hkk
    rw [← freeM_eq]
    refine T_iload dX11_opens_12 rfl ?_
    refine T_aload_n dX11_opens_14 rfl rfl ?_
    refine T_iload_n dX11_opens_15 rfl ?_
    refine Q_callV dX11_opens_16 kX11_targets lX11_197 (by assumption) rfl (p_R_targets hR h3) rfl rfl (Nat.le_of_ble_eq_true rfl) (Nat.le_of_ble_eq_true rfl) (by decide) (by decide) ?_
    refine I_icmp_ge (tgt := 54) dX11_opens_19 (by decide) ⟨by omega, by omega⟩ ⟨by omega, by omega⟩ (fun h19 => ?_) (fun h19 => ?_)
    · refine T.forget 4 ?_
      exact hk
    · omega
  | succ m ih =>
    intro k hmm
    have hld := (hP.2.2.2.2.2 (x 3) h3.1 h3.2).2.2.2.2 k (by omega) (by omega)
    have hiff := shut_iff (x := x) (a := pLd pl (x 3) k) hk3 hm h3 hld
    rw [hmk] at hiff
    have w := ih (k + 1) (by omega)
    by_cases hs : shutP pl x (pLd pl (x 3) k)
    · rw [freeU_t (hiff.mp hs)] at w
      refine T_iload dX11_opens_12 rfl ?_
      refine T_aload_n dX11_opens_14 rfl rfl ?_
      refine T_iload_n dX11_opens_15 rfl ?_
      refine Q_callV dX11_opens_16 kX11_targets lX11_197 (by assumption) rfl (p_R_targets hR h3) rfl rfl (Nat.le_of_ble_eq_true rfl) (Nat.le_of_ble_eq_true rfl) (by decide) (by decide) ?_
      refine I_icmp_ge (tgt := 54) dX11_opens_19 (by decide) ⟨by omega, by omega⟩ ⟨by omega, by omega⟩ (fun h19 => ?_) (fun h19 => ?_)
      · omega
      · refine T_iload_n dX11_opens_22 rfl ?_
        refine T_aload_n dX11_opens_23 rfl rfl ?_
        refine T_iload_n dX11_opens_24 rfl ?_
        refine T_aload_n dX11_opens_25 rfl rfl ?_
        refine T_iload_n dX11_opens_26 rfl ?_
        refine T_iload dX11_opens_27 rfl ?_
        refine Q_callV dX11_opens_29 kX11_target lX11_203 (by assumption) rfl (p_R_target hR h3 ⟨by omega, by omega⟩) rfl rfl (Nat.le_of_ble_eq_true rfl) (Nat.le_of_ble_eq_true rfl) (by decide) (by decide) ?_
        refine Q_callV dX11_opens_32 kX11_isShut lX11_243 (by assumption) rfl (p_R_isShut hR hi hld ⟨by omega, by omega⟩) rfl rfl (Nat.le_of_ble_eq_true rfl) (Nat.le_of_ble_eq_true rfl) (by decide) (by decide) ?_
        rw [b2p_t hs]
        refine I_if_ne (tgt := 42) dX11_opens_35 (by decide) ⟨by omega, by omega⟩ (fun h35 => ?_) (fun h35 => ?_)
        · refine I_iconst dX11_opens_42 ?_
          refine Q_callS dX11_opens_43 kX11_flag lX11_104 (p_flag (by omega)) rfl rfl (Nat.le_of_ble_eq_true rfl) (Nat.le_of_ble_eq_true rfl) (by decide) (by decide) ?_
          refine I_iadd dX11_opens_46 ?_
          rw [Int.add_zero]
          refine T_istore_n dX11_opens_47 (by decide) rfl ?_
          refine I_iinc dX11_opens_48 rfl (by decide) rfl ?_
          refine T_goto (tgt := 12) dX11_opens_51 (by decide) ?_
          exact w
        · cases h35
    · have hb : ¬ bitM mk (pLd pl (x 3) k) := fun z => hs (hiff.mpr z)
      rw [freeU_f hb, List.length_append] at w
      rw [show (((freeU pl mk (x 3) k).length + [pLd pl (x 3) k].length : Nat) : Int) = (freeU pl mk (x 3) k).length + 1 by simp] at w
      refine T_iload dX11_opens_12 rfl ?_
      refine T_aload_n dX11_opens_14 rfl rfl ?_
      refine T_iload_n dX11_opens_15 rfl ?_
      refine Q_callV dX11_opens_16 kX11_targets lX11_197 (by assumption) rfl (p_R_targets hR h3) rfl rfl (Nat.le_of_ble_eq_true rfl) (Nat.le_of_ble_eq_true rfl) (by decide) (by decide) ?_
      refine I_icmp_ge (tgt := 54) dX11_opens_19 (by decide) ⟨by omega, by omega⟩ ⟨by omega, by omega⟩ (fun h19 => ?_) (fun h19 => ?_)
      · omega
      · refine T_iload_n dX11_opens_22 rfl ?_
        refine T_aload_n dX11_opens_23 rfl rfl ?_
        refine T_iload_n dX11_opens_24 rfl ?_
        refine T_aload_n dX11_opens_25 rfl rfl ?_
        refine T_iload_n dX11_opens_26 rfl ?_
        refine T_iload dX11_opens_27 rfl ?_
        refine Q_callV dX11_opens_29 kX11_target lX11_203 (by assumption) rfl (p_R_target hR h3 ⟨by omega, by omega⟩) rfl rfl (Nat.le_of_ble_eq_true rfl) (Nat.le_of_ble_eq_true rfl) (by decide) (by decide) ?_
        refine Q_callV dX11_opens_32 kX11_isShut lX11_243 (by assumption) rfl (p_R_isShut hR hi hld ⟨by omega, by omega⟩) rfl rfl (Nat.le_of_ble_eq_true rfl) (Nat.le_of_ble_eq_true rfl) (by decide) (by decide) ?_
        rw [b2p_f hs]
        refine I_if_ne (tgt := 42) dX11_opens_35 (by decide) ⟨by omega, by omega⟩ (fun h35 => ?_) (fun h35 => ?_)
        · exact absurd rfl h35
        · refine I_iconst dX11_opens_38 ?_
          refine T_goto (tgt := 43) dX11_opens_39 (by decide) ?_
          refine Q_callS dX11_opens_43 kX11_flag lX11_104 (p_flag (by omega)) rfl rfl (Nat.le_of_ble_eq_true rfl) (Nat.le_of_ble_eq_true rfl) (by decide) (by decide) ?_
          refine I_iadd dX11_opens_46 ?_
          refine T_istore_n dX11_opens_47 (by decide) rfl ?_
          refine I_iinc dX11_opens_48 rfl (by decide) rfl ?_
          refine T_goto (tgt := 12) dX11_opens_51 (by decide) ?_
          exact w
theorem p_R_opens (hR : RS K S pl e its) (hi : its[i]? = some x) (hx : RowB N pl x) (hx8 : x 5 ≤ 7) (hE : EnB N e) (hm : MkOk pl x) (hk3 : pKd pl (x 3) = 3) : P G 2 0 0 mX11_opens 0 (LE mX11_opens [.ref 453, IV i]) [] K S (HDQ K S pl its i (openM pl e its.length x)) := by
  have m0 := hR.1.1
  have m1 := hR.1.2.1
  have hP := hR.2.2.1
  have x0 := hx.1
  have x3 := hx.2.2.2.1
  have hb5 := hP.1
  have hlc := (hP.2.2.2.2.2 (x 3) x3.1 x3.2).2.1
  have hlt := (List.getElem?_eq_some_iff.mp hi).1
  have h60 := hR.n60
  have e4 := hR.n4
  have e2 : aI S 454 2 = eCl e := hR.2.2.2.2.1.1
  have hel : (its.eraseIdx i).length = its.length - 1 := List.length_eraseIdx_of_lt hlt
  obtain ⟨l1, l2, l3, l4, l5⟩ := hE.lg (w := 5) ⟨by omega, by omega⟩
  have hful := freeU_len pl (markM (x 7) (x 3)) (x 3) (pLc pl (x 3)).toNat
  rw [← freeM_eq] at hful
  have hk : P G 2 0 0 mX11_opens 54 [some (.ref 453), some (IV i), some (IV (x 3)), some (IV (freeM pl (markM (x 7) (x 3)) (x 3)).length), none, none] [] K S (HDQ K S pl its i (openM pl e its.length x)) := by
    unfold openM
    by_cases hf : 60 < (its.length : Int) - 1 + (freeM pl (markM (x 7) (x 3)) (x 3)).length
    · rw [if_pos hf]
      have hs := hR.setI hi (k := 6) (v := eCl e + 1) (by omega) l2
      refine T_aload_n dX11_opens_54 rfl rfl ?_
      refine P_getr dX11_opens_55 fX11_7 (by assumption) rfl ?_
      refine I_iconst dX11_opens_58 ?_
      refine P_iald dX11_opens_59 (by assumption) ⟨by omega, by omega⟩ (by first | decide | omega) ?_
      rw [e4]
      refine I_iconst dX11_opens_60 ?_
      refine I_isub dX11_opens_61 ?_
      refine T_iload_n dX11_opens_62 rfl ?_
      refine I_iadd dX11_opens_63 ?_
      refine I_bipush dX11_opens_64 (by decide) ?_
      refine I_icmp_le (tgt := 86) dX11_opens_66 (by decide) ⟨by omega, by omega⟩ ⟨by omega, by omega⟩ (fun h66 => ?_) (fun h66 => ?_)
      · omega
      · refine T_aload_n dX11_opens_69 rfl rfl ?_
        refine T_iload_n dX11_opens_70 rfl ?_
        refine I_bipush dX11_opens_71 (by decide) ?_
        refine T_aload_n dX11_opens_73 rfl rfl ?_
        refine P_getr dX11_opens_74 fX11_7 (by assumption) rfl ?_
        refine I_iconst dX11_opens_77 ?_
        refine P_iald dX11_opens_78 (by assumption) ⟨by omega, by omega⟩ (by first | decide | omega) ?_
        rw [e2]
        refine I_iconst dX11_opens_79 ?_
        refine I_iadd dX11_opens_80 ?_
        refine Q_callV dX11_opens_81 kX11_lays lX11_206 (by assumption) rfl (p_R_lays hR.1 ⟨by omega, by omega⟩ ⟨by omega, by omega⟩) rfl rfl (Nat.le_of_ble_eq_true rfl) (Nat.le_of_ble_eq_true rfl) (by decide) (by decide) ?_
        refine I_iconst dX11_opens_84 ?_
        exact I_zreturn dX11_opens_85 rfl (by decide) ⟨_, _, rfl, rfl, rfl, by unfold resI; rw [List.append_nil]; exact hs, Wo.sA (Or.inl rfl)⟩
    · rw [if_neg hf]
      refine T_aload_n dX11_opens_54 rfl rfl ?_
      refine P_getr dX11_opens_55 fX11_7 (by assumption) rfl ?_
      refine I_iconst dX11_opens_58 ?_
      refine P_iald dX11_opens_59 (by assumption) ⟨by omega, by omega⟩ (by first | decide | omega) ?_
      rw [e4]
      refine I_iconst dX11_opens_60 ?_
      refine I_isub dX11_opens_61 ?_
      refine T_iload_n dX11_opens_62 rfl ?_
      refine I_iadd dX11_opens_63 ?_
      refine I_bipush dX11_opens_64 (by decide) ?_
      refine I_icmp_le (tgt := 86) dX11_opens_66 (by decide) ⟨by omega, by omega⟩ ⟨by omega, by omega⟩ (fun h66 => ?_) (fun h66 => ?_)
      · refine T_aload_n dX11_opens_86 rfl rfl ?_
        refine I_iconst dX11_opens_87 ?_
        refine T_iload_n dX11_opens_88 rfl ?_
        refine T_aload_n dX11_opens_89 rfl rfl ?_
        refine T_iload_n dX11_opens_90 rfl ?_
        refine I_iconst dX11_opens_91 ?_
        refine Q_callV dX11_opens_92 kX11_ofItem lX11_164 (by assumption) rfl (p_of0 hR hi) rfl rfl (Nat.le_of_ble_eq_true rfl) (Nat.le_of_ble_eq_true rfl) (by decide) (by decide) ?_
        refine R_callV dX11_opens_95 kX11_logsItem lX11_234 (by assumption) rfl (p_R_logsItem hR hi ⟨by omega, by omega⟩ ⟨by omega, by omega⟩ l1 l3) rfl rfl (Nat.le_of_ble_eq_true rfl) (Nat.le_of_ble_eq_true rfl) (by decide) (by decide) (fun r_ K_ S_ q_ => ?_)
        obtain ⟨rfl, hKe, hq, hw1⟩ := q_
        have hKe := hKe.symm
        subst hKe
        have w := l_open2 (G := G) (S0 := S) hP hi hx hx8 hE rfl hm hk3 (by omega) 8 0 S_ (by omega) hw1.o hq (fun c hc => by omega) (freeM pl (markM (x 7) (x 3)) (x 3)).length
        refine I_iconst dX11_opens_98 ?_
        refine T_istore dX11_opens_99 (by decide) rfl ?_
        exact w
      · omega
  have w := l_open1 (G := G) hR hi x3 rfl hm hk3 hk (pLc pl (x 3)).toNat 0 (by omega)
  rw [show LE mX11_opens [.ref 453, IV i] = [some (.ref 453), some (IV i), none, none, none, none] from rfl]
  refine T_aload_n dX11_opens_0 rfl rfl ?_
  refine T_iload_n dX11_opens_1 rfl ?_
  refine I_iconst dX11_opens_2 ?_
  refine Q_callV dX11_opens_3 kX11_ofItem lX11_164 (by assumption) rfl (p_of3 hR hi) rfl rfl (Nat.le_of_ble_eq_true rfl) (Nat.le_of_ble_eq_true rfl) (by decide) (by decide) ?_
  refine T_istore_n dX11_opens_6 (by decide) rfl ?_
  refine I_iconst dX11_opens_7 ?_
  refine T_istore_n dX11_opens_8 (by decide) rfl ?_
  refine I_iconst dX11_opens_9 ?_
  refine T_istore dX11_opens_10 (by decide) rfl ?_
  exact w
end RF6
