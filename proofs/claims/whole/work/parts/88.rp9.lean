/-! the reference: a text is taken -/
def anF (f : Int → Int) : Int → Int := fun j => if (2 ≤ j ∧ j < 16) ∨ (246 ≤ j ∧ j < 1583) then 0 else if 17 ≤ j ∧ j < 26 ∧ j % 2 = 1 then 1 else f j
def ANQ (K : List SH) (S : SV) : Option Value → List SH → SV → Prop := fun rv K' S' => rv = none ∧ K' = K ∧ AllR S' ∧ (∀ a, a ≠ 454 → a ≠ 457 → Same S S' a (a + 1)) ∧ (∀ j, aI S' 454 j = anF (aI S 454) j) ∧ aI S' 457 0 = 0 ∧ aI S' 457 1 = 0
section RPH
variable {G : GT} {K : List SH} {S : SV}
theorem l_an3 (hM : MoAt K) (m : Nat) : ∀ (h : Int) (S1 : SV), 0 ≤ h → 5 - h = m → AllR S1 → (∀ a, a ≠ 454 → Same S S1 a (a + 1)) → (∀ j, aI S1 454 j = if (2 ≤ j ∧ j < 16) ∨ (246 ≤ j ∧ j < 1583) then 0 else if 17 ≤ j ∧ j < 17 + 2 * h ∧ j % 2 = 1 then 1 else aI S 454 j) → P G 0 0 0 mX11_anew 47 [some (.ref 453), some (IV h)] [] K S1 (ANQ K S) := by
  have m0 := hM.1
  have m1 := hM.2.1
  have m4 := hM.2.2.2.2.1
  induction m with
  | zero =>
    intro h S1 h0 hm hA hs hf
    have hz : h = 5 := by omega
    subst hz
    refine T_iload_n dX11_anew_47 rfl ?_
    refine I_iconst dX11_anew_48 ?_
    refine I_icmp_ge (tgt := 72) dX11_anew_49 (by decide) ⟨by omega, by omega⟩ ⟨by omega, by omega⟩ (fun h49 => ?_) (fun h49 => ?_)
    · refine T_aload_n dX11_anew_72 rfl rfl ?_
      refine P_getr dX11_anew_73 fX11_19 (by assumption) rfl ?_
      refine I_iconst dX11_anew_76 ?_
      refine I_iconst dX11_anew_77 ?_
      refine P_zast dX11_anew_78 (by assumption) ⟨by omega, by omega⟩ (by first | decide | omega) (Or.inl rfl) ?_
      refine T_aload_n dX11_anew_79 rfl rfl ?_
      refine P_getr dX11_anew_80 fX11_19 (by assumption) rfl ?_
      refine I_iconst dX11_anew_83 ?_
      refine I_iconst dX11_anew_84 ?_
      refine P_zast dX11_anew_85 (by assumption) ⟨by omega, by omega⟩ (by first | decide | omega) (Or.inl rfl) ?_
      exact T_return dX11_anew_86 rfl ⟨_, _, rfl, rfl, rfl, (hA.sA (by decide)).sA (by decide), fun a x y => ((hs a x).tr (Same.sA (by omega))).tr (Same.sA (by omega)), fun j => by
        rw [aI_sA, if_neg (by omega), aI_sA, if_neg (by omega), hf j]
        unfold anF
        by_cases h1 : (2 ≤ j ∧ j < 16) ∨ (246 ≤ j ∧ j < 1583)
        · rw [if_pos h1, if_pos h1]
        · rw [if_neg h1, if_neg h1]
          by_cases h2 : 17 ≤ j ∧ j < 26 ∧ j % 2 = 1
          · rw [if_pos h2, if_pos ⟨h2.1, by omega, h2.2.2⟩]
          · rw [if_neg h2, if_neg (fun z => h2 ⟨z.1, by have := z.2.1; have := z.2.2; omega, z.2.2⟩)], by rw [aI_sA, if_neg (by omega), aI_sA, if_pos ⟨rfl, rfl⟩], by rw [aI_sA, if_pos ⟨rfl, rfl⟩]⟩
    · omega
  | succ m ih =>
    intro h S1 h0 hm hA hs hf
    have w := ih (h + 1) (sA S1 454 (16 + 2 * h + 1) 1) (by omega) (by omega) (hA.sA (by decide)) (fun a x => (hs a x).tr (Same.sA (by omega))) (fun j => by
      rw [aI_sA]
      by_cases e : j = 16 + 2 * h + 1
      · rw [if_pos ⟨rfl, e⟩, if_neg (by omega), if_pos ⟨by omega, by omega, by omega⟩]
      · rw [if_neg (fun z => e z.2), hf j]
        by_cases h1 : (2 ≤ j ∧ j < 16) ∨ (246 ≤ j ∧ j < 1583)
        · rw [if_pos h1, if_pos h1]
        · rw [if_neg h1, if_neg h1]
          by_cases h2 : 17 ≤ j ∧ j < 17 + 2 * h ∧ j % 2 = 1
          · rw [if_pos h2, if_pos ⟨h2.1, by omega, h2.2.2⟩]
          · rw [if_neg h2, if_neg (fun z => h2 ⟨z.1, by have := z.2.1; have := z.2.2; omega, z.2.2⟩)])
    refine T_iload_n dX11_anew_47 rfl ?_
    refine I_iconst dX11_anew_48 ?_
    refine I_icmp_ge (tgt := 72) dX11_anew_49 (by decide) ⟨by omega, by omega⟩ ⟨by omega, by omega⟩ (fun h49 => ?_) (fun h49 => ?_)
    · omega
    · refine T_aload_n dX11_anew_52 rfl rfl ?_
      refine P_getr dX11_anew_53 fX11_7 (by assumption) rfl ?_
      refine I_bipush dX11_anew_56 (by decide) ?_
      refine I_iconst dX11_anew_58 ?_
      refine T_iload_n dX11_anew_59 rfl ?_
      refine I_imul dX11_anew_60 ?_
      refine I_iadd dX11_anew_61 ?_
      refine I_iconst dX11_anew_62 ?_
      refine I_iadd dX11_anew_63 ?_
      refine I_iconst dX11_anew_64 ?_
      refine P_iast dX11_anew_65 (by assumption) ⟨by omega, by omega⟩ (by first | decide | omega) ?_
      refine I_iinc dX11_anew_66 rfl (by decide) rfl ?_
      refine T_goto (tgt := 47) dX11_anew_69 (by decide) ?_
      exact w
theorem l_an2 (hM : MoAt K) (m : Nat) : ∀ (c : Int) (S1 : SV), 246 ≤ c → 1583 - c = m → AllR S1 → (∀ a, a ≠ 454 → Same S S1 a (a + 1)) → (∀ j, aI S1 454 j = if (2 ≤ j ∧ j < 16) ∨ (246 ≤ j ∧ j < c) then 0 else aI S 454 j) → P G 0 0 0 mX11_anew 25 [some (.ref 453), some (IV c)] [] K S1 (ANQ K S) := by
  have m0 := hM.1
  have m1 := hM.2.1
  induction m with
  | zero =>
    intro c S1 h0 hm hA hs hf
    have hz : c = 1583 := by omega
    subst hz
    have w := l_an3 (G := G) (S := S) hM 5 0 S1 (by omega) (by omega) hA hs (fun j => by
      rw [hf j]
      by_cases h1 : (2 ≤ j ∧ j < 16) ∨ (246 ≤ j ∧ j < 1583)
      · rw [if_pos h1, if_pos h1]
      · rw [if_neg h1, if_neg h1, if_neg (by omega)])
    refine T_iload_n dX11_anew_25 rfl ?_
    refine I_sipush dX11_anew_26 (by decide) ?_
    refine I_icmp_ge (tgt := 45) dX11_anew_29 (by decide) ⟨by omega, by omega⟩ ⟨by omega, by omega⟩ (fun h29 => ?_) (fun h29 => ?_)
    · refine I_iconst dX11_anew_45 ?_
      refine T_istore_n dX11_anew_46 (by decide) rfl ?_
      exact w
    · omega
  | succ m ih =>
    intro c S1 h0 hm hA hs hf
    have w := ih (c + 1) (sA S1 454 c 0) (by omega) (by omega) (hA.sA (by decide)) (fun a x => (hs a x).tr (Same.sA (by omega))) (fun j => by
      rw [aI_sA]
      by_cases e : j = c
      · rw [if_pos ⟨rfl, e⟩, if_pos (by omega)]
      · rw [if_neg (fun z => e z.2), hf j]
        by_cases h1 : (2 ≤ j ∧ j < 16) ∨ (246 ≤ j ∧ j < c)
        · rw [if_pos h1, if_pos (by omega)]
        · rw [if_neg h1, if_neg (by omega)])
    refine T_iload_n dX11_anew_25 rfl ?_
    refine I_sipush dX11_anew_26 (by decide) ?_
    refine I_icmp_ge (tgt := 45) dX11_anew_29 (by decide) ⟨by omega, by omega⟩ ⟨by omega, by omega⟩ (fun h29 => ?_) (fun h29 => ?_)
    · omega
    · refine T_aload_n dX11_anew_32 rfl rfl ?_
      refine P_getr dX11_anew_33 fX11_7 (by assumption) rfl ?_
      refine T_iload_n dX11_anew_36 rfl ?_
      refine I_iconst dX11_anew_37 ?_
      refine P_iast dX11_anew_38 (by assumption) ⟨by omega, by omega⟩ (by first | decide | omega) ?_
      refine I_iinc dX11_anew_39 rfl (by decide) rfl ?_
      refine T_goto (tgt := 25) dX11_anew_42 (by decide) ?_
      exact w
theorem l_an1 (hM : MoAt K) (m : Nat) : ∀ (c : Int) (S1 : SV), 2 ≤ c → 16 - c = m → AllR S1 → (∀ a, a ≠ 454 → Same S S1 a (a + 1)) → (∀ j, aI S1 454 j = if 2 ≤ j ∧ j < c then 0 else aI S 454 j) → P G 0 0 0 mX11_anew 2 [some (.ref 453), some (IV c)] [] K S1 (ANQ K S) := by
  have m0 := hM.1
  have m1 := hM.2.1
  induction m with
  | zero =>
    intro c S1 h0 hm hA hs hf
    have hz : c = 16 := by omega
    subst hz
    have w := l_an2 (G := G) (S := S) hM 1337 246 S1 (by omega) (by omega) hA hs (fun j => by
      rw [hf j]
      by_cases h1 : 2 ≤ j ∧ j < 16
      · rw [if_pos h1, if_pos (by omega)]
      · rw [if_neg h1, if_neg (by omega)])
    refine T_iload_n dX11_anew_2 rfl ?_
    refine I_bipush dX11_anew_3 (by decide) ?_
    refine I_icmp_ge (tgt := 21) dX11_anew_5 (by decide) ⟨by omega, by omega⟩ ⟨by omega, by omega⟩ (fun h5 => ?_) (fun h5 => ?_)
    · refine I_sipush dX11_anew_21 (by decide) ?_
      refine T_istore_n dX11_anew_24 (by decide) rfl ?_
      exact w
    · omega
  | succ m ih =>
    intro c S1 h0 hm hA hs hf
    have w := ih (c + 1) (sA S1 454 c 0) (by omega) (by omega) (hA.sA (by decide)) (fun a x => (hs a x).tr (Same.sA (by omega))) (fun j => by
      rw [aI_sA]
      by_cases e : j = c
      · rw [if_pos ⟨rfl, e⟩, if_pos (by omega)]
      · rw [if_neg (fun z => e z.2), hf j]
        by_cases h1 : 2 ≤ j ∧ j < c
        · rw [if_pos h1, if_pos (by omega)]
        · rw [if_neg h1, if_neg (by omega)])
    refine T_iload_n dX11_anew_2 rfl ?_
    refine I_bipush dX11_anew_3 (by decide) ?_
    refine I_icmp_ge (tgt := 21) dX11_anew_5 (by decide) ⟨by omega, by omega⟩ ⟨by omega, by omega⟩ (fun h5 => ?_) (fun h5 => ?_)
    · omega
    · refine T_aload_n dX11_anew_8 rfl rfl ?_
      refine P_getr dX11_anew_9 fX11_7 (by assumption) rfl ?_
      refine T_iload_n dX11_anew_12 rfl ?_
      refine I_iconst dX11_anew_13 ?_
      refine P_iast dX11_anew_14 (by assumption) ⟨by omega, by omega⟩ (by first | decide | omega) ?_
      refine I_iinc dX11_anew_15 rfl (by decide) rfl ?_
      refine T_goto (tgt := 2) dX11_anew_18 (by decide) ?_
      exact w
theorem p_anew (hM : MoAt K) (hr : AllR S) : P G 0 0 0 mX11_anew 0 (LE mX11_anew [.ref 453]) [] K S (ANQ K S) := by
  have w := l_an1 (G := G) (S := S) hM 14 2 S (by omega) (by omega) hr (fun a x => Same.rf) (fun j => by rw [if_neg (by omega)])
  rw [show LE mX11_anew [.ref 453] = [some (.ref 453), none] from rfl]
  refine I_iconst dX11_anew_0 ?_
  refine T_istore_n dX11_anew_1 (by decide) rfl ?_
  exact w
theorem anF_e0 (f : Int → Int) : EnC (anF f) e0M [] := by
  have z : ∀ j, (2 ≤ j ∧ j < 16) ∨ (246 ≤ j ∧ j < 1583) → anF f j = 0 := fun j h => if_pos h
  refine ⟨⟨z 2 (by omega), z 3 (by omega), z 6 (by omega)⟩, ⟨z 4 (by omega), by simp, fun i r hi => by cases hi⟩, ⟨z 5 (by omega), by simp [e0M, eLg], fun k a b => z _ (by omega), fun i r hi => by cases hi⟩, fun h a b _ => ?_, fun a u v => ⟨z _ (by omega), fun q => absurd rfl q, z _ (by omega), by simp [e0M, eWn], ⟨Int.le_refl 0, rfl⟩, fun t x ht => by cases ht⟩, fun h a b => ⟨z _ (by omega), by simp [e0M, eSg], fun i r hi => by cases hi⟩⟩
  show anF f (16 + 2 * h + 1) = 1
  unfold anF
  rw [if_neg (by omega), if_pos (by omega)]
theorem anF_pl {f : Int → Int} {pl : PL} (h : PlC f pl) (hP : PlOk pl) : PlC (anF f) pl := h.cg hP (fun i z => by
  unfold anF
  rw [if_neg (by omega), if_neg (by omega)])
end RPH
section RPI
variable {G : GT} {K : List SH} {M : MS} {tp : Int → Int} {n : Int} {S0 : SV}
theorem farH_iff {S : SV} {pl : PL} (hD : DrB pl) (h : HiR S pl) : farH pl ↔ ¬ fI S 453 13 < pHs pl := by
  obtain ⟨⟨g1, g2⟩, -⟩ := h
  have hb := hD.1
  constructor
  · intro ⟨d, i, d0, d1, i0, i1, q⟩
    have := g1 d i d0 (by omega) i0 i1
    omega
  · intro q
    rcases g2 with z | ⟨d, i, d0, d1, i0, i1, z⟩
    · omega
    · refine ⟨d, i, d0, ?_, i0, i1, by omega⟩
      refine Classical.byContradiction (fun y => ?_)
      have := hD.2.2.2.2.1 d d0 d1 (by omega)
      omega
theorem farD_iff {S : SV} {pl : PL} (hD : DrB pl) (h : HiR S pl) : farD pl ↔ ¬ fI S 453 14 < pDm pl := by
  obtain ⟨-, g1, g2⟩ := h
  have hb := hD.1
  constructor
  · intro ⟨a, a0, a1, q⟩
    have := g1 a (by omega) a1 q
    omega
  · intro q
    rcases g2 with z | ⟨a, a0, a1, a2, z⟩
    · omega
    · exact ⟨a, by omega, a1, a2⟩
theorem l_R_lines {Z : Except ER (PL × Int)} {Q : Option Value → List SH → SV → Prop} (hM : MoAt K) (hkE : ∀ (e : ER) (S' : SV) (ln' : Int), Z = .error e → BS S0 S' e → P G 7 0 0 mX11_text 72 [some (.ref 453), some (IV ln'), none] [] K S' Q) (hkO : ∀ (pl : PL) (t : TK) (S' : SV) (ln' : Int), Z = allM pl ln' n → DrOk pl → GS S0 S' tp n pl → TkS S' t → TkB n t → t.1 = 0 → P G 7 0 0 mX11_text 72 [some (.ref 453), some (IV ln'), none] [] K S' Q) (k : Nat) : ∀ (pl : PL) (pos ln : Int) (t : TK) (S : SV), n + 1 - ln = k → 0 ≤ ln ∧ ln ≤ pos → 0 ≤ pos ∧ pos ≤ n → tkM tp n pos = .ok t → linesM tp n k pl pos ln = Z → DrOk pl → GS S0 S tp n pl → TkS S t → P G 7 0 0 mX11_text 48 [some (.ref 453), some (IV ln), none] [] K S Q := by
  have m0 := hM.1
  have hbad : ∀ (e : ER) (S' : SV) (ln' : Int), Z = .error e → BS S0 S' e → P G 7 0 0 mX11_text 48 [some (.ref 453), some (IV ln'), none] [] K S' Q := by
    intro e S' ln' hZ hq
    have hq2 : 0 < fI S' 453 11 := by rw [hq.2.2.1]; exact hq.2.2.2.2
    have w := hkE e S' ln' hZ hq
    refine T_aload_n dX11_text_48 rfl rfl ?_
    refine P_geti dX11_text_49 fX11_60 (by assumption) rfl ?_
    refine I_if_ne (tgt := 72) dX11_text_52 (by decide) (hq.1.1 _ _) (fun h52 => ?_) (fun h52 => ?_)
    · exact w
    · omega
  induction k with
  | zero =>
    intro pl pos ln t S hk hl hp
    omega
  | succ k ih =>
    intro pl pos ln t S hk hl hp ht hZ hD hG hkt
    have hbt := tkM_b hp ht
    have hb := hbt.1
    have g6 := hG.2.2.2.2.2.1
    have rt : R32 t.1 := by rw [← hkt.1]; exact hG.1.1 _ _
    rw [linesM, ht] at hZ
    have hZ : (if t.1 = 0 then allM pl ln n else (lineM tp n pl t).bind fun q => linesM tp n k q.1 q.2 (ln + 1)) = Z := hZ
    by_cases h0 : t.1 = 0
    · rw [if_pos h0] at hZ
      have w := hkO pl t S ln hZ.symm hD hG hkt hb h0
      refine T_aload_n dX11_text_48 rfl rfl ?_
      refine P_geti dX11_text_49 fX11_60 (by assumption) rfl ?_
      rw [g6]
      refine I_if_ne (tgt := 72) dX11_text_52 (by decide) ⟨by omega, by omega⟩ (fun h52 => ?_) (fun h52 => ?_)
      · omega
      · refine T_aload_n dX11_text_55 rfl rfl ?_
        refine P_geti dX11_text_56 fX11_69 (by assumption) rfl ?_
        rw [hkt.1]
        refine I_if_eq (tgt := 72) dX11_text_59 (by decide) rt (fun h59 => ?_) (fun h59 => ?_)
        · exact w
        · exact absurd h0 h59
    · rw [if_neg h0] at hZ
      have c := p_line (G := G) hM hG hkt hb
      have hgo : ∀ S_, LXQ K S0 tp n (ln2 tp n (bodyM tp n pl t)) none K S_ → P G 7 0 0 mX11_text 48 [some (.ref 453), some (IV (ln + 1)), none] [] K S_ Q := by
        intro S_ hq
        obtain ⟨-, -, hq⟩ := hq
        unfold ln2 at hq
        rw [← line_b] at hq
        cases hX : lineM tp n pl t with
        | error e =>
          rw [hX] at hq hZ
          exact hbad e S_ (ln + 1) hZ.symm hq
        | ok q =>
          rw [hX] at hq hZ
          have hZ : linesM tp n k q.1 q.2 (ln + 1) = Z := hZ
          obtain ⟨qD, q1, q2⟩ := lineM_b hD hb h0 hX
          have hb1 := hb.1
          obtain ⟨k', rfl⟩ : ∃ k', k = k' + 1 := ⟨k - 1, by omega⟩
          have hq : match ((tkM tp n q.2).bind fun t3 => (Except.ok (q.1, t3) : Except ER (PL × TK))) with | .error e => BS S0 S_ e | .ok q => GS S0 S_ tp n q.1 ∧ TkS S_ q.2 := hq
          cases hY : tkM tp n q.2 with
          | error e =>
            rw [hY] at hq
            refine hbad e S_ (ln + 1) ?_ hq
            rw [← hZ, linesM, hY]
            rfl
          | ok t3 =>
            rw [hY] at hq
            exact ih q.1 q.2 (ln + 1) t3 S_ (by omega) ⟨by omega, by omega⟩ ⟨by omega, by omega⟩ hY hZ qD hq.1 hq.2
      refine T_aload_n dX11_text_48 rfl rfl ?_
      refine P_geti dX11_text_49 fX11_60 (by assumption) rfl ?_
      rw [g6]
      refine I_if_ne (tgt := 72) dX11_text_52 (by decide) ⟨by omega, by omega⟩ (fun h52 => ?_) (fun h52 => ?_)
      · omega
      · refine T_aload_n dX11_text_55 rfl rfl ?_
        refine P_geti dX11_text_56 fX11_69 (by assumption) rfl ?_
        rw [hkt.1]
        refine I_if_eq (tgt := 72) dX11_text_59 (by decide) rt (fun h59 => ?_) (fun h59 => ?_)
        · exact absurd h59 h0
        · refine T_aload_n dX11_text_62 rfl rfl ?_
          refine R_callV dX11_text_63 kX11_readLine lX11_140 (by assumption) rfl c rfl rfl (Nat.le_of_ble_eq_true rfl) (Nat.le_of_ble_eq_true rfl) (by decide) (by decide) (fun r_ K_ S_ q_ => ?_)
          have hq := q_
          obtain ⟨rfl, hKe, -⟩ := q_
          have hKe := hKe.symm
          subst hKe
          refine I_iinc dX11_text_66 rfl (by decide) rfl ?_
          refine T_goto (tgt := 48) dX11_text_69 (by decide) ?_
          exact hgo _ hq
theorem l_R_127e {S : SV} {e : ER} {ln : Int} (h : RR K S0 M) (hq : BS S0 S e) : P G 7 0 0 mX11_text 127 [some (.ref 453), some (IV ln), none] [] K S (RQ K S0 (-10 - e.2) (mFtS M e.1)) := by
  have hM := h.1.1
  have m0 := hM.1
  have hq2 : 0 < fI S 453 11 := by rw [hq.2.2.1]; exact hq.2.2.2.2
  have e11 : fI (sF S 453 6 0) 453 11 = e.1 := by rw [fFs (by omega)]; exact hq.2.2.1
  have e12 : fI (sF S 453 6 0) 453 12 = e.2 := by rw [fFs (by omega)]; exact hq.2.2.2.1
  have re : R32 e.1 := by rw [← hq.2.2.1]; exact hq.1.1 _ _
  have ha : ∀ a i, a ≠ 453 → a ≠ 455 → aI (sF S 453 6 0) a i = aI S0 a i := fun a i x y => (hq.2.1 a x y a (by omega) (by omega)).2.1 i
  obtain ⟨g1, g2, g3, g4, g5, g6⟩ := h
  have e454 : aI (sF S 453 6 0) 454 = aI S0 454 := funext (fun i => ha 454 i (by omega) (by omega))
  have hRR : RR K (sF S 453 6 0) (mFtS M e.1) := ⟨⟨g1.1, hq.1.sF (by decide), g1.2.2.1, by rw [e454]; exact g1.2.2.2.1, by rw [e454]; exact g1.2.2.2.2⟩, ⟨fFt, ⟨by show (0 : Int) ≤ 0; omega, by show (0 : Int) ≤ 200; omega⟩, fun i a b => by have b : i < 0 := b; omega⟩, e11, g4, RIm.wo g5 (fun i => ha 456 i (by omega) (by omega)) (fun i => ha 457 i (by omega) (by omega)), RSh.wo g6 (fun i => ha 463 i (by omega) (by omega)) (fun i => ha 464 i (by omega) (by omega)) (fun i => ha 465 i (by omega) (by omega))⟩
  have hO : Outs S0 (sF S 453 6 0) 453 466 := fun x y w a q1 q2 => (hq.2.1 a (by omega) (by omega) a (by omega) (by omega)) |> fun q => ⟨fun k => by rw [fI_sF, if_neg (by omega)]; exact q.1 k, q.2.1, q.2.2⟩
  refine T_aload_n dX11_text_127 rfl rfl ?_
  refine I_iconst dX11_text_128 ?_
  refine P_puti dX11_text_129 fX11_56 (by assumption) rfl rfl ?_
  refine T_aload_n dX11_text_132 rfl rfl ?_
  refine P_geti dX11_text_133 fX11_60 (by assumption) rfl ?_
  rw [e11]
  refine I_if_le (tgt := 147) dX11_text_136 (by decide) re (fun h136 => ?_) (fun h136 => ?_)
  · have := hq.2.2.2.2; omega
  · refine I_bipush dX11_text_139 (by decide) ?_
    refine T_aload_n dX11_text_141 rfl rfl ?_
    refine P_geti dX11_text_142 fX11_66 (by assumption) rfl ?_
    rw [e12]
    refine I_isub dX11_text_145 ?_
    exact I_ireturn dX11_text_146 rfl ⟨_, _, rfl, rfl, rfl, hRR, hO⟩
theorem l_R_copy {S : SV} {ln : Int} {pl : PL} (h : RR K S0 M) (hP : PlOk pl) (hG : GS S0 S tp n pl) (m : Nat) : ∀ (c : Int) (S1 : SV), 0 ≤ c → 246 - c = m → AllR S1 → (∀ a, a ≠ 454 → Same (sF S 453 6 0) S1 a (a + 1)) → (∀ j, 0 ≤ j → j < c → aI S1 454 j = aI S 455 j) → P G 7 0 0 mX11_text 149 [some (.ref 453), some (IV ln), some (IV c)] [] K S1 (RQ K S0 ln (mTxS M pl)) := by
  have hM := h.1.1
  have m0 := hM.1
  have m1 := hM.2.1
  have m2 := hM.2.2.1
  induction m with
  | zero =>
    intro c S1 h0 hm hA hs hf
    have c1 := p_anew (G := G) hM hA
    have hpc : PlC (aI S1 454) pl := hG.2.2.1.cg hP (fun i z => hf i (by omega) (by omega))
    have hfin : ∀ S', ANQ K S1 none K S' → RQ K S0 ln (mTxS M pl) (some (IV ln)) K S' := by
      intro S' hq
      obtain ⟨-, -, q1, q2, q3, q4, q5⟩ := hq
      have e454 : aI S' 454 = anF (aI S1 454) := funext q3
      have hf1 : ∀ k, fI S' 453 k = fI (sF S 453 6 0) 453 k := fun k => ((q2 453 (by omega) (by omega) 453 (by omega) (by omega)).1 k).trans ((hs 453 (by omega) 453 (by omega) (by omega)).1 k)
      have ha : ∀ a i, a ≠ 453 → a ≠ 454 → a ≠ 455 → a ≠ 457 → aI S' a i = aI S0 a i := fun a i x y z u => (((q2 a y u a (by omega) (by omega)).2.1 i).trans ((hs a y a (by omega) (by omega)).2.1 i)).trans ((hG.2.2.2.2.2.2 a x z a (by omega) (by omega)).2.1 i)
      obtain ⟨g1, g2, g3, g4, g5, g6⟩ := h
      refine ⟨rfl, rfl, ⟨⟨g1.1, q1, hP, by rw [e454]; exact anF_pl hpc hP, by rw [e454]; exact anF_e0 _⟩, ⟨by rw [hf1, fFt]; rfl, ⟨by show (0 : Int) ≤ 0; omega, by show (0 : Int) ≤ 200; omega⟩, fun i a b => by have b : i < 0 := b; omega⟩, by rw [hf1, fFs (by omega)]; exact hG.2.2.2.2.2.1, fun x hx => (by cases hx), fun k a b => Or.inl ⟨rfl, ?_⟩, RSh.wo g6 (fun i => ha 463 i (by omega) (by omega) (by omega) (by omega)) (fun i => ha 464 i (by omega) (by omega) (by omega) (by omega)) (fun i => ha 465 i (by omega) (by omega) (by omega) (by omega))⟩, ?_⟩
      · rcases (show k = 0 ∨ k = 1 by omega) with rfl | rfl
        · exact q4
        · exact q5
      · intro x y w a qa qb
        have t1 := q2 a (by omega) (by omega) a (by omega) (by omega)
        have t2 := hs a (by omega) a (by omega) (by omega)
        have t3 := hG.2.2.2.2.2.2 a (by omega) (by omega) a (by omega) (by omega)
        exact ⟨fun k => (t1.1 k).trans ((t2.1 k).trans (by rw [fI_sF, if_neg (by omega)]; exact t3.1 k)), fun k => (t1.2.1 k).trans ((t2.2.1 k).trans (t3.2.1 k)), fun k => (t1.2.2 k).trans ((t2.2.2 k).trans (t3.2.2 k))⟩
    refine T_iload_n dX11_text_149 rfl ?_
    refine I_sipush dX11_text_150 (by decide) ?_
    refine I_icmp_ge (tgt := 174) dX11_text_153 (by decide) ⟨by omega, by omega⟩ ⟨by omega, by omega⟩ (fun h153 => ?_) (fun h153 => ?_)
    · refine T_aload_n dX11_text_174 rfl rfl ?_
      refine R_callV dX11_text_175 kX11_anew lX11_47 (by assumption) rfl c1 rfl rfl (Nat.le_of_ble_eq_true rfl) (Nat.le_of_ble_eq_true rfl) (by decide) (by decide) (fun r_ K_ S_ q_ => ?_)
      have hq := q_
      obtain ⟨rfl, hKe, -⟩ := q_
      have hKe := hKe.symm
      subst hKe
      refine T_iload_n dX11_text_178 rfl ?_
      exact I_ireturn dX11_text_179 rfl ⟨_, _, rfl, hfin _ hq⟩
    · omega
  | succ m ih =>
    intro c S1 h0 hm hA hs hf
    have e : aI S1 455 c = aI S 455 c := (hs 455 (by omega) 455 (by omega) (by omega)).2.1 c
    have w := ih (c + 1) (sA S1 454 c (aI S 455 c)) (by omega) (by omega) (hA.sA (hG.1.2 _ _)) (fun a x => (hs a x).tr (Same.sA (by omega))) (fun j u v => by
      rw [aI_sA]
      by_cases ej : j = c
      · rw [if_pos ⟨rfl, ej⟩, ej]
      · rw [if_neg (fun z => ej z.2)]
        exact hf j u (by omega))
    refine T_iload_n dX11_text_149 rfl ?_
    refine I_sipush dX11_text_150 (by decide) ?_
    refine I_icmp_ge (tgt := 174) dX11_text_153 (by decide) ⟨by omega, by omega⟩ ⟨by omega, by omega⟩ (fun h153 => ?_) (fun h153 => ?_)
    · omega
    · refine T_aload_n dX11_text_156 rfl rfl ?_
      refine P_getr dX11_text_157 fX11_7 (by assumption) rfl ?_
      refine T_iload_n dX11_text_160 rfl ?_
      refine T_aload_n dX11_text_161 rfl rfl ?_
      refine P_getr dX11_text_162 fX11_13 (by assumption) rfl ?_
      refine T_iload_n dX11_text_165 rfl ?_
      refine P_iald dX11_text_166 (by assumption) ⟨by omega, by omega⟩ (by first | decide | omega) ?_
      rw [e]
      refine P_iast dX11_text_167 (by assumption) ⟨by omega, by omega⟩ (by first | decide | omega) ?_
      refine I_iinc dX11_text_168 rfl (by decide) rfl ?_
      refine T_goto (tgt := 149) dX11_text_171 (by decide) ?_
      exact w
noncomputable def txC (M : MS) (X : Except ER (PL × Int)) : Int × MS := match X with
  | .error e => (-10 - e.2, mFtS M e.1)
  | .ok q => (q.2, mTxS M q.1)
theorem l_R_72 {S : SV} {pl : PL} {t : TK} {ln : Int} (h : RR K S0 M) (hD : DrOk pl) (hG : GS S0 S tp n pl) (hk : TkS S t) (hb : TkB n t) (h0 : t.1 = 0) : P G 7 0 0 mX11_text 72 [some (.ref 453), some (IV ln), none] [] K S (RQ K S0 (txC M (allM pl ln n)).1 (txC M (allM pl ln n)).2) := by
  have hM := h.1.1
  have m0 := hM.1
  have m2 := hM.2.2.1
  obtain ⟨g1, g2, g3, g4, g5, g6, g7⟩ := id hG
  have e0 := g3.1.1
  have e1 := g3.1.2
  have hbn := hb.2.2.1 h0
  have r13 := g1.1 453 13
  have r14 := g1.1 453 14
  have hbb := g4.1
  by_cases hH : farH pl
  · have hv : allM pl ln n = .error (6, n) := if_pos hH
    rw [hv]
    have h13 := (farH_iff g4 g5).mp hH
    have hF := errS_q (c := 6) g1 (by decide)
    have hq : BS S0 (errS S 6) (6, n) := hG.bs hF errS_11 (by rw [errS_12, hk.2.1]; exact hbn) (by show (0 : Int) < 6; omega)
    have w := l_R_127e (G := G) (ln := ln) h hq
    have f14 : fI (errS S 6) 453 14 = fI S 453 14 := hF.2.2 14 (by omega)
    have a1 : aI (errS S 6) 455 1 = pDm pl := (hF.a (by omega) 1).trans e1
    refine T_aload_n dX11_text_72 rfl rfl ?_
    refine P_geti dX11_text_73 fX11_60 (by assumption) rfl ?_
    rw [g6]
    refine I_if_ne (tgt := 127) dX11_text_76 (by decide) ⟨by omega, by omega⟩ (fun h76 => ?_) (fun h76 => ?_)
    · omega
    · refine T_aload_n dX11_text_79 rfl rfl ?_
      refine T_aload_n dX11_text_80 rfl rfl ?_
      refine P_geti dX11_text_81 fX11_111 (by assumption) rfl ?_
      refine T_aload_n dX11_text_84 rfl rfl ?_
      refine P_getr dX11_text_85 fX11_13 (by assumption) rfl ?_
      refine I_iconst dX11_text_88 ?_
      refine P_iald dX11_text_89 (by assumption) ⟨by omega, by omega⟩ (by first | decide | omega) ?_
      rw [e0]
      refine I_icmp_ge (tgt := 97) dX11_text_90 (by decide) r13 ⟨by omega, by omega⟩ (fun h90 => ?_) (fun h90 => ?_)
      · refine I_iconst dX11_text_97 ?_
        refine I_bipush dX11_text_98 (by decide) ?_
        refine Q_callV dX11_text_100 kX11_requires lX11_94 (by assumption) rfl (p_req0 hM g6) rfl rfl (Nat.le_of_ble_eq_true rfl) (Nat.le_of_ble_eq_true rfl) (by decide) (by decide) ?_
        refine T_aload_n dX11_text_103 rfl rfl ?_
        refine T_aload_n dX11_text_104 rfl rfl ?_
        refine P_geti dX11_text_105 fX11_122 (by assumption) rfl ?_
        rw [f14]
        refine T_aload_n dX11_text_108 rfl rfl ?_
        refine P_getr dX11_text_109 fX11_13 (by assumption) rfl ?_
        refine I_iconst dX11_text_112 ?_
        refine P_iald dX11_text_113 (by assumption) ⟨by omega, by omega⟩ (by first | decide | omega) ?_
        rw [a1]
        refine I_icmp_ge (tgt := 121) dX11_text_114 (by decide) r14 ⟨by omega, by omega⟩ (fun h114 => ?_) (fun h114 => ?_)
        · refine I_iconst dX11_text_121 ?_
          refine I_bipush dX11_text_122 (by decide) ?_
          refine Q_callV dX11_text_124 kX11_requires lX11_94 (by assumption) rfl (p_reqF hM (by decide) hF.1 (by rw [errS_11]; omega)) rfl rfl (Nat.le_of_ble_eq_true rfl) (Nat.le_of_ble_eq_true rfl) (by decide) (by decide) ?_
          exact w
        · refine I_iconst dX11_text_117 ?_
          refine T_goto (tgt := 122) dX11_text_118 (by decide) ?_
          refine I_bipush dX11_text_122 (by decide) ?_
          refine Q_callV dX11_text_124 kX11_requires lX11_94 (by assumption) rfl (p_reqF hM (by decide) hF.1 (by rw [errS_11]; omega)) rfl rfl (Nat.le_of_ble_eq_true rfl) (Nat.le_of_ble_eq_true rfl) (by decide) (by decide) ?_
          exact w
      · omega
  · have h13 : fI S 453 13 < pHs pl := Classical.byContradiction (fun z => hH ((farH_iff g4 g5).mpr z))
    by_cases hDd : farD pl
    · have hv : allM pl ln n = .error (7, n) := by unfold allM; rw [if_neg hH, if_pos hDd]
      rw [hv]
      have h14 := (farD_iff g4 g5).mp hDd
      have hF := errS_q (c := 7) g1 (by decide)
      have hq : BS S0 (errS S 7) (7, n) := hG.bs hF errS_11 (by rw [errS_12, hk.2.1]; exact hbn) (by show (0 : Int) < 7; omega)
      have w := l_R_127e (G := G) (ln := ln) h hq
      refine T_aload_n dX11_text_72 rfl rfl ?_
      refine P_geti dX11_text_73 fX11_60 (by assumption) rfl ?_
      rw [g6]
      refine I_if_ne (tgt := 127) dX11_text_76 (by decide) ⟨by omega, by omega⟩ (fun h76 => ?_) (fun h76 => ?_)
      · omega
      · refine T_aload_n dX11_text_79 rfl rfl ?_
        refine T_aload_n dX11_text_80 rfl rfl ?_
        refine P_geti dX11_text_81 fX11_111 (by assumption) rfl ?_
        refine T_aload_n dX11_text_84 rfl rfl ?_
        refine P_getr dX11_text_85 fX11_13 (by assumption) rfl ?_
        refine I_iconst dX11_text_88 ?_
        refine P_iald dX11_text_89 (by assumption) ⟨by omega, by omega⟩ (by first | decide | omega) ?_
        rw [e0]
        refine I_icmp_ge (tgt := 97) dX11_text_90 (by decide) r13 ⟨by omega, by omega⟩ (fun h90 => ?_) (fun h90 => ?_)
        · omega
        · refine I_iconst dX11_text_93 ?_
          refine T_goto (tgt := 98) dX11_text_94 (by decide) ?_
          refine I_bipush dX11_text_98 (by decide) ?_
          refine Q_callV dX11_text_100 kX11_requires lX11_94 (by assumption) rfl (p_req1 hM) rfl rfl (Nat.le_of_ble_eq_true rfl) (Nat.le_of_ble_eq_true rfl) (by decide) (by decide) ?_
          refine T_aload_n dX11_text_103 rfl rfl ?_
          refine T_aload_n dX11_text_104 rfl rfl ?_
          refine P_geti dX11_text_105 fX11_122 (by assumption) rfl ?_
          refine T_aload_n dX11_text_108 rfl rfl ?_
          refine P_getr dX11_text_109 fX11_13 (by assumption) rfl ?_
          refine I_iconst dX11_text_112 ?_
          refine P_iald dX11_text_113 (by assumption) ⟨by omega, by omega⟩ (by first | decide | omega) ?_
          rw [e1]
          refine I_icmp_ge (tgt := 121) dX11_text_114 (by decide) r14 ⟨by omega, by omega⟩ (fun h114 => ?_) (fun h114 => ?_)
          · refine I_iconst dX11_text_121 ?_
            refine I_bipush dX11_text_122 (by decide) ?_
            refine Q_callV dX11_text_124 kX11_requires lX11_94 (by assumption) rfl (p_req0 hM g6) rfl rfl (Nat.le_of_ble_eq_true rfl) (Nat.le_of_ble_eq_true rfl) (by decide) (by decide) ?_
            exact w
          · omega
    · have h14 : fI S 453 14 < pDm pl := Classical.byContradiction (fun z => hDd ((farD_iff g4 g5).mpr z))
      have hv : allM pl ln n = .ok (pl, ln) := by unfold allM; rw [if_neg hH, if_neg hDd]
      have hP := (allM_ok hD hv).1
      rw [hv]
      have e11 : fI (sF S 453 6 0) 453 11 = 0 := by rw [fFs (by omega)]; exact g6
      have w := l_R_copy (G := G) (ln := ln) h hP hG 246 0 (sF S 453 6 0) (by omega) (by omega) (g1.sF (by decide)) (fun a x => Same.rf) (fun j u v => by omega)
      refine T_aload_n dX11_text_72 rfl rfl ?_
      refine P_geti dX11_text_73 fX11_60 (by assumption) rfl ?_
      rw [g6]
      refine I_if_ne (tgt := 127) dX11_text_76 (by decide) ⟨by omega, by omega⟩ (fun h76 => ?_) (fun h76 => ?_)
      · omega
      · refine T_aload_n dX11_text_79 rfl rfl ?_
        refine T_aload_n dX11_text_80 rfl rfl ?_
        refine P_geti dX11_text_81 fX11_111 (by assumption) rfl ?_
        refine T_aload_n dX11_text_84 rfl rfl ?_
        refine P_getr dX11_text_85 fX11_13 (by assumption) rfl ?_
        refine I_iconst dX11_text_88 ?_
        refine P_iald dX11_text_89 (by assumption) ⟨by omega, by omega⟩ (by first | decide | omega) ?_
        rw [e0]
        refine I_icmp_ge (tgt := 97) dX11_text_90 (by decide) r13 ⟨by omega, by omega⟩ (fun h90 => ?_) (fun h90 => ?_)
        · omega
        · refine I_iconst dX11_text_93 ?_
          refine T_goto (tgt := 98) dX11_text_94 (by decide) ?_
          refine I_bipush dX11_text_98 (by decide) ?_
          refine Q_callV dX11_text_100 kX11_requires lX11_94 (by assumption) rfl (p_req1 hM) rfl rfl (Nat.le_of_ble_eq_true rfl) (Nat.le_of_ble_eq_true rfl) (by decide) (by decide) ?_
          refine T_aload_n dX11_text_103 rfl rfl ?_
          refine T_aload_n dX11_text_104 rfl rfl ?_
          refine P_geti dX11_text_105 fX11_122 (by assumption) rfl ?_
          refine T_aload_n dX11_text_108 rfl rfl ?_
          refine P_getr dX11_text_109 fX11_13 (by assumption) rfl ?_
          refine I_iconst dX11_text_112 ?_
          refine P_iald dX11_text_113 (by assumption) ⟨by omega, by omega⟩ (by first | decide | omega) ?_
          rw [e1]
          refine I_icmp_ge (tgt := 121) dX11_text_114 (by decide) r14 ⟨by omega, by omega⟩ (fun h114 => ?_) (fun h114 => ?_)
          · omega
          · refine I_iconst dX11_text_117 ?_
            refine T_goto (tgt := 122) dX11_text_118 (by decide) ?_
            refine I_bipush dX11_text_122 (by decide) ?_
            refine Q_callV dX11_text_124 kX11_requires lX11_94 (by assumption) rfl (p_req1 hM) rfl rfl (Nat.le_of_ble_eq_true rfl) (Nat.le_of_ble_eq_true rfl) (by decide) (by decide) ?_
            refine T_aload_n dX11_text_127 rfl rfl ?_
            refine I_iconst dX11_text_128 ?_
            refine P_puti dX11_text_129 fX11_56 (by assumption) rfl rfl ?_
            refine T_aload_n dX11_text_132 rfl rfl ?_
            refine P_geti dX11_text_133 fX11_60 (by assumption) rfl ?_
            rw [e11]
            refine I_if_le (tgt := 147) dX11_text_136 (by decide) ⟨by omega, by omega⟩ (fun h136 => ?_) (fun h136 => ?_)
            · refine I_iconst dX11_text_147 ?_
              refine T_istore_n dX11_text_148 (by decide) rfl ?_
              exact w
            · omega
theorem l_R_clear {S : SV} {Q : Option Value → List SH → SV → Prop} (hM : MoAt K) (hr : AllR S) (hc : ∀ S1, AllR S1 → (∀ a, a ≠ 455 → Same S S1 a (a + 1)) → (∀ j, 0 ≤ j → j < 246 → aI S1 455 j = 0) → P G 7 0 0 mX11_text 44 [some (.ref 453), some (IV 0), none] [] K S1 Q) (m : Nat) : ∀ (c : Int) (S1 : SV), 0 ≤ c → 246 - c = m → AllR S1 → (∀ a, a ≠ 455 → Same S S1 a (a + 1)) → (∀ j, 0 ≤ j → j < c → aI S1 455 j = 0) → P G 7 0 0 mX11_text 24 [some (.ref 453), some (IV 0), some (IV c)] [] K S1 Q := by
  have m0 := hM.1
  have m2 := hM.2.2.1
  induction m with
  | zero =>
    intro c S1 h0 hm hA hs hf
    have w := hc S1 hA hs (fun j u v => hf j u (by omega))
    refine T_iload_n dX11_text_24 rfl ?_
    refine I_sipush dX11_text_25 (by decide) ?_
    refine I_icmp_ge (tgt := 44) dX11_text_28 (by decide) ⟨by omega, by omega⟩ ⟨by omega, by omega⟩ (fun h28 => ?_) (fun h28 => ?_)
    · refine T.forget 2 ?_
      exact w
    · omega
  | succ m ih =>
    intro c S1 h0 hm hA hs hf
    have w := ih (c + 1) (sA S1 455 c 0) (by omega) (by omega) (hA.sA (by decide)) (fun a x => (hs a x).tr (Same.sA (by omega))) (fun j u v => by
      rw [aI_sA]
      by_cases ej : j = c
      · rw [if_pos ⟨rfl, ej⟩]
      · rw [if_neg (fun z => ej z.2)]
        exact hf j u (by omega))
    refine T_iload_n dX11_text_24 rfl ?_
    refine I_sipush dX11_text_25 (by decide) ?_
    refine I_icmp_ge (tgt := 44) dX11_text_28 (by decide) ⟨by omega, by omega⟩ ⟨by omega, by omega⟩ (fun h28 => ?_) (fun h28 => ?_)
    · omega
    · refine T_aload_n dX11_text_31 rfl rfl ?_
      refine P_getr dX11_text_32 fX11_13 (by assumption) rfl ?_
      refine T_iload_n dX11_text_35 rfl ?_
      refine I_iconst dX11_text_36 ?_
      refine P_iast dX11_text_37 (by assumption) ⟨by omega, by omega⟩ (by first | decide | omega) ?_
      refine I_iinc dX11_text_38 rfl (by decide) rfl ?_
      refine T_goto (tgt := 24) dX11_text_41 (by decide) ?_
      exact w
theorem p0_PlC {f : Int → Int} (h : ∀ j, 0 ≤ j → j < 246 → f j = 0) : PlC f p0M := ⟨⟨h 0 (by omega) (by omega), h 1 (by omega) (by omega)⟩, fun x a b => h _ (by omega) (by omega), fun d a b => ⟨h _ (by omega) (by omega), fun i u v => by have v : i < 0 := v; omega⟩, fun a u v => ⟨h _ (by omega) (by omega), h _ (by omega) (by omega), fun i p q => by have q : i < 0 := q; omega⟩⟩
theorem p_R_text {S : SV} (h : RR K S M) : P G 7 0 0 mX11_text 0 (LE mX11_text [.ref 453]) [] K S (RQ K S (textC M).1 (textC M).2) := by
  have hM := h.1.1
  have m0 := hM.1
  have hr := h.1.2.1
  obtain ⟨n6, nb, nt⟩ := id h.2.1
  show P G 7 0 0 mX11_text 0 (LE mX11_text [.ref 453]) [] K S (RQ K S (txC M (textM (mTp M) (mN M))).1 (txC M (textM (mTp M) (mN M))).2)
  have hbad : ∀ (e : ER) (S' : SV) (ln' : Int), textM (mTp M) (mN M) = .error e → BS S S' e → P G 7 0 0 mX11_text 72 [some (.ref 453), some (IV ln'), none] [] K S' (RQ K S (txC M (textM (mTp M) (mN M))).1 (txC M (textM (mTp M) (mN M))).2) := by
    intro e S' ln' hZ hq
    rw [hZ]
    have hq2 : 0 < fI S' 453 11 := by rw [hq.2.2.1]; exact hq.2.2.2.2
    have w := l_R_127e (G := G) (ln := ln') h hq
    refine T_aload_n dX11_text_72 rfl rfl ?_
    refine P_geti dX11_text_73 fX11_60 (by assumption) rfl ?_
    refine I_if_ne (tgt := 127) dX11_text_76 (by decide) (hq.1.1 _ _) (fun h76 => ?_) (fun h76 => ?_)
    · exact w
    · omega
  have hok : ∀ (pl : PL) (t : TK) (S' : SV) (ln' : Int), textM (mTp M) (mN M) = allM pl ln' (mN M) → DrOk pl → GS S S' (mTp M) (mN M) pl → TkS S' t → TkB (mN M) t → t.1 = 0 → P G 7 0 0 mX11_text 72 [some (.ref 453), some (IV ln'), none] [] K S' (RQ K S (txC M (textM (mTp M) (mN M))).1 (txC M (textM (mTp M) (mN M))).2) := by
    intro pl t S' ln' hZ hD hG hk hb h0
    rw [hZ]
    exact l_R_72 h hD hG hk hb h0
  have h44 : ∀ S1, AllR S1 → (∀ a, a ≠ 455 → Same (sF (sF (sF (sF S 453 11 0) 453 7 0) 453 13 (-1)) 453 14 (-1)) S1 a (a + 1)) → (∀ j, 0 ≤ j → j < 246 → aI S1 455 j = 0) → P G 7 0 0 mX11_text 44 [some (.ref 453), some (IV 0), none] [] K S1 (RQ K S (txC M (textM (mTp M) (mN M))).1 (txC M (textM (mTp M) (mN M))).2) := by
    intro S1 hA hs hz
    have hf1 : ∀ k, fI S1 453 k = fI (sF (sF (sF (sF S 453 11 0) 453 7 0) 453 13 (-1)) 453 14 (-1)) 453 k := fun k => (hs 453 (by omega) 453 (by omega) (by omega)).1 k
    have f11 : fI S1 453 11 = 0 := by rw [hf1, fFs (by omega), fFs (by omega), fFs (by omega), fFt]
    have f7 : fI S1 453 7 = 0 := by rw [hf1, fFs (by omega), fFs (by omega), fFt]
    have f13 : fI S1 453 13 = -1 := by rw [hf1, fFs (by omega), fFt]
    have f14 : fI S1 453 14 = -1 := by rw [hf1, fFt]
    have f6 : fI S1 453 6 = mN M := by rw [hf1, fFs (by omega), fFs (by omega), fFs (by omega), fFs (by omega)]; exact n6
    have hT : tpOk S1 (mTp M) (mN M) := ⟨f6, nb, fun i a b => ⟨((hs 459 (by omega) 459 (by omega) (by omega)).2.1 i).trans (nt i a b).1, (nt i a b).2⟩⟩
    have hPq : Pq S S1 := fun a x y b q1 q2 => by
      have t1 := hs a y b q1 q2
      exact ⟨fun k => (t1.1 k).trans (by rw [fI_sF, if_neg (by omega), fI_sF, if_neg (by omega), fI_sF, if_neg (by omega), fI_sF, if_neg (by omega)]), t1.2.1, t1.2.2⟩
    have hG : GS S S1 (mTp M) (mN M) p0M := ⟨hA, hT, p0_PlC hz, p0_ok.1, ⟨⟨fun d i a b u v => by have v : i < 0 := v; omega, Or.inl f13⟩, fun a u v q => absurd rfl q, Or.inl f14⟩, f11, hPq⟩
    have c := p_reads (G := G) hM hA hT f11 f7 ⟨by omega, by omega⟩
    have hk : ∃ k : Nat, mN M + 1 - 0 = (k : Int) ∧ (mN M + 1).toNat = k := ⟨(mN M + 1).toNat, by omega, rfl⟩
    obtain ⟨k, hk1, hk2⟩ := hk
    have hZ : linesM (mTp M) (mN M) k p0M 0 0 = textM (mTp M) (mN M) := by unfold textM; rw [hk2]
    cases hX : tkM (mTp M) (mN M) 0 with
    | error e =>
      rw [hX] at c
      have hZe : textM (mTp M) (mN M) = .error e := by
        rw [← hZ]
        obtain ⟨k', rfl⟩ : ∃ k', k = k' + 1 := ⟨k - 1, by omega⟩
        rw [linesM, hX]
        rfl
      refine T_aload_n dX11_text_44 rfl rfl ?_
      refine R_callV dX11_text_45 kX11_reads lX11_101 (by assumption) rfl c rfl rfl (Nat.le_of_ble_eq_true rfl) (Nat.le_of_ble_eq_true rfl) (by decide) (by decide) (fun r_ K_ S_ q_ => ?_)
      obtain ⟨rfl, hKe, hF, q11, q12, q0⟩ := q_
      have hKe := hKe.symm
      subst hKe
      have w := hbad e S_ 0 hZe (hG.bs hF q11 q12 q0)
      refine T_aload_n dX11_text_48 rfl rfl ?_
      refine P_geti dX11_text_49 fX11_60 (by assumption) rfl ?_
      refine I_if_ne (tgt := 72) dX11_text_52 (by decide) (hF.1.1 _ _) (fun h52 => ?_) (fun h52 => ?_)
      · exact w
      · omega
    | ok t =>
      rw [hX] at c
      refine T_aload_n dX11_text_44 rfl rfl ?_
      refine R_callV dX11_text_45 kX11_reads lX11_101 (by assumption) rfl c rfl rfl (Nat.le_of_ble_eq_true rfl) (Nat.le_of_ble_eq_true rfl) (by decide) (by decide) (fun r_ K_ S_ q_ => ?_)
      obtain ⟨rfl, hKe, hF, q11, hkt⟩ := q_
      have hKe := hKe.symm
      subst hKe
      have w := l_R_lines (G := G) (S0 := S) hM hbad hok k p0M 0 0 t S_ hk1 ⟨by omega, by omega⟩ ⟨by omega, by omega⟩ hX hZ p0_ok (hG.fq hF q11) hkt
      exact w
  have hA4 : AllR (sF (sF (sF (sF S 453 11 0) 453 7 0) 453 13 (-1)) 453 14 (-1)) := (((hr.sF (by decide)).sF (by decide)).sF (by decide)).sF (by decide)
  have w := l_R_clear (G := G) hM hA4 h44 246 0 _ (by omega) (by omega) hA4 (fun a x => Same.rf) (fun j u v => by omega)
  rw [show LE mX11_text [.ref 453] = [some (.ref 453), none, none] from rfl]
  refine I_iconst dX11_text_0 ?_
  refine T_istore_n dX11_text_1 (by decide) rfl ?_
  refine T_aload_n dX11_text_2 rfl rfl ?_
  refine I_iconst dX11_text_3 ?_
  refine P_puti dX11_text_4 fX11_60 (by assumption) rfl rfl ?_
  refine T_aload_n dX11_text_7 rfl rfl ?_
  refine I_iconst dX11_text_8 ?_
  refine P_puti dX11_text_9 fX11_72 (by assumption) rfl rfl ?_
  refine T_aload_n dX11_text_12 rfl rfl ?_
  refine I_iconst dX11_text_13 ?_
  refine P_puti dX11_text_14 fX11_111 (by assumption) rfl rfl ?_
  refine T_aload_n dX11_text_17 rfl rfl ?_
  refine I_iconst dX11_text_18 ?_
  refine P_puti dX11_text_19 fX11_122 (by assumption) rfl rfl ?_
  refine I_iconst dX11_text_22 ?_
  refine T_istore_n dX11_text_23 (by decide) rfl ?_
  exact w
theorem p_R_feed {S : SV} {c : Int} (h : RR K S M) (hc : R32 c) : P G 1 0 0 mX11_feed 0 (LE mX11_feed [.ref 453, IV c]) [] K S (RQ K S (feedM M c).1 (feedM M c).2) := by
  have hM := h.1.1
  have m0 := hM.1
  have m6 := hM.2.2.2.2.2.2.1
  obtain ⟨n6, nb, nt⟩ := id h.2.1
  unfold feedM
  by_cases a1 : 0 ≤ c ∧ c ≤ 127
  · rw [if_pos a1]
    by_cases a2 : mN M < 200
    · rw [if_pos a2]
      have e6 : fI (sA S 459 (mN M) c) 453 6 = mN M := n6
      have e6' : fI (sF (sA S 459 (mN M) c) 453 6 (mN M + 1)) 453 6 = mN M + 1 := fFt
      obtain ⟨g1, g2, g3, g4, g5, g6⟩ := h
      have hRR : RR K (sF (sA S 459 (mN M) c) 453 6 (mN M + 1)) (mTpS M (fset (mTp M) (mN M) c) (mN M + 1)) := ⟨(g1.oth (by omega) hc).sFm ⟨by omega, by omega⟩, ⟨fFt, ⟨by show 0 ≤ mN M + 1; omega, by show mN M + 1 ≤ 200; omega⟩, fun i a b => by
        have b : i < mN M + 1 := b
        show aI (sA S 459 (mN M) c) 459 i = fset (mTp M) (mN M) c i ∧ 0 ≤ fset (mTp M) (mN M) c i ∧ fset (mTp M) (mN M) c i ≤ 127
        rw [aI_sA]
        by_cases e : i = mN M
        · rw [if_pos ⟨rfl, e⟩, e, fset_t]; exact ⟨rfl, a1.1, a1.2⟩
        · rw [if_neg (fun z => e z.2), fset_f _ _ e]
          exact nt i a (by omega)⟩, by rw [fFs (by omega)]; exact g3, g4, RIm.wo g5 (fun i => by show aI (sA S 459 (mN M) c) 456 i = _; rw [aI_sA, if_neg (by omega)]) (fun i => by show aI (sA S 459 (mN M) c) 457 i = _; rw [aI_sA, if_neg (by omega)]), RSh.wo g6 (fun i => by show aI (sA S 459 (mN M) c) 463 i = _; rw [aI_sA, if_neg (by omega)]) (fun i => by show aI (sA S 459 (mN M) c) 464 i = _; rw [aI_sA, if_neg (by omega)]) (fun i => by show aI (sA S 459 (mN M) c) 465 i = _; rw [aI_sA, if_neg (by omega)])⟩
      have hO : Outs S (sF (sA S 459 (mN M) c) 453 6 (mN M + 1)) 453 466 := fun x y w => (Same.sA (by omega)).tr (Same.sF (by omega))
      rw [show LE mX11_feed [.ref 453, IV c] = [some (.ref 453), some (IV c)] from rfl]
      refine T_iload_n dX11_feed_0 rfl ?_
      refine I_i2l dX11_feed_1 hc ?_
      refine I_lconst dX11_feed_2 ?_
      refine I_ldc2 (n := 127) dX11_feed_3 qX11_50 rfl ?_
      refine Q_callS dX11_feed_6 kX11_in lX11_52 (p_in (lo := 0) ⟨by omega, by omega⟩ (by decide) (by decide)) rfl rfl (Nat.le_of_ble_eq_true rfl) (Nat.le_of_ble_eq_true rfl) (by decide) (by decide) ?_
      rw [b2p_t (show inB c 0 127 from a1)]
      refine I_if_ne (tgt := 14) dX11_feed_9 (by decide) ⟨by omega, by omega⟩ (fun h9 => ?_) (fun h9 => ?_)
      · refine T_aload_n dX11_feed_14 rfl rfl ?_
        refine P_geti dX11_feed_15 fX11_56 (by assumption) rfl ?_
        rw [n6]
        refine I_sipush dX11_feed_18 (by decide) ?_
        refine I_icmp_ne (tgt := 27) dX11_feed_21 (by decide) ⟨by omega, by omega⟩ ⟨by omega, by omega⟩ (fun h21 => ?_) (fun h21 => ?_)
        · refine T_aload_n dX11_feed_27 rfl rfl ?_
          refine P_getr dX11_feed_28 fX11_26 (by assumption) rfl ?_
          refine T_aload_n dX11_feed_31 rfl rfl ?_
          refine P_geti dX11_feed_32 fX11_56 (by assumption) rfl ?_
          rw [n6]
          refine T_iload_n dX11_feed_35 rfl ?_
          refine P_iast dX11_feed_36 (by assumption) ⟨by omega, by omega⟩ (by first | decide | omega) ?_
          refine T_aload_n dX11_feed_37 rfl rfl ?_
          refine T_dup dX11_feed_38 rfl ?_
          refine P_geti dX11_feed_39 fX11_56 (by assumption) rfl ?_
          rw [e6]
          refine I_iconst dX11_feed_42 ?_
          refine I_iadd dX11_feed_43 ?_
          refine P_puti dX11_feed_44 fX11_56 (by assumption) rfl rfl ?_
          refine T_aload_n dX11_feed_47 rfl rfl ?_
          refine P_geti dX11_feed_48 fX11_56 (by assumption) rfl ?_
          rw [e6']
          exact I_ireturn dX11_feed_51 rfl ⟨_, _, rfl, rfl, rfl, hRR, hO⟩
        · omega
      · cases h9
    · rw [if_neg a2]
      rw [show LE mX11_feed [.ref 453, IV c] = [some (.ref 453), some (IV c)] from rfl]
      refine T_iload_n dX11_feed_0 rfl ?_
      refine I_i2l dX11_feed_1 hc ?_
      refine I_lconst dX11_feed_2 ?_
      refine I_ldc2 (n := 127) dX11_feed_3 qX11_50 rfl ?_
      refine Q_callS dX11_feed_6 kX11_in lX11_52 (p_in (lo := 0) ⟨by omega, by omega⟩ (by decide) (by decide)) rfl rfl (Nat.le_of_ble_eq_true rfl) (Nat.le_of_ble_eq_true rfl) (by decide) (by decide) ?_
      rw [b2p_t (show inB c 0 127 from a1)]
      refine I_if_ne (tgt := 14) dX11_feed_9 (by decide) ⟨by omega, by omega⟩ (fun h9 => ?_) (fun h9 => ?_)
      · refine T_aload_n dX11_feed_14 rfl rfl ?_
        refine P_geti dX11_feed_15 fX11_56 (by assumption) rfl ?_
        rw [n6]
        refine I_sipush dX11_feed_18 (by decide) ?_
        refine I_icmp_ne (tgt := 27) dX11_feed_21 (by decide) ⟨by omega, by omega⟩ ⟨by omega, by omega⟩ (fun h21 => ?_) (fun h21 => ?_)
        · omega
        · refine I_bipush dX11_feed_24 (by decide) ?_
          exact I_ireturn dX11_feed_26 rfl ⟨_, _, rfl, RQ.here h⟩
      · cases h9
  · rw [if_neg a1]
    rw [show LE mX11_feed [.ref 453, IV c] = [some (.ref 453), some (IV c)] from rfl]
    refine T_iload_n dX11_feed_0 rfl ?_
    refine I_i2l dX11_feed_1 hc ?_
    refine I_lconst dX11_feed_2 ?_
    refine I_ldc2 (n := 127) dX11_feed_3 qX11_50 rfl ?_
    refine Q_callS dX11_feed_6 kX11_in lX11_52 (p_in (lo := 0) ⟨by omega, by omega⟩ (by decide) (by decide)) rfl rfl (Nat.le_of_ble_eq_true rfl) (Nat.le_of_ble_eq_true rfl) (by decide) (by decide) ?_
    rw [b2p_f (show ¬ inB c 0 127 from a1)]
    refine I_if_ne (tgt := 14) dX11_feed_9 (by decide) ⟨by omega, by omega⟩ (fun h9 => ?_) (fun h9 => ?_)
    · exact absurd rfl h9
    · refine I_iconst dX11_feed_12 ?_
      exact I_ireturn dX11_feed_13 rfl ⟨_, _, rfl, RQ.here h⟩
theorem p_R_end {S : SV} {k : Int} (h : RR K S M) (hc : R32 k) : P G 1 0 0 mX11_end 0 (LE mX11_end [.ref 453, IV k]) [] K S (RQ K S (endC M k).1 (endC M k).2) := by
  have hM := h.1.1
  have m0 := hM.1
  obtain ⟨n6, nb, nt⟩ := id h.2.1
  unfold endC
  by_cases a1 : 0 ≤ k ∧ k ≤ mN M
  · rw [if_pos a1]
    obtain ⟨g1, g2, g3, g4, g5, g6⟩ := h
    have hRR : RR K (sF S 453 6 k) (mTpS M (mTp M) k) := ⟨g1.sFm hc, ⟨fFt, ⟨a1.1, by show k ≤ 200; omega⟩, fun i a b => nt i a (by have b : i < k := b; omega)⟩, by rw [fFs (by omega)]; exact g3, g4, g5, g6⟩
    rw [show LE mX11_end [.ref 453, IV k] = [some (.ref 453), some (IV k), none] from rfl]
    refine T_iload_n dX11_end_0 rfl ?_
    refine I_i2l dX11_end_1 hc ?_
    refine I_lconst dX11_end_2 ?_
    refine T_aload_n dX11_end_3 rfl rfl ?_
    refine P_geti dX11_end_4 fX11_56 (by assumption) rfl ?_
    rw [n6]
    refine I_i2l dX11_end_7 ⟨by omega, by omega⟩ ?_
    refine Q_callS dX11_end_8 kX11_in lX11_52 (p_in (lo := 0) ⟨by omega, by omega⟩ (by decide) ⟨by omega, by omega⟩) rfl rfl (Nat.le_of_ble_eq_true rfl) (Nat.le_of_ble_eq_true rfl) (by decide) (by decide) ?_
    rw [b2p_t (show inB k 0 (mN M) from a1)]
    refine I_if_ne (tgt := 16) dX11_end_11 (by decide) ⟨by omega, by omega⟩ (fun h11 => ?_) (fun h11 => ?_)
    · refine T_aload_n dX11_end_16 rfl rfl ?_
      refine P_geti dX11_end_17 fX11_56 (by assumption) rfl ?_
      rw [n6]
      refine T_istore_n dX11_end_20 (by decide) rfl ?_
      refine T_aload_n dX11_end_21 rfl rfl ?_
      refine T_iload_n dX11_end_22 rfl ?_
      refine P_puti dX11_end_23 fX11_56 (by assumption) rfl rfl ?_
      refine T_iload_n dX11_end_26 rfl ?_
      exact I_ireturn dX11_end_27 rfl ⟨_, _, rfl, rfl, rfl, hRR, fun x y w => Same.sF (by omega)⟩
    · cases h11
  · rw [if_neg a1]
    rw [show LE mX11_end [.ref 453, IV k] = [some (.ref 453), some (IV k), none] from rfl]
    refine T_iload_n dX11_end_0 rfl ?_
    refine I_i2l dX11_end_1 hc ?_
    refine I_lconst dX11_end_2 ?_
    refine T_aload_n dX11_end_3 rfl rfl ?_
    refine P_geti dX11_end_4 fX11_56 (by assumption) rfl ?_
    rw [n6]
    refine I_i2l dX11_end_7 ⟨by omega, by omega⟩ ?_
    refine Q_callS dX11_end_8 kX11_in lX11_52 (p_in (lo := 0) ⟨by omega, by omega⟩ (by decide) ⟨by omega, by omega⟩) rfl rfl (Nat.le_of_ble_eq_true rfl) (Nat.le_of_ble_eq_true rfl) (by decide) (by decide) ?_
    rw [b2p_f (show ¬ inB k 0 (mN M) from a1)]
    refine I_if_ne (tgt := 16) dX11_end_11 (by decide) ⟨by omega, by omega⟩ (fun h11 => ?_) (fun h11 => ?_)
    · exact absurd rfl h11
    · refine I_iconst dX11_end_14 ?_
      exact I_ireturn dX11_end_15 rfl ⟨_, _, rfl, RQ.here h⟩
theorem p_R_fault {S : SV} (h : RR K S M) : P G 0 0 0 mX11_fault 0 (LE mX11_fault [.ref 453]) [] K S (RQ K S (mFt M) M) := by
  have m0 := h.1.1.1
  have h3 := h.2.2.1
  rw [show LE mX11_fault [.ref 453] = [some (.ref 453)] from rfl]
  refine T_aload_n dX11_fault_0 rfl rfl ?_
  refine P_geti dX11_fault_1 fX11_60 (by assumption) rfl ?_
  rw [h3]
  exact I_ireturn dX11_fault_4 rfl ⟨_, _, rfl, RQ.here h⟩
end RPI
