/-! a row of letters is taken -/
def refB (p : PL) (L : Int) (f : Int → Int) (i : Int) : Prop := ¬ letB p (f (3 * i)) (f (3 * i + 1)) (f (3 * i + 2)) ∨ 60 ≤ L + i
theorem refM_0 {p : PL} {n h f t : Int} : refM p n h f t = 0 ↔ letB p h f t ∧ ¬ 60 ≤ n := by
  unfold refM
  by_cases q : letB p h f t
  · rw [if_pos q]
    by_cases q2 : 60 ≤ n
    · rw [if_pos q2]
      exact ⟨fun z => by omega, fun z => absurd q2 z.2⟩
    · rw [if_neg q2]
      exact ⟨fun _ => ⟨q, q2⟩, fun _ => rfl⟩
  · rw [if_neg q]
    exact ⟨fun z => by omega, fun z => absurd z.1 q⟩
theorem refM_R {p : PL} {n h f t : Int} : R32 (refM p n h f t) := by
  unfold refM
  by_cases q : letB p h f t
  · rw [if_pos q]
    split <;> decide
  · rw [if_neg q]
    decide
noncomputable def sendsM (p : PL) (f : Int → Int) : Nat → Int → EN × List Row → EN × List Row
  | 0, _, x => x
  | m + 1, i, x => sendsM p f m (i + 1) (sendM p x (f (3 * i)) (f (3 * i + 1)) (f (3 * i + 2))).2
noncomputable def takeM (p : PL) (x : EN × List Row) (f : Int → Int) (n : Int) : Int × EN × List Row := if fndF (refB p x.2.length f) n.toNat 0 = -4 then (n, sendsM p f n.toNat 0 x) else (-20 - fndF (refB p x.2.length f) n.toNat 0, x)
/-- a sheet of at least n cells, as f says -/
def CellsR (K : List SH) (S : SV) (o : Nat) (n : Int) (f : Int → Int) : Prop := (∃ nb ni, SheetAt K o nb ni ∧ (fI S o 0 = 0 → n ≤ nb) ∧ (¬ fI S o 0 = 0 → n ≤ ni)) ∧ ∀ i, 0 ≤ i → i < n → cellO S o i = f i ∧ R32 (f i)
theorem CellsR.same {K : List SH} {S S' : SV} {o : Nat} {n : Int} {f : Int → Int} (h : CellsR K S o n f) (hs : Same S S' o (o + 3)) : CellsR K S' o n f := by
  obtain ⟨⟨nb, ni, h1, h2, h3⟩, h4⟩ := h
  have e0 : fI S' o 0 = fI S o 0 := (hs o (by omega) (by omega)).1 0
  refine ⟨⟨nb, ni, h1, by rw [e0]; exact h2, by rw [e0]; exact h3⟩, fun i a b => ?_⟩
  have e1 := (hs (o + 1) (by omega) (by omega)).2.1 i
  have e2 := (hs (o + 2) (by omega) (by omega)).2.1 i
  unfold cellO
  rw [e0, e1, e2]
  exact h4 i a b
section TakeA
variable {G : GT} {K : List SH} {c p r : Nat} {pl : PL}
theorem p_cellsR {S : SV} {o : Nat} {n i : Int} {f : Int → Int} (h : CellsR K S o n f) (hr : AllR S) (hi : 0 ≤ i ∧ i < n) : P G 0 0 0 mX7_cell 0 (LE mX7_cell [.ref o, IV i]) [] K S (Ret K (some (IV (f i))) S) := by
  obtain ⟨⟨nb, ni, h1, h2, h3⟩, h4⟩ := h
  have e := p_Sheet_cell (G := G) h1 hr hi.1 (fun z => by have := h2 z; omega) (fun z => by have := h3 z; omega)
  rw [(h4 i hi.1 hi.2).1] at e
  exact e
theorem l_all2 {o : Nat} {n : Int} {f : Int → Int} (ho : r + 142 ≤ o) (hn : n ≤ 6) (m : Nat) : ∀ (i : Int) (S : SV) (e : EN) (its : List Row) (N : Int), 0 ≤ i → n - i = m → CT K S c p r its e pl N → CellsR K S o (3 * n) f → N + 2 * m ≤ 1000000000 → P G 3 0 0 mX2_takeAll 53 [some (.ref c), some (.ref o), some (IV n), some (IV i)] [] K S (LQ K S c p r pl (n, sendsM pl f m i (e, its)) (N + 2 * m)) := by
  induction m with
  | zero =>
    intro i S e its N h0 hm hC hc hN
    refine T_iload_n dX2_takeAll_53 rfl ?_
    refine T_iload_n dX2_takeAll_54 rfl ?_
    refine I_icmp_ge (tgt := 94) dX2_takeAll_55 (by decide) ⟨by omega, by omega⟩ ⟨by omega, by omega⟩ (fun h55 => ?_) (fun h55 => ?_)
    · refine T_iload_n dX2_takeAll_94 rfl ?_
      exact I_ireturn dX2_takeAll_95 rfl ⟨_, _, rfl, rfl, rfl, Outs.rf, hC.mono (by omega) hN⟩
    · omega
  | succ m ih =>
    intro i S e its N h0 hm hC hc hN
    have hr : AllR S := hC.1.elim (fun ad z => z.2.2.1)
    have kc : K[c]? = some (.inr (2, [some p, some r])) := hC.1.elim (fun ad z => z.1.1)
    have ks : K[o]? = some (.inr (7, [none, none, some (o + 1), some (o + 2)])) := hc.1.elim (fun nb z => z.elim (fun ni z => z.1.1))
    have g0 := (hc.2 (3 * i) (by omega) (by omega)).2
    have g1 := (hc.2 (3 * i + 1) (by omega) (by omega)).2
    have g2 := (hc.2 (3 * i + 2) (by omega) (by omega)).2
    rw [sendsM]
    refine T_iload_n dX2_takeAll_53 rfl ?_
    refine T_iload_n dX2_takeAll_54 rfl ?_
    refine I_icmp_ge (tgt := 94) dX2_takeAll_55 (by decide) ⟨by omega, by omega⟩ ⟨by omega, by omega⟩ (fun h55 => ?_) (fun h55 => ?_)
    · omega
    · refine T_aload_n dX2_takeAll_58 rfl rfl ?_
      refine T_aload_n dX2_takeAll_59 rfl rfl ?_
      refine I_iconst dX2_takeAll_60 ?_
      refine T_iload_n dX2_takeAll_61 rfl ?_
      refine I_imul dX2_takeAll_62 ?_
      refine Q_callV dX2_takeAll_63 kX7_cell lX2_64 (by assumption) rfl (p_cellsR hc hr ⟨by omega, by omega⟩) rfl rfl (Nat.le_of_ble_eq_true rfl) (Nat.le_of_ble_eq_true rfl) (by decide) (by decide) ?_
      refine T_aload_n dX2_takeAll_66 rfl rfl ?_
      refine I_iconst dX2_takeAll_67 ?_
      refine T_iload_n dX2_takeAll_68 rfl ?_
      refine I_imul dX2_takeAll_69 ?_
      refine I_iconst dX2_takeAll_70 ?_
      refine I_iadd dX2_takeAll_71 ?_
      refine Q_callV dX2_takeAll_72 kX7_cell lX2_64 (by assumption) rfl (p_cellsR hc hr ⟨by omega, by omega⟩) rfl rfl (Nat.le_of_ble_eq_true rfl) (Nat.le_of_ble_eq_true rfl) (by decide) (by decide) ?_
      refine T_aload_n dX2_takeAll_75 rfl rfl ?_
      refine I_iconst dX2_takeAll_76 ?_
      refine T_iload_n dX2_takeAll_77 rfl ?_
      refine I_imul dX2_takeAll_78 ?_
      refine I_iconst dX2_takeAll_79 ?_
      refine I_iadd dX2_takeAll_80 ?_
      refine Q_callV dX2_takeAll_81 kX7_cell lX2_64 (by assumption) rfl (p_cellsR hc hr ⟨by omega, by omega⟩) rfl rfl (Nat.le_of_ble_eq_true rfl) (Nat.le_of_ble_eq_true rfl) (by decide) (by decide) ?_
      refine R_callV dX2_takeAll_84 kX2_takeLetter lX2_70 (by assumption) rfl (p_takeLetter hC g0 g1 g2 (by omega)) rfl rfl (Nat.le_of_ble_eq_true rfl) (Nat.le_of_ble_eq_true rfl) (by decide) (by decide) (fun r_ K_ S_ q_ => ?_)
      obtain ⟨rfl, hKe, hO1, hC1⟩ := q_
      have hKe := hKe.symm
      subst hKe
      have z := ih (i + 1) S_ _ _ _ (by omega) (by omega) hC1 (hc.same (hO1 _ _ (Or.inr ho))) (by omega)
      refine T_pop dX2_takeAll_87 rfl ?_
      refine I_iinc dX2_takeAll_88 rfl (by decide) rfl ?_
      refine T_goto (tgt := 53) dX2_takeAll_91 (by decide) ?_
      exact P.weaken z (fun r' K' S' q => ⟨q.1, q.2.1, hO1.tr q.2.2.1, by
        have q4 := q.2.2.2
        rw [show N + 2 + 2 * (m : Int) = N + 2 * ((m + 1 : Nat) : Int) by omega] at q4
        exact q4⟩)
theorem l_all1 {o : Nat} {n : Int} {f : Int → Int} {S : SV} {e : EN} {its : List Row} {N : Int} (ho : r + 142 ≤ o) (hn : 0 ≤ n ∧ n ≤ 6) (hC : CT K S c p r its e pl N) (hc : CellsR K S o (3 * n) f) (hN : N + 20 ≤ 1000000000) (m : Nat) : ∀ (i : Int), 0 ≤ i → n - i = m → fndF (refB pl its.length f) n.toNat 0 = fndF (refB pl its.length f) m i → P G 3 0 0 mX2_takeAll 2 [some (.ref c), some (.ref o), some (IV n), some (IV i)] [] K S (LQ K S c p r pl (takeM pl (e, its) f n) (N + 20)) := by
  have hr : AllR S := hC.1.elim (fun ad z => z.2.2.1)
  have kc : K[c]? = some (.inr (2, [some p, some r])) := hC.1.elim (fun ad z => z.1.1)
  have ks : K[o]? = some (.inr (7, [none, none, some (o + 1), some (o + 2)])) := hc.1.elim (fun nb z => z.elim (fun ni z => z.1.1))
  have h60 := hC.2.2.2
  induction m with
  | zero =>
    intro i h0 hm hf
    have hf : fndF (refB pl its.length f) n.toNat 0 = -4 := hf
    have hM : takeM pl (e, its) f n = (n, sendsM pl f n.toNat 0 (e, its)) := if_pos hf
    rw [hM]
    have z := l_all2 (G := G) ho hn.2 n.toNat 0 S e its N (by omega) (by omega) hC hc (by omega)
    refine T_iload_n dX2_takeAll_2 rfl ?_
    refine T_iload_n dX2_takeAll_3 rfl ?_
    refine I_icmp_ge (tgt := 51) dX2_takeAll_4 (by decide) ⟨by omega, by omega⟩ ⟨by omega, by omega⟩ (fun h4 => ?_) (fun h4 => ?_)
    · refine I_iconst dX2_takeAll_51 ?_
      refine T_istore_n dX2_takeAll_52 (by decide) rfl ?_
      exact P.weaken z (fun r' K' S' q => ⟨q.1, q.2.1, q.2.2.1, q.2.2.2.mono (by omega) hN⟩)
    · omega
  | succ m ih =>
    intro i h0 hm hf
    have g0 := (hc.2 (3 * i) (by omega) (by omega)).2
    have g1 := (hc.2 (3 * i + 1) (by omega) (by omega)).2
    have g2 := (hc.2 (3 * i + 2) (by omega) (by omega)).2
    refine T_iload_n dX2_takeAll_2 rfl ?_
    refine T_iload_n dX2_takeAll_3 rfl ?_
    refine I_icmp_ge (tgt := 51) dX2_takeAll_4 (by decide) ⟨by omega, by omega⟩ ⟨by omega, by omega⟩ (fun h4 => ?_) (fun h4 => ?_)
    · omega
    · refine T_aload_n dX2_takeAll_7 rfl rfl ?_
      refine T_aload_n dX2_takeAll_8 rfl rfl ?_
      refine I_iconst dX2_takeAll_9 ?_
      refine T_iload_n dX2_takeAll_10 rfl ?_
      refine I_imul dX2_takeAll_11 ?_
      refine Q_callV dX2_takeAll_12 kX7_cell lX2_64 (by assumption) rfl (p_cellsR hc hr ⟨by omega, by omega⟩) rfl rfl (Nat.le_of_ble_eq_true rfl) (Nat.le_of_ble_eq_true rfl) (by decide) (by decide) ?_
      refine T_aload_n dX2_takeAll_15 rfl rfl ?_
      refine I_iconst dX2_takeAll_16 ?_
      refine T_iload_n dX2_takeAll_17 rfl ?_
      refine I_imul dX2_takeAll_18 ?_
      refine I_iconst dX2_takeAll_19 ?_
      refine I_iadd dX2_takeAll_20 ?_
      refine Q_callV dX2_takeAll_21 kX7_cell lX2_64 (by assumption) rfl (p_cellsR hc hr ⟨by omega, by omega⟩) rfl rfl (Nat.le_of_ble_eq_true rfl) (Nat.le_of_ble_eq_true rfl) (by decide) (by decide) ?_
      refine T_aload_n dX2_takeAll_24 rfl rfl ?_
      refine I_iconst dX2_takeAll_25 ?_
      refine T_iload_n dX2_takeAll_26 rfl ?_
      refine I_imul dX2_takeAll_27 ?_
      refine I_iconst dX2_takeAll_28 ?_
      refine I_iadd dX2_takeAll_29 ?_
      refine Q_callV dX2_takeAll_30 kX7_cell lX2_64 (by assumption) rfl (p_cellsR hc hr ⟨by omega, by omega⟩) rfl rfl (Nat.le_of_ble_eq_true rfl) (Nat.le_of_ble_eq_true rfl) (by decide) (by decide) ?_
      refine T_iload_n dX2_takeAll_33 rfl ?_
      refine Q_callV dX2_takeAll_34 kX2_refusal lX2_40 (by assumption) rfl (p_refusal hC g0 g1 g2 ⟨by omega, by omega⟩) rfl rfl (Nat.le_of_ble_eq_true rfl) (Nat.le_of_ble_eq_true rfl) (by decide) (by decide) ?_
      refine I_if_eq (tgt := 45) dX2_takeAll_37 (by decide) refM_R (fun h37 => ?_) (fun h37 => ?_)
      · have hz := refM_0.mp h37
        rw [fndF_f (fun z => by
          rcases z with z | z
          · exact z hz.1
          · exact hz.2 z)] at hf
        have z := ih (i + 1) (by omega) (by omega) hf
        refine I_iinc dX2_takeAll_45 rfl (by decide) rfl ?_
        refine T_goto (tgt := 2) dX2_takeAll_48 (by decide) ?_
        exact z
      · have hM : takeM pl (e, its) f n = (-20 - i, (e, its)) := by
          have hb : refB pl its.length f i := by
            by_cases q : letB pl (f (3 * i)) (f (3 * i + 1)) (f (3 * i + 2))
            · by_cases q2 : 60 ≤ (its.length : Int) + i
              · exact Or.inr q2
              · exact absurd (refM_0.mpr ⟨q, q2⟩) h37
            · exact Or.inl q
          rw [fndF_t (by omega) hb] at hf
          unfold takeM
          rw [if_neg (by show ¬ fndF (refB pl its.length f) n.toNat 0 = -4; rw [hf]; omega)]
          show (-20 - fndF (refB pl its.length f) n.toNat 0, e, its) = _
          rw [hf]
        rw [hM]
        refine I_bipush dX2_takeAll_40 (by decide) ?_
        refine T_iload_n dX2_takeAll_42 rfl ?_
        refine I_isub dX2_takeAll_43 ?_
        exact I_ireturn dX2_takeAll_44 rfl ⟨_, _, rfl, rfl, rfl, Outs.rf, hC.mono (by omega) hN⟩
theorem p_takeAll {o : Nat} {n : Int} {f : Int → Int} {S : SV} {e : EN} {its : List Row} {N : Int} (ho : r + 142 ≤ o) (hn : 0 ≤ n ∧ n ≤ 6) (hC : CT K S c p r its e pl N) (hc : CellsR K S o (3 * n) f) (hN : N + 20 ≤ 1000000000) : P G 3 0 0 mX2_takeAll 0 (LE mX2_takeAll [.ref c, .ref o, IV n]) [] K S (LQ K S c p r pl (takeM pl (e, its) f n) (N + 20)) := by
  have z := l_all1 (G := G) ho hn hC hc hN n.toNat 0 (by omega) (by omega) rfl
  rw [show LE mX2_takeAll [.ref c, .ref o, IV n] = [some (.ref c), some (.ref o), some (IV n), none] from rfl]
  refine I_iconst dX2_takeAll_0 ?_
  refine T_istore_n dX2_takeAll_1 (by decide) rfl ?_
  exact z
end TakeA
