/-! Tape: a text -/
def DrOk (pl : PL) : Prop := DrB pl ∧ ∀ a, 0 ≤ a → a < 32 → pKd pl a = 2 → 1 ≤ pLc pl a
theorem signM_b {n : Int} {q : PL × TK} {r : PL × Int} (hb : TkB n q.2) (h : signM q = .ok r) : r.1 = q.1 ∧ q.2.2.1 < r.2 ∧ r.2 ≤ n := by
  unfold signM at h
  by_cases e : q.2.1 = 3
  · rw [if_pos e] at h
    injection h with h
    subst h
    exact ⟨rfl, hb.2.2.2.1 (by omega), hb.1.2.2⟩
  · rw [if_neg e] at h
    cases h
theorem rcvsM_b {tp : Int → Int} {n d : Int} : ∀ (m : Nat) (pl : PL) (k : TK) (q : PL × TK), DrB pl → TkB n k → 0 ≤ d ∧ d < pDm pl → pRc pl d + m ≤ 3 → rcvsM tp n d m pl k = .ok q → DrB q.1 ∧ TkB n q.2 ∧ k.2.1 ≤ q.2.2.1 ∧ pLc q.1 = pLc pl ∧ pKd q.1 = pKd pl
  | 0, pl, k, q, hD, hb, hd, hm, h => by
    rw [rcvsM] at h
    by_cases e : k.1 = 2
    · rw [if_pos e] at h; cases h
    · rw [if_neg e] at h
      injection h with h
      subst h
      exact ⟨hD, hb, Int.le_refl _, rfl, rfl⟩
  | m + 1, pl, k, q, hD, hb, hd, hm, h => by
    rw [rcvsM] at h
    by_cases e : k.1 = 2
    · rw [if_pos e] at h
      obtain ⟨r, h1, h⟩ := bind_ok h
      obtain ⟨t3, h2, h⟩ := bind_ok h
      have br := rcvM_b hD hb hd (by omega) h1
      have br1 := br.2.2.1.1
      have hb1 := hb.1
      have b3 := tkM_b ⟨by omega, by omega⟩ h2
      have c := rcvsM_b m r.1 t3 q br.2.1 b3.1 (by rw [br.2.2.2.2.2.1]; exact hd) (by rw [br.2.2.2.2.1]; omega) h
      exact ⟨c.1, c.2.1, by have := c.2.2.1; omega, c.2.2.2.1.trans br.2.2.2.2.2.2.1, c.2.2.2.2.trans br.2.2.2.2.2.2.2⟩
    · rw [if_neg e] at h
      injection h with h
      subst h
      exact ⟨hD, hb, Int.le_refl _, rfl, rfl⟩
theorem lstM_b {tp : Int → Int} {n a : Int} (ha : 0 ≤ a ∧ a < 32) : ∀ (m : Nat) (pl : PL) (k : TK) (q : PL × TK), DrB pl → TkB n k → pKd pl a ≠ 0 → pLc pl a + m ≤ 4 → lstM tp n a m pl k = .ok q → DrB q.1 ∧ TkB n q.2 ∧ k.2.1 ≤ q.2.2.1 ∧ (∀ x, pLc pl x ≤ pLc q.1 x) ∧ pKd q.1 = pKd pl
  | 0, pl, k, q, hD, hb, hk, hm, h => by
    rw [lstM] at h
    by_cases e : k.1 = 2
    · rw [if_pos e] at h; cases h
    · rw [if_neg e] at h
      injection h with h
      subst h
      exact ⟨hD, hb, Int.le_refl _, fun _ => Int.le_refl _, rfl⟩
  | m + 1, pl, k, q, hD, hb, hk, hm, h => by
    rw [lstM] at h
    by_cases e : k.1 = 2
    · rw [if_pos e] at h
      obtain ⟨r, h1, h⟩ := bind_ok h
      obtain ⟨t3, h2, h⟩ := bind_ok h
      have br := tgtM_b hD hb ha hk (by omega) h1
      have br1 := br.2.2.1.1
      have hb1 := hb.1
      have b3 := tkM_b ⟨by omega, by omega⟩ h2
      have c := lstM_b ha m r.1 t3 q br.2.1 b3.1 (by rw [br.2.2.2.2.2]; exact hk) (by rw [br.2.2.2.2.1]; omega) h
      refine ⟨c.1, c.2.1, by have := c.2.2.1; omega, fun x => Int.le_trans ?_ (c.2.2.2.1 x), c.2.2.2.2.trans br.2.2.2.2.2⟩
      unfold tgtM at h1
      obtain ⟨r', h3, h1⟩ := bind_ok h1
      by_cases e2 : leadsP pl a r'.1
      · rw [if_pos e2] at h1; cases h1
      · rw [if_neg e2] at h1
        injection h1 with h1
        subst h1
        show pLc pl x ≤ fset (pLc pl) a (pLc pl a + 1) x
        by_cases e3 : x = a
        · rw [e3, fset_t]; omega
        · rw [fset_f _ _ e3]; omega
    · rw [if_neg e] at h
      injection h with h
      subst h
      exact ⟨hD, hb, Int.le_refl _, fun _ => Int.le_refl _, rfl⟩
theorem lineM_b {tp : Int → Int} {n : Int} {pl : PL} {k : TK} {q : PL × Int} (hD : DrOk pl) (hb : TkB n k) (hs : k.1 ≠ 0) (h : lineM tp n pl k = .ok q) : DrOk q.1 ∧ k.2.1 < q.2 ∧ q.2 ≤ n := by
  have hb1 := hb.1
  have hlt := hb.2.2.2.1 hs
  obtain ⟨hD, hA⟩ := hD
  have hd4 := hD.1
  unfold lineM at h
  by_cases w0 : wordM tp k 0
  · rw [if_pos w0] at h
    unfold houseM at h
    by_cases e5 : 5 ≤ pHs pl
    · rw [if_pos e5] at h; cases h
    · rw [if_neg e5] at h
      obtain ⟨t2, h2, h⟩ := bind_ok h
      have b2 := tkM_b ⟨by omega, by omega⟩ h2
      have b21 := b2.1.1
      by_cases w5 : wordM tp t2 5
      · have h : ((tkM tp n t2.2.2.1).bind fun t3 => signM (addHM pl 1, t3)) = .ok q := by
          rw [if_pos w5] at h; exact h
        obtain ⟨t3, h3, h⟩ := bind_ok h
        have b3 := tkM_b ⟨by omega, by omega⟩ h3
        have s := signM_b b3.1 h
        rw [s.1]
        exact ⟨⟨hD.addH (by omega) (Or.inr rfl), hA⟩, by have : t3.2.1 < q.2 := s.2.1; have := b3.2; omega, s.2.2⟩
      · have h : signM (addHM pl 0, t2) = .ok q := by
          rw [if_neg w5] at h; exact h
        have s := signM_b b2.1 h
        rw [s.1]
        exact ⟨⟨hD.addH (by omega) (Or.inl rfl), hA⟩, by have : t2.2.1 < q.2 := s.2.1; have := b2.2; omega, s.2.2⟩
  · rw [if_neg w0] at h
    by_cases w1 : wordM tp k 1
    · rw [if_pos w1] at h
      unfold domM at h
      by_cases e5 : 4 ≤ pDm pl
      · rw [if_pos e5] at h; cases h
      · rw [if_neg e5] at h
        obtain ⟨t2, h2, h⟩ := bind_ok h
        obtain ⟨r, h3, h⟩ := bind_ok h
        have b2 := tkM_b ⟨by omega, by omega⟩ h2
        have br := rcvsM_b 3 (addDM pl) t2 r (hD.addD (by omega)) b2.1 ⟨by omega, by show pDm pl < pDm pl + 1; omega⟩ (by show pRc pl (pDm pl) + 3 ≤ 3; rw [hD.2.2.2.2.1 (pDm pl) (by omega) (by omega) (by omega)]; omega) h3
        have s := signM_b br.2.1 h
        rw [s.1]
        refine ⟨⟨br.1, fun a u v z => ?_⟩, by have := s.2.1; have := b2.2; have := br.2.2.1; omega, s.2.2⟩
        rw [br.2.2.2.2] at z
        rw [br.2.2.2.1]
        exact hA a u v z
    · rw [if_neg w1] at h
      by_cases w2 : wordM tp k 2
      · rw [if_pos w2, boxM_eq] at h
        obtain ⟨r, h2, h⟩ := bind_ok h
        obtain ⟨e, h3, h⟩ := bind_ok h
        injection h with h
        subst h
        have br := rtoldM_b ⟨by omega, by omega⟩ h2
        have br1 := br.2.1.1
        have be := endM_b ⟨by omega, by omega⟩ h3
        refine ⟨⟨by show DrB r.1; rw [br.2.2.2.2]; exact hD.tell br.1 (by decide), fun a u v z => ?_⟩, by show k.2.1 < e; omega, be.2⟩
        have z : pKd r.1 a = 2 := z
        show 1 ≤ pLc r.1 a
        rw [br.2.2.2.2] at z ⊢
        have z : fset (pKd pl) r.2.1 1 a = 2 := z
        by_cases e3 : a = r.2.1
        · rw [e3, fset_t] at z; omega
        · rw [fset_f _ _ e3] at z
          exact hA a u v z
      · rw [if_neg w2] at h
        by_cases w3 : wordM tp k 3
        · rw [if_pos w3, aliM_eq hD hb] at h
          unfold aliC at h
          obtain ⟨r, h2, h⟩ := bind_ok h
          obtain ⟨t4, h3, h⟩ := bind_ok h
          obtain ⟨x, h4, h⟩ := bind_ok h
          obtain ⟨e, h5, h⟩ := bind_ok h
          injection h with h
          subst h
          have br := rtoldM_b ⟨by omega, by omega⟩ h2
          have br1 := br.2.1.1
          have b4 := tkM_b ⟨by omega, by omega⟩ h3
          have bx := addrM_b b4.1 h4
          have bx1 := bx.2.1.1
          have b41 := b4.1.1
          have be := endM_b ⟨by omega, by omega⟩ h5
          have hD1 : DrB r.1 := by rw [br.2.2.2.2]; exact hD.tell br.1 (by decide)
          have hk1 : pKd r.1 r.2.1 = 2 := by
            rw [br.2.2.2.2]
            show fset (pKd pl) r.2.1 2 r.2.1 = 2
            rw [fset_t]
          have hL1 : pLc r.1 r.2.1 = 0 := by
            rw [br.2.2.2.2]
            exact (hD.2.2.2.1 r.2.1 br.1.1 br.1.2).2.1 br.2.2.2.1
          refine ⟨⟨hD1.addLd br.1 (by omega) (by omega) bx.1, fun a u v z => ?_⟩, by show k.2.1 < e; omega, be.2⟩
          have z : pKd r.1 a = 2 := z
          show 1 ≤ fset (pLc r.1) r.2.1 (pLc r.1 r.2.1 + 1) a
          by_cases e3 : a = r.2.1
          · rw [e3, fset_t]; omega
          · rw [fset_f _ _ e3]
            rw [br.2.2.2.2] at z ⊢
            have z : fset (pKd pl) r.2.1 2 a = 2 := z
            rw [fset_f _ _ e3] at z
            exact hA a u v z
        · rw [if_neg w3] at h
          by_cases w4 : wordM tp k 4
          · rw [if_pos w4] at h
            unfold lisM at h
            obtain ⟨t2, g2, h⟩ := bind_ok h
            obtain ⟨r, h2, h⟩ := bind_ok h
            obtain ⟨t4, h3, h⟩ := bind_ok h
            obtain ⟨x, h4, h⟩ := bind_ok h
            obtain ⟨t6, h5, h⟩ := bind_ok h
            obtain ⟨y, h6, h⟩ := bind_ok h
            have b2 := tkM_b ⟨by omega, by omega⟩ g2
            have b21 := b2.1.1
            have br := toldM_b b2.1 h2
            have br1 := br.2.1.1
            have b4 := tkM_b ⟨by omega, by omega⟩ h3
            have b41 := b4.1.1
            have hD1 : DrB r.1 := by rw [br.2.2.2.2]; exact hD.tell br.1 (by decide)
            have hk1 : pKd r.1 r.2.1 = 3 := by
              rw [br.2.2.2.2]
              show fset (pKd pl) r.2.1 3 r.2.1 = 3
              rw [fset_t]
            have hL1 : pLc r.1 r.2.1 = 0 := by
              rw [br.2.2.2.2]
              exact (hD.2.2.2.1 r.2.1 br.1.1 br.1.2).2.1 br.2.2.2.1
            have bx := tgtM_b hD1 b4.1 br.1 (by omega) (by omega) h4
            have bx1 := bx.2.2.1.1
            have b6 := tkM_b ⟨by omega, by omega⟩ h5
            have b61 := b6.1.1
            have by' := lstM_b br.1 3 x.1 t6 y bx.2.1 b6.1 (by rw [bx.2.2.2.2.2]; omega) (by rw [bx.2.2.2.2.1]; omega) h6
            have s := signM_b by'.2.1 h
            rw [s.1]
            refine ⟨⟨by'.1, fun a u v z => ?_⟩, by have := s.2.1; have := by'.2.2.1; omega, s.2.2⟩
            rw [by'.2.2.2.2, bx.2.2.2.2.2] at z
            by_cases e3 : a = r.2.1
            · rw [e3] at z; omega
            · refine Int.le_trans ?_ (by'.2.2.2.1 a)
              have e4 : pLc x.1 a = pLc r.1 a := by
                unfold tgtM at h4
                obtain ⟨r', h7, h4⟩ := bind_ok h4
                by_cases e2 : leadsP r.1 r.2.1 r'.1
                · rw [if_pos e2] at h4; cases h4
                · rw [if_neg e2] at h4
                  injection h4 with h4
                  subst h4
                  exact fset_f _ _ e3
              rw [e4]
              rw [br.2.2.2.2] at z ⊢
              have z : fset (pKd pl) r.2.1 3 a = 2 := z
              rw [fset_f _ _ e3] at z
              exact hA a u v z
          · rw [if_neg w4] at h
            cases h
theorem p0_ok : DrOk p0M := by
  refine ⟨⟨⟨⟨by decide, by decide⟩, by decide, by decide⟩, ⟨fun d _ _ => ⟨Int.le_refl 0, by show (0 : Int) ≤ 3; omega⟩, fun a _ _ => ⟨Int.le_refl 0, by show (0 : Int) ≤ 4; omega⟩⟩, fun d i _ _ i0 i1 => ?_, fun a _ _ => ⟨⟨Int.le_refl 0, by show (0 : Int) ≤ 3; omega⟩, fun _ => rfl, fun i i0 i1 => ?_⟩, fun d _ _ _ => rfl, fun h h0 h1 => ?_⟩, fun a _ _ z => ?_⟩
  · have i1 : i < 0 := i1
    omega
  · have i1 : i < 0 := i1
    omega
  · have h1 : h < 0 := h1
    omega
  · have z : (0 : Int) = 2 := z
    omega
theorem allM_ok {pl : PL} {ln n : Int} {q : PL × Int} (hD : DrOk pl) (h : allM pl ln n = .ok q) : PlOk q.1 ∧ q = (pl, ln) := by
  unfold allM at h
  by_cases h1 : farH pl
  · rw [if_pos h1] at h; cases h
  · rw [if_neg h1] at h
    by_cases h2 : farD pl
    · rw [if_pos h2] at h; cases h
    · rw [if_neg h2] at h
      injection h with h
      subst h
      obtain ⟨⟨a1, a2, a3, a4, a5, a6⟩, a7⟩ := hD
      refine ⟨⟨a1.1, a1.2, fun d u v => ⟨(a2.1 d u v).1, (a2.1 d u v).2, a5 d u v⟩, fun d i u v i0 i1 => ?_, a6, fun a u v => ?_⟩, rfl⟩
      · obtain ⟨b1, b2, b3⟩ := a3 d i u v i0 i1
        refine ⟨⟨b1.1, ?_⟩, b2, b3⟩
        apply Classical.byContradiction
        intro z
        by_cases e : d < pDm pl
        · exact h1 ⟨d, i, u, e, i0, i1, by have z : ¬ pRh pl d i < pHs pl := z; omega⟩
        · have := a5 d u v (by omega)
          have i1 : i < pRc pl d := i1
          omega
      · obtain ⟨b1, b2, b3⟩ := a4 a u v
        refine ⟨b1, a2.2 a u v, a7 a u v, fun z => ?_, b3⟩
        apply Classical.byContradiction
        intro y
        exact h2 ⟨a, by have y : ¬ a < 8 * pDm pl := y; omega, v, z⟩
theorem linesM_ok {tp : Int → Int} {n : Int} : ∀ (m : Nat) (pl : PL) (pos ln : Int) (q : PL × Int), DrOk pl → 0 ≤ pos ∧ pos ≤ n → 0 ≤ ln ∧ ln ≤ pos → linesM tp n m pl pos ln = .ok q → PlOk q.1 ∧ 0 ≤ q.2 ∧ q.2 ≤ n
  | 0, pl, pos, ln, q, _, _, _, h => by cases h
  | m + 1, pl, pos, ln, q, hD, h0, hl, h => by
    rw [linesM] at h
    obtain ⟨t, h1, h⟩ := bind_ok h
    have bt := tkM_b h0 h1
    by_cases e : t.1 = 0
    · rw [if_pos e] at h
      obtain ⟨c1, c2⟩ := allM_ok hD h
      refine ⟨c1, ?_⟩
      rw [c2]
      exact ⟨hl.1, by show ln ≤ n; omega⟩
    · rw [if_neg e] at h
      obtain ⟨r, h2, h⟩ := bind_ok h
      have br := lineM_b hD bt.1 e h2
      have := bt.2
      exact linesM_ok m r.1 r.2 (ln + 1) q br.1 ⟨by omega, br.2.2⟩ ⟨by omega, by omega⟩ h
theorem textM_ok {tp : Int → Int} {n : Int} {q : PL × Int} (hn : 0 ≤ n) (h : textM tp n = .ok q) : PlOk q.1 ∧ 0 ≤ q.2 ∧ q.2 ≤ n := linesM_ok _ _ _ _ _ p0_ok ⟨by omega, hn⟩ ⟨by omega, by omega⟩ h
theorem PlOk.B {pl : PL} (h : PlOk pl) : PlB pl := ⟨fun d u v => ⟨(h.2.2.1 d u v).1, (h.2.2.1 d u v).2.1⟩, fun a u v => (h.2.2.2.2.2 a u v).2.1⟩
section Text
variable {G : GT} {K : List SH} {t : Nat} {tp : Int → Int} {n : Int}
def TXP (K : List SH) (S0 : SV) (t : Nat) (n : Int) (X : Except ER (PL × Int)) : Option Value → List SH → SV → Prop := fun rv K' S' => K' = K ∧ Outs S0 S' t (t + 12) ∧ AllR S' ∧ fI S' t 1 = n ∧ match X with
  | .error e => rv = some (IV 0) ∧ fI S' t 8 = e.1 ∧ fI S' t 9 = e.2
  | .ok q => rv = some (IV 1) ∧ fI S' t 8 = 0 ∧ PlanR S' (t + 2) q.1 ∧ fI S' t 10 = q.2
theorem TXP.of {S0 S S' : SV} {rv : Option Value} {K' : List SH} {X : Except ER (PL × Int)} {α : Type} {Y : Except ER α} {Rel : α → SV → Prop} (hO : Outs S0 S t (t + 12)) (h1 : fI S t 1 = n) (h8 : fI S t 8 = 0) (h : TPQ K S t Y Rel rv K' S') (he : ∀ e, Y = .error e → X = .error e) (ha : ∀ a, Y = .ok a → Rel a S' → fI S' t 10 = fI S t 10 → ∃ q, X = .ok q ∧ PlanR S' (t + 2) q.1 ∧ fI S' t 10 = q.2) : TXP K S0 t n X rv K' S' := by
  obtain ⟨g1, g2, g3⟩ := h
  refine ⟨g1, hO.tr g2.1, g2.2.2.1, g2.2.2.2.1.trans h1, ?_⟩
  cases hY : Y with
  | error e =>
    rw [he e hY]
    rw [hY] at g3
    exact g3
  | ok a =>
    rw [hY] at g3
    obtain ⟨q, e1, e2, e3⟩ := ha a hY g3.2.2 g2.2.2.2.2
    rw [e1]
    exact ⟨g3.1, g3.2.1.trans h8, e2, e3⟩
/-- the line's reader is done: lines goes up, the loop goes on -/
theorem s_T_text {S0 S : SV} {pl : PL} {k : TK} {m : Nat} {ln : Int} {rv : Option Value} {K' : List SH} {S' : SV} (hT : TapeAt K t) (hB : TB S t tp n) (hb : TkB n k) (hk0 : k.1 ≠ 0) (hD : DrOk pl) (h8 : fI S t 8 = 0) (h10 : fI S t 10 = ln) (hl : 0 ≤ ln ∧ ln ≤ n) (hO : Outs S0 S t (t + 12)) (q_ : TPQ K S t (lineM tp n pl k) (lineR t) rv K' S') (z : ∀ (q : PL × Int) (S2 : SV), lineM tp n pl k = .ok q → TB S2 t tp n → PlanR S2 (t + 2) q.1 → fI S2 t 3 = q.2 → fI S2 t 8 = 0 → fI S2 t 10 = ln + 1 → Outs S0 S2 t (t + 12) → P G 6 0 0 mX9_readText 22 [some (.ref t), none] [] K S2 (TXP K S0 t n (linesM tp n m q.1 q.2 (ln + 1)))) : P G 6 0 0 mX9_readText 139 [some (.ref t), none] (rv.toList ++ []) K' S' (TXP K S0 t n ((lineM tp n pl k).bind fun q => linesM tp n m q.1 q.2 (ln + 1))) := by
  have k0 := hT.1
  obtain ⟨hKe, hC1, hx⟩ := q_
  have hKe := hKe.symm
  subst hKe
  cases hX : lineM tp n pl k with
  | error e =>
    rw [hX] at hx
    obtain ⟨rfl, g8, g9⟩ := hx
    refine T_istore_n dX9_readText_139 (by decide) rfl ?_
    refine T_iload_n dX9_readText_140 rfl ?_
    refine I_if_ne (tgt := 146) dX9_readText_141 (by decide) (by decide) (fun h141 => ?_) (fun h141 => ?_)
    · exact absurd rfl h141
    · refine I_iconst dX9_readText_144 ?_
      exact I_zreturn dX9_readText_145 rfl (by decide) ⟨_, _, rfl, rfl, hO.tr hC1.1, hC1.2.2.1, hC1.2.2.2.1.trans hB.2.1, rfl, g8, g9⟩
  | ok q =>
    rw [hX] at hx
    obtain ⟨rfl, g8, g1, g3⟩ := hx
    have bq := lineM_b hD hb hk0 hX
    have g10 : fI S' t 10 = ln := hC1.2.2.2.2.trans h10
    have hn := hB.2.2.2
    have w := z q (sF S' t 10 (ln + 1)) hX ⟨hC1.2.2.1.sF ⟨by omega, by omega⟩, by rw [fI_sF, if_neg (by omega)]; exact hC1.2.2.2.1.trans hB.2.1, (hB.cm hC1).2.2.1, hB.2.2.2⟩ (g1.same (Same.sF (by omega))) (by rw [fI_sF, if_neg (by omega)]; exact g3) (by rw [fI_sF, if_neg (by omega)]; exact g8.trans h8) (by rw [fI_sF, if_pos ⟨rfl, rfl⟩]) (hO.tr (hC1.1.tr (fun x y u => Same.sF (by omega))))
    show P G 6 0 0 mX9_readText 139 [some (.ref t), none] [IV 1] K S' (TXP K S0 t n (linesM tp n m q.1 q.2 (ln + 1)))
    refine T_istore_n dX9_readText_139 (by decide) rfl ?_
    refine T_iload_n dX9_readText_140 rfl ?_
    refine I_if_ne (tgt := 146) dX9_readText_141 (by decide) (by decide) (fun h141 => ?_) (fun h141 => ?_)
    · refine T_aload_n dX9_readText_146 rfl rfl ?_
      refine T_dup dX9_readText_147 rfl ?_
      refine P_geti dX9_readText_148 fX9_32 (by assumption) rfl ?_
      rw [g10]
      refine I_iconst dX9_readText_151 ?_
      refine I_iadd dX9_readText_152 ?_
      refine P_puti dX9_readText_153 fX9_32 (by assumption) rfl rfl ?_
      refine T_goto (tgt := 22) dX9_readText_156 (by decide) ?_
      refine T.forget 1 ?_
      exact w
    · cases h141
theorem l_T_text {S0 : SV} (hT : TapeAt K t) (m : Nat) : ∀ (pos ln : Int) (S : SV) (pl : PL), n + 1 - ln = m → 0 ≤ ln ∧ ln ≤ pos → pos ≤ n → TB S t tp n → PlanR S (t + 2) pl → DrOk pl → fI S t 3 = pos → fI S t 8 = 0 → fI S t 10 = ln → Outs S0 S t (t + 12) → P G 6 0 0 mX9_readText 22 [some (.ref t), none] [] K S (TXP K S0 t n (linesM tp n m pl pos ln)) := by
  have k0 := hT.1
  induction m with
  | zero =>
    intro pos ln S pl hm hl hp
    omega
  | succ m ih =>
    intro pos ln S pl hm hl hp hB hR hD hp3 h8 h10 hO
    rw [linesM]
    cases hX : tkM tp n pos with
    | error e =>
      refine T_aload_n dX9_readText_22 rfl rfl ?_
      refine P_geti dX9_readText_23 fX9_32 (by assumption) rfl ?_
      rw [h10]
      refine T_aload_n dX9_readText_26 rfl rfl ?_
      refine P_geti dX9_readText_27 fX9_35 (by assumption) rfl ?_
      rw [hB.2.1]
      refine I_icmp_gt (tgt := 159) dX9_readText_30 (by decide) ⟨by have := hB.2.2.2; omega, by have := hB.2.2.2; omega⟩ ⟨by have := hB.2.2.2; omega, by have := hB.2.2.2; omega⟩ (fun h30 => ?_) (fun h30 => ?_)
      · omega
      · refine T_aload_n dX9_readText_33 rfl rfl ?_
        refine R_callV dX9_readText_34 kX9_readToken lX9_38 (by assumption) rfl (p_T_token hT hB hp3 ⟨by omega, hp⟩) rfl rfl (Nat.le_of_ble_eq_true rfl) (Nat.le_of_ble_eq_true rfl) (by decide) (by decide) (fun r_ K_ S_ q_ => ?_)
        obtain ⟨hKe, hC1, hx⟩ := q_; have hKe := hKe.symm; subst hKe; rw [hX] at hx; obtain ⟨rfl, g8, g9⟩ := hx
        refine I_if_ne (tgt := 42) dX9_readText_37 (by decide) (by decide) (fun h37 => ?_) (fun h37 => ?_)
        · exact absurd rfl h37
        · refine I_iconst dX9_readText_40 ?_
          exact I_zreturn dX9_readText_41 rfl (by decide) ⟨_, _, rfl, rfl, hO.tr hC1.1, hC1.2.2.1, hC1.2.2.2.1.trans hB.2.1, rfl, g8, g9⟩
    | ok k =>
      have bk := tkM_b ⟨by omega, hp⟩ hX
      have r4 : R32 k.1 := by rcases bk.1.2.1 with z | z | z | z <;> rw [z] <;> decide
      show P G 6 0 0 mX9_readText 22 [some (.ref t), none] [] K S (TXP K S0 t n (if k.1 = 0 then allM pl ln n else (lineM tp n pl k).bind fun q => linesM tp n m q.1 q.2 (ln + 1)))
      by_cases e0 : k.1 = 0
      · rw [if_pos e0]
        refine T_aload_n dX9_readText_22 rfl rfl ?_
        refine P_geti dX9_readText_23 fX9_32 (by assumption) rfl ?_
        rw [h10]
        refine T_aload_n dX9_readText_26 rfl rfl ?_
        refine P_geti dX9_readText_27 fX9_35 (by assumption) rfl ?_
        rw [hB.2.1]
        refine I_icmp_gt (tgt := 159) dX9_readText_30 (by decide) ⟨by have := hB.2.2.2; omega, by have := hB.2.2.2; omega⟩ ⟨by have := hB.2.2.2; omega, by have := hB.2.2.2; omega⟩ (fun h30 => ?_) (fun h30 => ?_)
        · omega
        · refine T_aload_n dX9_readText_33 rfl rfl ?_
          refine R_callV dX9_readText_34 kX9_readToken lX9_38 (by assumption) rfl (p_T_token hT hB hp3 ⟨by omega, hp⟩) rfl rfl (Nat.le_of_ble_eq_true rfl) (Nat.le_of_ble_eq_true rfl) (by decide) (by decide) (fun r_ K_ S_ q_ => ?_)
          obtain ⟨hKe, hC1, hx⟩ := q_; have hKe := hKe.symm; subst hKe; rw [hX] at hx; obtain ⟨rfl, g8, hk, hs⟩ := hx
          refine I_if_ne (tgt := 42) dX9_readText_37 (by decide) (by decide) (fun h37 => ?_) (fun h37 => ?_)
          · refine T_aload_n dX9_readText_42 rfl rfl ?_
            refine P_geti dX9_readText_43 fX9_42 (by assumption) rfl ?_
            rw [hk.2.1]
            refine I_if_ne (tgt := 54) dX9_readText_46 (by decide) r4 (fun h46 => ?_) (fun h46 => ?_)
            · exact absurd e0 h46
            · refine T_aload_n dX9_readText_49 rfl rfl ?_
              refine R_callV dX9_readText_50 kX9_allIsThere lX9_45 (by assumption) rfl (p_T_all hT (hB.cm hC1) (hR.same hs) hD.1) rfl rfl (Nat.le_of_ble_eq_true rfl) (Nat.le_of_ble_eq_true rfl) (by decide) (by decide) (fun r_ K_ S_ q_ => ?_)
              have hf := TXP.of (X := allM pl ln n) (hO.tr hC1.1) (hC1.2.2.2.1.trans hB.2.1) (g8.trans h8) q_ (fun e he => by rw [allM_eq, he]; rfl) (fun a ha hr h10' => ⟨(pl, ln), by rw [allM_eq, ha]; rfl, hr, h10'.trans (hC1.2.2.2.2.trans h10)⟩)
              obtain ⟨hKe, -, hx⟩ := q_
              have hv : r_ = some (IV 0) ∨ r_ = some (IV 1) := by
                cases hA : allX pl n with
                | error e => rw [hA] at hx; exact Or.inl hx.1
                | ok u => rw [hA] at hx; exact Or.inr hx.1
              rcases hv with rfl | rfl
              · exact I_zreturn dX9_readText_53 rfl (by decide) ⟨_, _, rfl, hf⟩
              · exact I_zreturn dX9_readText_53 rfl (by decide) ⟨_, _, rfl, hf⟩
          · cases h37
      · rw [if_neg e0]
        have hpre : ∀ (S1 : SV), CM S S1 t → fI S1 t 8 = fI S t 8 → TokR S1 t k → Same S S1 (t + 2) (t + 12) → P G 6 0 0 mX9_readText 54 [some (.ref t), none] [] K S1 (TXP K S0 t n ((lineM tp n pl k).bind fun q => linesM tp n m q.1 q.2 (ln + 1))) := by
          intro S1 hC1 g8 hk hs
          have hB1 := hB.cm hC1
          have hR1 := hR.same hs
          have hO1 := hO.tr hC1.1
          have z : ∀ (q : PL × Int) (S2 : SV), lineM tp n pl k = .ok q → TB S2 t tp n → PlanR S2 (t + 2) q.1 → fI S2 t 3 = q.2 → fI S2 t 8 = 0 → fI S2 t 10 = ln + 1 → Outs S0 S2 t (t + 12) → P G 6 0 0 mX9_readText 22 [some (.ref t), none] [] K S2 (TXP K S0 t n (linesM tp n m q.1 q.2 (ln + 1))) := by
            intro q S2 hq a1 a2 a3 a4 a5 a6
            have bq := lineM_b hD bk.1 e0 hq
            have := bk.2
            exact ih q.2 (ln + 1) S2 q.1 (by omega) ⟨by omega, by omega⟩ bq.2.2 a1 a2 bq.1 a3 a4 a5 a6
          have fin : ∀ {rv : Option Value} {K' : List SH} {S' : SV}, TPQ K S1 t (lineM tp n pl k) (lineR t) rv K' S' → P G 6 0 0 mX9_readText 139 [some (.ref t), none] (rv.toList ++ []) K' S' (TXP K S0 t n ((lineM tp n pl k).bind fun q => linesM tp n m q.1 q.2 (ln + 1))) := fun hq => s_T_text hT hB1 bk.1 e0 hD (g8.trans h8) (hC1.2.2.2.2.trans h10) ⟨hl.1, by omega⟩ hO1 hq z
          by_cases w0 : wordM tp k 0
          · have hl0 : lineM tp n pl k = houseM tp n pl k := if_pos w0
            refine T_aload_n dX9_readText_54 rfl rfl ?_
            refine T_ldcS (q := 0) dX9_readText_55 (fun s h => h.1) ?_
            refine Q_callV dX9_readText_57 kX9_isWord lX9_50 (by assumption) rfl (p_T_word (by decide) hT hB1 hk bk.1) rfl rfl (Nat.le_of_ble_eq_true rfl) (Nat.le_of_ble_eq_true rfl) (by decide) (by decide) ?_
            rw [b2p_t w0]
            refine I_if_eq (tgt := 70) dX9_readText_60 (by decide) (by decide) (fun h60 => ?_) (fun h60 => ?_)
            · cases h60
            · refine T_aload_n dX9_readText_63 rfl rfl ?_
              refine R_callV dX9_readText_64 kX9_readHouse lX9_54 (by assumption) rfl (p_T_house hT hB1 hk bk.1 hR1 hD.1) rfl rfl (Nat.le_of_ble_eq_true rfl) (Nat.le_of_ble_eq_true rfl) (by decide) (by decide) (fun r_ K_ S_ q_ => ?_)
              rw [← hl0] at q_
              refine T_goto (tgt := 139) dX9_readText_67 (by decide) ?_
              exact fin q_
          · by_cases w1 : wordM tp k 1
            · have hl0 : lineM tp n pl k = domM tp n pl k := by unfold lineM; rw [if_neg w0, if_pos w1]
              refine T_aload_n dX9_readText_54 rfl rfl ?_
              refine T_ldcS (q := 0) dX9_readText_55 (fun s h => h.1) ?_
              refine Q_callV dX9_readText_57 kX9_isWord lX9_50 (by assumption) rfl (p_T_word (by decide) hT hB1 hk bk.1) rfl rfl (Nat.le_of_ble_eq_true rfl) (Nat.le_of_ble_eq_true rfl) (by decide) (by decide) ?_
              rw [b2p_f w0]
              refine I_if_eq (tgt := 70) dX9_readText_60 (by decide) (by decide) (fun h60 => ?_) (fun h60 => ?_)
              · refine T_aload_n dX9_readText_70 rfl rfl ?_
                refine T_ldcS (q := 1) dX9_readText_71 (fun s h => h.2.1) ?_
                refine Q_callV dX9_readText_73 kX9_isWord lX9_50 (by assumption) rfl (p_T_word (by decide) hT hB1 hk bk.1) rfl rfl (Nat.le_of_ble_eq_true rfl) (Nat.le_of_ble_eq_true rfl) (by decide) (by decide) ?_
                rw [b2p_t w1]
                refine I_if_eq (tgt := 86) dX9_readText_76 (by decide) (by decide) (fun h76 => ?_) (fun h76 => ?_)
                · cases h76
                · refine T_aload_n dX9_readText_79 rfl rfl ?_
                  refine R_callV dX9_readText_80 kX9_readDomain lX9_59 (by assumption) rfl (p_T_dom hT hB1 hk bk.1 hR1 hD.1) rfl rfl (Nat.le_of_ble_eq_true rfl) (Nat.le_of_ble_eq_true rfl) (by decide) (by decide) (fun r_ K_ S_ q_ => ?_)
                  rw [← hl0] at q_
                  refine T_goto (tgt := 139) dX9_readText_83 (by decide) ?_
                  exact fin q_
              · exact absurd rfl h60
            · by_cases w2 : wordM tp k 2
              · have hl0 : lineM tp n pl k = boxM tp n pl k := by unfold lineM; rw [if_neg w0, if_neg w1, if_pos w2]
                refine T_aload_n dX9_readText_54 rfl rfl ?_
                refine T_ldcS (q := 0) dX9_readText_55 (fun s h => h.1) ?_
                refine Q_callV dX9_readText_57 kX9_isWord lX9_50 (by assumption) rfl (p_T_word (by decide) hT hB1 hk bk.1) rfl rfl (Nat.le_of_ble_eq_true rfl) (Nat.le_of_ble_eq_true rfl) (by decide) (by decide) ?_
                rw [b2p_f w0]
                refine I_if_eq (tgt := 70) dX9_readText_60 (by decide) (by decide) (fun h60 => ?_) (fun h60 => ?_)
                · refine T_aload_n dX9_readText_70 rfl rfl ?_
                  refine T_ldcS (q := 1) dX9_readText_71 (fun s h => h.2.1) ?_
                  refine Q_callV dX9_readText_73 kX9_isWord lX9_50 (by assumption) rfl (p_T_word (by decide) hT hB1 hk bk.1) rfl rfl (Nat.le_of_ble_eq_true rfl) (Nat.le_of_ble_eq_true rfl) (by decide) (by decide) ?_
                  rw [b2p_f w1]
                  refine I_if_eq (tgt := 86) dX9_readText_76 (by decide) (by decide) (fun h76 => ?_) (fun h76 => ?_)
                  · refine T_aload_n dX9_readText_86 rfl rfl ?_
                    refine T_ldcS (q := 2) dX9_readText_87 (fun s h => h.2.2.1) ?_
                    refine Q_callV dX9_readText_89 kX9_isWord lX9_50 (by assumption) rfl (p_T_word (by decide) hT hB1 hk bk.1) rfl rfl (Nat.le_of_ble_eq_true rfl) (Nat.le_of_ble_eq_true rfl) (by decide) (by decide) ?_
                    rw [b2p_t w2]
                    refine I_if_eq (tgt := 102) dX9_readText_92 (by decide) (by decide) (fun h92 => ?_) (fun h92 => ?_)
                    · cases h92
                    · refine T_aload_n dX9_readText_95 rfl rfl ?_
                      refine R_callV dX9_readText_96 kX9_readBox lX9_64 (by assumption) rfl (p_T_box hT hB1 hk bk.1 hR1 hD.1) rfl rfl (Nat.le_of_ble_eq_true rfl) (Nat.le_of_ble_eq_true rfl) (by decide) (by decide) (fun r_ K_ S_ q_ => ?_)
                      rw [← hl0] at q_
                      refine T_goto (tgt := 139) dX9_readText_99 (by decide) ?_
                      exact fin q_
                  · exact absurd rfl h76
                · exact absurd rfl h60
              · by_cases w3 : wordM tp k 3
                · have hl0 : lineM tp n pl k = aliM tp n pl k := by unfold lineM; rw [if_neg w0, if_neg w1, if_neg w2, if_pos w3]
                  refine T_aload_n dX9_readText_54 rfl rfl ?_
                  refine T_ldcS (q := 0) dX9_readText_55 (fun s h => h.1) ?_
                  refine Q_callV dX9_readText_57 kX9_isWord lX9_50 (by assumption) rfl (p_T_word (by decide) hT hB1 hk bk.1) rfl rfl (Nat.le_of_ble_eq_true rfl) (Nat.le_of_ble_eq_true rfl) (by decide) (by decide) ?_
                  rw [b2p_f w0]
                  refine I_if_eq (tgt := 70) dX9_readText_60 (by decide) (by decide) (fun h60 => ?_) (fun h60 => ?_)
                  · refine T_aload_n dX9_readText_70 rfl rfl ?_
                    refine T_ldcS (q := 1) dX9_readText_71 (fun s h => h.2.1) ?_
                    refine Q_callV dX9_readText_73 kX9_isWord lX9_50 (by assumption) rfl (p_T_word (by decide) hT hB1 hk bk.1) rfl rfl (Nat.le_of_ble_eq_true rfl) (Nat.le_of_ble_eq_true rfl) (by decide) (by decide) ?_
                    rw [b2p_f w1]
                    refine I_if_eq (tgt := 86) dX9_readText_76 (by decide) (by decide) (fun h76 => ?_) (fun h76 => ?_)
                    · refine T_aload_n dX9_readText_86 rfl rfl ?_
                      refine T_ldcS (q := 2) dX9_readText_87 (fun s h => h.2.2.1) ?_
                      refine Q_callV dX9_readText_89 kX9_isWord lX9_50 (by assumption) rfl (p_T_word (by decide) hT hB1 hk bk.1) rfl rfl (Nat.le_of_ble_eq_true rfl) (Nat.le_of_ble_eq_true rfl) (by decide) (by decide) ?_
                      rw [b2p_f w2]
                      refine I_if_eq (tgt := 102) dX9_readText_92 (by decide) (by decide) (fun h92 => ?_) (fun h92 => ?_)
                      · refine T_aload_n dX9_readText_102 rfl rfl ?_
                        refine T_ldcS (q := 3) dX9_readText_103 (fun s h => h.2.2.2.1) ?_
                        refine Q_callV dX9_readText_105 kX9_isWord lX9_50 (by assumption) rfl (p_T_word (by decide) hT hB1 hk bk.1) rfl rfl (Nat.le_of_ble_eq_true rfl) (Nat.le_of_ble_eq_true rfl) (by decide) (by decide) ?_
                        rw [b2p_t w3]
                        refine I_if_eq (tgt := 118) dX9_readText_108 (by decide) (by decide) (fun h108 => ?_) (fun h108 => ?_)
                        · cases h108
                        · refine T_aload_n dX9_readText_111 rfl rfl ?_
                          refine R_callV dX9_readText_112 kX9_readAlias lX9_69 (by assumption) rfl (p_T_alias hT hB1 hk bk.1 hR1 hD.1) rfl rfl (Nat.le_of_ble_eq_true rfl) (Nat.le_of_ble_eq_true rfl) (by decide) (by decide) (fun r_ K_ S_ q_ => ?_)
                          rw [← hl0] at q_
                          refine T_goto (tgt := 139) dX9_readText_115 (by decide) ?_
                          exact fin q_
                      · exact absurd rfl h92
                    · exact absurd rfl h76
                  · exact absurd rfl h60
                · by_cases w4 : wordM tp k 4
                  · have hl0 : lineM tp n pl k = lisM tp n pl k := by unfold lineM; rw [if_neg w0, if_neg w1, if_neg w2, if_neg w3, if_pos w4]
                    refine T_aload_n dX9_readText_54 rfl rfl ?_
                    refine T_ldcS (q := 0) dX9_readText_55 (fun s h => h.1) ?_
                    refine Q_callV dX9_readText_57 kX9_isWord lX9_50 (by assumption) rfl (p_T_word (by decide) hT hB1 hk bk.1) rfl rfl (Nat.le_of_ble_eq_true rfl) (Nat.le_of_ble_eq_true rfl) (by decide) (by decide) ?_
                    rw [b2p_f w0]
                    refine I_if_eq (tgt := 70) dX9_readText_60 (by decide) (by decide) (fun h60 => ?_) (fun h60 => ?_)
                    · refine T_aload_n dX9_readText_70 rfl rfl ?_
                      refine T_ldcS (q := 1) dX9_readText_71 (fun s h => h.2.1) ?_
                      refine Q_callV dX9_readText_73 kX9_isWord lX9_50 (by assumption) rfl (p_T_word (by decide) hT hB1 hk bk.1) rfl rfl (Nat.le_of_ble_eq_true rfl) (Nat.le_of_ble_eq_true rfl) (by decide) (by decide) ?_
                      rw [b2p_f w1]
                      refine I_if_eq (tgt := 86) dX9_readText_76 (by decide) (by decide) (fun h76 => ?_) (fun h76 => ?_)
                      · refine T_aload_n dX9_readText_86 rfl rfl ?_
                        refine T_ldcS (q := 2) dX9_readText_87 (fun s h => h.2.2.1) ?_
                        refine Q_callV dX9_readText_89 kX9_isWord lX9_50 (by assumption) rfl (p_T_word (by decide) hT hB1 hk bk.1) rfl rfl (Nat.le_of_ble_eq_true rfl) (Nat.le_of_ble_eq_true rfl) (by decide) (by decide) ?_
                        rw [b2p_f w2]
                        refine I_if_eq (tgt := 102) dX9_readText_92 (by decide) (by decide) (fun h92 => ?_) (fun h92 => ?_)
                        · refine T_aload_n dX9_readText_102 rfl rfl ?_
                          refine T_ldcS (q := 3) dX9_readText_103 (fun s h => h.2.2.2.1) ?_
                          refine Q_callV dX9_readText_105 kX9_isWord lX9_50 (by assumption) rfl (p_T_word (by decide) hT hB1 hk bk.1) rfl rfl (Nat.le_of_ble_eq_true rfl) (Nat.le_of_ble_eq_true rfl) (by decide) (by decide) ?_
                          rw [b2p_f w3]
                          refine I_if_eq (tgt := 118) dX9_readText_108 (by decide) (by decide) (fun h108 => ?_) (fun h108 => ?_)
                          · refine T_aload_n dX9_readText_118 rfl rfl ?_
                            refine T_ldcS (q := 4) dX9_readText_119 (fun s h => h.2.2.2.2.1) ?_
                            refine Q_callV dX9_readText_121 kX9_isWord lX9_50 (by assumption) rfl (p_T_word (by decide) hT hB1 hk bk.1) rfl rfl (Nat.le_of_ble_eq_true rfl) (Nat.le_of_ble_eq_true rfl) (by decide) (by decide) ?_
                            rw [b2p_t w4]
                            refine I_if_eq (tgt := 134) dX9_readText_124 (by decide) (by decide) (fun h124 => ?_) (fun h124 => ?_)
                            · cases h124
                            · refine T_aload_n dX9_readText_127 rfl rfl ?_
                              refine R_callV dX9_readText_128 kX9_readList lX9_74 (by assumption) rfl (p_T_list hT hB1 hk bk.1 hR1 hD.1) rfl rfl (Nat.le_of_ble_eq_true rfl) (Nat.le_of_ble_eq_true rfl) (by decide) (by decide) (fun r_ K_ S_ q_ => ?_)
                              rw [← hl0] at q_
                              refine T_goto (tgt := 139) dX9_readText_131 (by decide) ?_
                              exact fin q_
                          · exact absurd rfl h108
                        · exact absurd rfl h92
                      · exact absurd rfl h76
                    · exact absurd rfl h60
                  · have hl0 : lineM tp n pl k = .error (2, k.2.1) := by unfold lineM; rw [if_neg w0, if_neg w1, if_neg w2, if_neg w3, if_neg w4]
                    refine T_aload_n dX9_readText_54 rfl rfl ?_
                    refine T_ldcS (q := 0) dX9_readText_55 (fun s h => h.1) ?_
                    refine Q_callV dX9_readText_57 kX9_isWord lX9_50 (by assumption) rfl (p_T_word (by decide) hT hB1 hk bk.1) rfl rfl (Nat.le_of_ble_eq_true rfl) (Nat.le_of_ble_eq_true rfl) (by decide) (by decide) ?_
                    rw [b2p_f w0]
                    refine I_if_eq (tgt := 70) dX9_readText_60 (by decide) (by decide) (fun h60 => ?_) (fun h60 => ?_)
                    · refine T_aload_n dX9_readText_70 rfl rfl ?_
                      refine T_ldcS (q := 1) dX9_readText_71 (fun s h => h.2.1) ?_
                      refine Q_callV dX9_readText_73 kX9_isWord lX9_50 (by assumption) rfl (p_T_word (by decide) hT hB1 hk bk.1) rfl rfl (Nat.le_of_ble_eq_true rfl) (Nat.le_of_ble_eq_true rfl) (by decide) (by decide) ?_
                      rw [b2p_f w1]
                      refine I_if_eq (tgt := 86) dX9_readText_76 (by decide) (by decide) (fun h76 => ?_) (fun h76 => ?_)
                      · refine T_aload_n dX9_readText_86 rfl rfl ?_
                        refine T_ldcS (q := 2) dX9_readText_87 (fun s h => h.2.2.1) ?_
                        refine Q_callV dX9_readText_89 kX9_isWord lX9_50 (by assumption) rfl (p_T_word (by decide) hT hB1 hk bk.1) rfl rfl (Nat.le_of_ble_eq_true rfl) (Nat.le_of_ble_eq_true rfl) (by decide) (by decide) ?_
                        rw [b2p_f w2]
                        refine I_if_eq (tgt := 102) dX9_readText_92 (by decide) (by decide) (fun h92 => ?_) (fun h92 => ?_)
                        · refine T_aload_n dX9_readText_102 rfl rfl ?_
                          refine T_ldcS (q := 3) dX9_readText_103 (fun s h => h.2.2.2.1) ?_
                          refine Q_callV dX9_readText_105 kX9_isWord lX9_50 (by assumption) rfl (p_T_word (by decide) hT hB1 hk bk.1) rfl rfl (Nat.le_of_ble_eq_true rfl) (Nat.le_of_ble_eq_true rfl) (by decide) (by decide) ?_
                          rw [b2p_f w3]
                          refine I_if_eq (tgt := 118) dX9_readText_108 (by decide) (by decide) (fun h108 => ?_) (fun h108 => ?_)
                          · refine T_aload_n dX9_readText_118 rfl rfl ?_
                            refine T_ldcS (q := 4) dX9_readText_119 (fun s h => h.2.2.2.2.1) ?_
                            refine Q_callV dX9_readText_121 kX9_isWord lX9_50 (by assumption) rfl (p_T_word (by decide) hT hB1 hk bk.1) rfl rfl (Nat.le_of_ble_eq_true rfl) (Nat.le_of_ble_eq_true rfl) (by decide) (by decide) ?_
                            rw [b2p_f w4]
                            refine I_if_eq (tgt := 134) dX9_readText_124 (by decide) (by decide) (fun h124 => ?_) (fun h124 => ?_)
                            · refine T_aload_n dX9_readText_134 rfl rfl ?_
                              refine I_iconst dX9_readText_135 ?_
                              refine Q_callV dX9_readText_136 kX9_refuse lX9_77 (by assumption) rfl (p_T_refuse hT) rfl rfl (Nat.le_of_ble_eq_true rfl) (Nat.le_of_ble_eq_true rfl) (by decide) (by decide) ?_
                              exact fin (rv := some (IV 0)) (by
                                refine ⟨rfl, ref_CM hB1.1 (by decide), ?_⟩
                                rw [hl0]
                                exact ⟨rfl, ref_8, ref_9.trans hk.2.2.1⟩)
                            · exact absurd rfl h124
                          · exact absurd rfl h108
                        · exact absurd rfl h92
                      · exact absurd rfl h76
                    · exact absurd rfl h60
        refine T_aload_n dX9_readText_22 rfl rfl ?_
        refine P_geti dX9_readText_23 fX9_32 (by assumption) rfl ?_
        rw [h10]
        refine T_aload_n dX9_readText_26 rfl rfl ?_
        refine P_geti dX9_readText_27 fX9_35 (by assumption) rfl ?_
        rw [hB.2.1]
        refine I_icmp_gt (tgt := 159) dX9_readText_30 (by decide) ⟨by have := hB.2.2.2; omega, by have := hB.2.2.2; omega⟩ ⟨by have := hB.2.2.2; omega, by have := hB.2.2.2; omega⟩ (fun h30 => ?_) (fun h30 => ?_)
        · omega
        · refine T_aload_n dX9_readText_33 rfl rfl ?_
          refine R_callV dX9_readText_34 kX9_readToken lX9_38 (by assumption) rfl (p_T_token hT hB hp3 ⟨by omega, hp⟩) rfl rfl (Nat.le_of_ble_eq_true rfl) (Nat.le_of_ble_eq_true rfl) (by decide) (by decide) (fun r_ K_ S_ q_ => ?_)
          obtain ⟨hKe, hC1, hx⟩ := q_; have hKe := hKe.symm; subst hKe; rw [hX] at hx; obtain ⟨rfl, g8, hk, hs⟩ := hx
          refine I_if_ne (tgt := 42) dX9_readText_37 (by decide) (by decide) (fun h37 => ?_) (fun h37 => ?_)
          · refine T_aload_n dX9_readText_42 rfl rfl ?_
            refine P_geti dX9_readText_43 fX9_42 (by assumption) rfl ?_
            rw [hk.2.1]
            refine I_if_ne (tgt := 54) dX9_readText_46 (by decide) r4 (fun h46 => ?_) (fun h46 => ?_)
            · exact hpre S_ hC1 g8 hk hs
            · exact absurd h46 e0
          · cases h37
theorem p_T_text {S : SV} (hT : TapeAt K t) (hB : TB S t tp n) : P G 6 0 0 mX9_readText 0 (LE mX9_readText [.ref t]) [] K S (TXP K S t n (textM tp n)) := by
  have k0 := hT.1
  have kp := hT.2.2
  have kp0 := kp.1
  have hn := hB.2.2.2
  rw [show LE mX9_readText [.ref t] = [some (.ref t), none] from rfl]
  refine T_aload_n dX9_readText_0 rfl rfl ?_
  refine P_getr dX9_readText_1 fX9_18 (by assumption) rfl ?_
  refine R_callV dX9_readText_4 kX5_clear lX9_22 (by assumption) rfl (p_Plan_clear kp hB.1) rfl rfl (Nat.le_of_ble_eq_true rfl) (Nat.le_of_ble_eq_true rfl) (by decide) (by decide) (fun r_ K_ S_ q_ => ?_)
  obtain ⟨rfl, hKe, i1, i2, i3⟩ := q_; have hKe := hKe.symm; subst hKe; obtain ⟨c4, c5⟩ := CM.pl i2 i3
  have hr1 : AllR (sF (sF (sF S_ t 3 0) t 8 0) t 10 0) := ((i3.sF (by decide)).sF (by decide)).sF (by decide)
  have hB1 : TB (sF (sF (sF S_ t 3 0) t 8 0) t 10 0) t tp n := ⟨hr1, by rw [fI_sF, if_neg (by omega), fI_sF, if_neg (by omega), fI_sF, if_neg (by omega)]; exact (c5 1).trans hB.2.1, (hB.cm c4).2.2.1, hn⟩
  have z := l_T_text (G := G) (S0 := S) hT (n + 1).toNat 0 0 (sF (sF (sF S_ t 3 0) t 8 0) t 10 0) p0M (by omega) ⟨by omega, by omega⟩ (by omega) hB1 (((i1.same (Same.sF (by omega))).same (Same.sF (by omega))).same (Same.sF (by omega))) p0_ok (by simp [fI_sF]) (by simp [fI_sF]) (by simp [fI_sF]) (c4.1.tr (fun x y w => ((Same.sF (by omega)).tr (Same.sF (by omega))).tr (Same.sF (by omega))))
  refine T_aload_n dX9_readText_7 rfl rfl ?_
  refine I_iconst dX9_readText_8 ?_
  refine P_puti dX9_readText_9 fX9_25 (by assumption) rfl rfl ?_
  refine T_aload_n dX9_readText_12 rfl rfl ?_
  refine I_iconst dX9_readText_13 ?_
  refine P_puti dX9_readText_14 fX9_29 (by assumption) rfl rfl ?_
  refine T_aload_n dX9_readText_17 rfl rfl ?_
  refine I_iconst dX9_readText_18 ?_
  refine P_puti dX9_readText_19 fX9_32 (by assumption) rfl rfl ?_
  exact z
end Text
