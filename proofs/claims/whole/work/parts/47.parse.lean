/-! what a text says: a pure reader -/
abbrev TK : Type := Int × Int × Int × Int
abbrev ER : Type := Int × Int
noncomputable def endF (p : Int → Prop) : Nat → Int → Int
  | 0, i => i
  | m + 1, i => @ite Int (p i) (Classical.propDecidable _) (endF p m (i + 1)) i
theorem endF_t {p : Int → Prop} {m : Nat} {i : Int} (h : p i) : endF p (m + 1) i = endF p m (i + 1) := by
  rw [endF]; exact if_pos h
theorem endF_f {p : Int → Prop} {m : Nat} {i : Int} (h : ¬ p i) : endF p m i = i := by
  cases m with
  | zero => rfl
  | succ m => rw [endF]; exact if_neg h
theorem endF_spec (p : Int → Prop) : ∀ (m : Nat) (i : Int), i ≤ endF p m i ∧ endF p m i ≤ i + m ∧ (∀ t, i ≤ t → t < endF p m i → p t) ∧ (endF p m i < i + m → ¬ p (endF p m i))
  | 0, i => ⟨by show i ≤ i; omega, by show i ≤ i + 0; omega, fun t a b => by have b : t < i := b; omega, fun z => by have z : i < i + 0 := z; omega⟩
  | m + 1, i => by
    by_cases h : p i
    · rw [endF_t h]
      obtain ⟨h1, h2, h3, h4⟩ := endF_spec p m (i + 1)
      refine ⟨by omega, by omega, fun t a b => ?_, fun z => h4 (by omega)⟩
      by_cases e : t = i
      · rw [e]; exact h
      · exact h3 t (by omega) b
    · rw [endF_f h]
      exact ⟨by omega, by omega, fun t a b => by omega, fun _ => h⟩
theorem endF_congr {p q : Int → Prop} : ∀ (m : Nat) (i : Int), (∀ t, i ≤ t → t < i + m → (p t ↔ q t)) → endF p m i = endF q m i
  | 0, _, _ => rfl
  | m + 1, i, h => by
    have ih := endF_congr m (i + 1) (fun t a b => h t (by omega) (by omega))
    by_cases e : p i
    · rw [endF_t e, endF_t ((h i (by omega) (by omega)).mp e), ih]
    · rw [endF_f e, endF_f (fun z => e ((h i (by omega) (by omega)).mpr z))]
def sortC (c : Int) : Int := if 97 ≤ c ∧ c ≤ 122 then 1 else if 48 ≤ c ∧ c ≤ 57 then 2 else if c = 59 then 3 else -4
theorem sortC_in (c : Int) : sortC c = 1 ∨ sortC c = 2 ∨ sortC c = 3 ∨ sortC c = -4 := by
  unfold sortC
  split
  · exact Or.inl rfl
  · split
    · exact Or.inr (Or.inl rfl)
    · split
      · exact Or.inr (Or.inr (Or.inl rfl))
      · exact Or.inr (Or.inr (Or.inr rfl))
theorem sortC_2 {c : Int} (h : sortC c = 2) : 48 ≤ c ∧ c ≤ 57 := by
  unfold sortC at h
  split at h
  · omega
  · split at h
    · assumption
    · split at h <;> omega
def valF (tp : Int → Int) : Nat → Int → Int → Int
  | 0, _, acc => acc
  | m + 1, i, acc => valF tp m (i + 1) (acc * 10 + tp i - 48)
noncomputable def skM (tp : Int → Int) (n pos : Int) : Int := endF (fun i => tp i = 32) (n - pos).toNat pos
noncomputable def rnM (tp : Int → Int) (n s : Int) : Int := endF (fun i => sortC (tp i) = sortC (tp s)) (n - (s + 1)).toNat (s + 1)
noncomputable def tokS (tp : Int → Int) (n s : Int) : TK := if n ≤ s then (0, s, s, 0) else if sortC (tp s) = -4 then (-4, s, s, 0) else if sortC (tp s) = 3 then (3, s, s + 1, 0) else if sortC (tp s) = 2 then (if 2 < rnM tp n s - s then (-4, s, s, 0) else (2, s, rnM tp n s, valF tp (rnM tp n s - s).toNat s 0)) else (1, s, rnM tp n s, 0)
noncomputable def tkM (tp : Int → Int) (n pos : Int) : Except ER TK := if (tokS tp n (skM tp n pos)).1 = -4 then .error (1, (tokS tp n (skM tp n pos)).2.1) else .ok (tokS tp n (skM tp n pos))
def numM (t : TK) (most : Int) : Except ER Int := if t.1 = 2 then (if t.2.2.2 ≤ most then .ok t.2.2.2 else .error (3, t.2.1)) else .error (2, t.2.1)
noncomputable def addrM (tp : Int → Int) (n : Int) (t : TK) : Except ER (Int × TK) := (numM t 3).bind fun d => (tkM tp n t.2.2.1).bind fun t2 => (numM t2 7).bind fun v => .ok (8 * d + v, t2)
noncomputable def rcvM (tp : Int → Int) (n : Int) (pl : PL) (d : Int) (t : TK) : Except ER (PL × TK) := (numM t 4).bind fun h => if prefM pl h d ≠ -4 then .error (4, t.2.1) else (tkM tp n t.2.2.1).bind fun t2 => (numM t2 9).bind fun w => .ok (addRcM pl d h w, t2)
noncomputable def rcvsM (tp : Int → Int) (n d : Int) : Nat → PL → TK → Except ER (PL × TK)
  | 0, pl, t => if t.1 = 2 then .error (2, t.2.1) else .ok (pl, t)
  | m + 1, pl, t => if t.1 = 2 then (rcvM tp n pl d t).bind fun q => (tkM tp n q.2.2.2.1).bind fun t3 => rcvsM tp n d m q.1 t3 else .ok (pl, t)
noncomputable def tgtM (tp : Int → Int) (n : Int) (pl : PL) (a : Int) (t : TK) : Except ER (PL × TK) := (addrM tp n t).bind fun q => @ite _ (leadsP pl a q.1) (Classical.propDecidable _) (.error (4, q.2.2.1)) (.ok (addLdM pl a q.1, q.2))
noncomputable def lstM (tp : Int → Int) (n a : Int) : Nat → PL → TK → Except ER (PL × TK)
  | 0, pl, t => if t.1 = 2 then .error (2, t.2.1) else .ok (pl, t)
  | m + 1, pl, t => if t.1 = 2 then (tgtM tp n pl a t).bind fun q => (tkM tp n q.2.2.2.1).bind fun t3 => lstM tp n a m q.1 t3 else .ok (pl, t)
noncomputable def toldM (tp : Int → Int) (n : Int) (pl : PL) (k : Int) (t : TK) : Except ER (PL × Int × TK) := (addrM tp n t).bind fun q => if pKd pl q.1 ≠ 0 then .error (4, q.2.2.1) else .ok (tellM pl q.1 k, q.1, q.2)
def signM (q : PL × TK) : Except ER (PL × Int) := if q.2.1 = 3 then .ok (q.1, q.2.2.2.1) else .error (2, q.2.2.1)
def wordM (tp : Int → Int) (t : TK) (i : Nat) : Prop := t.1 = 1 ∧ t.2.2.1 - t.2.1 = (slen.getD i 0 : Nat) ∧ ∀ z : Int, 0 ≤ z → z < (slen.getD i 0 : Nat) → tp (t.2.1 + z) = chrM i z
noncomputable def houseM (tp : Int → Int) (n : Int) (pl : PL) (t : TK) : Except ER (PL × Int) := if 5 ≤ pHs pl then .error (5, t.2.1) else (tkM tp n t.2.2.1).bind fun t2 => @ite _ (wordM tp t2 5) (Classical.propDecidable _) ((tkM tp n t2.2.2.1).bind fun t3 => signM (addHM pl 1, t3)) (signM (addHM pl 0, t2))
noncomputable def domM (tp : Int → Int) (n : Int) (pl : PL) (t : TK) : Except ER (PL × Int) := if 4 ≤ pDm pl then .error (5, t.2.1) else (tkM tp n t.2.2.1).bind fun t2 => (rcvsM tp n (pDm pl) 3 (addDM pl) t2).bind signM
noncomputable def boxM (tp : Int → Int) (n : Int) (pl : PL) (t : TK) : Except ER (PL × Int) := (tkM tp n t.2.2.1).bind fun t2 => (toldM tp n pl 1 t2).bind fun q => (tkM tp n q.2.2.2.2.1).bind fun t4 => signM (q.1, t4)
noncomputable def aliM (tp : Int → Int) (n : Int) (pl : PL) (t : TK) : Except ER (PL × Int) := (tkM tp n t.2.2.1).bind fun t2 => (toldM tp n pl 2 t2).bind fun q => (tkM tp n q.2.2.2.2.1).bind fun t4 => (tgtM tp n q.1 q.2.1 t4).bind fun r => (tkM tp n r.2.2.2.1).bind fun t6 => signM (r.1, t6)
noncomputable def lisM (tp : Int → Int) (n : Int) (pl : PL) (t : TK) : Except ER (PL × Int) := (tkM tp n t.2.2.1).bind fun t2 => (toldM tp n pl 3 t2).bind fun q => (tkM tp n q.2.2.2.2.1).bind fun t4 => (tgtM tp n q.1 q.2.1 t4).bind fun r => (tkM tp n r.2.2.2.1).bind fun t6 => (lstM tp n q.2.1 3 r.1 t6).bind signM
noncomputable def lineM (tp : Int → Int) (n : Int) (pl : PL) (t : TK) : Except ER (PL × Int) :=
  @ite _ (wordM tp t 0) (Classical.propDecidable _) (houseM tp n pl t) (@ite _ (wordM tp t 1) (Classical.propDecidable _) (domM tp n pl t) (@ite _ (wordM tp t 2) (Classical.propDecidable _) (boxM tp n pl t) (@ite _ (wordM tp t 3) (Classical.propDecidable _) (aliM tp n pl t) (@ite _ (wordM tp t 4) (Classical.propDecidable _) (lisM tp n pl t) (.error (2, t.2.1))))))
def farH (pl : PL) : Prop := ∃ d i, 0 ≤ d ∧ d < pDm pl ∧ 0 ≤ i ∧ i < pRc pl d ∧ pHs pl ≤ pRh pl d i
def farD (pl : PL) : Prop := ∃ a, 8 * pDm pl ≤ a ∧ a < 32 ∧ pKd pl a ≠ 0
noncomputable def allM (pl : PL) (ln n : Int) : Except ER (PL × Int) := @ite _ (farH pl) (Classical.propDecidable _) (.error (6, n)) (@ite _ (farD pl) (Classical.propDecidable _) (.error (7, n)) (.ok (pl, ln)))
noncomputable def linesM (tp : Int → Int) (n : Int) : Nat → PL → Int → Int → Except ER (PL × Int)
  | 0, _, _, _ => .error (0, 0)
  | m + 1, pl, pos, ln => (tkM tp n pos).bind fun t => if t.1 = 0 then allM pl ln n else (lineM tp n pl t).bind fun q => linesM tp n m q.1 q.2 (ln + 1)
noncomputable def textM (tp : Int → Int) (n : Int) : Except ER (PL × Int) := linesM tp n (n + 1).toNat p0M 0 0
theorem skM_b (tp : Int → Int) {n pos : Int} (h : 0 ≤ pos ∧ pos ≤ n) : pos ≤ skM tp n pos ∧ skM tp n pos ≤ n ∧ (skM tp n pos < n → tp (skM tp n pos) ≠ 32) := by
  obtain ⟨h1, h2, h3, h4⟩ := endF_spec (fun i => tp i = 32) (n - pos).toNat pos
  exact ⟨h1, by unfold skM; omega, fun z => h4 (by unfold skM at z; omega)⟩
theorem rnM_b (tp : Int → Int) {n s : Int} (h : 0 ≤ s ∧ s < n) : s < rnM tp n s ∧ rnM tp n s ≤ n ∧ (∀ t, s ≤ t → t < rnM tp n s → sortC (tp t) = sortC (tp s)) := by
  obtain ⟨h1, h2, h3, h4⟩ := endF_spec (fun i => sortC (tp i) = sortC (tp s)) (n - (s + 1)).toNat (s + 1)
  refine ⟨by unfold rnM; omega, by unfold rnM; omega, fun t a b => ?_⟩
  by_cases e : t = s
  · rw [e]
  · exact h3 t (by omega) b
/-- a token's bounds -/
def TkB (n : Int) (t : TK) : Prop := (0 ≤ t.2.1 ∧ t.2.1 ≤ t.2.2.1 ∧ t.2.2.1 ≤ n) ∧ (t.1 = 0 ∨ t.1 = 1 ∨ t.1 = 2 ∨ t.1 = 3) ∧ (t.1 = 0 → t.2.1 = n) ∧ (t.1 ≠ 0 → t.2.1 < t.2.2.1) ∧ (t.1 = 2 → 0 ≤ t.2.2.2 ∧ t.2.2.2 ≤ 99)
theorem val_b {tp : Int → Int} {m : Nat} {s : Int} (hm : m ≤ 2) (h : ∀ t, s ≤ t → t < s + m → 48 ≤ tp t ∧ tp t ≤ 57) : 0 ≤ valF tp m s 0 ∧ valF tp m s 0 ≤ 99 := by
  rcases (show m = 0 ∨ m = 1 ∨ m = 2 by omega) with rfl | rfl | rfl
  · exact ⟨by show (0 : Int) ≤ 0; omega, by show (0 : Int) ≤ 99; omega⟩
  · have h0 := h s (by omega) (by omega)
    show 0 ≤ 0 * 10 + tp s - 48 ∧ 0 * 10 + tp s - 48 ≤ 99
    omega
  · have h0 := h s (by omega) (by omega)
    have h1 := h (s + 1) (by omega) (by omega)
    show 0 ≤ (0 * 10 + tp s - 48) * 10 + tp (s + 1) - 48 ∧ (0 * 10 + tp s - 48) * 10 + tp (s + 1) - 48 ≤ 99
    omega
theorem tkM_b {tp : Int → Int} {n pos : Int} {t : TK} (h : 0 ≤ pos ∧ pos ≤ n) (ht : tkM tp n pos = .ok t) : TkB n t ∧ pos ≤ t.2.1 := by
  obtain ⟨b1, b2, -⟩ := skM_b tp h
  unfold tkM at ht
  by_cases e : (tokS tp n (skM tp n pos)).1 = -4
  · rw [if_pos e] at ht
    cases ht
  · rw [if_neg e] at ht
    injection ht with ht
    subst ht
    revert e
    generalize skM tp n pos = s at b1 b2 ⊢
    intro e
    unfold tokS at e ⊢
    by_cases c1 : n ≤ s
    · rw [if_pos c1] at e ⊢
      exact ⟨⟨⟨by show 0 ≤ s; omega, Int.le_refl s, b2⟩, Or.inl rfl, fun _ => by show s = n; omega, fun z => absurd rfl z, fun z => (by cases z)⟩, b1⟩
    · rw [if_neg c1] at e ⊢
      by_cases c2 : sortC (tp s) = -4
      · rw [if_pos c2] at e
        exact absurd rfl e
      · rw [if_neg c2] at e ⊢
        by_cases c3 : sortC (tp s) = 3
        · rw [if_pos c3] at e ⊢
          exact ⟨⟨⟨by show 0 ≤ s; omega, by show s ≤ s + 1; omega, by show s + 1 ≤ n; omega⟩, Or.inr (Or.inr (Or.inr rfl)), fun z => (by cases z), fun _ => by show s < s + 1; omega, fun z => (by cases z)⟩, b1⟩
        · rw [if_neg c3] at e ⊢
          obtain ⟨r1, r2, r3⟩ := rnM_b tp (n := n) (s := s) ⟨by omega, by omega⟩
          by_cases c4 : sortC (tp s) = 2
          · rw [if_pos c4] at e ⊢
            by_cases c5 : 2 < rnM tp n s - s
            · rw [if_pos c5] at e
              exact absurd rfl e
            · rw [if_neg c5] at e ⊢
              exact ⟨⟨⟨by show 0 ≤ s; omega, by show s ≤ rnM tp n s; omega, r2⟩, Or.inr (Or.inr (Or.inl rfl)), fun z => (by cases z), fun _ => r1, fun _ => val_b (by omega) (fun t u v => sortC_2 ((r3 t u (by omega)).trans c4))⟩, b1⟩
          · rw [if_neg c4] at e ⊢
            exact ⟨⟨⟨by show 0 ≤ s; omega, by show s ≤ rnM tp n s; omega, r2⟩, Or.inr (Or.inl rfl), fun z => (by cases z), fun _ => r1, fun z => (by cases z)⟩, b1⟩
