/-! plain things: truth as a number, filled rows -/
noncomputable def b2p (p : Prop) : Int := @ite Int p (Classical.propDecidable p) 1 0
theorem b2p_t {p : Prop} (h : p) : b2p p = 1 := by unfold b2p; exact if_pos h
theorem b2p_f {p : Prop} (h : ¬ p) : b2p p = 0 := by unfold b2p; exact if_neg h
theorem b2p_c {p q : Prop} (h : p ↔ q) : b2p p = b2p q := by rw [propext h]
theorem b2p_01 (p : Prop) : b2p p = 0 ∨ b2p p = 1 := by
  by_cases h : p
  · exact Or.inr (b2p_t h)
  · exact Or.inl (b2p_f h)
def sFill (S : SV) (a : Nat) (v n : Int) : SV := (S.1, fun a' i => if a' = a ∧ 0 ≤ i ∧ i < n then v else S.2.1 a' i, S.2.2)
theorem fI_sFill (S : SV) (a : Nat) (v n : Int) (a' k' : Nat) : fI (sFill S a v n) a' k' = fI S a' k' := rfl
theorem rI_sFill (S : SV) (a : Nat) (v n : Int) (a' : Nat) (k' : Int) : rI (sFill S a v n) a' k' = rI S a' k' := rfl
theorem aI_sFill (S : SV) (a : Nat) (v n : Int) (a' : Nat) (i : Int) : aI (sFill S a v n) a' i = if a' = a ∧ 0 ≤ i ∧ i < n then v else aI S a' i := rfl
theorem sFill_0 (S : SV) (a : Nat) (v : Int) : sFill S a v 0 = S := by
  refine SV_ext (fun _ _ => rfl) (fun a' i => ?_) (fun _ _ => rfl)
  rw [aI_sFill, if_neg (by omega)]
theorem sFill_1 (S : SV) (a : Nat) (v i : Int) (hi : 0 ≤ i) : sA (sFill S a v i) a i v = sFill S a v (i + 1) := by
  refine SV_ext (fun _ _ => rfl) (fun a' k => ?_) (fun _ _ => rfl)
  rw [aI_sA, aI_sFill, aI_sFill]
  by_cases h1 : a' = a
  · by_cases h2 : k = i
    · rw [if_pos ⟨h1, h2⟩, if_pos ⟨h1, by omega, by omega⟩]
    · rw [if_neg (fun z => h2 z.2)]
      by_cases h3 : 0 ≤ k ∧ k < i
      · rw [if_pos ⟨h1, h3⟩, if_pos ⟨h1, by omega, by omega⟩]
      · rw [if_neg (fun z => h3 z.2), if_neg (fun z => h3 ⟨z.2.1, by omega⟩)]
  · rw [if_neg (fun z => h1 z.1), if_neg (fun z => h1 z.1), if_neg (fun z => h1 z.1)]
section FILL
variable {G : GT} {K : List SH} {S : SV}
theorem l_fill {a n : Nat} {v : Int} (h : K[a]? = some (.inl (0, n))) (hn : n ≤ 65536) (i : Int) (hi : 0 ≤ i ∧ i ≤ n) : P G 0 0 0 mJ7_fill_53178 5 [some (.ref a), some (IV v), some (IV i), some (IV n)] [] K (sFill S a v i) (Ret K none (sFill S a v n)) := by
  induction hm : ((n : Int) - i).toNat using Nat.strongRecOn generalizing i with
  | _ m ih =>
    refine T_iload_n dJ7_fill_53178_5 rfl ?_
    refine T_iload_n dJ7_fill_53178_6 rfl ?_
    refine I_icmp_ge (tgt := 20) dJ7_fill_53178_7 (by decide) ⟨by omega, by omega⟩ ⟨by omega, by omega⟩ (fun h7 => ?_) (fun h7 => ?_)
    · exact T_return dJ7_fill_53178_20 rfl ⟨_, _, rfl, rfl, rfl, by rw [show i = (n : Int) by omega]⟩
    · refine T_aload_n dJ7_fill_53178_10 rfl rfl ?_
      refine T_iload_n dJ7_fill_53178_11 rfl ?_
      refine T_iload_n dJ7_fill_53178_12 rfl ?_
      refine P_iast dJ7_fill_53178_13 (by assumption) ⟨by omega, by omega⟩ (by first | decide | omega) ?_
      refine I_iinc dJ7_fill_53178_14 rfl (by decide) rfl ?_
      refine T_goto (tgt := 5) dJ7_fill_53178_17 (by decide) ?_
      rw [sFill_1 S a v i hi.1]
      exact ih _ (by omega) (i + 1) ⟨by omega, by omega⟩ rfl
theorem p_fill {a n : Nat} {v : Int} (h : K[a]? = some (.inl (0, n))) (hn : n ≤ 65536) : P G 0 0 0 mJ7_fill_53178 0 (LE mJ7_fill_53178 [.ref a, IV v]) [] K S (Ret K none (sFill S a v n)) := by
  rw [show LE mJ7_fill_53178 [.ref a, IV v] = [some (.ref a), some (IV v), none, none] from rfl]
  refine I_iconst dJ7_fill_53178_0 ?_
  refine T_istore_n dJ7_fill_53178_1 (by decide) rfl ?_
  refine T_aload_n dJ7_fill_53178_2 rfl rfl ?_
  refine P_alen dJ7_fill_53178_3 (by assumption) (by decide) rfl ?_
  refine T_istore_n dJ7_fill_53178_4 (by decide) rfl ?_
  have e := l_fill (G := G) (S := S) (v := v) h hn 0 ⟨by omega, by omega⟩
  rw [sFill_0] at e
  exact e
end FILL
/-! searches and sums, as loops do them: m steps from i on -/
noncomputable def fndF (p : Int → Prop) : Nat → Int → Int
  | 0, _ => -4
  | m + 1, i => @ite Int (p i) (Classical.propDecidable _) i (fndF p m (i + 1))
theorem fndF_0 (p : Int → Prop) (i : Int) : fndF p 0 i = -4 := rfl
theorem fndF_t {p : Int → Prop} {m : Nat} {i : Int} (hm : 0 < m) (h : p i) : fndF p m i = i := by
  obtain ⟨k, rfl⟩ : ∃ k, m = k + 1 := ⟨m - 1, by omega⟩
  unfold fndF; exact if_pos h
theorem fndF_f {p : Int → Prop} {m : Nat} {i : Int} (h : ¬ p i) : fndF p (m + 1) i = fndF p m (i + 1) := by
  rw [fndF]; exact if_neg h
theorem fndF_spec (p : Int → Prop) : ∀ (m : Nat) (i : Int), (fndF p m i = -4 ∧ ∀ t, i ≤ t → t < i + m → ¬ p t) ∨ (i ≤ fndF p m i ∧ fndF p m i < i + m ∧ p (fndF p m i) ∧ ∀ t, i ≤ t → t < fndF p m i → ¬ p t)
  | 0, i => Or.inl ⟨rfl, fun t h1 h2 => by omega⟩
  | m + 1, i => by
    by_cases h : p i
    · rw [fndF_t (by omega) h]
      exact Or.inr ⟨by omega, by omega, h, fun t h1 h2 => by omega⟩
    · rw [fndF_f h]
      rcases fndF_spec p m (i + 1) with ⟨h1, h2⟩ | ⟨h1, h2, h3, h4⟩
      · refine Or.inl ⟨h1, fun t q1 q2 => ?_⟩
        by_cases q : t = i
        · rw [q]; exact h
        · exact h2 t (by omega) (by omega)
      · refine Or.inr ⟨by omega, by omega, h3, fun t q1 q2 => ?_⟩
        by_cases q : t = i
        · rw [q]; exact h
        · exact h4 t (by omega) q2
theorem fndF_congr {p q : Int → Prop} : ∀ (m : Nat) (i : Int), (∀ t, i ≤ t → t < i + m → (p t ↔ q t)) → fndF p m i = fndF q m i
  | 0, i, _ => rfl
  | m + 1, i, h => by
    have ih := fndF_congr m (i + 1) (fun t h1 h2 => h t (by omega) (by omega))
    by_cases hp : p i
    · rw [fndF_t (by omega) hp, fndF_t (by omega) ((h i (by omega) (by omega)).mp hp)]
    · rw [fndF_f hp, fndF_f (fun z => hp ((h i (by omega) (by omega)).mpr z)), ih]
def sumF (f : Int → Int) : Nat → Int → Int
  | 0, _ => 0
  | m + 1, i => f i + sumF f m (i + 1)
theorem sumF_congr {f g : Int → Int} : ∀ (m : Nat) (i : Int), (∀ t, i ≤ t → t < i + m → f t = g t) → sumF f m i = sumF g m i
  | 0, i, _ => rfl
  | m + 1, i, h => by
    rw [sumF, sumF, h i (by omega) (by omega), sumF_congr m (i + 1) (fun t h1 h2 => h t (by omega) (by omega))]
/-- the k-th place (from 0) with p among m from i on; -4 -/
noncomputable def nthF (p : Int → Prop) : Nat → Int → Int → Int
  | 0, _, _ => -4
  | m + 1, i, k => @ite Int (p i) (Classical.propDecidable _) (if k = 0 then i else nthF p m (i + 1) (k - 1)) (nthF p m (i + 1) k)
theorem nthF_0 (p : Int → Prop) (i k : Int) : nthF p 0 i k = -4 := rfl
theorem nthF_t {p : Int → Prop} {m : Nat} {i k : Int} (h : p i) : nthF p (m + 1) i k = if k = 0 then i else nthF p m (i + 1) (k - 1) := by
  rw [nthF]; exact if_pos h
theorem nthF_f {p : Int → Prop} {m : Nat} {i k : Int} (h : ¬ p i) : nthF p (m + 1) i k = nthF p m (i + 1) k := by
  rw [nthF]; exact if_neg h
theorem nthF_congr {p q : Int → Prop} : ∀ (m : Nat) (i k : Int), (∀ t, i ≤ t → t < i + m → (p t ↔ q t)) → nthF p m i k = nthF q m i k
  | 0, i, k, _ => rfl
  | m + 1, i, k, h => by
    by_cases hp : p i
    · rw [nthF_t hp, nthF_t ((h i (by omega) (by omega)).mp hp), nthF_congr m (i + 1) (k - 1) (fun t h1 h2 => h t (by omega) (by omega))]
    · rw [nthF_f hp, nthF_f (fun z => hp ((h i (by omega) (by omega)).mpr z)), nthF_congr m (i + 1) k (fun t h1 h2 => h t (by omega) (by omega))]
theorem toNat_1 {n i : Int} (h : i < n) : (n - i).toNat = (n - (i + 1)).toNat + 1 := by omega
theorem toNat_0 {n i : Int} (h : n ≤ i) : (n - i).toNat = 0 := by omega
