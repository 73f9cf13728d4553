/-! a round is copied, a round is cleared -/
theorem sCa {S : SV} {a b : Nat} {n i : Int} (h0 : 0 ≤ i) (h1 : i < n) : aI (sC S a b 0 0 n) a i = aI S b i := by
  rw [aI_sC, if_pos ⟨rfl, by omega, by omega⟩, show 0 + (i - 0) = i by omega]
theorem sCn {S : SV} {a b a' : Nat} {x y n i : Int} (h : a' ≠ a) : aI (sC S a b x y n) a' i = aI S a' i := by
  rw [aI_sC, if_neg (fun z => h z.1)]
def bxC (S : SV) (o q : Nat) : SV := sC (sC (sC S (o + 1) (q + 1) 0 0 32) (o + 2) (q + 2) 0 0 32) (o + 3) (q + 3) 0 0 256
theorem BoxR.copy {S : SV} {o q : Nat} {g f : Int → Int} {w : Int → List Int} (h : BoxR S q g f w) (hd : q + 4 ≤ o ∨ o + 4 ≤ q) : BoxR (bxC S o q) o g f w := by
  intro a a0 a1
  obtain ⟨h1, h2, h3, h4, h5⟩ := h a a0 a1
  unfold bxC
  refine ⟨?_, fun z => ?_, h3, h4, fun t x ht => ?_⟩
  · rw [sCn (by omega), sCn (by omega), sCa a0 a1]
    exact h1
  · rw [sCn (by omega), sCa a0 a1, sCn (by omega)]
    exact h2 z
  · rw [sCa (by omega) (by omega), sCn (by omega), sCn (by omega)]
    exact h5 t x ht
def bkC (S : SV) (o q : Nat) : SV := sF (sF (sC (sC S (o + 1) (q + 1) 0 0 9) (o + 2) (q + 2) 0 0 300) o 2 (fI S q 2)) o 3 (fI (sF S o 2 (fI S q 2)) q 3)
theorem BookR.copy {S : SV} {o q : Nat} {ty : Int → Int} {lg : List Row} (h : BookR S q ty lg) (hd : q + 3 ≤ o ∨ o + 3 ≤ q) : BookR (bkC S o q) o ty lg := by
  obtain ⟨h1, h2, h3, h4, h5⟩ := h
  have e2 : fI (bkC S o q) o 2 = fI S q 2 := by
    unfold bkC
    rw [fI_sF, if_neg (by omega), fI_sF, if_pos ⟨rfl, rfl⟩]
  refine ⟨fun k k0 k1 => ?_, ?_, h3, by rw [e2]; exact h4, fun i r hi k hk => ?_⟩
  · unfold bkC
    rw [aI_sF, aI_sF, sCn (by omega), sCa k0 k1]
    exact h1 k k0 k1
  · unfold bkC
    rw [fI_sF, if_pos ⟨rfl, rfl⟩, fI_sF, if_neg (by omega)]
    exact h2
  · rw [e2]
    unfold bkC
    rw [aI_sF, aI_sF, sCa (by omega) (by omega), sCn (by omega)]
    exact h5 i r hi k hk
def stC (S : SV) (o q : Nat) : SV := sF (sC S (o + 1) (q + 1) 0 0 40) o 1 (fI S q 1)
theorem StrR.copy {S : SV} {o q : Nat} {l : List Row} (h : StrR S q l) : StrR (stC S o q) o l := by
  obtain ⟨h1, h2, h3⟩ := h
  refine ⟨?_, h2, fun i r hi k hk => ?_⟩
  · unfold stC
    rw [fI_sF, if_pos ⟨rfl, rfl⟩]
    exact h1
  · have hlt := (List.getElem?_eq_some_iff.mp hi).1
    unfold stC
    rw [aI_sF, sCa (by omega) (by omega)]
    exact h3 i r hi k hk
def it8 (S : SV) (a b : Nat) : SV := set8 S a (fI S b 0) (fI S b 1) (fI S b 2) (fI S b 3) (fI S b 4) (fI S b 5) (fI S b 6) (fI S b 7)
theorem fI_it8 (S : SV) (a b a' k : Nat) (hk : k < 8) : fI (it8 S a b) a' k = if a' = a then fI S b k else fI S a' k := by
  unfold it8
  rw [fI_set8 _ _ _ _ _ _ _ _ _ _ _ _ hk]
  split
  · rcases (show k = 0 ∨ k = 1 ∨ k = 2 ∨ k = 3 ∨ k = 4 ∨ k = 5 ∨ k = 6 ∨ k = 7 by omega) with rfl | rfl | rfl | rfl | rfl | rfl | rfl | rfl <;> rfl
  · rfl
section Copy
variable {G : GT} {K : List SH}
theorem p_Item_copy {S : SV} {a b : Nat} (ha : ItemAt K a) (hb : ItemAt K b) (hne : b ≠ a) : P G 0 0 0 mX3_copyFrom 0 (LE mX3_copyFrom [.ref a, .ref b]) [] K S (Ret K none (it8 S a b)) := by
  unfold ItemAt at ha hb
  have hn : (b = a) = False := eq_false hne
  rw [show LE mX3_copyFrom [.ref a, .ref b] = [some (.ref a), some (.ref b)] from rfl]
  refine T_aload_n dX3_copyFrom_0 rfl rfl ?_
  refine T_aload_n dX3_copyFrom_1 rfl rfl ?_
  refine P_geti dX3_copyFrom_2 fX3_37 (by assumption) rfl ?_
  refine P_puti dX3_copyFrom_5 fX3_37 (by assumption) rfl rfl ?_
  refine T_aload_n dX3_copyFrom_8 rfl rfl ?_
  refine T_aload_n dX3_copyFrom_9 rfl rfl ?_
  refine P_geti dX3_copyFrom_10 fX3_7 (by assumption) rfl ?_
  simp only [fI_sF, hn, false_and, if_false]
  refine P_puti dX3_copyFrom_13 fX3_7 (by assumption) rfl rfl ?_
  refine T_aload_n dX3_copyFrom_16 rfl rfl ?_
  refine T_aload_n dX3_copyFrom_17 rfl rfl ?_
  refine P_geti dX3_copyFrom_18 fX3_13 (by assumption) rfl ?_
  simp only [fI_sF, hn, false_and, if_false]
  refine P_puti dX3_copyFrom_21 fX3_13 (by assumption) rfl rfl ?_
  refine T_aload_n dX3_copyFrom_24 rfl rfl ?_
  refine T_aload_n dX3_copyFrom_25 rfl rfl ?_
  refine P_geti dX3_copyFrom_26 fX3_16 (by assumption) rfl ?_
  simp only [fI_sF, hn, false_and, if_false]
  refine P_puti dX3_copyFrom_29 fX3_16 (by assumption) rfl rfl ?_
  refine T_aload_n dX3_copyFrom_32 rfl rfl ?_
  refine T_aload_n dX3_copyFrom_33 rfl rfl ?_
  refine P_geti dX3_copyFrom_34 fX3_19 (by assumption) rfl ?_
  simp only [fI_sF, hn, false_and, if_false]
  refine P_puti dX3_copyFrom_37 fX3_19 (by assumption) rfl rfl ?_
  refine T_aload_n dX3_copyFrom_40 rfl rfl ?_
  refine T_aload_n dX3_copyFrom_41 rfl rfl ?_
  refine P_geti dX3_copyFrom_42 fX3_22 (by assumption) rfl ?_
  simp only [fI_sF, hn, false_and, if_false]
  refine P_puti dX3_copyFrom_45 fX3_22 (by assumption) rfl rfl ?_
  refine T_aload_n dX3_copyFrom_48 rfl rfl ?_
  refine T_aload_n dX3_copyFrom_49 rfl rfl ?_
  refine P_geti dX3_copyFrom_50 fX3_25 (by assumption) rfl ?_
  simp only [fI_sF, hn, false_and, if_false]
  refine P_puti dX3_copyFrom_53 fX3_25 (by assumption) rfl rfl ?_
  refine T_aload_n dX3_copyFrom_56 rfl rfl ?_
  refine T_aload_n dX3_copyFrom_57 rfl rfl ?_
  refine P_geti dX3_copyFrom_58 fX3_28 (by assumption) rfl ?_
  simp only [fI_sF, hn, false_and, if_false]
  refine P_puti dX3_copyFrom_61 fX3_28 (by assumption) rfl rfl ?_
  exact T_return dX3_copyFrom_64 rfl ⟨_, _, rfl, rfl, rfl, rfl⟩
theorem l_Mail_copy {o q : Nat} {ad aq : Int → Nat} {its : List Row} {liv : Int} {S0 : SV} (hM : MailAt K o) (hMq : MailAt K q) (hA : AdOk o ad) (hAq : AdOk q aq) (hd : q + 122 ≤ o ∨ o + 122 ≤ q) (hq : MailR S0 q aq its liv) (hrw : ∀ i : Int, 0 ≤ i → i < 120 → rI S0 (o + 1) i = some (ad i)) (hl : its.length ≤ 120) (hr0 : AllR S0) (m : Nat) : ∀ (i : Int) (S : SV), 0 ≤ i → (its.length : Int) - i = m → Outs S0 S (o + 2) (o + 122) → AllR S → (∀ (t : Nat) (x : Row), (t : Int) < i → its[t]? = some x → ∀ k, k < 8 → fI S (ad t) k = x k) → P G 1 0 0 mX4_copyFrom 2 [some (.ref o), some (.ref q), some (IV i)] [] K S (fun rv K' S' => rv = none ∧ K' = K ∧ MailR S' o ad its liv ∧ Outs S0 S' o (o + 122) ∧ AllR S') := by
  have k0 := hM.1
  have k1 := hM.2.1
  have q0 := hMq.1
  have q1 := hMq.2.1
  induction m with
  | zero =>
    intro i S h0 hm hO hr hx
    have u1 : fI S q 1 = its.length := ((hO q (q + 1) (by omega) q (by omega) (by omega)).1 1).trans hq.1
    have u2 : fI S q 2 = liv := ((hO q (q + 1) (by omega) q (by omega) (by omega)).1 2).trans hq.2.1
    have u3 : fI (sF S o 1 (its.length : Int)) q 2 = liv := by rw [fI_sF, if_neg (by omega)]; exact u2
    have hl2 : R32 liv := by rw [← hq.2.1]; exact hr0.1 _ _
    refine T_iload_n dX4_copyFrom_2 rfl ?_
    refine T_aload_n dX4_copyFrom_3 rfl rfl ?_
    refine P_geti dX4_copyFrom_4 fX4_18 (by assumption) rfl ?_
    rw [u1]
    refine I_icmp_ge (tgt := 31) dX4_copyFrom_7 (by decide) ⟨by omega, by omega⟩ ⟨by omega, by omega⟩ (fun h7 => ?_) (fun h7 => ?_)
    · refine T_aload_n dX4_copyFrom_31 rfl rfl ?_
      refine T_aload_n dX4_copyFrom_32 rfl rfl ?_
      refine P_geti dX4_copyFrom_33 fX4_18 (by assumption) rfl ?_
      rw [u1]
      refine P_puti dX4_copyFrom_36 fX4_18 (by assumption) rfl rfl ?_
      refine T_aload_n dX4_copyFrom_39 rfl rfl ?_
      refine T_aload_n dX4_copyFrom_40 rfl rfl ?_
      refine P_geti dX4_copyFrom_41 fX4_22 (by assumption) rfl ?_
      rw [u3]
      refine P_puti dX4_copyFrom_44 fX4_22 (by assumption) rfl rfl ?_
      exact T_return dX4_copyFrom_47 rfl ⟨_, _, rfl, rfl, rfl, ⟨by rw [fI_sF, if_neg (by omega), fI_sF, if_pos ⟨rfl, rfl⟩], by rw [fI_sF, if_pos ⟨rfl, rfl⟩], fun t a b => ((hO (o + 1) (o + 2) (by omega) (o + 1) (by omega) (by omega)).2.2 t).trans (hrw t a b), fun t x ht k hk => by
        have hlt := (List.getElem?_eq_some_iff.mp ht).1
        have hz := hA.1 (t : Int) (by omega) (by omega)
        rw [fI_sF, if_neg (by omega), fI_sF, if_neg (by omega)]
        exact hx t x (by omega) ht k hk⟩, fun x y z => (((hO x y (by omega)).tr (Same.sF (by omega))).tr (Same.sF (by omega))), (hr.sF ⟨by omega, by omega⟩).sF hl2⟩
    · omega
  | succ m ih =>
    intro i S h0 hm hO hr hx
    have u1 : fI S q 1 = its.length := ((hO q (q + 1) (by omega) q (by omega) (by omega)).1 1).trans hq.1
    have v1 : rI S (o + 1) i = some (ad i) := ((hO (o + 1) (o + 2) (by omega) (o + 1) (by omega) (by omega)).2.2 i).trans (hrw i (by omega) (by omega))
    have v2 : rI S (q + 1) i = some (aq i) := ((hO (q + 1) (q + 2) (by omega) (q + 1) (by omega) (by omega)).2.2 i).trans (hq.2.2.1 i (by omega) (by omega))
    have z1 := hA.1 i (by omega) (by omega)
    have z2 := hAq.1 i (by omega) (by omega)
    have ki : ItemAt K (ad i) := hM.2.2 _ (by omega) (by omega)
    have ki2 : K[ad i]? = some (.inr (3, [none, none, none, none, none, none, none, none])) := ki
    have kq : ItemAt K (aq i) := hMq.2.2 _ (by omega) (by omega)
    have fq : ∀ k, fI S (aq i) k = fI S0 (aq i) k := fun k => ((hO (aq i) (aq i + 1) (by omega) (aq i) (by omega) (by omega)).1 k)
    have z := ih (i + 1) (it8 S (ad i) (aq i)) (by omega) (by omega) (hO.tr (fun x y w => set8_same (by omega))) (set8_all hr (hr.1 _ _) (hr.1 _ _) (hr.1 _ _) (hr.1 _ _) (hr.1 _ _) (hr.1 _ _) (hr.1 _ _) (hr.1 _ _)) (fun t x ht hx2 k hk => by
      have hlt := (List.getElem?_eq_some_iff.mp hx2).1
      rw [fI_it8 _ _ _ _ _ hk]
      by_cases e : ad t = ad i
      · rw [if_pos e]
        have e2 := hA.2 t i (by omega) (by omega) (by omega) (by omega) e
        rw [fq, ← e2]
        exact hq.2.2.2 t x hx2 k hk
      · rw [if_neg e]
        have : (t : Int) ≠ i := fun z => e (by rw [z])
        exact hx t x (by omega) hx2 k hk)
    refine T_iload_n dX4_copyFrom_2 rfl ?_
    refine T_aload_n dX4_copyFrom_3 rfl rfl ?_
    refine P_geti dX4_copyFrom_4 fX4_18 (by assumption) rfl ?_
    rw [u1]
    refine I_icmp_ge (tgt := 31) dX4_copyFrom_7 (by decide) ⟨by omega, by omega⟩ ⟨by omega, by omega⟩ (fun h7 => ?_) (fun h7 => ?_)
    · omega
    · refine T_aload_n dX4_copyFrom_10 rfl rfl ?_
      refine P_getr dX4_copyFrom_11 fX4_11 (by assumption) rfl ?_
      refine T_iload_n dX4_copyFrom_14 rfl ?_
      refine P_aald dX4_copyFrom_15 (by assumption) (by decide) ⟨by omega, by omega⟩ (by decide) v1 ?_
      refine T_aload_n dX4_copyFrom_16 rfl rfl ?_
      refine P_getr dX4_copyFrom_17 fX4_11 (by assumption) rfl ?_
      refine T_iload_n dX4_copyFrom_20 rfl ?_
      refine P_aald dX4_copyFrom_21 (by assumption) (by decide) ⟨by omega, by omega⟩ (by decide) v2 ?_
      refine Q_callV dX4_copyFrom_22 kX3_copyFrom lX4_25 (by assumption) rfl (p_Item_copy ki kq (by omega)) rfl rfl (Nat.le_of_ble_eq_true rfl) (Nat.le_of_ble_eq_true rfl) (by decide) (by decide) ?_
      refine I_iinc dX4_copyFrom_25 rfl (by decide) rfl ?_
      refine T_goto (tgt := 2) dX4_copyFrom_28 (by decide) ?_
      exact z
theorem p_Mail_copy {o q : Nat} {ad aq : Int → Nat} {its : List Row} {liv : Int} {S : SV} (hM : MailAt K o) (hMq : MailAt K q) (hA : AdOk o ad) (hAq : AdOk q aq) (hd : q + 122 ≤ o ∨ o + 122 ≤ q) (hq : MailR S q aq its liv) (hrw : ∀ i : Int, 0 ≤ i → i < 120 → rI S (o + 1) i = some (ad i)) (hl : its.length ≤ 120) (hr : AllR S) : P G 1 0 0 mX4_copyFrom 0 (LE mX4_copyFrom [.ref o, .ref q]) [] K S (fun rv K' S' => rv = none ∧ K' = K ∧ MailR S' o ad its liv ∧ Outs S S' o (o + 122) ∧ AllR S') := by
  have z := l_Mail_copy (G := G) hM hMq hA hAq hd hq hrw hl hr its.length 0 S (by omega) (by omega) Outs.rf hr (fun t x ht => by omega)
  rw [show LE mX4_copyFrom [.ref o, .ref q] = [some (.ref o), some (.ref q), none] from rfl]
  refine I_iconst dX4_copyFrom_0 ?_
  refine T_istore_n dX4_copyFrom_1 (by decide) rfl ?_
  exact z
/-- what of a round never changes but by closing gaps: where its rows and strangers are -/
def RoundW (S : SV) (r : Nat) (ad : Int → Nat) : Prop := AdOk (r + 2) ad ∧ (∀ i : Int, 0 ≤ i → i < 120 → rI S (r + 3) i = some (ad i)) ∧ ∀ h : Int, 0 ≤ h → h < 5 → rI S (r + 131) h = some (sgAt r h)
theorem RoundW.same {S S' : SV} {r : Nat} {ad : Int → Nat} (h : RoundW S r ad) (hs : Same S S' r (r + 142)) : RoundW S' r ad := ⟨h.1, fun i a b => ((hs (r + 3) (by omega) (by omega)).2.2 i).trans (h.2.1 i a b), fun i a b => ((hs (r + 131) (by omega) (by omega)).2.2 i).trans (h.2.2 i a b)⟩
theorem RoundR.w {S : SV} {r : Nat} {ad : Int → Nat} {cr : List Row} {liv : Int} {e : EN} (h : RoundR S r ad cr liv e) (hA : AdOk (r + 2) ad) : RoundW S r ad := ⟨hA, h.2.2.1.2.2.1, h.2.2.2.2.2.1⟩
/-- a change of int values alone, inside the round -/
def RoundQ (K : List SH) (S : SV) (r : Nat) (ad : Int → Nat) (cr : List Row) (liv : Int) (e : EN) : Option Value → List SH → SV → Prop := fun rv K' S' => rv = none ∧ K' = K ∧ RoundR S' r ad cr liv e ∧ Outs S S' r (r + 142) ∧ AllR S'
theorem l_Round_copy {r q : Nat} {e : EN} {S0 : SV} (hd : q + 142 ≤ r ∨ r + 142 ≤ q) (hR : RoundAt K r) (hRq : RoundAt K q) (hq : ∀ h : Int, 0 ≤ h → h < 5 → rI S0 (q + 131) h = some (sgAt q h) ∧ StrR S0 (sgAt q h) (eSg e h)) (hrw : ∀ h : Int, 0 ≤ h → h < 5 → rI S0 (r + 131) h = some (sgAt r h)) (m : Nat) : ∀ (h : Int) (S : SV), 0 ≤ h → 5 - h = m → Outs S0 S (r + 132) (r + 142) → AllR S → (∀ t : Int, 0 ≤ t → t < h → StrR S (sgAt r t) (eSg e t)) → P G 2 0 0 mX6_copyFrom 77 [some (.ref r), some (.ref q), some (IV h)] [] K S (fun rv K' S' => rv = none ∧ K' = K ∧ (∀ t : Int, 0 ≤ t → t < 5 → StrR S' (sgAt r t) (eSg e t)) ∧ Outs S0 S' (r + 132) (r + 142) ∧ AllR S') := by
  have k0 := hR.1
  have k6 := hR.2.2.2.2.2.1
  have q0 := hRq.1
  have q6 := hRq.2.2.2.2.2.1
  induction m with
  | zero =>
    intro h S h0 hm hO hr hx
    refine T_iload_n dX6_copyFrom_77 rfl ?_
    refine I_iconst dX6_copyFrom_78 ?_
    refine I_icmp_ge (tgt := 103) dX6_copyFrom_79 (by decide) ⟨by omega, by omega⟩ ⟨by omega, by omega⟩ (fun h79 => ?_) (fun h79 => ?_)
    · exact T_return dX6_copyFrom_103 rfl ⟨_, _, rfl, rfl, rfl, fun t a b => hx t a (by omega), hO, hr⟩
    · omega
  | succ m ih =>
    intro h S h0 hm hO hr hx
    have v1 : rI S (r + 131) h = some (sgAt r h) := ((hO (r + 131) (r + 132) (by omega) (r + 131) (by omega) (by omega)).2.2 h).trans (hrw h (by omega) (by omega))
    have v2 : rI S (q + 131) h = some (sgAt q h) := ((hO (q + 131) (q + 132) (by omega) (q + 131) (by omega) (by omega)).2.2 h).trans (hq h (by omega) (by omega)).1
    have g1 := hR.sg h0 (by omega : h < 5)
    have g2 := hRq.sg h0 (by omega : h < 5)
    have w1 := g1.1
    have w2 := g2.1
    have s1 : sgAt r h = r + 132 + 2 * h.toNat := rfl
    have s2 : sgAt q h = q + 132 + 2 * h.toNat := rfl
    have hs : StrR S (sgAt q h) (eSg e h) := (hq h (by omega) (by omega)).2.same (hO _ _ (by omega))
    have hc : StrR (stC S (sgAt r h) (sgAt q h)) (sgAt r h) (eSg e h) := hs.copy
    have hsm : ∀ x y : Nat, y ≤ sgAt r h ∨ sgAt r h + 2 ≤ x → Same S (stC S (sgAt r h) (sgAt q h)) x y := fun x y w => (Same.sC (by omega)).tr (Same.sF (by omega))
    have z := ih (h + 1) (stC S (sgAt r h) (sgAt q h)) (by omega) (by omega) (hO.tr (fun x y w => hsm x y (by omega))) (hr.sC.sF (hr.1 _ _)) (fun t a b => by
      by_cases e1 : t = h
      · rw [e1]; exact hc
      · exact (hx t a (by omega)).same (hsm _ _ (by unfold sgAt; omega)))
    refine T_iload_n dX6_copyFrom_77 rfl ?_
    refine I_iconst dX6_copyFrom_78 ?_
    refine I_icmp_ge (tgt := 103) dX6_copyFrom_79 (by decide) ⟨by omega, by omega⟩ ⟨by omega, by omega⟩ (fun h79 => ?_) (fun h79 => ?_)
    · omega
    · refine T_aload_n dX6_copyFrom_82 rfl rfl ?_
      refine P_getr dX6_copyFrom_83 fX6_38 (by assumption) rfl ?_
      refine T_iload_n dX6_copyFrom_86 rfl ?_
      refine P_aald dX6_copyFrom_87 (by assumption) (by decide) ⟨by omega, by omega⟩ (by decide) v1 ?_
      refine T_aload_n dX6_copyFrom_88 rfl rfl ?_
      refine P_getr dX6_copyFrom_89 fX6_38 (by assumption) rfl ?_
      refine T_iload_n dX6_copyFrom_92 rfl ?_
      refine P_aald dX6_copyFrom_93 (by assumption) (by decide) ⟨by omega, by omega⟩ (by decide) v2 ?_
      refine Q_callV dX6_copyFrom_94 kX8_copyFrom lX6_83 (by assumption) rfl (p_Str_copyFrom g1 g2) rfl rfl (Nat.le_of_ble_eq_true rfl) (Nat.le_of_ble_eq_true rfl) (by decide) (by decide) ?_
      refine I_iinc dX6_copyFrom_97 rfl (by decide) rfl ?_
      refine T_goto (tgt := 77) dX6_copyFrom_100 (by decide) ?_
      exact z
theorem p_Round_copy {r q : Nat} {ad aq : Int → Nat} {its : List Row} {liv : Int} {e : EN} {S : SV} (hd : q + 142 ≤ r ∨ r + 142 ≤ q) (hR : RoundAt K r) (hRq : RoundAt K q) (hW : RoundW S r ad) (hAq : AdOk (q + 2) aq) (hq : RoundR S q aq its liv e) (hl : its.length ≤ 120) (hr : AllR S) : P G 2 0 0 mX6_copyFrom 0 (LE mX6_copyFrom [.ref r, .ref q]) [] K S (RoundQ K S r ad its liv e) := by
  obtain ⟨k0, k1, km, kb, kk, k6, -⟩ := id hR
  obtain ⟨q0, q1, qm, qb, qk, q6, -⟩ := id hRq
  have hn : (q = r) = False := eq_false (by omega)
  obtain ⟨⟨c1, c2, c3⟩, c4, c5, c6, c7, c8, c9⟩ := id hq
  have km0 := km.1
  have kb0 := kb.1
  have kk0 := kk.1
  have y1 : Same S (sC (sF (sF (sF S r 0 (eCl e)) r 1 (eLe e)) r 2 (eOl e)) (r + 1) (q + 1) 0 0 5) q (q + 142) := (((Same.sF (by omega)).tr (Same.sF (by omega))).tr (Same.sF (by omega))).tr (Same.sC (by omega))
  have hO1 : Outs S (sC (sF (sF (sF S r 0 (eCl e)) r 1 (eLe e)) r 2 (eOl e)) (r + 1) (q + 1) 0 0 5) r (r + 2) := fun x y w => (((Same.sF (by omega)).tr (Same.sF (by omega))).tr (Same.sF (by omega))).tr (Same.sC (by omega))
  have hr1 : AllR (sC (sF (sF (sF S r 0 (eCl e)) r 1 (eLe e)) r 2 (eOl e)) (r + 1) (q + 1) 0 0 5) := (((hr.sF (by rw [← c1]; exact hr.1 _ _)).sF (by rw [← c2]; exact hr.1 _ _)).sF (by rw [← c3]; exact hr.1 _ _)).sC
  have n0 : fI (sC (sF (sF (sF S r 0 (eCl e)) r 1 (eLe e)) r 2 (eOl e)) (r + 1) (q + 1) 0 0 5) r 0 = eCl e := by rw [fI_sC, fI_sF, if_neg (by omega), fI_sF, if_neg (by omega), fI_sF, if_pos ⟨rfl, rfl⟩]
  have n1 : fI (sC (sF (sF (sF S r 0 (eCl e)) r 1 (eLe e)) r 2 (eOl e)) (r + 1) (q + 1) 0 0 5) r 1 = eLe e := by rw [fI_sC, fI_sF, if_neg (by omega), fI_sF, if_pos ⟨rfl, rfl⟩]
  have n2 : fI (sC (sF (sF (sF S r 0 (eCl e)) r 1 (eLe e)) r 2 (eOl e)) (r + 1) (q + 1) 0 0 5) r 2 = eOl e := by rw [fI_sC, fI_sF, if_pos ⟨rfl, rfl⟩]
  have n3 : ∀ h : Int, 0 ≤ h → h < 5 → aI (sC (sF (sF (sF S r 0 (eCl e)) r 1 (eLe e)) r 2 (eOl e)) (r + 1) (q + 1) 0 0 5) (r + 1) h = eUp e h := fun h a b => by
    rw [sCa a b]
    exact c4 h a b
  have hq1 := hq.same hAq hl y1
  have hW1 : ∀ i : Int, 0 ≤ i → i < 120 → rI (sC (sF (sF (sF S r 0 (eCl e)) r 1 (eLe e)) r 2 (eOl e)) (r + 1) (q + 1) 0 0 5) (r + 2 + 1) i = some (ad i) := hW.2.1
  have hW2 : ∀ h : Int, 0 ≤ h → h < 5 → rI (sC (sF (sF (sF S r 0 (eCl e)) r 1 (eLe e)) r 2 (eOl e)) (r + 1) (q + 1) 0 0 5) (r + 131) h = some (sgAt r h) := hW.2.2
  rw [show LE mX6_copyFrom [.ref r, .ref q] = [some (.ref r), some (.ref q), none] from rfl]
  refine T_aload_n dX6_copyFrom_0 rfl rfl ?_
  refine T_aload_n dX6_copyFrom_1 rfl rfl ?_
  refine P_geti dX6_copyFrom_2 fX6_43 (by assumption) rfl ?_
  rw [c1]
  refine P_puti dX6_copyFrom_5 fX6_43 (by assumption) rfl rfl ?_
  refine T_aload_n dX6_copyFrom_8 rfl rfl ?_
  refine T_aload_n dX6_copyFrom_9 rfl rfl ?_
  refine P_geti dX6_copyFrom_10 fX6_47 (by assumption) rfl ?_
  simp only [fI_sF, hn, false_and, if_false]
  rw [c2]
  refine P_puti dX6_copyFrom_13 fX6_47 (by assumption) rfl rfl ?_
  refine T_aload_n dX6_copyFrom_16 rfl rfl ?_
  refine T_aload_n dX6_copyFrom_17 rfl rfl ?_
  refine P_geti dX6_copyFrom_18 fX6_50 (by assumption) rfl ?_
  simp only [fI_sF, hn, false_and, if_false]
  rw [c3]
  refine P_puti dX6_copyFrom_21 fX6_50 (by assumption) rfl rfl ?_
  refine T_aload_n dX6_copyFrom_24 rfl rfl ?_
  refine P_getr dX6_copyFrom_25 fX6_9 (by assumption) rfl ?_
  refine I_iconst dX6_copyFrom_28 ?_
  refine T_aload_n dX6_copyFrom_29 rfl rfl ?_
  refine P_getr dX6_copyFrom_30 fX6_9 (by assumption) rfl ?_
  refine I_iconst dX6_copyFrom_33 ?_
  refine T_aload_n dX6_copyFrom_34 rfl rfl ?_
  refine P_getr dX6_copyFrom_35 fX6_9 (by assumption) rfl ?_
  refine P_alen dX6_copyFrom_38 (by assumption) (by decide) rfl ?_
  refine P_copy dX6_copyFrom_39 lX6_67 q1 k1 (by decide) (by decide) (by decide) (fun z => by cases z) (by decide) ?_
  generalize sC (sF (sF (sF S r 0 (eCl e)) r 1 (eLe e)) r 2 (eOl e)) (r + 1) (q + 1) 0 0 5 = S1 at y1 hO1 hr1 n0 n1 n2 n3 hq1 hW1 hW2 ⊢
  refine T_aload_n dX6_copyFrom_42 rfl rfl ?_
  refine P_getr dX6_copyFrom_43 fX6_18 (by assumption) rfl ?_
  refine T_aload_n dX6_copyFrom_46 rfl rfl ?_
  refine P_getr dX6_copyFrom_47 fX6_18 (by assumption) rfl ?_
  refine R_callV dX6_copyFrom_50 kX4_copyFrom lX6_73 (by assumption) rfl (p_Mail_copy km qm hW.1 hAq (by omega) hq1.2.2.1 hW1 hl hr1) rfl rfl (Nat.le_of_ble_eq_true rfl) (Nat.le_of_ble_eq_true rfl) (by decide) (by decide) (fun r_ K_ S_ q_ => ?_)
  obtain ⟨rfl, hKe, hm2, hO2, hr2⟩ := q_
  subst hKe
  have hq2 := hq1.same hAq hl (hO2 q (q + 142) (by omega))
  have hbx := hq2.2.2.2.1.copy (o := r + 124) (by omega)
  have sb : Same S_ (bxC S_ (r + 124) (q + 124)) q (q + 142) := ((Same.sC (by omega)).tr (Same.sC (by omega))).tr (Same.sC (by omega))
  have hq3 := hq2.same hAq hl sb
  have hbk := hq3.2.2.2.2.1.copy (o := r + 128) (by omega)
  have sk : Same (bxC S_ (r + 124) (q + 124)) (bkC (bxC S_ (r + 124) (q + 124)) (r + 128) (q + 128)) q (q + 142) := (((Same.sC (by omega)).tr (Same.sC (by omega))).tr (Same.sF (by omega))).tr (Same.sF (by omega))
  have hq4 := hq3.same hAq hl sk
  have oB : Outs S_ (bxC S_ (r + 124) (q + 124)) (r + 124) (r + 128) := fun x y w => ((Same.sC (by omega)).tr (Same.sC (by omega))).tr (Same.sC (by omega))
  have oK : Outs (bxC S_ (r + 124) (q + 124)) (bkC (bxC S_ (r + 124) (q + 124)) (r + 128) (q + 128)) (r + 128) (r + 131) := fun x y w => (((Same.sC (by omega)).tr (Same.sC (by omega))).tr (Same.sF (by omega))).tr (Same.sF (by omega))
  have hr4 : AllR (bkC (bxC S_ (r + 124) (q + 124)) (r + 128) (q + 128)) := by
    have z := hr2.sC (a := r + 124 + 1) (b := q + 124 + 1) (sp := 0) (dp := 0) (n := 32)
    have z2 := z.sC (a := r + 124 + 2) (b := q + 124 + 2) (sp := 0) (dp := 0) (n := 32)
    have z3 : AllR (bxC S_ (r + 124) (q + 124)) := z2.sC
    exact (z3.sC.sC.sF (z3.1 _ _)).sF ((z3.sF (z3.1 _ _)).1 _ _)
  have hW4 : ∀ h : Int, 0 ≤ h → h < 5 → rI (bkC (bxC S_ (r + 124) (q + 124)) (r + 128) (q + 128)) (r + 131) h = some (sgAt r h) := fun h a b => ((hO2 (r + 131) (r + 132) (by omega) (r + 131) (by omega) (by omega)).2.2 h).trans (hW2 h a b)
  have z := l_Round_copy (G := G) (e := e) hd hR hRq (fun h a b => ⟨hq4.2.2.2.2.2.1 h a b, hq4.2.2.2.2.2.2 h a b⟩) hW4 5 0 _ (by omega) (by omega) Outs.rf hr4 (fun t a b => by omega)
  refine T_aload_n dX6_copyFrom_53 rfl rfl ?_
  refine P_getr dX6_copyFrom_54 fX6_25 (by assumption) rfl ?_
  refine T_aload_n dX6_copyFrom_57 rfl rfl ?_
  refine P_getr dX6_copyFrom_58 fX6_25 (by assumption) rfl ?_
  refine Q_callV dX6_copyFrom_61 kX1_copyFrom lX6_77 (by assumption) rfl (p_Boxes_copyFrom kb qb) rfl rfl (Nat.le_of_ble_eq_true rfl) (Nat.le_of_ble_eq_true rfl) (by decide) (by decide) ?_
  refine T_aload_n dX6_copyFrom_64 rfl rfl ?_
  refine P_getr dX6_copyFrom_65 fX6_32 (by assumption) rfl ?_
  refine T_aload_n dX6_copyFrom_68 rfl rfl ?_
  refine P_getr dX6_copyFrom_69 fX6_32 (by assumption) rfl ?_
  refine Q_callV dX6_copyFrom_72 kX0_copyFrom lX6_80 (by assumption) rfl (p_Book_copyFrom kk qk) rfl rfl (Nat.le_of_ble_eq_true rfl) (Nat.le_of_ble_eq_true rfl) (by decide) (by decide) ?_
  refine I_iconst dX6_copyFrom_75 ?_
  refine T_istore_n dX6_copyFrom_76 (by decide) rfl ?_
  exact P.weaken z (fun rv K' S' w => by
    obtain ⟨w1, w2, w3, w4, w5⟩ := w
    have o2 := hO2.sub (by omega : r ≤ r + 2) (by omega : r + 2 + 122 ≤ r + 142)
    refine ⟨w1, w2, ⟨⟨?_, ?_, ?_⟩, fun h a b => ?_, ?_, ?_, ?_, fun h a b => ?_, w3⟩, (((hO1.sub (by omega) (by omega)).tr o2).tr ((oB.sub (by omega) (by omega)).tr (oK.sub (by omega) (by omega)))).tr (w4.sub (by omega) (by omega)), w5⟩
    · have p1 := (hO2 r (r + 1) (by omega) r (by omega) (by omega)).1 0
      have p2 := (oB r (r + 1) (by omega) r (by omega) (by omega)).1 0
      have p3 := (oK r (r + 1) (by omega) r (by omega) (by omega)).1 0
      have p4 := (w4 r (r + 1) (by omega) r (by omega) (by omega)).1 0
      rw [p4, p3, p2, p1, n0]
    · have p1 := (hO2 r (r + 1) (by omega) r (by omega) (by omega)).1 1
      have p2 := (oB r (r + 1) (by omega) r (by omega) (by omega)).1 1
      have p3 := (oK r (r + 1) (by omega) r (by omega) (by omega)).1 1
      have p4 := (w4 r (r + 1) (by omega) r (by omega) (by omega)).1 1
      rw [p4, p3, p2, p1, n1]
    · have p1 := (hO2 r (r + 1) (by omega) r (by omega) (by omega)).1 2
      have p2 := (oB r (r + 1) (by omega) r (by omega) (by omega)).1 2
      have p3 := (oK r (r + 1) (by omega) r (by omega) (by omega)).1 2
      have p4 := (w4 r (r + 1) (by omega) r (by omega) (by omega)).1 2
      rw [p4, p3, p2, p1, n2]
    · have p1 := (hO2 (r + 1) (r + 2) (by omega) (r + 1) (by omega) (by omega)).2.1 h
      have p2 := (oB (r + 1) (r + 2) (by omega) (r + 1) (by omega) (by omega)).2.1 h
      have p3 := (oK (r + 1) (r + 2) (by omega) (r + 1) (by omega) (by omega)).2.1 h
      have p4 := (w4 (r + 1) (r + 2) (by omega) (r + 1) (by omega) (by omega)).2.1 h
      rw [p4, p3, p2, p1, n3 h a b]
    · exact hm2.same hW.1 hl (((oB _ _ (by omega)).tr (oK _ _ (by omega))).tr (w4 _ _ (by omega)))
    · exact hbx.same ((oK _ _ (by omega)).tr (w4 _ _ (by omega)))
    · exact hbk.same (w4 _ _ (by omega))
    · have p4 := (w4 (r + 131) (r + 132) (by omega) (r + 131) (by omega) (by omega)).2.2 h
      rw [p4, hW4 h a b])
end Copy
