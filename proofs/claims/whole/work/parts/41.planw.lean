/-! a round is cleared; a plan is written -/
def e0M : EN := (0, 0, 0, fun _ => 1, fun _ => 0, fun _ => 0, fun _ => [], fun _ => 0, [], fun _ => [])
section ClearR
variable {G : GT} {K : List SH}
theorem l_Round_clear {r : Nat} {S0 : SV} (hR : RoundAt K r) (hrw : ∀ h : Int, 0 ≤ h → h < 5 → rI S0 (r + 131) h = some (sgAt r h)) (m : Nat) : ∀ (h : Int) (S : SV), 0 ≤ h → 5 - h = m → Outs S0 S (r + 132) (r + 142) → AllR S → (∀ t : Int, 0 ≤ t → t < h → StrR S (sgAt r t) []) → P G 2 0 0 mX6_clear 46 [some (.ref r), some (IV h)] [] K S (fun rv K' S' => rv = none ∧ K' = K ∧ (∀ t : Int, 0 ≤ t → t < 5 → StrR S' (sgAt r t) []) ∧ Outs S0 S' (r + 132) (r + 142) ∧ AllR S') := by
  have k0 := hR.1
  have k6 := hR.2.2.2.2.2.1
  induction m with
  | zero =>
    intro h S h0 hm hO hr hx
    refine T_iload_n dX6_clear_46 rfl ?_
    refine I_iconst dX6_clear_47 ?_
    refine I_icmp_ge (tgt := 67) dX6_clear_48 (by decide) ⟨by omega, by omega⟩ ⟨by omega, by omega⟩ (fun h48 => ?_) (fun h48 => ?_)
    · exact T_return dX6_clear_67 rfl ⟨_, _, rfl, rfl, rfl, fun t a b => hx t a (by omega), hO, hr⟩
    · omega
  | succ m ih =>
    intro h S h0 hm hO hr hx
    have v1 : rI S (r + 131) h = some (sgAt r h) := ((hO (r + 131) (r + 132) (by omega) (r + 131) (by omega) (by omega)).2.2 h).trans (hrw h (by omega) (by omega))
    have g1 := hR.sg h0 (by omega : h < 5)
    have w1 := g1.1
    have s1 : sgAt r h = r + 132 + 2 * h.toNat := rfl
    have hsm : ∀ x y : Nat, y ≤ sgAt r h ∨ sgAt r h + 2 ≤ x → Same S (sF S (sgAt r h) 1 0) x y := fun x y w => Same.sF (by omega)
    have z := ih (h + 1) (sF S (sgAt r h) 1 0) (by omega) (by omega) (hO.tr (fun x y w => hsm x y (by omega))) (hr.sF (by decide)) (fun t a b => by
      by_cases e1 : t = h
      · rw [e1]
        exact ⟨by rw [fI_sF, if_pos ⟨rfl, rfl⟩]; rfl, by decide, fun i x hi => by cases hi⟩
      · exact (hx t a (by omega)).same (hsm _ _ (by unfold sgAt; omega)))
    refine T_iload_n dX6_clear_46 rfl ?_
    refine I_iconst dX6_clear_47 ?_
    refine I_icmp_ge (tgt := 67) dX6_clear_48 (by decide) ⟨by omega, by omega⟩ ⟨by omega, by omega⟩ (fun h48 => ?_) (fun h48 => ?_)
    · omega
    · refine T_aload_n dX6_clear_51 rfl rfl ?_
      refine P_getr dX6_clear_52 fX6_38 (by assumption) rfl ?_
      refine T_iload_n dX6_clear_55 rfl ?_
      refine P_aald dX6_clear_56 (by assumption) (by decide) ⟨by omega, by omega⟩ (by decide) v1 ?_
      refine I_iconst dX6_clear_57 ?_
      refine P_puti dX6_clear_58 fX6_64 (by assumption) rfl rfl ?_
      refine I_iinc dX6_clear_61 rfl (by decide) rfl ?_
      refine T_goto (tgt := 46) dX6_clear_64 (by decide) ?_
      exact z
def clrS (S : SV) (r : Nat) : SV := sF (sF (sFill (sFill (sF (sF (sFill (sF (sF (sF S r 0 0) r 1 0) r 2 0) (r + 1) 1 5) (r + 2) 1 0) (r + 2) 2 0) (r + 124 + 1) 0 32) (r + 128 + 1) 0 9) (r + 128) 2 0) (r + 128) 3 0
theorem clrS_R {r : Nat} {ad : Int → Nat} {S : SV} (hW : RoundW S r ad) (hr : AllR S) : (∀ S' : SV, Outs (clrS S r) S' (r + 132) (r + 142) → (∀ t : Int, 0 ≤ t → t < 5 → StrR S' (sgAt r t) []) → RoundR S' r ad [] 0 e0M ∧ Outs S S' r (r + 142)) ∧ AllR (clrS S r) ∧ ∀ h : Int, 0 ≤ h → h < 5 → rI (clrS S r) (r + 131) h = some (sgAt r h) := by
  refine ⟨fun S' hO hs => ⟨⟨⟨?_, ?_, ?_⟩, fun h a b => ?_, ⟨?_, ?_, fun i a b => ?_, fun i x hi => by cases hi⟩, fun a a0 a1 => ⟨?_, fun z => absurd rfl z, rfl, Int.le_refl 0, fun t x ht => by cases ht⟩, ⟨fun k a b => ?_, ?_, by decide, ?_, fun i x hi => by cases hi⟩, fun h a b => ?_, hs⟩, ?_⟩, ?_, hW.2.2⟩
  · rw [(hO r (r + 1) (by omega) r (by omega) (by omega)).1 0]
    unfold clrS
    simp [fI_sF, fI_sFill, e0M, eCl]
  · rw [(hO r (r + 1) (by omega) r (by omega) (by omega)).1 1]
    unfold clrS
    simp [fI_sF, fI_sFill, e0M, eLe]
  · rw [(hO r (r + 1) (by omega) r (by omega) (by omega)).1 2]
    unfold clrS
    simp [fI_sF, fI_sFill, e0M, eOl]
  · rw [(hO (r + 1) (r + 2) (by omega) (r + 1) (by omega) (by omega)).2.1 h]
    unfold clrS
    rw [aI_sF, aI_sF, aI_sFill, if_neg (by omega), aI_sFill, if_neg (by omega), aI_sF, aI_sF, aI_sFill, if_pos ⟨rfl, a, b⟩]
    rfl
  · rw [(hO (r + 2) (r + 3) (by omega) (r + 2) (by omega) (by omega)).1 1]
    unfold clrS
    simp [fI_sF, fI_sFill]
  · rw [(hO (r + 2) (r + 3) (by omega) (r + 2) (by omega) (by omega)).1 2]
    unfold clrS
    simp [fI_sF, fI_sFill]
  · rw [(hO (r + 2 + 1) (r + 4) (by omega) (r + 2 + 1) (by omega) (by omega)).2.2 i]
    exact hW.2.1 i a b
  · rw [(hO (r + 124 + 1) (r + 126) (by omega) (r + 124 + 1) (by omega) (by omega)).2.1 a]
    unfold clrS
    rw [aI_sF, aI_sF, aI_sFill, if_neg (by omega), aI_sFill, if_pos ⟨rfl, a0, a1⟩]
    rfl
  · rw [(hO (r + 128 + 1) (r + 130) (by omega) (r + 128 + 1) (by omega) (by omega)).2.1 k]
    unfold clrS
    rw [aI_sF, aI_sF, aI_sFill, if_pos ⟨rfl, a, b⟩]
    rfl
  · rw [(hO (r + 128) (r + 129) (by omega) (r + 128) (by omega) (by omega)).1 3]
    unfold clrS
    rw [fI_sF, if_pos ⟨rfl, rfl⟩]
    rfl
  · rw [(hO (r + 128) (r + 129) (by omega) (r + 128) (by omega) (by omega)).1 2]
    unfold clrS
    rw [fI_sF, if_neg (by omega), fI_sF, if_pos ⟨rfl, rfl⟩]
    decide
  · rw [(hO (r + 131) (r + 132) (by omega) (r + 131) (by omega) (by omega)).2.2 h]
    exact hW.2.2 h a b
  · refine Outs.tr (fun x y w => ?_) (hO.sub (by omega) (by omega))
    exact ((((((((((Same.sF (by omega)).tr (Same.sF (by omega))).tr (Same.sF (by omega))).tr (Same.sFill (by omega))).tr (Same.sF (by omega))).tr (Same.sF (by omega))).tr (Same.sFill (by omega))).tr (Same.sFill (by omega))).tr (Same.sF (by omega))).tr (Same.sF (by omega)))
  · exact (((((((((hr.sF (by decide)).sF (by decide)).sF (by decide)).sFill (by decide)).sF (by decide)).sF (by decide)).sFill (by decide)).sFill (by decide)).sF (by decide)).sF (by decide)
theorem p_Round_clear {r : Nat} {ad : Int → Nat} {S : SV} (hR : RoundAt K r) (hW : RoundW S r ad) (hr : AllR S) : P G 2 0 0 mX6_clear 0 (LE mX6_clear [.ref r]) [] K S (RoundQ K S r ad [] 0 e0M) := by
  obtain ⟨k0, k1, km, kb, kk, k6, -⟩ := id hR
  have km0 := km.1
  have kb0 := kb.1
  have kk0 := kk.1
  obtain ⟨g1, g2, g3⟩ := clrS_R hW hr
  have z := l_Round_clear (G := G) hR g3 5 0 _ (by omega) (by omega) Outs.rf g2 (fun t a b => by omega)
  rw [show LE mX6_clear [.ref r] = [some (.ref r), none] from rfl]
  refine T_aload_n dX6_clear_0 rfl rfl ?_
  refine I_iconst dX6_clear_1 ?_
  refine P_puti dX6_clear_2 fX6_43 (by assumption) rfl rfl ?_
  refine T_aload_n dX6_clear_5 rfl rfl ?_
  refine I_iconst dX6_clear_6 ?_
  refine P_puti dX6_clear_7 fX6_47 (by assumption) rfl rfl ?_
  refine T_aload_n dX6_clear_10 rfl rfl ?_
  refine I_iconst dX6_clear_11 ?_
  refine P_puti dX6_clear_12 fX6_50 (by assumption) rfl rfl ?_
  refine T_aload_n dX6_clear_15 rfl rfl ?_
  refine P_getr dX6_clear_16 fX6_9 (by assumption) rfl ?_
  refine I_iconst dX6_clear_19 ?_
  refine Q_callS dX6_clear_20 kJ7_fill_53178 lX6_53 (p_fill k1 (by decide)) rfl rfl (Nat.le_of_ble_eq_true rfl) (Nat.le_of_ble_eq_true rfl) (by decide) (by decide) ?_
  refine T_aload_n dX6_clear_23 rfl rfl ?_
  refine P_getr dX6_clear_24 fX6_18 (by assumption) rfl ?_
  refine Q_callV dX6_clear_27 kX4_clear lX6_59 (by assumption) rfl (p_Mail_clear km) rfl rfl (Nat.le_of_ble_eq_true rfl) (Nat.le_of_ble_eq_true rfl) (by decide) (by decide) ?_
  refine T_aload_n dX6_clear_30 rfl rfl ?_
  refine P_getr dX6_clear_31 fX6_25 (by assumption) rfl ?_
  refine Q_callV dX6_clear_34 kX1_clear lX6_62 (by assumption) rfl (p_Boxes_clear kb) rfl rfl (Nat.le_of_ble_eq_true rfl) (Nat.le_of_ble_eq_true rfl) (by decide) (by decide) ?_
  refine T_aload_n dX6_clear_37 rfl rfl ?_
  refine P_getr dX6_clear_38 fX6_32 (by assumption) rfl ?_
  refine Q_callV dX6_clear_41 kX0_clear lX6_63 (by assumption) rfl (p_Book_clear kk) rfl rfl (Nat.le_of_ble_eq_true rfl) (Nat.le_of_ble_eq_true rfl) (by decide) (by decide) ?_
  refine I_iconst dX6_clear_44 ?_
  refine T_istore_n dX6_clear_45 (by decide) rfl ?_
  exact P.weaken z (fun rv K' S' w => ⟨w.1, w.2.1, (g1 S' w.2.2.2.1 w.2.2.1).1, (g1 S' w.2.2.2.1 w.2.2.1).2, w.2.2.2.2⟩)
end ClearR
-- how a plan changes
def addHM (p : PL) (w : Int) : PL := (pHs p + 1, p.2.1, fset (pWa p) (pHs p) w, p.2.2.2)
def addDM (p : PL) : PL := (p.1, pDm p + 1, p.2.2)
def addRcM (p : PL) (d h w : Int) : PL := (p.1, p.2.1, p.2.2.1, fset (pRc p) d (pRc p d + 1), fset (pRh p) d (fset (pRh p d) (pRc p d) h), fset (pRp p) d (fset (pRp p d) (pRc p d) w), p.2.2.2.2.2.2)
def tellM (p : PL) (a k : Int) : PL := (p.1, p.2.1, p.2.2.1, p.2.2.2.1, p.2.2.2.2.1, p.2.2.2.2.2.1, fset (pKd p) a k, p.2.2.2.2.2.2.2)
def addLdM (p : PL) (a b : Int) : PL := (p.1, p.2.1, p.2.2.1, p.2.2.2.1, p.2.2.2.2.1, p.2.2.2.2.2.1, p.2.2.2.2.2.2.1, fset (pLc p) a (pLc p a + 1), fset (pLd p) a (fset (pLd p a) (pLc p a) b))
def p0M : PL := (0, 0, fun _ => 0, fun _ => 0, fun _ _ => 0, fun _ _ => 0, fun _ => 0, fun _ => 0, fun _ _ => 0)
theorem fset_t {α : Type} (f : Int → α) (k : Int) (v : α) : fset f k v k = v := if_pos rfl
theorem fset_f {α : Type} (f : Int → α) {k k' : Int} (v : α) (h : k' ≠ k) : fset f k v k' = f k' := if_neg h
noncomputable def kdC (p : PL) (k : Int) : Int := sumF (fun a => b2p (pKd p a = k)) 32 0
def keyLt (S : SV) (p : Nat) (x y : Int) : Prop := aI S (p + 4) x < aI S (p + 4) y ∨ aI S (p + 4) x = aI S (p + 4) y ∧ aI S (p + 3) x < aI S (p + 3) y
def RankR (S : SV) (p : Nat) (n d : Int) : Prop := (∀ i, 0 ≤ i → i < n → d * 3 ≤ aI S (p + 5) (d * 3 + i) ∧ aI S (p + 5) (d * 3 + i) < d * 3 + n) ∧ ∀ i j, 0 ≤ i → i < j → j < n → keyLt S p (aI S (p + 5) (d * 3 + i)) (aI S (p + 5) (d * 3 + j))
def PlanR (S : SV) (p : Nat) (pl : PL) : Prop := (fI S p 0 = pHs pl ∧ fI S p 1 = pDm pl) ∧ (∀ h, 0 ≤ h → h < 5 → aI S (p + 1) h = pWa pl h) ∧ (∀ d, 0 ≤ d → d < 4 → aI S (p + 2) d = pRc pl d ∧ (∀ i, 0 ≤ i → i < pRc pl d → aI S (p + 3) (d * 3 + i) = pRh pl d i ∧ aI S (p + 4) (d * 3 + i) = pRp pl d i) ∧ RankR S p (pRc pl d) d) ∧ (∀ a, 0 ≤ a → a < 32 → aI S (p + 6) a = pKd pl a ∧ aI S (p + 8) a = pLc pl a ∧ ∀ i, 0 ≤ i → i < pLc pl a → aI S (p + 9) (a * 4 + i) = pLd pl a i) ∧ ∀ k, 1 ≤ k → k ≤ 3 → aI S (p + 7) k = kdC pl k
theorem PlanR.same {S S' : SV} {p : Nat} {pl : PL} (h : PlanR S p pl) (hs : Same S S' p (p + 10)) : PlanR S' p pl := by
  have f0 : ∀ k, fI S' p k = fI S p k := (hs p (by omega) (by omega)).1
  have e1 : aI S' (p + 1) = aI S (p + 1) := funext (hs (p + 1) (by omega) (by omega)).2.1
  have e2 : aI S' (p + 2) = aI S (p + 2) := funext (hs (p + 2) (by omega) (by omega)).2.1
  have e3 : aI S' (p + 3) = aI S (p + 3) := funext (hs (p + 3) (by omega) (by omega)).2.1
  have e4 : aI S' (p + 4) = aI S (p + 4) := funext (hs (p + 4) (by omega) (by omega)).2.1
  have e5 : aI S' (p + 5) = aI S (p + 5) := funext (hs (p + 5) (by omega) (by omega)).2.1
  have e6 : aI S' (p + 6) = aI S (p + 6) := funext (hs (p + 6) (by omega) (by omega)).2.1
  have e7 : aI S' (p + 7) = aI S (p + 7) := funext (hs (p + 7) (by omega) (by omega)).2.1
  have e8 : aI S' (p + 8) = aI S (p + 8) := funext (hs (p + 8) (by omega) (by omega)).2.1
  have e9 : aI S' (p + 9) = aI S (p + 9) := funext (hs (p + 9) (by omega) (by omega)).2.1
  unfold PlanR RankR keyLt
  rw [f0, f0, e1, e2, e3, e4, e5, e6, e7, e8, e9]
  exact h
theorem sumF_z (f : Int → Int) : ∀ (m : Nat) (i : Int), (∀ t, i ≤ t → t < i + m → f t = 0) → sumF f m i = 0
  | 0, _, _ => rfl
  | m + 1, i, h => by
    rw [sumF, h i (by omega) (by omega), sumF_z f m (i + 1) (fun t a b => h t (by omega) (by omega))]
    rfl
theorem sumF_up {f g : Int → Int} {a : Int} : ∀ (m : Nat) (i : Int), i ≤ a → a < i + m → (∀ t, i ≤ t → t < i + m → t ≠ a → f t = g t) → sumF f m i = sumF g m i - g a + f a
  | 0, i, h1, h2, _ => by omega
  | m + 1, i, h1, h2, h => by
    rw [sumF, sumF]
    by_cases e : i = a
    · rw [sumF_congr m (i + 1) (fun t u v => h t (by omega) (by omega) (by omega)), e]
      omega
    · rw [sumF_up m (i + 1) (by omega) (by omega) (fun t u v w => h t (by omega) (by omega) w), h i (by omega) (by omega) e]
      omega
def plQ (K : List SH) (S : SV) (p : Nat) (pl : PL) : Option Value → List SH → SV → Prop := fun rv K' S' => rv = none ∧ K' = K ∧ PlanR S' p pl ∧ Outs S S' p (p + 10) ∧ AllR S'
section PlanW
variable {G : GT} {K : List SH} {S : SV} {p : Nat} {pl : PL}
def plc0 (S : SV) (p : Nat) : SV := sFill (sFill (sFill (sFill (sFill (sF (sF S p 0 0) p 1 0) (p + 1) 0 5) (p + 2) 0 4) (p + 6) 0 32) (p + 7) 0 4) (p + 8) 0 32
theorem plc0_R (S : SV) (p : Nat) : PlanR (plc0 S p) p p0M := by
  unfold plc0
  refine ⟨⟨by simp [fI_sFill, fI_sF, pHs, p0M], by simp [fI_sFill, fI_sF, pDm, p0M]⟩, fun h a b => ?_, fun d a b => ⟨?_, fun i u v => ?_, ⟨fun i u v => ?_, fun i j u v w => ?_⟩⟩, fun x a b => ⟨?_, ?_, fun i u v => ?_⟩, fun k a b => ?_⟩
  · rw [aI_sFill, if_neg (by omega), aI_sFill, if_neg (by omega), aI_sFill, if_neg (by omega), aI_sFill, if_neg (by omega), aI_sFill, if_pos ⟨rfl, a, b⟩]
    rfl
  · rw [aI_sFill, if_neg (by omega), aI_sFill, if_neg (by omega), aI_sFill, if_neg (by omega), aI_sFill, if_pos ⟨rfl, a, b⟩]
    rfl
  · have v : i < 0 := v
    omega
  · have v : i < 0 := v
    omega
  · have w : j < 0 := w
    omega
  · rw [aI_sFill, if_neg (by omega), aI_sFill, if_neg (by omega), aI_sFill, if_pos ⟨rfl, a, b⟩]
    rfl
  · rw [aI_sFill, if_pos ⟨rfl, a, b⟩]
    rfl
  · have v : i < 0 := v
    omega
  · rw [aI_sFill, if_neg (by omega), aI_sFill, if_pos ⟨rfl, by omega, by omega⟩]
    refine (sumF_z _ 32 0 (fun t u v => b2p_f (fun z => ?_))).symm
    have z : (0 : Int) = k := z
    omega
theorem p_Plan_clear (h : PlanAt K p) (hr : AllR S) : P G 1 0 0 mX5_clear 0 (LE mX5_clear [.ref p]) [] K S (plQ K S p p0M) := by
  obtain ⟨k0, k1, k2, k3, k4, k5, k6, k7, k8, k9⟩ := h
  rw [show LE mX5_clear [.ref p] = [some (.ref p)] from rfl]
  refine T_aload_n dX5_clear_0 rfl rfl ?_
  refine I_iconst dX5_clear_1 ?_
  refine P_puti dX5_clear_2 fX5_39 (by assumption) rfl rfl ?_
  refine T_aload_n dX5_clear_5 rfl rfl ?_
  refine I_iconst dX5_clear_6 ?_
  refine P_puti dX5_clear_7 fX5_43 (by assumption) rfl rfl ?_
  refine T_aload_n dX5_clear_10 rfl rfl ?_
  refine P_getr dX5_clear_11 fX5_9 (by assumption) rfl ?_
  refine I_iconst dX5_clear_14 ?_
  refine Q_callS dX5_clear_15 kJ7_fill_53178 lX5_46 (p_fill k1 (by decide)) rfl rfl (Nat.le_of_ble_eq_true rfl) (Nat.le_of_ble_eq_true rfl) (by decide) (by decide) ?_
  refine T_aload_n dX5_clear_18 rfl rfl ?_
  refine P_getr dX5_clear_19 fX5_15 (by assumption) rfl ?_
  refine I_iconst dX5_clear_22 ?_
  refine Q_callS dX5_clear_23 kJ7_fill_53178 lX5_46 (p_fill k2 (by decide)) rfl rfl (Nat.le_of_ble_eq_true rfl) (Nat.le_of_ble_eq_true rfl) (by decide) (by decide) ?_
  refine T_aload_n dX5_clear_26 rfl rfl ?_
  refine P_getr dX5_clear_27 fX5_27 (by assumption) rfl ?_
  refine I_iconst dX5_clear_30 ?_
  refine Q_callS dX5_clear_31 kJ7_fill_53178 lX5_46 (p_fill k6 (by decide)) rfl rfl (Nat.le_of_ble_eq_true rfl) (Nat.le_of_ble_eq_true rfl) (by decide) (by decide) ?_
  refine T_aload_n dX5_clear_34 rfl rfl ?_
  refine P_getr dX5_clear_35 fX5_30 (by assumption) rfl ?_
  refine I_iconst dX5_clear_38 ?_
  refine Q_callS dX5_clear_39 kJ7_fill_53178 lX5_46 (p_fill k7 (by decide)) rfl rfl (Nat.le_of_ble_eq_true rfl) (Nat.le_of_ble_eq_true rfl) (by decide) (by decide) ?_
  refine T_aload_n dX5_clear_42 rfl rfl ?_
  refine P_getr dX5_clear_43 fX5_33 (by assumption) rfl ?_
  refine I_iconst dX5_clear_46 ?_
  refine Q_callS dX5_clear_47 kJ7_fill_53178 lX5_46 (p_fill k8 (by decide)) rfl rfl (Nat.le_of_ble_eq_true rfl) (Nat.le_of_ble_eq_true rfl) (by decide) (by decide) ?_
  exact T_return dX5_clear_50 rfl ⟨_, _, rfl, rfl, rfl, plc0_R S p, fun x y w => ((((((Same.sF (by omega)).tr (Same.sF (by omega))).tr (Same.sFill (by omega))).tr (Same.sFill (by omega))).tr (Same.sFill (by omega))).tr (Same.sFill (by omega))).tr (Same.sFill (by omega)), ((((((hr.sF (by decide)).sF (by decide)).sFill (by decide)).sFill (by decide)).sFill (by decide)).sFill (by decide)).sFill (by decide)⟩
end PlanW
