/-! the reference: its row, and what of the state it holds -/
def MoAt (K : List SH) : Prop := K[453]? = some (.inr (11, [some 454, some 455, some 456, some 457, some 458, some 459, none, none, none, none, none, none, none, none, none, some 460, some 461, some 462, none, some 463, some 464, some 465])) ∧ K[454]? = some (.inl (0, 1583)) ∧ K[455]? = some (.inl (0, 246)) ∧ K[456]? = some (.inl (0, 3166)) ∧ K[457]? = some (.inl (2, 2)) ∧ K[458]? = some (.inl (0, 1583)) ∧ K[459]? = some (.inl (0, 200)) ∧ K[460]? = some (.inl (2, 32)) ∧ K[461]? = some (.inl (0, 8)) ∧ K[462]? = some (.inl (2, 4)) ∧ K[463]? = some (.inl (0, 4)) ∧ K[464]? = some (.inl (0, 4)) ∧ K[465]? = some (.inl (0, 160))
def PlC (f : Int → Int) (pl : PL) : Prop := (f 0 = pHs pl ∧ f 1 = pDm pl) ∧ (∀ h, 0 ≤ h → h < 5 → f (16 + 2 * h) = pWa pl h) ∧ (∀ d, 0 ≤ d → d < 4 → f (26 + 7 * d) = pRc pl d ∧ ∀ i, 0 ≤ i → i < pRc pl d → f (26 + 7 * d + 1 + 2 * i) = pRh pl d i ∧ f (26 + 7 * d + 2 + 2 * i) = pRp pl d i) ∧ ∀ a, 0 ≤ a → a < 32 → f (54 + 6 * a) = pKd pl a ∧ f (54 + 6 * a + 1) = pLc pl a ∧ ∀ i, 0 ≤ i → i < pLc pl a → f (54 + 6 * a + 2 + i) = pLd pl a i
def NuC (f : Int → Int) (e : EN) : Prop := f 2 = eCl e ∧ f 3 = eLe e ∧ f 6 = eOl e
def ItC (f : Int → Int) (its : List Row) : Prop := f 4 = its.length ∧ its.length ≤ 60 ∧ ∀ (i : Nat) (r : Row), its[i]? = some r → ∀ k : Nat, k < 8 → f (803 + 8 * i + k) = r k
def LgC (f : Int → Int) (ty : Int → Int) (lg : List Row) : Prop := f 5 = lg.length ∧ lg.length ≤ 60 ∧ (∀ k, 0 ≤ k → k < 9 → f (7 + k) = ty k) ∧ ∀ (i : Nat) (r : Row), lg[i]? = some r → ∀ k : Nat, k < 5 → f (1283 + 5 * i + k) = r k
def UpC (f : Int → Int) (up : Int → Int) : Prop := ∀ h, 0 ≤ h → h < 5 → h < f 0 → f (16 + 2 * h + 1) = up h
def BxC (f : Int → Int) (g b : Int → Int) (w : Int → List Int) : Prop := ∀ a, 0 ≤ a → a < 32 → f (246 + 11 * a) = g a ∧ (g a ≠ 0 → f (246 + 11 * a + 1) = b a) ∧ f (246 + 11 * a + 2) = (w a).length ∧ (w a).length ≤ 8 ∧ (0 ≤ g a ∧ ((w a).length : Int) = if g a < 8 then g a else 8) ∧ ∀ (t : Nat) (x : Int), (w a)[t]? = some x → f (246 + 11 * a + 3 + t) = x
def SgC (f : Int → Int) (sg : Int → List Row) : Prop := ∀ h, 0 ≤ h → h < 5 → f (598 + 41 * h) = (sg h).length ∧ (sg h).length ≤ 8 ∧ ∀ (i : Nat) (r : Row), (sg h)[i]? = some r → ∀ k : Nat, k < 5 → f (598 + 41 * h + 1 + 5 * i + k) = r k
def EnC (f : Int → Int) (e : EN) (its : List Row) : Prop := NuC f e ∧ ItC f its ∧ LgC f (eTy e) (eLg e) ∧ UpC f (eUp e) ∧ BxC f (eGv e) (eBf e) (eWn e) ∧ SgC f (eSg e)
theorem PlC.cg {f f' : Int → Int} {pl : PL} (h : PlC f pl) (hP : PlOk pl) (hf : ∀ i, i = 0 ∨ i = 1 ∨ (16 ≤ i ∧ i < 26 ∧ i % 2 = 0) ∨ (26 ≤ i ∧ i < 246) → f' i = f i) : PlC f' pl := by
  obtain ⟨⟨h1, h2⟩, h3, h4, h5⟩ := h
  refine ⟨⟨(hf 0 (by omega)).trans h1, (hf 1 (by omega)).trans h2⟩, fun x a b => (hf _ (by omega)).trans (h3 x a b), fun d a b => ?_, fun x a b => ?_⟩
  · have := hP.2.2.1 d a b
    exact ⟨(hf _ (by omega)).trans (h4 d a b).1, fun i u v => ⟨(hf _ (by omega)).trans ((h4 d a b).2 i u v).1, (hf _ (by omega)).trans ((h4 d a b).2 i u v).2⟩⟩
  · have := (hP.2.2.2.2.2 x a b).2.1
    exact ⟨(hf _ (by omega)).trans (h5 x a b).1, (hf _ (by omega)).trans (h5 x a b).2.1, fun i u v => (hf _ (by omega)).trans ((h5 x a b).2.2 i u v)⟩
theorem ItC.cg {f f' : Int → Int} {its : List Row} (h : ItC f its) (hf : ∀ i, i = 4 ∨ (803 ≤ i ∧ i < 1283) → f' i = f i) : ItC f' its := by
  obtain ⟨h1, h2, h3⟩ := h
  refine ⟨(hf _ (by omega)).trans h1, h2, fun i r hi k hk => ?_⟩
  have hl := (List.getElem?_eq_some_iff.mp hi).1
  exact (hf _ (by omega)).trans (h3 i r hi k hk)
theorem LgC.cg {f f' : Int → Int} {ty : Int → Int} {lg : List Row} (h : LgC f ty lg) (hf : ∀ i, i = 5 ∨ (7 ≤ i ∧ i < 16) ∨ (1283 ≤ i ∧ i < 1583) → f' i = f i) : LgC f' ty lg := by
  obtain ⟨h1, h2, h3, h4⟩ := h
  refine ⟨(hf _ (by omega)).trans h1, h2, fun k a b => (hf _ (by omega)).trans (h3 k a b), fun i r hi k hk => ?_⟩
  have hl := (List.getElem?_eq_some_iff.mp hi).1
  exact (hf _ (by omega)).trans (h4 i r hi k hk)
theorem UpC.cg {f f' : Int → Int} {up : Int → Int} (h : UpC f up) (hf : ∀ i, i = 0 ∨ (17 ≤ i ∧ i < 26 ∧ i % 2 = 1) → f' i = f i) : UpC f' up := fun x a b c => (hf _ (by omega)).trans (h x a b (by rw [← hf 0 (Or.inl rfl)]; exact c))
theorem BxC.cg {f f' : Int → Int} {g b : Int → Int} {w : Int → List Int} (h : BxC f g b w) (hf : ∀ i, 246 ≤ i ∧ i < 598 → f' i = f i) : BxC f' g b w := fun a u v => by
  obtain ⟨h1, h2, h3, h4, h5, h6⟩ := h a u v
  refine ⟨(hf _ (by omega)).trans h1, fun z => (hf _ (by omega)).trans (h2 z), (hf _ (by omega)).trans h3, h4, h5, fun t x ht => ?_⟩
  have hl := (List.getElem?_eq_some_iff.mp ht).1
  exact (hf _ (by omega)).trans (h6 t x ht)
theorem SgC.cg {f f' : Int → Int} {sg : Int → List Row} (h : SgC f sg) (hf : ∀ i, 598 ≤ i ∧ i < 803 → f' i = f i) : SgC f' sg := fun a u v => by
  obtain ⟨h1, h2, h3⟩ := h a u v
  refine ⟨(hf _ (by omega)).trans h1, h2, fun i r hi k hk => ?_⟩
  have hl := (List.getElem?_eq_some_iff.mp hi).1
  exact (hf _ (by omega)).trans (h3 i r hi k hk)
theorem NuC.cg {f f' : Int → Int} {e : EN} (h : NuC f e) (hf : ∀ i, i = 2 ∨ i = 3 ∨ i = 6 → f' i = f i) : NuC f' e := ⟨(hf _ (by omega)).trans h.1, (hf _ (by omega)).trans h.2.1, (hf _ (by omega)).trans h.2.2⟩
/-- all but the model's row of now -/
def Wr (S S' : SV) : Prop := ∀ a, a ≠ 454 → Same S S' a (a + 1)
theorem Wr.rf {S : SV} : Wr S S := fun _ _ => Same.rf
theorem Wr.tr {S S1 S2 : SV} (h : Wr S S1) (h2 : Wr S1 S2) : Wr S S2 := fun a x => (h a x).tr (h2 a x)
theorem Wr.sA {S : SV} {a : Nat} {i v : Int} (h : a = 454 ∨ a = 454) : Wr S (sA S a i v) := fun b x => Same.sA (by omega)
theorem Wr.a {S S' : SV} (h : Wr S S') {a : Nat} (h1 : a ≠ 454) (k : Int) : aI S' a k = aI S a k := (h a h1 a (by omega) (by omega)).2.1 k
/-- .. nor of what is opened, of what is shut -/
def Wo (S S' : SV) : Prop := ∀ a, a ≠ 454 → a ≠ 461 → a ≠ 462 → Same S S' a (a + 1)
theorem Wr.o {S S' : SV} (h : Wr S S') : Wo S S' := fun a x _ _ => h a x
theorem Wo.rf {S : SV} : Wo S S := fun _ _ _ _ => Same.rf
theorem Wo.tr {S S1 S2 : SV} (h : Wo S S1) (h2 : Wo S1 S2) : Wo S S2 := fun a x y z => (h a x y z).tr (h2 a x y z)
theorem Wo.sA {S : SV} {a : Nat} {i v : Int} (h : a = 454 ∨ a = 461 ∨ a = 462) : Wo S (sA S a i v) := fun b x y z => Same.sA (by omega)
theorem Wo.f {S S' : SV} (h : Wo S S') {a : Nat} (h1 : a ≠ 454 ∧ a ≠ 461 ∧ a ≠ 462) (k : Nat) : fI S' a k = fI S a k := (h a h1.1 h1.2.1 h1.2.2 a (by omega) (by omega)).1 k
theorem Wo.a {S S' : SV} (h : Wo S S') {a : Nat} (h1 : a ≠ 454 ∧ a ≠ 461 ∧ a ≠ 462) (k : Int) : aI S' a k = aI S a k := (h a h1.1 h1.2.1 h1.2.2 a (by omega) (by omega)).2.1 k
theorem Wo.r {S S' : SV} (h : Wo S S') {a : Nat} (h1 : a ≠ 454 ∧ a ≠ 461 ∧ a ≠ 462) (k : Int) : rI S' a k = rI S a k := (h a h1.1 h1.2.1 h1.2.2 a (by omega) (by omega)).2.2 k
theorem Wo.outs {S S' : SV} (h : Wo S S') : Outs S S' 453 466 := fun x y w a q1 q2 => h a (by omega) (by omega) (by omega) a (by omega) (by omega)
theorem aS {S : SV} {i v : Int} : aI (sA S 454 i v) 454 = fset (aI S 454) i v := by
  funext k
  rw [aI_sA]
  unfold fset
  by_cases h : k = i
  · rw [if_pos ⟨rfl, h⟩, if_pos h]
  · rw [if_neg (fun z => h z.2), if_neg h]
/-- the reference's row of now -/
def RS (K : List SH) (S : SV) (pl : PL) (e : EN) (its : List Row) : Prop := MoAt K ∧ AllR S ∧ PlOk pl ∧ PlC (aI S 454) pl ∧ EnC (aI S 454) e its
def RSQ (K : List SH) (S : SV) (pl : PL) (e : EN) (its : List Row) : Option Value → List SH → SV → Prop := fun rv K' S' => rv = none ∧ K' = K ∧ RS K S' pl e its ∧ Wr S S'
theorem cmp_R (x y : Int) : R32 (cmpI x y) := by
  unfold cmpI
  split
  · decide
  · split <;> decide
theorem cmp_lt {x y : Int} : cmpI x y < 0 ↔ x < y := by
  unfold cmpI
  split
  · omega
  · split <;> omega
theorem cmp_gt {x y : Int} : 0 < cmpI x y ↔ y < x := by
  unfold cmpI
  split
  · omega
  · split <;> omega
def inB (v lo hi : Int) : Prop := lo ≤ v ∧ v ≤ hi
section RF1
variable {G : GT} {K : List SH} {S : SV} {pl : PL} {e : EN} {its : List Row}
theorem p_in {v lo hi : Int} (hv : R63 v) (hl : R63 lo) (hh : R63 hi) : P G 0 0 0 mX11_in 0 (LE mX11_in [LV v, LV lo, LV hi]) [] K S (Ret K (some (IV (b2p (inB v lo hi)))) S) := by
  rw [show LE mX11_in [LV v, LV lo, LV hi] = [some (LV v), none, some (LV lo), none, some (LV hi), none] from rfl]
  refine T_lload_n dX11_in_0 rfl ?_
  refine T_lload_n dX11_in_1 rfl ?_
  refine I_lcmp dX11_in_2 hv hl ?_
  refine I_if_lt (tgt := 17) dX11_in_3 (by decide) (cmp_R _ _) (fun h3 => ?_) (fun h3 => ?_)
  · have hq : b2p (inB v lo hi) = 0 := b2p_f (fun z => by have := (cmp_lt (x := v) (y := lo)); have := (cmp_gt (x := v) (y := hi)); have := z.1; have := z.2; omega)
    refine I_iconst dX11_in_17 ?_
    exact I_zreturn dX11_in_18 rfl (by decide) ⟨_, _, rfl, by rw [hq], rfl, rfl⟩
  · refine T_lload_n dX11_in_6 rfl ?_
    refine T_lload dX11_in_7 rfl ?_
    refine I_lcmp dX11_in_9 hv hh ?_
    refine I_if_gt (tgt := 17) dX11_in_10 (by decide) (cmp_R _ _) (fun h10 => ?_) (fun h10 => ?_)
    · have hq : b2p (inB v lo hi) = 0 := b2p_f (fun z => by have := (cmp_lt (x := v) (y := lo)); have := (cmp_gt (x := v) (y := hi)); have := z.1; have := z.2; omega)
      refine I_iconst dX11_in_17 ?_
      exact I_zreturn dX11_in_18 rfl (by decide) ⟨_, _, rfl, by rw [hq], rfl, rfl⟩
    · have hq : b2p (inB v lo hi) = 1 := b2p_t ⟨by have := (cmp_lt (x := v) (y := lo)); omega, by have := (cmp_gt (x := v) (y := hi)); omega⟩
      refine I_iconst dX11_in_13 ?_
      refine T_goto (tgt := 18) dX11_in_14 (by decide) ?_
      exact I_zreturn dX11_in_18 rfl (by decide) ⟨_, _, rfl, by rw [hq], rfl, rfl⟩
theorem p_flag {z : Int} (hz : z = 0 ∨ z = 1) : P G 0 0 0 mX11_flag 0 (LE mX11_flag [IV z]) [] K S (Ret K (some (IV z)) S) := by
  rw [show LE mX11_flag [IV z] = [some (IV z)] from rfl]
  refine T_iload_n dX11_flag_0 rfl ?_
  refine I_if_eq (tgt := 8) dX11_flag_1 (by decide) ⟨by omega, by omega⟩ (fun h1 => ?_) (fun h1 => ?_)
  · have hv : z = 0 := by omega
    refine I_iconst dX11_flag_8 ?_
    exact I_ireturn dX11_flag_9 rfl ⟨_, _, rfl, by rw [hv], rfl, rfl⟩
  · have hv : z = 1 := by omega
    refine I_iconst dX11_flag_4 ?_
    refine T_goto (tgt := 9) dX11_flag_5 (by decide) ?_
    exact I_ireturn dX11_flag_9 rfl ⟨_, _, rfl, by rw [hv], rfl, rfl⟩
theorem p_R_isAddress {a : Int} (ha : R32 a) : P G 1 0 0 mX11_isAddress 0 (LE mX11_isAddress [IV a]) [] K S (Ret K (some (IV (b2p (addrB a)))) S) := by
  rw [show LE mX11_isAddress [IV a] = [some (IV a)] from rfl]
  refine T_iload_n dX11_isAddress_0 rfl ?_
  refine I_i2l dX11_isAddress_1 ha ?_
  refine I_lconst dX11_isAddress_2 ?_
  refine I_ldc2 (n := 31) dX11_isAddress_3 qX11_143 rfl ?_
  refine Q_callS dX11_isAddress_6 kX11_in lX11_52 (p_in (lo := 0) ⟨by omega, by omega⟩ (by decide) (by decide)) rfl rfl (Nat.le_of_ble_eq_true rfl) (Nat.le_of_ble_eq_true rfl) (by decide) (by decide) ?_
  exact I_zreturn dX11_isAddress_9 rfl (b2p_01 _) ⟨_, _, rfl, by rw [b2p_c (show inB a 0 31 ↔ addrB a from ⟨fun z => ⟨z.1, by have := z.2; omega⟩, fun z => ⟨z.1, by have := z.2; omega⟩⟩)], rfl, rfl⟩
theorem p_R_isHouse {h : Int} (hR : RS K S pl e its) (hh : R32 h) : P G 1 0 0 mX11_isHouse 0 (LE mX11_isHouse [.ref 453, IV h]) [] K S (Ret K (some (IV (b2p (houseB pl h)))) S) := by
  have m0 := hR.1.1
  have m1 := hR.1.2.1
  have e0 : aI S 454 0 = pHs pl := hR.2.2.2.1.1.1
  have hb := hR.2.2.1.1
  rw [show LE mX11_isHouse [.ref 453, IV h] = [some (.ref 453), some (IV h)] from rfl]
  refine T_iload_n dX11_isHouse_0 rfl ?_
  refine I_i2l dX11_isHouse_1 hh ?_
  refine I_lconst dX11_isHouse_2 ?_
  refine T_aload_n dX11_isHouse_3 rfl rfl ?_
  refine P_getr dX11_isHouse_4 fX11_7 (by assumption) rfl ?_
  refine I_iconst dX11_isHouse_7 ?_
  refine P_iald dX11_isHouse_8 (by assumption) ⟨by omega, by omega⟩ (by first | decide | omega) ?_
  rw [e0]
  refine I_iconst dX11_isHouse_9 ?_
  refine I_isub dX11_isHouse_10 ?_
  refine I_i2l dX11_isHouse_11 ⟨by omega, by omega⟩ ?_
  refine Q_callS dX11_isHouse_12 kX11_in lX11_52 (p_in (lo := 0) ⟨by omega, by omega⟩ (by decide) ⟨by omega, by omega⟩) rfl rfl (Nat.le_of_ble_eq_true rfl) (Nat.le_of_ble_eq_true rfl) (by decide) (by decide) ?_
  exact I_zreturn dX11_isHouse_15 rfl (b2p_01 _) ⟨_, _, rfl, by rw [b2p_c (show inB h 0 (pHs pl - 1) ↔ houseB pl h from ⟨fun z => ⟨z.1, by have := z.2; omega⟩, fun z => ⟨z.1, by have := z.2; omega⟩⟩)], rfl, rfl⟩
theorem p_R_receivers {d : Int} (hR : RS K S pl e its) (hd : 0 ≤ d ∧ d < 4) : P G 0 0 0 mX11_receivers 0 (LE mX11_receivers [.ref 453, IV d]) [] K S (Ret K (some (IV (pRc pl d))) S) := by
  have m0 := hR.1.1
  have m1 := hR.1.2.1
  have e0 : aI S 454 1 = pDm pl := hR.2.2.2.1.1.2
  have hb := hR.2.2.1.2.1
  have e1 := (hR.2.2.2.1.2.2.1 d hd.1 hd.2).1
  have hz := (hR.2.2.1.2.2.1 d hd.1 hd.2).2.2
  rw [show LE mX11_receivers [.ref 453, IV d] = [some (.ref 453), some (IV d)] from rfl]
  refine T_iload_n dX11_receivers_0 rfl ?_
  refine T_aload_n dX11_receivers_1 rfl rfl ?_
  refine P_getr dX11_receivers_2 fX11_7 (by assumption) rfl ?_
  refine I_iconst dX11_receivers_5 ?_
  refine P_iald dX11_receivers_6 (by assumption) ⟨by omega, by omega⟩ (by first | decide | omega) ?_
  rw [e0]
  refine I_icmp_ge (tgt := 25) dX11_receivers_7 (by decide) ⟨by omega, by omega⟩ ⟨by omega, by omega⟩ (fun h7 => ?_) (fun h7 => ?_)
  · have hz := hz (by omega)
    refine I_iconst dX11_receivers_25 ?_
    exact I_ireturn dX11_receivers_26 rfl ⟨_, _, rfl, by first | rfl | rw [hz], rfl, rfl⟩
  · refine T_aload_n dX11_receivers_10 rfl rfl ?_
    refine P_getr dX11_receivers_11 fX11_7 (by assumption) rfl ?_
    refine I_bipush dX11_receivers_14 (by decide) ?_
    refine I_bipush dX11_receivers_16 (by decide) ?_
    refine T_iload_n dX11_receivers_18 rfl ?_
    refine I_imul dX11_receivers_19 ?_
    refine I_iadd dX11_receivers_20 ?_
    refine P_iald dX11_receivers_21 (by assumption) ⟨by omega, by omega⟩ (by first | decide | omega) ?_
    rw [e1]
    refine T_goto (tgt := 26) dX11_receivers_22 (by decide) ?_
    exact I_ireturn dX11_receivers_26 rfl ⟨_, _, rfl, by first | rfl | rw [hz], rfl, rfl⟩
theorem p_R_receiverOf {d i w : Int} (hR : RS K S pl e its) (hd : 0 ≤ d ∧ d < 4) (hi : 0 ≤ i ∧ i < pRc pl d) (hw : w = 0 ∨ w = 1) : P G 0 0 0 mX11_receiverOf 0 (LE mX11_receiverOf [.ref 453, IV d, IV i, IV w]) [] K S (Ret K (some (IV (if w = 0 then pRh pl d i else pRp pl d i))) S) := by
  have m0 := hR.1.1
  have m1 := hR.1.2.1
  obtain ⟨e1, e2⟩ := (hR.2.2.2.1.2.2.1 d hd.1 hd.2).2 i hi.1 hi.2
  have hz := (hR.2.2.1.2.2.1 d hd.1 hd.2)
  have ev : aI S 454 (26 + 7 * d + 1 + 2 * i + w) = if w = 0 then pRh pl d i else pRp pl d i := by
    rcases hw with rfl | rfl
    · rw [if_pos rfl, ← e1]
      congr 1
      omega
    · rw [if_neg (by omega), ← e2]
      congr 1
      omega
  rw [show LE mX11_receiverOf [.ref 453, IV d, IV i, IV w] = [some (.ref 453), some (IV d), some (IV i), some (IV w)] from rfl]
  refine T_aload_n dX11_receiverOf_0 rfl rfl ?_
  refine P_getr dX11_receiverOf_1 fX11_7 (by assumption) rfl ?_
  refine I_bipush dX11_receiverOf_4 (by decide) ?_
  refine I_bipush dX11_receiverOf_6 (by decide) ?_
  refine T_iload_n dX11_receiverOf_8 rfl ?_
  refine I_imul dX11_receiverOf_9 ?_
  refine I_iadd dX11_receiverOf_10 ?_
  refine I_iconst dX11_receiverOf_11 ?_
  refine I_iadd dX11_receiverOf_12 ?_
  refine I_iconst dX11_receiverOf_13 ?_
  refine T_iload_n dX11_receiverOf_14 rfl ?_
  refine I_imul dX11_receiverOf_15 ?_
  refine I_iadd dX11_receiverOf_16 ?_
  refine T_iload_n dX11_receiverOf_17 rfl ?_
  refine I_iadd dX11_receiverOf_18 ?_
  refine P_iald dX11_receiverOf_19 (by assumption) ⟨by omega, by omega⟩ (by first | decide | omega) ?_
  rw [ev]
  exact I_ireturn dX11_receiverOf_20 rfl ⟨_, _, rfl, rfl, rfl, rfl⟩
theorem l_R_pref {h d : Int} (hR : RS K S pl e its) (hd : 0 ≤ d ∧ d < 4) (hh : R32 h) (m : Nat) : ∀ i : Int, 0 ≤ i → pRc pl d - i = m → (∀ t, 0 ≤ t → t < i → pRh pl d t ≠ h) → P G 1 0 0 mX11_preferenceOf 2 [some (.ref 453), some (IV h), some (IV d), some (IV i)] [] K S (Ret K (some (IV (prefM pl h d))) S) := by
  have m0 := hR.1.1
  have hz := (hR.2.2.1.2.2.1 d hd.1 hd.2)
  have hb5 := hR.2.2.1.1
  induction m with
  | zero =>
    intro i h0 hm hb
    have hv : prefM pl h d = -4 := by
      rcases prefM_cases pl h d with z | ⟨t, t0, t1, t2, -⟩
      · exact z.1
      · exact absurd t2 (hb t t0 (by omega))
    refine T_iload_n dX11_preferenceOf_2 rfl ?_
    refine T_aload_n dX11_preferenceOf_3 rfl rfl ?_
    refine T_iload_n dX11_preferenceOf_4 rfl ?_
    refine Q_callV dX11_preferenceOf_5 kX11_receivers lX11_145 (by assumption) rfl (p_R_receivers hR hd) rfl rfl (Nat.le_of_ble_eq_true rfl) (Nat.le_of_ble_eq_true rfl) (by decide) (by decide) ?_
    refine I_icmp_ge (tgt := 36) dX11_preferenceOf_8 (by decide) ⟨by omega, by omega⟩ ⟨by omega, by omega⟩ (fun h8 => ?_) (fun h8 => ?_)
    · refine I_bipush dX11_preferenceOf_36 (by decide) ?_
      exact I_ireturn dX11_preferenceOf_38 rfl ⟨_, _, rfl, by rw [hv], rfl, rfl⟩
    · omega
  | succ m ih =>
    intro i h0 hm hb
    have hrh := (hR.2.2.1.2.2.2.1 d i hd.1 hd.2 h0 (by omega)).1
    have c1 := p_R_receiverOf (G := G) (w := 0) hR hd ⟨h0, by omega⟩ (Or.inl rfl)
    have c2 := p_R_receiverOf (G := G) (w := 1) hR hd ⟨h0, by omega⟩ (Or.inr rfl)
    rw [if_pos rfl] at c1
    rw [if_neg (by omega)] at c2
    by_cases hq : pRh pl d i = h
    · have hv : prefM pl h d = pRp pl d i := by rw [← hq]; exact prefM_at hR.2.2.1 hd ⟨h0, by omega⟩
      refine T_iload_n dX11_preferenceOf_2 rfl ?_
      refine T_aload_n dX11_preferenceOf_3 rfl rfl ?_
      refine T_iload_n dX11_preferenceOf_4 rfl ?_
      refine Q_callV dX11_preferenceOf_5 kX11_receivers lX11_145 (by assumption) rfl (p_R_receivers hR hd) rfl rfl (Nat.le_of_ble_eq_true rfl) (Nat.le_of_ble_eq_true rfl) (by decide) (by decide) ?_
      refine I_icmp_ge (tgt := 36) dX11_preferenceOf_8 (by decide) ⟨by omega, by omega⟩ ⟨by omega, by omega⟩ (fun h8 => ?_) (fun h8 => ?_)
      · omega
      · refine T_aload_n dX11_preferenceOf_11 rfl rfl ?_
        refine T_iload_n dX11_preferenceOf_12 rfl ?_
        refine T_iload_n dX11_preferenceOf_13 rfl ?_
        refine I_iconst dX11_preferenceOf_14 ?_
        refine Q_callV dX11_preferenceOf_15 kX11_receiverOf lX11_148 (by assumption) rfl c1 rfl rfl (Nat.le_of_ble_eq_true rfl) (Nat.le_of_ble_eq_true rfl) (by decide) (by decide) ?_
        refine T_iload_n dX11_preferenceOf_18 rfl ?_
        refine I_icmp_ne (tgt := 30) dX11_preferenceOf_19 (by decide) ⟨by omega, by omega⟩ hh (fun h19 => ?_) (fun h19 => ?_)
        · exact absurd hq h19
        · refine T_aload_n dX11_preferenceOf_22 rfl rfl ?_
          refine T_iload_n dX11_preferenceOf_23 rfl ?_
          refine T_iload_n dX11_preferenceOf_24 rfl ?_
          refine I_iconst dX11_preferenceOf_25 ?_
          refine Q_callV dX11_preferenceOf_26 kX11_receiverOf lX11_148 (by assumption) rfl c2 rfl rfl (Nat.le_of_ble_eq_true rfl) (Nat.le_of_ble_eq_true rfl) (by decide) (by decide) ?_
          exact I_ireturn dX11_preferenceOf_29 rfl ⟨_, _, rfl, by rw [hv], rfl, rfl⟩
    · have w := ih (i + 1) (by omega) (by omega) (fun t u v => by
        by_cases e : t = i
        · rw [e]; exact hq
        · exact hb t u (by omega))
      refine T_iload_n dX11_preferenceOf_2 rfl ?_
      refine T_aload_n dX11_preferenceOf_3 rfl rfl ?_
      refine T_iload_n dX11_preferenceOf_4 rfl ?_
      refine Q_callV dX11_preferenceOf_5 kX11_receivers lX11_145 (by assumption) rfl (p_R_receivers hR hd) rfl rfl (Nat.le_of_ble_eq_true rfl) (Nat.le_of_ble_eq_true rfl) (by decide) (by decide) ?_
      refine I_icmp_ge (tgt := 36) dX11_preferenceOf_8 (by decide) ⟨by omega, by omega⟩ ⟨by omega, by omega⟩ (fun h8 => ?_) (fun h8 => ?_)
      · omega
      · refine T_aload_n dX11_preferenceOf_11 rfl rfl ?_
        refine T_iload_n dX11_preferenceOf_12 rfl ?_
        refine T_iload_n dX11_preferenceOf_13 rfl ?_
        refine I_iconst dX11_preferenceOf_14 ?_
        refine Q_callV dX11_preferenceOf_15 kX11_receiverOf lX11_148 (by assumption) rfl c1 rfl rfl (Nat.le_of_ble_eq_true rfl) (Nat.le_of_ble_eq_true rfl) (by decide) (by decide) ?_
        refine T_iload_n dX11_preferenceOf_18 rfl ?_
        refine I_icmp_ne (tgt := 30) dX11_preferenceOf_19 (by decide) ⟨by omega, by omega⟩ hh (fun h19 => ?_) (fun h19 => ?_)
        · refine I_iinc dX11_preferenceOf_30 rfl (by decide) rfl ?_
          refine T_goto (tgt := 2) dX11_preferenceOf_33 (by decide) ?_
          exact w
        · exact absurd h19 hq
theorem p_R_pref {h d : Int} (hR : RS K S pl e its) (hd : 0 ≤ d ∧ d < 4) (hh : R32 h) : P G 1 0 0 mX11_preferenceOf 0 (LE mX11_preferenceOf [.ref 453, IV h, IV d]) [] K S (Ret K (some (IV (prefM pl h d))) S) := by
  have hz := (hR.2.2.1.2.2.1 d hd.1 hd.2)
  have w := l_R_pref (G := G) hR hd hh (pRc pl d).toNat 0 (by omega) (by omega) (fun t u v => by omega)
  rw [show LE mX11_preferenceOf [.ref 453, IV h, IV d] = [some (.ref 453), some (IV h), some (IV d), none] from rfl]
  refine I_iconst dX11_preferenceOf_0 ?_
  refine T_istore_n dX11_preferenceOf_1 (by decide) rfl ?_
  exact w
theorem prefM_b {h d : Int} (hP : PlOk pl) (hd : 0 ≤ d ∧ d < 4) : -4 ≤ prefM pl h d ∧ prefM pl h d ≤ 9 ∧ (prefM pl h d ≠ -4 → 0 ≤ prefM pl h d) := by
  rcases prefM_cases pl h d with z | ⟨t, t0, t1, t2, t3⟩
  · omega
  · have := (hP.2.2.2.1 d t hd.1 hd.2 t0 t1).2.1
    omega
theorem l_R_last {h d : Int} (hR : RS K S pl e its) (hd : 0 ≤ d ∧ d < 4) (m : Nat) : ∀ i z : Int, 0 ≤ i → pRc pl d - i = m → z = b2p (prefM pl h d ≠ -4 ∧ ∀ t, 0 ≤ t → t < i → prefM pl h d ≤ pRp pl d t) → P G 1 0 0 mX11_isLast 23 [some (.ref 453), some (IV h), some (IV d), some (IV (prefM pl h d)), some (IV z), some (IV i)] [] K S (Ret K (some (IV (b2p (lastM pl h d)))) S) := by
  have m0 := hR.1.1
  have hz := (hR.2.2.1.2.2.1 d hd.1 hd.2)
  have hpb := prefM_b (h := h) hR.2.2.1 hd
  induction m with
  | zero =>
    intro i z h0 hm hq
    have hv : b2p (lastM pl h d) = z := by
      rw [hq]
      exact b2p_c ⟨fun y => ⟨y.1, fun t u v => y.2 t u (by omega)⟩, fun y => ⟨y.1, fun t u v => y.2 t u (by omega)⟩⟩
    refine T_iload dX11_isLast_23 rfl ?_
    refine T_aload_n dX11_isLast_25 rfl rfl ?_
    refine T_iload_n dX11_isLast_26 rfl ?_
    refine Q_callV dX11_isLast_27 kX11_receivers lX11_145 (by assumption) rfl (p_R_receivers hR hd) rfl rfl (Nat.le_of_ble_eq_true rfl) (Nat.le_of_ble_eq_true rfl) (by decide) (by decide) ?_
    refine I_icmp_ge (tgt := 63) dX11_isLast_30 (by decide) ⟨by omega, by omega⟩ ⟨by omega, by omega⟩ (fun h30 => ?_) (fun h30 => ?_)
    · refine T_iload dX11_isLast_63 rfl ?_
      exact I_zreturn dX11_isLast_65 rfl (by rw [hq]; exact b2p_01 _) ⟨_, _, rfl, by rw [hv], rfl, rfl⟩
    · omega
  | succ m ih =>
    intro i z h0 hm hq
    have hrp := (hR.2.2.1.2.2.2.1 d i hd.1 hd.2 h0 (by omega)).2.1
    have c2 := p_R_receiverOf (G := G) (w := 1) hR hd ⟨h0, by omega⟩ (Or.inr rfl)
    rw [if_neg (by omega)] at c2
    have hz01 := b2p_01 (prefM pl h d ≠ -4 ∧ ∀ t, 0 ≤ t → t < i → prefM pl h d ≤ pRp pl d t)
    have w1 : prefM pl h d ≤ pRp pl d i → z = 1 → 1 = b2p (prefM pl h d ≠ -4 ∧ ∀ t, 0 ≤ t → t < i + 1 → prefM pl h d ≤ pRp pl d t) := fun u v => by
      have y : prefM pl h d ≠ -4 ∧ ∀ t, 0 ≤ t → t < i → prefM pl h d ≤ pRp pl d t := Classical.byContradiction (fun y => by rw [b2p_f y] at hq; omega)
      exact (b2p_t ⟨y.1, fun t a b => by
        by_cases e : t = i
        · rw [e]; exact u
        · exact y.2 t a (by omega)⟩).symm
    have w0 : ¬ prefM pl h d ≤ pRp pl d i ∨ z = 0 → 0 = b2p (prefM pl h d ≠ -4 ∧ ∀ t, 0 ≤ t → t < i + 1 → prefM pl h d ≤ pRp pl d t) := fun u => by
      refine (b2p_f (fun y => ?_)).symm
      rcases u with u | u
      · exact u (y.2 i h0 (by omega))
      · rw [b2p_t ⟨y.1, fun t a b => y.2 t a (by omega)⟩] at hq
        omega
    refine T_iload dX11_isLast_23 rfl ?_
    refine T_aload_n dX11_isLast_25 rfl rfl ?_
    refine T_iload_n dX11_isLast_26 rfl ?_
    refine Q_callV dX11_isLast_27 kX11_receivers lX11_145 (by assumption) rfl (p_R_receivers hR hd) rfl rfl (Nat.le_of_ble_eq_true rfl) (Nat.le_of_ble_eq_true rfl) (by decide) (by decide) ?_
    refine I_icmp_ge (tgt := 63) dX11_isLast_30 (by decide) ⟨by omega, by omega⟩ ⟨by omega, by omega⟩ (fun h30 => ?_) (fun h30 => ?_)
    · omega
    · refine T_iload dX11_isLast_33 rfl ?_
      refine I_if_eq (tgt := 54) dX11_isLast_35 (by decide) ⟨by omega, by omega⟩ (fun h35 => ?_) (fun h35 => ?_)
      · have w := ih (i + 1) 0 (by omega) (by omega) (w0 (by omega))
        refine I_iconst dX11_isLast_54 ?_
        refine T_istore dX11_isLast_55 (by decide) rfl ?_
        refine I_iinc dX11_isLast_57 rfl (by decide) rfl ?_
        refine T_goto (tgt := 23) dX11_isLast_60 (by decide) ?_
        exact w
      · refine T_aload_n dX11_isLast_38 rfl rfl ?_
        refine T_iload_n dX11_isLast_39 rfl ?_
        refine T_iload dX11_isLast_40 rfl ?_
        refine I_iconst dX11_isLast_42 ?_
        refine Q_callV dX11_isLast_43 kX11_receiverOf lX11_148 (by assumption) rfl c2 rfl rfl (Nat.le_of_ble_eq_true rfl) (Nat.le_of_ble_eq_true rfl) (by decide) (by decide) ?_
        refine T_iload_n dX11_isLast_46 rfl ?_
        refine I_icmp_lt (tgt := 54) dX11_isLast_47 (by decide) ⟨by omega, by omega⟩ ⟨by omega, by omega⟩ (fun h47 => ?_) (fun h47 => ?_)
        · have w := ih (i + 1) 0 (by omega) (by omega) (w0 (by omega))
          refine I_iconst dX11_isLast_54 ?_
          refine T_istore dX11_isLast_55 (by decide) rfl ?_
          refine I_iinc dX11_isLast_57 rfl (by decide) rfl ?_
          refine T_goto (tgt := 23) dX11_isLast_60 (by decide) ?_
          exact w
        · have w := ih (i + 1) 1 (by omega) (by omega) (w1 (by omega) (by omega))
          refine I_iconst dX11_isLast_50 ?_
          refine T_goto (tgt := 55) dX11_isLast_51 (by decide) ?_
          refine T_istore dX11_isLast_55 (by decide) rfl ?_
          refine I_iinc dX11_isLast_57 rfl (by decide) rfl ?_
          refine T_goto (tgt := 23) dX11_isLast_60 (by decide) ?_
          exact w
theorem p_R_last {h d : Int} (hR : RS K S pl e its) (hd : 0 ≤ d ∧ d < 4) (hh : R32 h) : P G 2 0 0 mX11_isLast 0 (LE mX11_isLast [.ref 453, IV h, IV d]) [] K S (Ret K (some (IV (b2p (lastM pl h d)))) S) := by
  have m0 := hR.1.1
  have hz := (hR.2.2.1.2.2.1 d hd.1 hd.2)
  have hpb := prefM_b (h := h) hR.2.2.1 hd
  rw [show LE mX11_isLast [.ref 453, IV h, IV d] = [some (.ref 453), some (IV h), some (IV d), none, none, none] from rfl]
  refine T_aload_n dX11_isLast_0 rfl rfl ?_
  refine T_iload_n dX11_isLast_1 rfl ?_
  refine T_iload_n dX11_isLast_2 rfl ?_
  refine Q_callV dX11_isLast_3 kX11_preferenceOf lX11_152 (by assumption) rfl (p_R_pref hR hd hh) rfl rfl (Nat.le_of_ble_eq_true rfl) (Nat.le_of_ble_eq_true rfl) (by decide) (by decide) ?_
  refine T_istore_n dX11_isLast_6 (by decide) rfl ?_
  refine T_iload_n dX11_isLast_7 rfl ?_
  refine I_bipush dX11_isLast_8 (by decide) ?_
  refine I_icmp_eq (tgt := 17) dX11_isLast_10 (by decide) ⟨by omega, by omega⟩ ⟨by omega, by omega⟩ (fun h10 => ?_) (fun h10 => ?_)
  · have w := l_R_last (G := G) (h := h) hR hd (pRc pl d).toNat 0 0 (by omega) (by omega) (b2p_f (fun z => z.1 (by omega))).symm
    refine I_iconst dX11_isLast_17 ?_
    refine T_istore dX11_isLast_18 (by decide) rfl ?_
    refine I_iconst dX11_isLast_20 ?_
    refine T_istore dX11_isLast_21 (by decide) rfl ?_
    exact P.depth w (by omega)
  · have w := l_R_last (G := G) (h := h) hR hd (pRc pl d).toNat 0 1 (by omega) (by omega) (b2p_t ⟨by omega, fun t a b => by omega⟩).symm
    refine I_iconst dX11_isLast_13 ?_
    refine T_goto (tgt := 18) dX11_isLast_14 (by decide) ?_
    refine T_istore dX11_isLast_18 (by decide) rfl ?_
    refine I_iconst dX11_isLast_20 ?_
    refine T_istore dX11_isLast_21 (by decide) rfl ?_
    exact P.depth w (by omega)
theorem p_R_kindOf {a : Int} (hR : RS K S pl e its) (ha : 0 ≤ a ∧ a < 32) : P G 0 0 0 mX11_kindOf 0 (LE mX11_kindOf [.ref 453, IV a]) [] K S (Ret K (some (IV (pKd pl a))) S) := by
  have m0 := hR.1.1
  have m1 := hR.1.2.1
  have e1 := (hR.2.2.2.1.2.2.2 a ha.1 ha.2).1
  rw [show LE mX11_kindOf [.ref 453, IV a] = [some (.ref 453), some (IV a)] from rfl]
  refine T_aload_n dX11_kindOf_0 rfl rfl ?_
  refine P_getr dX11_kindOf_1 fX11_7 (by assumption) rfl ?_
  refine I_bipush dX11_kindOf_4 (by decide) ?_
  refine I_bipush dX11_kindOf_6 (by decide) ?_
  refine T_iload_n dX11_kindOf_8 rfl ?_
  refine I_imul dX11_kindOf_9 ?_
  refine I_iadd dX11_kindOf_10 ?_
  refine P_iald dX11_kindOf_11 (by assumption) ⟨by omega, by omega⟩ (by first | decide | omega) ?_
  rw [e1]
  exact I_ireturn dX11_kindOf_12 rfl ⟨_, _, rfl, rfl, rfl, rfl⟩
theorem p_R_targets {a : Int} (hR : RS K S pl e its) (ha : 0 ≤ a ∧ a < 32) : P G 0 0 0 mX11_targets 0 (LE mX11_targets [.ref 453, IV a]) [] K S (Ret K (some (IV (pLc pl a))) S) := by
  have m0 := hR.1.1
  have m1 := hR.1.2.1
  have e1 := (hR.2.2.2.1.2.2.2 a ha.1 ha.2).2.1
  rw [show LE mX11_targets [.ref 453, IV a] = [some (.ref 453), some (IV a)] from rfl]
  refine T_aload_n dX11_targets_0 rfl rfl ?_
  refine P_getr dX11_targets_1 fX11_7 (by assumption) rfl ?_
  refine I_bipush dX11_targets_4 (by decide) ?_
  refine I_bipush dX11_targets_6 (by decide) ?_
  refine T_iload_n dX11_targets_8 rfl ?_
  refine I_imul dX11_targets_9 ?_
  refine I_iadd dX11_targets_10 ?_
  refine I_iconst dX11_targets_11 ?_
  refine I_iadd dX11_targets_12 ?_
  refine P_iald dX11_targets_13 (by assumption) ⟨by omega, by omega⟩ (by first | decide | omega) ?_
  rw [e1]
  exact I_ireturn dX11_targets_14 rfl ⟨_, _, rfl, rfl, rfl, rfl⟩
theorem p_R_target {a i : Int} (hR : RS K S pl e its) (ha : 0 ≤ a ∧ a < 32) (hi : 0 ≤ i ∧ i < pLc pl a) : P G 0 0 0 mX11_target 0 (LE mX11_target [.ref 453, IV a, IV i]) [] K S (Ret K (some (IV (pLd pl a i))) S) := by
  have m0 := hR.1.1
  have m1 := hR.1.2.1
  have e1 := (hR.2.2.2.1.2.2.2 a ha.1 ha.2).2.2 i hi.1 hi.2
  have hb := (hR.2.2.1.2.2.2.2.2 a ha.1 ha.2).2.1
  rw [show LE mX11_target [.ref 453, IV a, IV i] = [some (.ref 453), some (IV a), some (IV i)] from rfl]
  refine T_aload_n dX11_target_0 rfl rfl ?_
  refine P_getr dX11_target_1 fX11_7 (by assumption) rfl ?_
  refine I_bipush dX11_target_4 (by decide) ?_
  refine I_bipush dX11_target_6 (by decide) ?_
  refine T_iload_n dX11_target_8 rfl ?_
  refine I_imul dX11_target_9 ?_
  refine I_iadd dX11_target_10 ?_
  refine I_iconst dX11_target_11 ?_
  refine I_iadd dX11_target_12 ?_
  refine T_iload_n dX11_target_13 rfl ?_
  refine I_iadd dX11_target_14 ?_
  refine P_iald dX11_target_15 (by assumption) ⟨by omega, by omega⟩ (by first | decide | omega) ?_
  rw [e1]
  exact I_ireturn dX11_target_16 rfl ⟨_, _, rfl, rfl, rfl, rfl⟩
theorem l_R_ofKind {k : Int} (hR : RS K S pl e its) (hk : R32 k) (m : Nat) : ∀ i acc : Int, 0 ≤ i → 32 - i = m → P G 1 0 0 mX11_ofKind 4 [some (.ref 453), some (IV k), some (IV acc), some (IV i)] [] K S (Ret K (some (IV (acc + sumF (fun a => b2p (pKd pl a = k)) m i))) S) := by
  have m0 := hR.1.1
  induction m with
  | zero =>
    intro i acc h0 hm
    refine T_iload_n dX11_ofKind_4 rfl ?_
    refine I_bipush dX11_ofKind_5 (by decide) ?_
    refine I_icmp_ge (tgt := 36) dX11_ofKind_7 (by decide) ⟨by omega, by omega⟩ ⟨by omega, by omega⟩ (fun h7 => ?_) (fun h7 => ?_)
    · refine T_iload_n dX11_ofKind_36 rfl ?_
      exact I_ireturn dX11_ofKind_37 rfl ⟨_, _, rfl, by show _ = some (IV (acc + 0)); rw [Int.add_zero], rfl, rfl⟩
    · omega
  | succ m ih =>
    intro i acc h0 hm
    have hb := (hR.2.2.1.2.2.2.2.2 i h0 (by omega)).1
    have w := ih (i + 1) (acc + b2p (pKd pl i = k)) (by omega) (by omega)
    rw [show acc + sumF (fun a => b2p (pKd pl a = k)) (m + 1) i = acc + b2p (pKd pl i = k) + sumF (fun a => b2p (pKd pl a = k)) m (i + 1) by rw [sumF, Int.add_assoc]]
    refine T_iload_n dX11_ofKind_4 rfl ?_
    refine I_bipush dX11_ofKind_5 (by decide) ?_
    refine I_icmp_ge (tgt := 36) dX11_ofKind_7 (by decide) ⟨by omega, by omega⟩ ⟨by omega, by omega⟩ (fun h7 => ?_) (fun h7 => ?_)
    · omega
    · refine T_iload_n dX11_ofKind_10 rfl ?_
      refine T_aload_n dX11_ofKind_11 rfl rfl ?_
      refine T_iload_n dX11_ofKind_12 rfl ?_
      refine Q_callV dX11_ofKind_13 kX11_kindOf lX11_156 (by assumption) rfl (p_R_kindOf hR ⟨h0, by omega⟩) rfl rfl (Nat.le_of_ble_eq_true rfl) (Nat.le_of_ble_eq_true rfl) (by decide) (by decide) ?_
      refine T_iload_n dX11_ofKind_16 rfl ?_
      refine I_icmp_ne (tgt := 24) dX11_ofKind_17 (by decide) ⟨by omega, by omega⟩ hk (fun h17 => ?_) (fun h17 => ?_)
      · rw [b2p_f (show ¬ pKd pl i = k by omega)] at w ⊢
        refine I_iconst dX11_ofKind_24 ?_
        refine Q_callS dX11_ofKind_25 kX11_flag lX11_104 (p_flag (by omega)) rfl rfl (Nat.le_of_ble_eq_true rfl) (Nat.le_of_ble_eq_true rfl) (by decide) (by decide) ?_
        refine I_iadd dX11_ofKind_28 ?_
        refine T_istore_n dX11_ofKind_29 (by decide) rfl ?_
        refine I_iinc dX11_ofKind_30 rfl (by decide) rfl ?_
        refine T_goto (tgt := 4) dX11_ofKind_33 (by decide) ?_
        exact w
      · rw [b2p_t (show pKd pl i = k by omega)] at w ⊢
        refine I_iconst dX11_ofKind_20 ?_
        refine T_goto (tgt := 25) dX11_ofKind_21 (by decide) ?_
        refine Q_callS dX11_ofKind_25 kX11_flag lX11_104 (p_flag (by omega)) rfl rfl (Nat.le_of_ble_eq_true rfl) (Nat.le_of_ble_eq_true rfl) (by decide) (by decide) ?_
        refine I_iadd dX11_ofKind_28 ?_
        refine T_istore_n dX11_ofKind_29 (by decide) rfl ?_
        refine I_iinc dX11_ofKind_30 rfl (by decide) rfl ?_
        refine T_goto (tgt := 4) dX11_ofKind_33 (by decide) ?_
        exact w
theorem p_R_ofKind {k : Int} (hR : RS K S pl e its) (hk : R32 k) : P G 1 0 0 mX11_ofKind 0 (LE mX11_ofKind [.ref 453, IV k]) [] K S (Ret K (some (IV (kdC pl k))) S) := by
  have w := l_R_ofKind (G := G) hR hk 32 0 0 (by omega) (by omega)
  rw [Int.zero_add] at w
  rw [show LE mX11_ofKind [.ref 453, IV k] = [some (.ref 453), some (IV k), none, none] from rfl]
  refine I_iconst dX11_ofKind_0 ?_
  refine T_istore_n dX11_ofKind_1 (by decide) rfl ?_
  refine I_iconst dX11_ofKind_2 ?_
  refine T_istore_n dX11_ofKind_3 (by decide) rfl ?_
  exact w
end RF1
