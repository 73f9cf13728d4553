/-! the reference reads a text: tokens -/
def bAt (tp : Int → Int) (n p : Int) : Int := if p < n then tp p else -1
def tpOk (S : SV) (tp : Int → Int) (n : Int) : Prop := fI S 453 6 = n ∧ (0 ≤ n ∧ n ≤ 200) ∧ ∀ i, 0 ≤ i → i < n → aI S 459 i = tp i ∧ 0 ≤ tp i ∧ tp i ≤ 127
/-- fields 7 to 12 of the model alone change -/
def Fq (S S' : SV) : Prop := AllR S' ∧ (∀ a, a ≠ 453 → Same S S' a (a + 1)) ∧ ∀ k, k < 7 ∨ 12 < k → fI S' 453 k = fI S 453 k
theorem Fq.rf {S : SV} (h : AllR S) : Fq S S := ⟨h, fun _ _ => Same.rf, fun _ _ => rfl⟩
theorem Fq.tr {S S1 S2 : SV} (h : Fq S S1) (h2 : Fq S1 S2) : Fq S S2 := ⟨h2.1, fun a x => (h.2.1 a x).tr (h2.2.1 a x), fun k x => (h2.2.2 k x).trans (h.2.2 k x)⟩
theorem Fq.sF {S : SV} {k : Nat} {v : Int} (h : AllR S) (hv : R32 v) (hk : 7 ≤ k ∧ k ≤ 12) : Fq S (sF S 453 k v) := ⟨h.sF hv, fun a x => Same.sF (by omega), fun k' x => by rw [fI_sF, if_neg (by omega)]⟩
theorem Fq.a {S S' : SV} (h : Fq S S') {a : Nat} (ha : a ≠ 453) (i : Int) : aI S' a i = aI S a i := (h.2.1 a ha a (by omega) (by omega)).2.1 i
theorem tpOk.fq {S S' : SV} {tp : Int → Int} {n : Int} (h : tpOk S tp n) (hf : Fq S S') : tpOk S' tp n := ⟨(hf.2.2 6 (by omega)).trans h.1, h.2.1, fun i a b => ⟨(hf.a (by omega) i).trans (h.2.2 i a b).1, (h.2.2 i a b).2⟩⟩
def TkS (S : SV) (t : TK) : Prop := fI S 453 9 = t.1 ∧ fI S 453 8 = t.2.1 ∧ fI S 453 7 = t.2.2.1 ∧ (t.1 = 2 → fI S 453 10 = t.2.2.2)
def rdR (S : SV) (X : Except ER TK) : Prop := match X with
  | .error e => fI S 453 11 = e.1 ∧ fI S 453 12 = e.2 ∧ 0 < e.1
  | .ok t => fI S 453 11 = 0 ∧ TkS S t
def RDQ (K : List SH) (S : SV) (X : Except ER TK) : Option Value → List SH → SV → Prop := fun rv K' S' => rv = none ∧ K' = K ∧ Fq S S' ∧ rdR S' X
def errS (S : SV) (c : Int) : SV := sF (sF S 453 11 c) 453 12 (fI S 453 8)
theorem errS_q {S : SV} {c : Int} (h : AllR S) (hc : R32 c) : Fq S (errS S c) := (Fq.sF h hc ⟨by omega, by omega⟩).tr (Fq.sF (h.sF hc) (h.1 _ _) ⟨by omega, by omega⟩)
theorem errS_11 {S : SV} {c : Int} : fI (errS S c) 453 11 = c := by unfold errS; rw [fI_sF, if_neg (by omega), fI_sF, if_pos ⟨rfl, rfl⟩]
theorem errS_12 {S : SV} {c : Int} : fI (errS S c) 453 12 = fI S 453 8 := by unfold errS; rw [fI_sF, if_pos ⟨rfl, rfl⟩]
theorem fFs {S : SV} {k k' : Nat} {v : Int} (h : k' ≠ k) : fI (sF S 453 k v) 453 k' = fI S 453 k' := by rw [fI_sF, if_neg (fun z => h z.2)]
theorem fFt {S : SV} {k : Nat} {v : Int} : fI (sF S 453 k v) 453 k = v := by rw [fI_sF, if_pos ⟨rfl, rfl⟩]
section RPA
variable {G : GT} {K : List SH} {tp : Int → Int} {n : Int}
theorem p_req1 {S : SV} {c : Int} (hM : MoAt K) : P G 0 0 0 mX11_requires 0 (LE mX11_requires [.ref 453, IV 1, IV c]) [] K S (Ret K none S) := by
  rw [show LE mX11_requires [.ref 453, IV 1, IV c] = [some (.ref 453), some (IV 1), some (IV c)] from rfl]
  refine T_iload_n dX11_requires_0 rfl ?_
  refine I_if_ne (tgt := 24) dX11_requires_1 (by decide) ⟨by omega, by omega⟩ (fun h1 => ?_) (fun h1 => ?_)
  · exact T_return dX11_requires_24 rfl ⟨_, _, rfl, rfl, rfl, rfl⟩
  · omega
theorem p_req0 {S : SV} {c : Int} (hM : MoAt K) (h : fI S 453 11 = 0) : P G 0 0 0 mX11_requires 0 (LE mX11_requires [.ref 453, IV 0, IV c]) [] K S (Ret K none (errS S c)) := by
  have m0 := hM.1
  rw [show LE mX11_requires [.ref 453, IV 0, IV c] = [some (.ref 453), some (IV 0), some (IV c)] from rfl]
  refine T_iload_n dX11_requires_0 rfl ?_
  refine I_if_ne (tgt := 24) dX11_requires_1 (by decide) ⟨by omega, by omega⟩ (fun h1 => ?_) (fun h1 => ?_)
  · omega
  · refine T_aload_n dX11_requires_4 rfl rfl ?_
    refine P_geti dX11_requires_5 fX11_60 (by assumption) rfl ?_
    rw [h]
    refine I_if_ne (tgt := 24) dX11_requires_8 (by decide) ⟨by omega, by omega⟩ (fun h8 => ?_) (fun h8 => ?_)
    · omega
    · refine T_aload_n dX11_requires_11 rfl rfl ?_
      refine T_iload_n dX11_requires_12 rfl ?_
      refine P_puti dX11_requires_13 fX11_60 (by assumption) rfl rfl ?_
      refine T_aload_n dX11_requires_16 rfl rfl ?_
      refine T_aload_n dX11_requires_17 rfl rfl ?_
      refine P_geti dX11_requires_18 fX11_63 (by assumption) rfl ?_
      rw [fFs (show (8 : Nat) ≠ 11 by omega)]
      refine P_puti dX11_requires_21 fX11_66 (by assumption) rfl rfl ?_
      exact T_return dX11_requires_24 rfl ⟨_, _, rfl, rfl, rfl, rfl⟩
theorem p_reqF {S : SV} {z c : Int} (hM : MoAt K) (hz : R32 z) (hr : AllR S) (h : 0 < fI S 453 11) : P G 0 0 0 mX11_requires 0 (LE mX11_requires [.ref 453, IV z, IV c]) [] K S (Ret K none S) := by
  have m0 := hM.1
  rw [show LE mX11_requires [.ref 453, IV z, IV c] = [some (.ref 453), some (IV z), some (IV c)] from rfl]
  refine T_iload_n dX11_requires_0 rfl ?_
  refine I_if_ne (tgt := 24) dX11_requires_1 (by decide) hz (fun h1 => ?_) (fun h1 => ?_)
  · exact T_return dX11_requires_24 rfl ⟨_, _, rfl, rfl, rfl, rfl⟩
  · refine T_aload_n dX11_requires_4 rfl rfl ?_
    refine P_geti dX11_requires_5 fX11_60 (by assumption) rfl ?_
    refine I_if_ne (tgt := 24) dX11_requires_8 (by decide) (hr.1 _ _) (fun h8 => ?_) (fun h8 => ?_)
    · exact T_return dX11_requires_24 rfl ⟨_, _, rfl, rfl, rfl, rfl⟩
    · omega
theorem p_byteAt {S : SV} {p : Int} (hM : MoAt K) (hT : tpOk S tp n) (hp : 0 ≤ p ∧ p < 1000) : P G 0 0 0 mX11_byteAt 0 (LE mX11_byteAt [.ref 453, IV p]) [] K S (Ret K (some (IV (bAt tp n p))) S) := by
  have m0 := hM.1
  have m6 := hM.2.2.2.2.2.2.1
  obtain ⟨h1, h2, h3⟩ := hT
  unfold bAt
  by_cases hq : p < n
  · rw [if_pos hq]
    have e := (h3 p hp.1 hq).1
    rw [show LE mX11_byteAt [.ref 453, IV p] = [some (.ref 453), some (IV p)] from rfl]
    refine T_iload_n dX11_byteAt_0 rfl ?_
    refine T_aload_n dX11_byteAt_1 rfl rfl ?_
    refine P_geti dX11_byteAt_2 fX11_56 (by assumption) rfl ?_
    rw [h1]
    refine I_icmp_ge (tgt := 17) dX11_byteAt_5 (by decide) ⟨by omega, by omega⟩ ⟨by omega, by omega⟩ (fun h5 => ?_) (fun h5 => ?_)
    · omega
    · refine T_aload_n dX11_byteAt_8 rfl rfl ?_
      refine P_getr dX11_byteAt_9 fX11_26 (by assumption) rfl ?_
      refine T_iload_n dX11_byteAt_12 rfl ?_
      refine P_iald dX11_byteAt_13 (by assumption) ⟨by omega, by omega⟩ (by first | decide | omega) ?_
      rw [e]
      refine T_goto (tgt := 18) dX11_byteAt_14 (by decide) ?_
      exact I_ireturn dX11_byteAt_18 rfl ⟨_, _, rfl, rfl, rfl, rfl⟩
  · rw [if_neg hq]
    rw [show LE mX11_byteAt [.ref 453, IV p] = [some (.ref 453), some (IV p)] from rfl]
    refine T_iload_n dX11_byteAt_0 rfl ?_
    refine T_aload_n dX11_byteAt_1 rfl rfl ?_
    refine P_geti dX11_byteAt_2 fX11_56 (by assumption) rfl ?_
    rw [h1]
    refine I_icmp_ge (tgt := 17) dX11_byteAt_5 (by decide) ⟨by omega, by omega⟩ ⟨by omega, by omega⟩ (fun h5 => ?_) (fun h5 => ?_)
    · refine I_iconst dX11_byteAt_17 ?_
      exact I_ireturn dX11_byteAt_18 rfl ⟨_, _, rfl, rfl, rfl, rfl⟩
    · omega
theorem bAt_b {S : SV} (hT : tpOk S tp n) {p : Int} (hp : 0 ≤ p) : -1 ≤ bAt tp n p ∧ bAt tp n p ≤ 127 ∧ (p < n → 0 ≤ bAt tp n p ∧ bAt tp n p = tp p) ∧ (¬ p < n → bAt tp n p = -1) := by
  unfold bAt
  by_cases hq : p < n
  · rw [if_pos hq]
    have := (hT.2.2 p hp hq).2
    exact ⟨by omega, by omega, fun _ => ⟨by omega, rfl⟩, fun z => absurd hq z⟩
  · rw [if_neg hq]
    exact ⟨by omega, by omega, fun z => absurd z hq, fun _ => rfl⟩
theorem f_reads {S : SV} (hM : MoAt K) (hr : AllR S) (h : 0 < fI S 453 11) : P G 1 0 0 mX11_reads 0 (LE mX11_reads [.ref 453]) [] K S (Ret K none S) := by
  have m0 := hM.1
  rw [show LE mX11_reads [.ref 453] = [some (.ref 453), none] from rfl]
  refine T_aload_n dX11_reads_0 rfl rfl ?_
  refine P_geti dX11_reads_1 fX11_60 (by assumption) rfl ?_
  refine I_if_le (tgt := 8) dX11_reads_4 (by decide) (hr.1 _ _) (fun h4 => ?_) (fun h4 => ?_)
  · omega
  · exact T_return dX11_reads_7 rfl ⟨_, _, rfl, rfl, rfl, rfl⟩
theorem l_rskip {S : SV} {s : Int} {Q : Option Value → List SH → SV → Prop} (hM : MoAt K) (hT : tpOk S tp n) (m : Nat) : ∀ i : Int, 0 ≤ i → n - i = m → endF (fun i => tp i = 32) m i = s → P G 1 0 0 mX11_reads 34 [some (.ref 453), none] [] K (sF S 453 7 s) Q → P G 1 0 0 mX11_reads 8 [some (.ref 453), none] [] K (sF S 453 7 i) Q := by
  have m0 := hM.1
  have hT' : ∀ v : Int, tpOk (sF S 453 7 v) tp n := fun v => ⟨by rw [fFs (by omega)]; exact hT.1, hT.2.1, hT.2.2⟩
  induction m with
  | zero =>
    intro i h0 hm he z
    have he : i = s := he
    subst he
    have hb := (bAt_b hT (p := i) h0).2.2.2 (by omega)
    have c := p_byteAt (G := G) (p := i) hM (hT' i) ⟨h0, by have := hT.2.1; omega⟩
    rw [hb] at c
    refine T_aload_n dX11_reads_8 rfl rfl ?_
    refine T_aload_n dX11_reads_9 rfl rfl ?_
    refine P_geti dX11_reads_10 fX11_72 (by assumption) rfl ?_
    rw [fFt]
    refine Q_callV dX11_reads_13 kX11_byteAt lX11_75 (by assumption) rfl c rfl rfl (Nat.le_of_ble_eq_true rfl) (Nat.le_of_ble_eq_true rfl) (by decide) (by decide) ?_
    refine I_bipush dX11_reads_16 (by decide) ?_
    refine I_icmp_ne (tgt := 34) dX11_reads_18 (by decide) ⟨by omega, by omega⟩ ⟨by omega, by omega⟩ (fun h18 => ?_) (fun h18 => ?_)
    · exact z
    · omega
  | succ m ih =>
    intro i h0 hm he z
    have hb := (bAt_b hT (p := i) h0).2.2.1 (by omega)
    have hb2 := bAt_b hT (p := i) h0
    have c := p_byteAt (G := G) (p := i) hM (hT' i) ⟨h0, by have := hT.2.1; omega⟩
    by_cases hq : tp i = 32
    · rw [endF_t (p := fun i => tp i = 32) hq] at he
      have w := ih (i + 1) (by omega) (by omega) he z
      rw [hb.2, hq] at c
      refine T_aload_n dX11_reads_8 rfl rfl ?_
      refine T_aload_n dX11_reads_9 rfl rfl ?_
      refine P_geti dX11_reads_10 fX11_72 (by assumption) rfl ?_
      rw [fFt]
      refine Q_callV dX11_reads_13 kX11_byteAt lX11_75 (by assumption) rfl c rfl rfl (Nat.le_of_ble_eq_true rfl) (Nat.le_of_ble_eq_true rfl) (by decide) (by decide) ?_
      refine I_bipush dX11_reads_16 (by decide) ?_
      refine I_icmp_ne (tgt := 34) dX11_reads_18 (by decide) ⟨by omega, by omega⟩ ⟨by omega, by omega⟩ (fun h18 => ?_) (fun h18 => ?_)
      · exact absurd rfl h18
      · refine T_aload_n dX11_reads_21 rfl rfl ?_
        refine T_dup dX11_reads_22 rfl ?_
        refine P_geti dX11_reads_23 fX11_72 (by assumption) rfl ?_
        rw [fFt]
        refine I_iconst dX11_reads_26 ?_
        refine I_iadd dX11_reads_27 ?_
        refine P_puti dX11_reads_28 fX11_72 (by assumption) rfl rfl ?_
        rw [sF_sF]
        refine T_goto (tgt := 8) dX11_reads_31 (by decide) ?_
        exact w
    · rw [endF_f (p := fun i => tp i = 32) hq] at he
      subst he
      rw [hb.2] at c
      refine T_aload_n dX11_reads_8 rfl rfl ?_
      refine T_aload_n dX11_reads_9 rfl rfl ?_
      refine P_geti dX11_reads_10 fX11_72 (by assumption) rfl ?_
      rw [fFt]
      refine Q_callV dX11_reads_13 kX11_byteAt lX11_75 (by assumption) rfl c rfl rfl (Nat.le_of_ble_eq_true rfl) (Nat.le_of_ble_eq_true rfl) (by decide) (by decide) ?_
      refine I_bipush dX11_reads_16 (by decide) ?_
      refine I_icmp_ne (tgt := 34) dX11_reads_18 (by decide) ⟨by omega, by omega⟩ ⟨by omega, by omega⟩ (fun h18 => ?_) (fun h18 => ?_)
      · exact z
      · exact absurd h18 hq
theorem l_rname {S : SV} {s c0 : Int} {Q : Option Value → List SH → SV → Prop} (hM : MoAt K) (hT : tpOk S tp n) (m : Nat) : ∀ i : Int, 0 ≤ i → n - i = m → endF (fun i => sortC (tp i) = 1) m i = s → P G 1 0 0 mX11_reads 274 [some (.ref 453), some (IV c0)] [] K (sF S 453 7 s) Q → P G 1 0 0 mX11_reads 82 [some (.ref 453), some (IV c0)] [] K (sF S 453 7 i) Q := by
  have m0 := hM.1
  have hT' : ∀ v : Int, tpOk (sF S 453 7 v) tp n := fun v => ⟨by rw [fFs (by omega)]; exact hT.1, hT.2.1, hT.2.2⟩
  have hso : ∀ x : Int, sortC x = 1 ↔ inB x 97 122 := fun x => by
    unfold sortC inB
    constructor
    · intro h
      split at h
      · assumption
      · split at h
        · omega
        · split at h <;> omega
    · intro h
      rw [if_pos h]
  induction m with
  | zero =>
    intro i h0 hm he z
    have he : i = s := he
    subst he
    have hb := (bAt_b hT (p := i) h0).2.2.2 (by omega)
    have c := p_byteAt (G := G) (p := i) hM (hT' i) ⟨h0, by have := hT.2.1; omega⟩
    rw [hb] at c
    refine T_aload_n dX11_reads_82 rfl rfl ?_
    refine T_aload_n dX11_reads_83 rfl rfl ?_
    refine P_geti dX11_reads_84 fX11_72 (by assumption) rfl ?_
    rw [fFt]
    refine Q_callV dX11_reads_87 kX11_byteAt lX11_75 (by assumption) rfl c rfl rfl (Nat.le_of_ble_eq_true rfl) (Nat.le_of_ble_eq_true rfl) (by decide) (by decide) ?_
    refine I_i2l dX11_reads_90 ⟨by omega, by omega⟩ ?_
    refine I_ldc2 (n := 97) dX11_reads_91 qX11_83 rfl ?_
    refine I_ldc2 (n := 122) dX11_reads_94 qX11_85 rfl ?_
    refine Q_callS dX11_reads_97 kX11_in lX11_52 (p_in ⟨by omega, by omega⟩ (by decide) (by decide)) rfl rfl (Nat.le_of_ble_eq_true rfl) (Nat.le_of_ble_eq_true rfl) (by decide) (by decide) ?_
    rw [b2p_f (show ¬ inB (-1) 97 122 from fun z => by have := z.1; omega)]
    refine I_if_eq (tgt := 274) dX11_reads_100 (by decide) ⟨by omega, by omega⟩ (fun h100 => ?_) (fun h100 => ?_)
    · exact z
    · exact absurd rfl h100
  | succ m ih =>
    intro i h0 hm he z
    have hb := (bAt_b hT (p := i) h0).2.2.1 (by omega)
    have hb2 := bAt_b hT (p := i) h0
    have c := p_byteAt (G := G) (p := i) hM (hT' i) ⟨h0, by have := hT.2.1; omega⟩
    rw [hb.2] at c hb2
    by_cases hq : sortC (tp i) = 1
    · rw [endF_t (p := fun i => sortC (tp i) = 1) hq] at he
      have w := ih (i + 1) (by omega) (by omega) he z
      refine T_aload_n dX11_reads_82 rfl rfl ?_
      refine T_aload_n dX11_reads_83 rfl rfl ?_
      refine P_geti dX11_reads_84 fX11_72 (by assumption) rfl ?_
      rw [fFt]
      refine Q_callV dX11_reads_87 kX11_byteAt lX11_75 (by assumption) rfl c rfl rfl (Nat.le_of_ble_eq_true rfl) (Nat.le_of_ble_eq_true rfl) (by decide) (by decide) ?_
      refine I_i2l dX11_reads_90 ⟨by omega, by omega⟩ ?_
      refine I_ldc2 (n := 97) dX11_reads_91 qX11_83 rfl ?_
      refine I_ldc2 (n := 122) dX11_reads_94 qX11_85 rfl ?_
      refine Q_callS dX11_reads_97 kX11_in lX11_52 (p_in ⟨by omega, by omega⟩ (by decide) (by decide)) rfl rfl (Nat.le_of_ble_eq_true rfl) (Nat.le_of_ble_eq_true rfl) (by decide) (by decide) ?_
      rw [b2p_t ((hso _).mp hq)]
      refine I_if_eq (tgt := 274) dX11_reads_100 (by decide) ⟨by omega, by omega⟩ (fun h100 => ?_) (fun h100 => ?_)
      · cases h100
      · refine T_aload_n dX11_reads_103 rfl rfl ?_
        refine T_dup dX11_reads_104 rfl ?_
        refine P_geti dX11_reads_105 fX11_72 (by assumption) rfl ?_
        rw [fFt]
        refine I_iconst dX11_reads_108 ?_
        refine I_iadd dX11_reads_109 ?_
        refine P_puti dX11_reads_110 fX11_72 (by assumption) rfl rfl ?_
        rw [sF_sF]
        refine T_goto (tgt := 82) dX11_reads_113 (by decide) ?_
        exact w
    · rw [endF_f (p := fun i => sortC (tp i) = 1) hq] at he
      subst he
      refine T_aload_n dX11_reads_82 rfl rfl ?_
      refine T_aload_n dX11_reads_83 rfl rfl ?_
      refine P_geti dX11_reads_84 fX11_72 (by assumption) rfl ?_
      rw [fFt]
      refine Q_callV dX11_reads_87 kX11_byteAt lX11_75 (by assumption) rfl c rfl rfl (Nat.le_of_ble_eq_true rfl) (Nat.le_of_ble_eq_true rfl) (by decide) (by decide) ?_
      refine I_i2l dX11_reads_90 ⟨by omega, by omega⟩ ?_
      refine I_ldc2 (n := 97) dX11_reads_91 qX11_83 rfl ?_
      refine I_ldc2 (n := 122) dX11_reads_94 qX11_85 rfl ?_
      refine Q_callS dX11_reads_97 kX11_in lX11_52 (p_in ⟨by omega, by omega⟩ (by decide) (by decide)) rfl rfl (Nat.le_of_ble_eq_true rfl) (Nat.le_of_ble_eq_true rfl) (by decide) (by decide) ?_
      rw [b2p_f (fun y => hq ((hso _).mpr y))]
      refine I_if_eq (tgt := 274) dX11_reads_100 (by decide) ⟨by omega, by omega⟩ (fun h100 => ?_) (fun h100 => ?_)
      · exact z
      · exact absurd rfl h100
theorem l_rfig {S0 : SV} {s e c0 : Int} {Q : Option Value → List SH → SV → Prop} (hM : MoAt K) (hs : 0 ≤ s) (hd0 : 48 ≤ tp s ∧ tp s ≤ 57) (hk : ∀ S', Fq S0 S' → fI S' 453 7 = e → fI S' 453 8 = s → fI S' 453 9 = 2 → fI S' 453 11 = 0 → (e - s ≤ 2 → fI S' 453 10 = valF tp (e - s).toNat s 0) → P G 1 0 0 mX11_reads 217 [some (.ref 453), some (IV c0)] [] K S' Q) (m : Nat) : ∀ (i v : Int) (S : SV), s ≤ i → n - i = m → endF (fun i => sortC (tp i) = 2) m i = e → tpOk S tp n → Fq S0 S → fI S 453 7 = i → fI S 453 8 = s → fI S 453 9 = 2 → fI S 453 11 = 0 → fI S 453 10 = v → (0 ≤ v ∧ v ≤ 99) → (i - s ≤ 2 → v = valF tp (i - s).toNat s 0) → P G 1 0 0 mX11_reads 140 [some (.ref 453), some (IV c0)] [] K S Q := by
  have m0 := hM.1
  have hso : ∀ x : Int, sortC x = 2 ↔ inB x 48 57 := fun x => by
    unfold sortC inB
    constructor
    · intro h
      split at h
      · omega
      · split at h
        · assumption
        · split at h <;> omega
    · intro h
      rw [if_neg (by omega), if_pos h]
  induction m with
  | zero =>
    intro i v S h0 hm he hT hF h7 h8 h9 h11 h10 hv hval
    have he : i = e := he
    subst he
    have hb := (bAt_b hT (p := i) (by omega)).2.2.2 (by omega)
    have c := p_byteAt (G := G) (p := i) hM hT ⟨by omega, by have := hT.2.1; omega⟩
    rw [hb] at c
    have z := hk S hF h7 h8 h9 h11 (fun q => h10.trans (hval q))
    refine T_aload_n dX11_reads_140 rfl rfl ?_
    refine T_aload_n dX11_reads_141 rfl rfl ?_
    refine P_geti dX11_reads_142 fX11_72 (by assumption) rfl ?_
    rw [h7]
    refine Q_callV dX11_reads_145 kX11_byteAt lX11_75 (by assumption) rfl c rfl rfl (Nat.le_of_ble_eq_true rfl) (Nat.le_of_ble_eq_true rfl) (by decide) (by decide) ?_
    refine I_i2l dX11_reads_148 ⟨by omega, by omega⟩ ?_
    refine I_ldc2 (n := 48) dX11_reads_149 qX11_87 rfl ?_
    refine I_ldc2 (n := 57) dX11_reads_152 qX11_89 rfl ?_
    refine Q_callS dX11_reads_155 kX11_in lX11_52 (p_in ⟨by omega, by omega⟩ (by decide) (by decide)) rfl rfl (Nat.le_of_ble_eq_true rfl) (Nat.le_of_ble_eq_true rfl) (by decide) (by decide) ?_
    rw [b2p_f (show ¬ inB (-1) 48 57 from fun z => by have := z.1; omega)]
    refine I_if_eq (tgt := 217) dX11_reads_158 (by decide) ⟨by omega, by omega⟩ (fun h158 => ?_) (fun h158 => ?_)
    · exact z
    · exact absurd rfl h158
  | succ m ih =>
    intro i v S h0 hm he hT hF h7 h8 h9 h11 h10 hv hval
    have hb := (bAt_b hT (p := i) (by omega)).2.2.1 (by omega)
    have hb2 := bAt_b hT (p := i) (by omega)
    have c := p_byteAt (G := G) (p := i) hM hT ⟨by omega, by have := hT.2.1; omega⟩
    rw [hb.2] at c hb2
    have hn := hT.2.1
    by_cases hq : sortC (tp i) = 2
    · rw [endF_t (p := fun i => sortC (tp i) = 2) hq] at he
      have hd := (hso _).mp hq
      have hd1 := hd.1
      have hd2 := hd.2
      have go : ∀ u : Int, (0 ≤ u ∧ u ≤ 99) → (i + 1 - s ≤ 2 → u = valF tp (i + 1 - s).toNat s 0) → P G 1 0 0 mX11_reads 140 [some (.ref 453), some (IV c0)] [] K (sF (sF S 453 10 u) 453 7 (i + 1)) Q := by
        intro u hu hu2
        have hF2 : Fq S (sF (sF S 453 10 u) 453 7 (i + 1)) := (Fq.sF hF.1 ⟨by omega, by omega⟩ ⟨by omega, by omega⟩).tr (Fq.sF (hF.1.sF ⟨by omega, by omega⟩) ⟨by omega, by omega⟩ ⟨by omega, by omega⟩)
        exact ih (i + 1) u _ (by omega) (by omega) he (hT.fq hF2) (hF.tr hF2) fFt (by rw [fFs (by omega), fFs (by omega)]; exact h8) (by rw [fFs (by omega), fFs (by omega)]; exact h9) (by rw [fFs (by omega), fFs (by omega)]; exact h11) (by rw [fFs (by omega), fFt]) hu hu2
      by_cases h2 : i - s < 2
      · have hu : (0 ≤ 10 * v + tp i - 48 ∧ 10 * v + tp i - 48 ≤ 99) ∧ (i + 1 - s ≤ 2 → 10 * v + tp i - 48 = valF tp (i + 1 - s).toNat s 0) := by
          have hv2 := hval (by omega)
          rcases (show i = s ∨ i = s + 1 by omega) with e0 | e0
          · subst e0
            rw [show (i - i).toNat = 0 by omega] at hv2
            have hv2 : v = 0 := hv2
            refine ⟨by omega, fun _ => ?_⟩
            rw [show (i + 1 - i).toNat = 1 by omega]
            show 10 * v + tp i - 48 = 0 * 10 + tp i - 48
            omega
          · subst e0
            rw [show (s + 1 - s).toNat = 1 by omega] at hv2
            have hv2 : v = 0 * 10 + tp s - 48 := hv2
            have hvb : v ≤ 9 := by omega
            refine ⟨by omega, fun _ => ?_⟩
            rw [show (s + 1 + 1 - s).toNat = 2 by omega]
            show 10 * v + tp (s + 1) - 48 = (0 * 10 + tp s - 48) * 10 + tp (s + 1) - 48
            omega
        have w := go _ hu.1 hu.2
        refine T_aload_n dX11_reads_140 rfl rfl ?_
        refine T_aload_n dX11_reads_141 rfl rfl ?_
        refine P_geti dX11_reads_142 fX11_72 (by assumption) rfl ?_
        rw [h7]
        refine Q_callV dX11_reads_145 kX11_byteAt lX11_75 (by assumption) rfl c rfl rfl (Nat.le_of_ble_eq_true rfl) (Nat.le_of_ble_eq_true rfl) (by decide) (by decide) ?_
        refine I_i2l dX11_reads_148 ⟨by omega, by omega⟩ ?_
        refine I_ldc2 (n := 48) dX11_reads_149 qX11_87 rfl ?_
        refine I_ldc2 (n := 57) dX11_reads_152 qX11_89 rfl ?_
        refine Q_callS dX11_reads_155 kX11_in lX11_52 (p_in ⟨by omega, by omega⟩ (by decide) (by decide)) rfl rfl (Nat.le_of_ble_eq_true rfl) (Nat.le_of_ble_eq_true rfl) (by decide) (by decide) ?_
        rw [b2p_t hd]
        refine I_if_eq (tgt := 217) dX11_reads_158 (by decide) ⟨by omega, by omega⟩ (fun h158 => ?_) (fun h158 => ?_)
        · cases h158
        · refine T_aload_n dX11_reads_161 rfl rfl ?_
          refine T_aload_n dX11_reads_162 rfl rfl ?_
          refine P_geti dX11_reads_163 fX11_72 (by assumption) rfl ?_
          rw [h7]
          refine T_aload_n dX11_reads_166 rfl rfl ?_
          refine P_geti dX11_reads_167 fX11_63 (by assumption) rfl ?_
          rw [h8]
          refine I_isub dX11_reads_170 ?_
          refine I_iconst dX11_reads_171 ?_
          refine I_icmp_ge (tgt := 197) dX11_reads_172 (by decide) ⟨by omega, by omega⟩ ⟨by omega, by omega⟩ (fun h172 => ?_) (fun h172 => ?_)
          · omega
          · refine I_bipush dX11_reads_175 (by decide) ?_
            refine T_aload_n dX11_reads_177 rfl rfl ?_
            refine P_geti dX11_reads_178 fX11_91 (by assumption) rfl ?_
            rw [h10]
            refine I_imul dX11_reads_181 ?_
            refine T_aload_n dX11_reads_182 rfl rfl ?_
            refine T_aload_n dX11_reads_183 rfl rfl ?_
            refine P_geti dX11_reads_184 fX11_72 (by assumption) rfl ?_
            rw [h7]
            refine Q_callV dX11_reads_187 kX11_byteAt lX11_75 (by assumption) rfl c rfl rfl (Nat.le_of_ble_eq_true rfl) (Nat.le_of_ble_eq_true rfl) (by decide) (by decide) ?_
            refine I_iadd dX11_reads_190 ?_
            refine I_bipush dX11_reads_191 (by decide) ?_
            refine I_isub dX11_reads_193 ?_
            refine T_goto (tgt := 201) dX11_reads_194 (by decide) ?_
            refine P_puti dX11_reads_201 fX11_91 (by assumption) rfl rfl ?_
            refine T_aload_n dX11_reads_204 rfl rfl ?_
            refine T_dup dX11_reads_205 rfl ?_
            refine P_geti dX11_reads_206 fX11_72 (by assumption) rfl ?_
            rw [fFs (show (7 : Nat) ≠ 10 by omega), h7]
            refine I_iconst dX11_reads_209 ?_
            refine I_iadd dX11_reads_210 ?_
            refine P_puti dX11_reads_211 fX11_72 (by assumption) rfl rfl ?_
            refine T_goto (tgt := 140) dX11_reads_214 (by decide) ?_
            exact w
      · have w := go v hv (fun q => by omega)
        refine T_aload_n dX11_reads_140 rfl rfl ?_
        refine T_aload_n dX11_reads_141 rfl rfl ?_
        refine P_geti dX11_reads_142 fX11_72 (by assumption) rfl ?_
        rw [h7]
        refine Q_callV dX11_reads_145 kX11_byteAt lX11_75 (by assumption) rfl c rfl rfl (Nat.le_of_ble_eq_true rfl) (Nat.le_of_ble_eq_true rfl) (by decide) (by decide) ?_
        refine I_i2l dX11_reads_148 ⟨by omega, by omega⟩ ?_
        refine I_ldc2 (n := 48) dX11_reads_149 qX11_87 rfl ?_
        refine I_ldc2 (n := 57) dX11_reads_152 qX11_89 rfl ?_
        refine Q_callS dX11_reads_155 kX11_in lX11_52 (p_in ⟨by omega, by omega⟩ (by decide) (by decide)) rfl rfl (Nat.le_of_ble_eq_true rfl) (Nat.le_of_ble_eq_true rfl) (by decide) (by decide) ?_
        rw [b2p_t hd]
        refine I_if_eq (tgt := 217) dX11_reads_158 (by decide) ⟨by omega, by omega⟩ (fun h158 => ?_) (fun h158 => ?_)
        · cases h158
        · refine T_aload_n dX11_reads_161 rfl rfl ?_
          refine T_aload_n dX11_reads_162 rfl rfl ?_
          refine P_geti dX11_reads_163 fX11_72 (by assumption) rfl ?_
          rw [h7]
          refine T_aload_n dX11_reads_166 rfl rfl ?_
          refine P_geti dX11_reads_167 fX11_63 (by assumption) rfl ?_
          rw [h8]
          refine I_isub dX11_reads_170 ?_
          refine I_iconst dX11_reads_171 ?_
          refine I_icmp_ge (tgt := 197) dX11_reads_172 (by decide) ⟨by omega, by omega⟩ ⟨by omega, by omega⟩ (fun h172 => ?_) (fun h172 => ?_)
          · refine T_aload_n dX11_reads_197 rfl rfl ?_
            refine P_geti dX11_reads_198 fX11_91 (by assumption) rfl ?_
            rw [h10]
            refine P_puti dX11_reads_201 fX11_91 (by assumption) rfl rfl ?_
            refine T_aload_n dX11_reads_204 rfl rfl ?_
            refine T_dup dX11_reads_205 rfl ?_
            refine P_geti dX11_reads_206 fX11_72 (by assumption) rfl ?_
            rw [fFs (show (7 : Nat) ≠ 10 by omega), h7]
            refine I_iconst dX11_reads_209 ?_
            refine I_iadd dX11_reads_210 ?_
            refine P_puti dX11_reads_211 fX11_72 (by assumption) rfl rfl ?_
            refine T_goto (tgt := 140) dX11_reads_214 (by decide) ?_
            exact w
          · omega
    · rw [endF_f (p := fun i => sortC (tp i) = 2) hq] at he
      subst he
      have z := hk S hF h7 h8 h9 h11 (fun q => h10.trans (hval q))
      refine T_aload_n dX11_reads_140 rfl rfl ?_
      refine T_aload_n dX11_reads_141 rfl rfl ?_
      refine P_geti dX11_reads_142 fX11_72 (by assumption) rfl ?_
      rw [h7]
      refine Q_callV dX11_reads_145 kX11_byteAt lX11_75 (by assumption) rfl c rfl rfl (Nat.le_of_ble_eq_true rfl) (Nat.le_of_ble_eq_true rfl) (by decide) (by decide) ?_
      refine I_i2l dX11_reads_148 ⟨by omega, by omega⟩ ?_
      refine I_ldc2 (n := 48) dX11_reads_149 qX11_87 rfl ?_
      refine I_ldc2 (n := 57) dX11_reads_152 qX11_89 rfl ?_
      refine Q_callS dX11_reads_155 kX11_in lX11_52 (p_in ⟨by omega, by omega⟩ (by decide) (by decide)) rfl rfl (Nat.le_of_ble_eq_true rfl) (Nat.le_of_ble_eq_true rfl) (by decide) (by decide) ?_
      rw [b2p_f (fun y => hq ((hso _).mpr y))]
      refine I_if_eq (tgt := 217) dX11_reads_158 (by decide) ⟨by omega, by omega⟩ (fun h158 => ?_) (fun h158 => ?_)
      · exact z
      · exact absurd rfl h158
theorem sortC_1 {c : Int} : sortC c = 1 ↔ inB c 97 122 := by
  unfold sortC inB
  constructor
  · intro h
    split at h
    · assumption
    · split at h
      · omega
      · split at h <;> omega
  · intro h
    rw [if_pos h]
theorem sortC_i2 {c : Int} : sortC c = 2 ↔ inB c 48 57 := ⟨fun h => sortC_2 h, fun h => by unfold sortC; unfold inB at h; rw [if_neg (by omega), if_pos h]⟩
theorem sortC_3 {c : Int} : sortC c = 3 ↔ c = 59 := by
  unfold sortC
  constructor
  · intro h
    split at h
    · omega
    · split at h
      · omega
      · split at h
        · assumption
        · omega
  · intro h
    rw [if_neg (by omega), if_neg (by omega), if_pos h]
theorem p_reads {S : SV} {p : Int} (hM : MoAt K) (hr : AllR S) (hT : tpOk S tp n) (h11 : fI S 453 11 = 0) (h7 : fI S 453 7 = p) (hp : 0 ≤ p ∧ p ≤ n) : P G 1 0 0 mX11_reads 0 (LE mX11_reads [.ref 453]) [] K S (RDQ K S (tkM tp n p)) := by
  have m0 := hM.1
  have hn := hT.2.1
  obtain ⟨b1, b2, -⟩ := skM_b tp hp
  have hs : endF (fun i => tp i = 32) (n - p).toNat p = skM tp n p := rfl
  have h34 : P G 1 0 0 mX11_reads 34 [some (.ref 453), none] [] K (sF S 453 7 (skM tp n p)) (RDQ K S (tkM tp n p)) := by
    generalize skM tp n p = s at b1 b2 hs
    have hR1 : AllR (sF S 453 7 s) := hr.sF ⟨by omega, by omega⟩
    have hF0 : Fq S (sF (sF S 453 7 s) 453 8 s) := (Fq.sF hr ⟨by omega, by omega⟩ ⟨by omega, by omega⟩).tr (Fq.sF hR1 ⟨by omega, by omega⟩ ⟨by omega, by omega⟩)
    have hT0 := hT.fq hF0
    have g7 : fI (sF (sF S 453 7 s) 453 8 s) 453 7 = s := by rw [fFs (by omega), fFt]
    have g8 : fI (sF (sF S 453 7 s) 453 8 s) 453 8 = s := fFt
    have g11 : fI (sF (sF S 453 7 s) 453 8 s) 453 11 = 0 := by rw [fFs (by omega), fFs (by omega)]; exact h11
    have c := p_byteAt (G := G) (p := s) hM hT0 ⟨by omega, by omega⟩
    have hsk : skM tp n p = s := hs
    by_cases c1 : n ≤ s
    · have hb := (bAt_b hT (p := s) (by omega)).2.2.2 (by omega)
      rw [hb] at c
      have hv : tkM tp n p = .ok (0, s, s, 0) := tkM_ok (by rw [hsk]; exact if_pos c1) (by show (0 : Int) ≠ -4; omega)
      rw [hv]
      refine T_aload_n dX11_reads_34 rfl rfl ?_
      refine T_aload_n dX11_reads_35 rfl rfl ?_
      refine P_geti dX11_reads_36 fX11_72 (by assumption) rfl ?_
      rw [fFt]
      refine P_puti dX11_reads_39 fX11_63 (by assumption) rfl rfl ?_
      refine T_aload_n dX11_reads_42 rfl rfl ?_
      refine T_aload_n dX11_reads_43 rfl rfl ?_
      refine P_geti dX11_reads_44 fX11_72 (by assumption) rfl ?_
      rw [g7]
      refine Q_callV dX11_reads_47 kX11_byteAt lX11_75 (by assumption) rfl c rfl rfl (Nat.le_of_ble_eq_true rfl) (Nat.le_of_ble_eq_true rfl) (by decide) (by decide) ?_
      refine T_istore_n dX11_reads_50 (by decide) rfl ?_
      refine T_iload_n dX11_reads_51 rfl ?_
      refine I_if_ge (tgt := 63) dX11_reads_52 (by decide) ⟨by omega, by omega⟩ (fun h52 => ?_) (fun h52 => ?_)
      · omega
      · refine T_aload_n dX11_reads_55 rfl rfl ?_
        refine I_iconst dX11_reads_56 ?_
        refine P_puti dX11_reads_57 fX11_69 (by assumption) rfl rfl ?_
        refine T_goto (tgt := 274) dX11_reads_60 (by decide) ?_
        exact T_return dX11_reads_274 rfl ⟨_, _, rfl, rfl, rfl, hF0.tr (Fq.sF hF0.1 (by decide) ⟨by omega, by omega⟩), by rw [fFs (by omega)]; exact g11, fFt, by rw [fFs (by omega)]; exact g8, by rw [fFs (by omega)]; exact g7, fun z => by cases z⟩
    · have hb := (bAt_b hT (p := s) (by omega)).2.2.1 (by omega)
      have hb2 := bAt_b hT (p := s) (by omega)
      rw [hb.2] at c hb2
      have hb0 := hb.1
      rw [hb.2] at hb0
      by_cases k1 : sortC (tp s) = 1
      · have hv : tkM tp n p = .ok (1, s, rnM tp n s, 0) := tkM_ok (by rw [hsk]; unfold tokS; rw [if_neg c1, k1]; rfl) (by show (1 : Int) ≠ -4; omega)
        rw [hv]
        obtain ⟨r1, r2, -⟩ := rnM_b tp (n := n) (s := s) ⟨by omega, by omega⟩
        have hre : endF (fun i => sortC (tp i) = 1) (n - s).toNat s = rnM tp n s := by
          unfold rnM
          rw [show (n - s).toNat = (n - (s + 1)).toNat + 1 by omega, endF_t (p := fun i => sortC (tp i) = 1) k1, k1]
        have hF1 : Fq S (sF (sF (sF S 453 7 s) 453 8 s) 453 9 1) := hF0.tr (Fq.sF hF0.1 (by decide) ⟨by omega, by omega⟩)
        have hfin : RDQ K S (.ok (1, s, rnM tp n s, 0)) none K (sF (sF (sF (sF S 453 7 s) 453 8 s) 453 9 1) 453 7 (rnM tp n s)) := ⟨rfl, rfl, hF1.tr (Fq.sF hF1.1 ⟨by omega, by omega⟩ ⟨by omega, by omega⟩), by rw [fFs (by omega), fFs (by omega)]; exact g11, by rw [fFs (by omega), fFt], by rw [fFs (by omega), fFs (by omega)]; exact g8, fFt, fun z => by cases z⟩
        have hend : P G 1 0 0 mX11_reads 274 [some (.ref 453), some (IV (tp s))] [] K (sF (sF (sF (sF S 453 7 s) 453 8 s) 453 9 1) 453 7 (rnM tp n s)) (RDQ K S (.ok (1, s, rnM tp n s, 0))) := by
          exact T_return dX11_reads_274 rfl ⟨_, _, rfl, hfin⟩
        have w := l_rname (G := G) (S := sF (sF (sF S 453 7 s) 453 8 s) 453 9 1) (c0 := tp s) hM (hT.fq hF1) (n - s).toNat s (by omega) (by omega) hre hend
        have hself : sF (sF (sF (sF S 453 7 s) 453 8 s) 453 9 1) 453 7 s = sF (sF (sF S 453 7 s) 453 8 s) 453 9 1 := by
          have := sF_self (sF (sF (sF S 453 7 s) 453 8 s) 453 9 1) 453 7
          rw [show fI (sF (sF (sF S 453 7 s) 453 8 s) 453 9 1) 453 7 = s by rw [fFs (by omega)]; exact g7] at this
          exact this
        rw [hself] at w
        refine T_aload_n dX11_reads_34 rfl rfl ?_
        refine T_aload_n dX11_reads_35 rfl rfl ?_
        refine P_geti dX11_reads_36 fX11_72 (by assumption) rfl ?_
        rw [fFt]
        refine P_puti dX11_reads_39 fX11_63 (by assumption) rfl rfl ?_
        refine T_aload_n dX11_reads_42 rfl rfl ?_
        refine T_aload_n dX11_reads_43 rfl rfl ?_
        refine P_geti dX11_reads_44 fX11_72 (by assumption) rfl ?_
        rw [g7]
        refine Q_callV dX11_reads_47 kX11_byteAt lX11_75 (by assumption) rfl c rfl rfl (Nat.le_of_ble_eq_true rfl) (Nat.le_of_ble_eq_true rfl) (by decide) (by decide) ?_
        refine T_istore_n dX11_reads_50 (by decide) rfl ?_
        refine T_iload_n dX11_reads_51 rfl ?_
        refine I_if_ge (tgt := 63) dX11_reads_52 (by decide) ⟨by omega, by omega⟩ (fun h52 => ?_) (fun h52 => ?_)
        · refine T_iload_n dX11_reads_63 rfl ?_
          refine I_i2l dX11_reads_64 ⟨by omega, by omega⟩ ?_
          refine I_ldc2 (n := 97) dX11_reads_65 qX11_83 rfl ?_
          refine I_ldc2 (n := 122) dX11_reads_68 qX11_85 rfl ?_
          refine Q_callS dX11_reads_71 kX11_in lX11_52 (p_in ⟨by omega, by omega⟩ (by decide) (by decide)) rfl rfl (Nat.le_of_ble_eq_true rfl) (Nat.le_of_ble_eq_true rfl) (by decide) (by decide) ?_
          rw [b2p_t (sortC_1.mp k1)]
          refine I_if_eq (tgt := 116) dX11_reads_74 (by decide) ⟨by omega, by omega⟩ (fun h74 => ?_) (fun h74 => ?_)
          · cases h74
          · refine T_aload_n dX11_reads_77 rfl rfl ?_
            refine I_iconst dX11_reads_78 ?_
            refine P_puti dX11_reads_79 fX11_69 (by assumption) rfl rfl ?_
            exact w
        · omega
      · by_cases k2 : sortC (tp s) = 2
        · obtain ⟨r1, r2, -⟩ := rnM_b tp (n := n) (s := s) ⟨by omega, by omega⟩
          have hre : endF (fun i => sortC (tp i) = 2) (n - s).toNat s = rnM tp n s := by
            unfold rnM
            rw [show (n - s).toNat = (n - (s + 1)).toNat + 1 by omega, endF_t (p := fun i => sortC (tp i) = 2) k2, k2]
          have hF1 : Fq S (sF (sF (sF (sF S 453 7 s) 453 8 s) 453 9 2) 453 10 0) := (hF0.tr (Fq.sF hF0.1 (by decide) ⟨by omega, by omega⟩)).tr (Fq.sF (hF0.1.sF (by decide)) (by decide) ⟨by omega, by omega⟩)
          have hd := sortC_i2.mp k2
          have hk : ∀ S', Fq S S' → fI S' 453 7 = rnM tp n s → fI S' 453 8 = s → fI S' 453 9 = 2 → fI S' 453 11 = 0 → (rnM tp n s - s ≤ 2 → fI S' 453 10 = valF tp (rnM tp n s - s).toNat s 0) → P G 1 0 0 mX11_reads 217 [some (.ref 453), some (IV (tp s))] [] K S' (RDQ K S (tkM tp n p)) := by
            intro S' q1 q7 q8 q9 q11 q10
            by_cases h2 : 2 < rnM tp n s - s
            · have hv : tkM tp n p = .error (1, s) := tkM_er (e := s) (v := 0) (by rw [hsk]; unfold tokS; rw [if_neg c1, k2]; exact if_pos h2)
              rw [hv]
              refine T_aload_n dX11_reads_217 rfl rfl ?_
              refine T_aload_n dX11_reads_218 rfl rfl ?_
              refine P_geti dX11_reads_219 fX11_72 (by assumption) rfl ?_
              rw [q7]
              refine T_aload_n dX11_reads_222 rfl rfl ?_
              refine P_geti dX11_reads_223 fX11_63 (by assumption) rfl ?_
              rw [q8]
              refine I_isub dX11_reads_226 ?_
              refine I_iconst dX11_reads_227 ?_
              refine I_icmp_gt (tgt := 235) dX11_reads_228 (by decide) ⟨by omega, by omega⟩ ⟨by omega, by omega⟩ (fun h228 => ?_) (fun h228 => ?_)
              · refine I_iconst dX11_reads_235 ?_
                refine I_iconst dX11_reads_236 ?_
                refine Q_callV dX11_reads_237 kX11_requires lX11_94 (by assumption) rfl (p_req0 hM q11) rfl rfl (Nat.le_of_ble_eq_true rfl) (Nat.le_of_ble_eq_true rfl) (by decide) (by decide) ?_
                refine T_goto (tgt := 274) dX11_reads_240 (by decide) ?_
                exact T_return dX11_reads_274 rfl ⟨_, _, rfl, rfl, rfl, q1.tr (errS_q q1.1 (by decide)), errS_11, by rw [errS_12]; exact q8, by show (0 : Int) < 1; omega⟩
              · omega
            · have hv : tkM tp n p = .ok (2, s, rnM tp n s, valF tp (rnM tp n s - s).toNat s 0) := tkM_ok (by rw [hsk]; unfold tokS; rw [if_neg c1, k2]; exact if_neg h2) (by show (2 : Int) ≠ -4; omega)
              rw [hv]
              refine T_aload_n dX11_reads_217 rfl rfl ?_
              refine T_aload_n dX11_reads_218 rfl rfl ?_
              refine P_geti dX11_reads_219 fX11_72 (by assumption) rfl ?_
              rw [q7]
              refine T_aload_n dX11_reads_222 rfl rfl ?_
              refine P_geti dX11_reads_223 fX11_63 (by assumption) rfl ?_
              rw [q8]
              refine I_isub dX11_reads_226 ?_
              refine I_iconst dX11_reads_227 ?_
              refine I_icmp_gt (tgt := 235) dX11_reads_228 (by decide) ⟨by omega, by omega⟩ ⟨by omega, by omega⟩ (fun h228 => ?_) (fun h228 => ?_)
              · omega
              · refine I_iconst dX11_reads_231 ?_
                refine T_goto (tgt := 236) dX11_reads_232 (by decide) ?_
                refine I_iconst dX11_reads_236 ?_
                refine Q_callV dX11_reads_237 kX11_requires lX11_94 (by assumption) rfl (p_req1 hM) rfl rfl (Nat.le_of_ble_eq_true rfl) (Nat.le_of_ble_eq_true rfl) (by decide) (by decide) ?_
                refine T_goto (tgt := 274) dX11_reads_240 (by decide) ?_
                exact T_return dX11_reads_274 rfl ⟨_, _, rfl, rfl, rfl, q1, q11, q9, q8, q7, fun _ => q10 (by omega)⟩
          have w := l_rfig (G := G) (S0 := S) (s := s) (e := rnM tp n s) (c0 := tp s) (n := n) hM (by omega) ⟨hd.1, hd.2⟩ hk (n - s).toNat s 0 (sF (sF (sF (sF S 453 7 s) 453 8 s) 453 9 2) 453 10 0) (by omega) (by omega) hre (hT.fq hF1) hF1 (by rw [fFs (by omega), fFs (by omega)]; exact g7) (by rw [fFs (by omega), fFs (by omega)]; exact g8) (by rw [fFs (by omega), fFt]) (by rw [fFs (by omega), fFs (by omega)]; exact g11) fFt ⟨by omega, by omega⟩ (fun _ => by rw [show (s - s).toNat = 0 by omega]; rfl)
          refine T_aload_n dX11_reads_34 rfl rfl ?_
          refine T_aload_n dX11_reads_35 rfl rfl ?_
          refine P_geti dX11_reads_36 fX11_72 (by assumption) rfl ?_
          rw [fFt]
          refine P_puti dX11_reads_39 fX11_63 (by assumption) rfl rfl ?_
          refine T_aload_n dX11_reads_42 rfl rfl ?_
          refine T_aload_n dX11_reads_43 rfl rfl ?_
          refine P_geti dX11_reads_44 fX11_72 (by assumption) rfl ?_
          rw [g7]
          refine Q_callV dX11_reads_47 kX11_byteAt lX11_75 (by assumption) rfl c rfl rfl (Nat.le_of_ble_eq_true rfl) (Nat.le_of_ble_eq_true rfl) (by decide) (by decide) ?_
          refine T_istore_n dX11_reads_50 (by decide) rfl ?_
          refine T_iload_n dX11_reads_51 rfl ?_
          refine I_if_ge (tgt := 63) dX11_reads_52 (by decide) ⟨by omega, by omega⟩ (fun h52 => ?_) (fun h52 => ?_)
          · refine T_iload_n dX11_reads_63 rfl ?_
            refine I_i2l dX11_reads_64 ⟨by omega, by omega⟩ ?_
            refine I_ldc2 (n := 97) dX11_reads_65 qX11_83 rfl ?_
            refine I_ldc2 (n := 122) dX11_reads_68 qX11_85 rfl ?_
            refine Q_callS dX11_reads_71 kX11_in lX11_52 (p_in ⟨by omega, by omega⟩ (by decide) (by decide)) rfl rfl (Nat.le_of_ble_eq_true rfl) (Nat.le_of_ble_eq_true rfl) (by decide) (by decide) ?_
            rw [b2p_f (fun z => k1 (sortC_1.mpr z))]
            refine I_if_eq (tgt := 116) dX11_reads_74 (by decide) ⟨by omega, by omega⟩ (fun h74 => ?_) (fun h74 => ?_)
            · refine T_iload_n dX11_reads_116 rfl ?_
              refine I_i2l dX11_reads_117 ⟨by omega, by omega⟩ ?_
              refine I_ldc2 (n := 48) dX11_reads_118 qX11_87 rfl ?_
              refine I_ldc2 (n := 57) dX11_reads_121 qX11_89 rfl ?_
              refine Q_callS dX11_reads_124 kX11_in lX11_52 (p_in ⟨by omega, by omega⟩ (by decide) (by decide)) rfl rfl (Nat.le_of_ble_eq_true rfl) (Nat.le_of_ble_eq_true rfl) (by decide) (by decide) ?_
              rw [b2p_t hd]
              refine I_if_eq (tgt := 243) dX11_reads_127 (by decide) ⟨by omega, by omega⟩ (fun h127 => ?_) (fun h127 => ?_)
              · cases h127
              · refine T_aload_n dX11_reads_130 rfl rfl ?_
                refine I_iconst dX11_reads_131 ?_
                refine P_puti dX11_reads_132 fX11_69 (by assumption) rfl rfl ?_
                refine T_aload_n dX11_reads_135 rfl rfl ?_
                refine I_iconst dX11_reads_136 ?_
                refine P_puti dX11_reads_137 fX11_91 (by assumption) rfl rfl ?_
                exact w
            · exact absurd rfl h74
          · omega
        · have hF1 : Fq S (sF (sF (sF S 453 7 s) 453 8 s) 453 9 3) := hF0.tr (Fq.sF hF0.1 (by decide) ⟨by omega, by omega⟩)
          have q11 : fI (sF (sF (sF S 453 7 s) 453 8 s) 453 9 3) 453 11 = 0 := by rw [fFs (by omega)]; exact g11
          have q8 : fI (sF (sF (sF S 453 7 s) 453 8 s) 453 9 3) 453 8 = s := by rw [fFs (by omega)]; exact g8
          have q7 : fI (sF (sF (sF S 453 7 s) 453 8 s) 453 9 3) 453 7 = s := by rw [fFs (by omega)]; exact g7
          by_cases k3 : sortC (tp s) = 3
          · have hv : tkM tp n p = .ok (3, s, s + 1, 0) := tkM_ok (by rw [hsk]; unfold tokS; rw [if_neg c1, k3]; rfl) (by show (3 : Int) ≠ -4; omega)
            rw [hv]
            have h59 := sortC_3.mp k3
            refine T_aload_n dX11_reads_34 rfl rfl ?_
            refine T_aload_n dX11_reads_35 rfl rfl ?_
            refine P_geti dX11_reads_36 fX11_72 (by assumption) rfl ?_
            rw [fFt]
            refine P_puti dX11_reads_39 fX11_63 (by assumption) rfl rfl ?_
            refine T_aload_n dX11_reads_42 rfl rfl ?_
            refine T_aload_n dX11_reads_43 rfl rfl ?_
            refine P_geti dX11_reads_44 fX11_72 (by assumption) rfl ?_
            rw [g7]
            refine Q_callV dX11_reads_47 kX11_byteAt lX11_75 (by assumption) rfl c rfl rfl (Nat.le_of_ble_eq_true rfl) (Nat.le_of_ble_eq_true rfl) (by decide) (by decide) ?_
            refine T_istore_n dX11_reads_50 (by decide) rfl ?_
            refine T_iload_n dX11_reads_51 rfl ?_
            refine I_if_ge (tgt := 63) dX11_reads_52 (by decide) ⟨by omega, by omega⟩ (fun h52 => ?_) (fun h52 => ?_)
            · refine T_iload_n dX11_reads_63 rfl ?_
              refine I_i2l dX11_reads_64 ⟨by omega, by omega⟩ ?_
              refine I_ldc2 (n := 97) dX11_reads_65 qX11_83 rfl ?_
              refine I_ldc2 (n := 122) dX11_reads_68 qX11_85 rfl ?_
              refine Q_callS dX11_reads_71 kX11_in lX11_52 (p_in ⟨by omega, by omega⟩ (by decide) (by decide)) rfl rfl (Nat.le_of_ble_eq_true rfl) (Nat.le_of_ble_eq_true rfl) (by decide) (by decide) ?_
              rw [b2p_f (fun z => k1 (sortC_1.mpr z))]
              refine I_if_eq (tgt := 116) dX11_reads_74 (by decide) ⟨by omega, by omega⟩ (fun h74 => ?_) (fun h74 => ?_)
              · refine T_iload_n dX11_reads_116 rfl ?_
                refine I_i2l dX11_reads_117 ⟨by omega, by omega⟩ ?_
                refine I_ldc2 (n := 48) dX11_reads_118 qX11_87 rfl ?_
                refine I_ldc2 (n := 57) dX11_reads_121 qX11_89 rfl ?_
                refine Q_callS dX11_reads_124 kX11_in lX11_52 (p_in ⟨by omega, by omega⟩ (by decide) (by decide)) rfl rfl (Nat.le_of_ble_eq_true rfl) (Nat.le_of_ble_eq_true rfl) (by decide) (by decide) ?_
                rw [b2p_f (fun z => k2 (sortC_i2.mpr z))]
                refine I_if_eq (tgt := 243) dX11_reads_127 (by decide) ⟨by omega, by omega⟩ (fun h127 => ?_) (fun h127 => ?_)
                · refine T_aload_n dX11_reads_243 rfl rfl ?_
                  refine I_iconst dX11_reads_244 ?_
                  refine P_puti dX11_reads_245 fX11_69 (by assumption) rfl rfl ?_
                  refine T_aload_n dX11_reads_248 rfl rfl ?_
                  refine T_iload_n dX11_reads_249 rfl ?_
                  refine I_bipush dX11_reads_250 (by decide) ?_
                  refine I_icmp_ne (tgt := 259) dX11_reads_252 (by decide) ⟨by omega, by omega⟩ ⟨by omega, by omega⟩ (fun h252 => ?_) (fun h252 => ?_)
                  · omega
                  · refine I_iconst dX11_reads_255 ?_
                    refine T_goto (tgt := 260) dX11_reads_256 (by decide) ?_
                    refine I_iconst dX11_reads_260 ?_
                    refine Q_callV dX11_reads_261 kX11_requires lX11_94 (by assumption) rfl (p_req1 hM) rfl rfl (Nat.le_of_ble_eq_true rfl) (Nat.le_of_ble_eq_true rfl) (by decide) (by decide) ?_
                    refine T_aload_n dX11_reads_264 rfl rfl ?_
                    refine T_dup dX11_reads_265 rfl ?_
                    refine P_geti dX11_reads_266 fX11_72 (by assumption) rfl ?_
                    rw [q7]
                    refine I_iconst dX11_reads_269 ?_
                    refine I_iadd dX11_reads_270 ?_
                    refine P_puti dX11_reads_271 fX11_72 (by assumption) rfl rfl ?_
                    exact T_return dX11_reads_274 rfl ⟨_, _, rfl, rfl, rfl, hF1.tr (Fq.sF hF1.1 ⟨by omega, by omega⟩ ⟨by omega, by omega⟩), by rw [fFs (by omega)]; exact q11, by rw [fFs (by omega), fFt], by rw [fFs (by omega)]; exact q8, fFt, fun z => by cases z⟩
                · exact absurd rfl h127
              · exact absurd rfl h74
            · omega
          · have k4 : sortC (tp s) = -4 := by
              rcases sortC_in (tp s) with z | z | z | z
              · exact absurd z k1
              · exact absurd z k2
              · exact absurd z k3
              · exact z
            have hv : tkM tp n p = .error (1, s) := tkM_er (e := s) (v := 0) (by rw [hsk]; unfold tokS; rw [if_neg c1, if_pos k4])
            rw [hv]
            have h59 : tp s ≠ 59 := fun z => k3 (sortC_3.mpr z)
            have e7 : fI (errS (sF (sF (sF S 453 7 s) 453 8 s) 453 9 3) 1) 453 7 = s := by unfold errS; rw [fFs (by omega), fFs (by omega)]; exact q7
            have hF2 := hF1.tr (errS_q (c := 1) hF1.1 (by decide))
            refine T_aload_n dX11_reads_34 rfl rfl ?_
            refine T_aload_n dX11_reads_35 rfl rfl ?_
            refine P_geti dX11_reads_36 fX11_72 (by assumption) rfl ?_
            rw [fFt]
            refine P_puti dX11_reads_39 fX11_63 (by assumption) rfl rfl ?_
            refine T_aload_n dX11_reads_42 rfl rfl ?_
            refine T_aload_n dX11_reads_43 rfl rfl ?_
            refine P_geti dX11_reads_44 fX11_72 (by assumption) rfl ?_
            rw [g7]
            refine Q_callV dX11_reads_47 kX11_byteAt lX11_75 (by assumption) rfl c rfl rfl (Nat.le_of_ble_eq_true rfl) (Nat.le_of_ble_eq_true rfl) (by decide) (by decide) ?_
            refine T_istore_n dX11_reads_50 (by decide) rfl ?_
            refine T_iload_n dX11_reads_51 rfl ?_
            refine I_if_ge (tgt := 63) dX11_reads_52 (by decide) ⟨by omega, by omega⟩ (fun h52 => ?_) (fun h52 => ?_)
            · refine T_iload_n dX11_reads_63 rfl ?_
              refine I_i2l dX11_reads_64 ⟨by omega, by omega⟩ ?_
              refine I_ldc2 (n := 97) dX11_reads_65 qX11_83 rfl ?_
              refine I_ldc2 (n := 122) dX11_reads_68 qX11_85 rfl ?_
              refine Q_callS dX11_reads_71 kX11_in lX11_52 (p_in ⟨by omega, by omega⟩ (by decide) (by decide)) rfl rfl (Nat.le_of_ble_eq_true rfl) (Nat.le_of_ble_eq_true rfl) (by decide) (by decide) ?_
              rw [b2p_f (fun z => k1 (sortC_1.mpr z))]
              refine I_if_eq (tgt := 116) dX11_reads_74 (by decide) ⟨by omega, by omega⟩ (fun h74 => ?_) (fun h74 => ?_)
              · refine T_iload_n dX11_reads_116 rfl ?_
                refine I_i2l dX11_reads_117 ⟨by omega, by omega⟩ ?_
                refine I_ldc2 (n := 48) dX11_reads_118 qX11_87 rfl ?_
                refine I_ldc2 (n := 57) dX11_reads_121 qX11_89 rfl ?_
                refine Q_callS dX11_reads_124 kX11_in lX11_52 (p_in ⟨by omega, by omega⟩ (by decide) (by decide)) rfl rfl (Nat.le_of_ble_eq_true rfl) (Nat.le_of_ble_eq_true rfl) (by decide) (by decide) ?_
                rw [b2p_f (fun z => k2 (sortC_i2.mpr z))]
                refine I_if_eq (tgt := 243) dX11_reads_127 (by decide) ⟨by omega, by omega⟩ (fun h127 => ?_) (fun h127 => ?_)
                · refine T_aload_n dX11_reads_243 rfl rfl ?_
                  refine I_iconst dX11_reads_244 ?_
                  refine P_puti dX11_reads_245 fX11_69 (by assumption) rfl rfl ?_
                  refine T_aload_n dX11_reads_248 rfl rfl ?_
                  refine T_iload_n dX11_reads_249 rfl ?_
                  refine I_bipush dX11_reads_250 (by decide) ?_
                  refine I_icmp_ne (tgt := 259) dX11_reads_252 (by decide) ⟨by omega, by omega⟩ ⟨by omega, by omega⟩ (fun h252 => ?_) (fun h252 => ?_)
                  · refine I_iconst dX11_reads_259 ?_
                    refine I_iconst dX11_reads_260 ?_
                    refine Q_callV dX11_reads_261 kX11_requires lX11_94 (by assumption) rfl (p_req0 hM q11) rfl rfl (Nat.le_of_ble_eq_true rfl) (Nat.le_of_ble_eq_true rfl) (by decide) (by decide) ?_
                    refine T_aload_n dX11_reads_264 rfl rfl ?_
                    refine T_dup dX11_reads_265 rfl ?_
                    refine P_geti dX11_reads_266 fX11_72 (by assumption) rfl ?_
                    rw [e7]
                    refine I_iconst dX11_reads_269 ?_
                    refine I_iadd dX11_reads_270 ?_
                    refine P_puti dX11_reads_271 fX11_72 (by assumption) rfl rfl ?_
                    exact T_return dX11_reads_274 rfl ⟨_, _, rfl, rfl, rfl, hF2.tr (Fq.sF hF2.1 ⟨by omega, by omega⟩ ⟨by omega, by omega⟩), by rw [fFs (by omega), errS_11], by rw [fFs (by omega), errS_12]; exact q8, by show (0 : Int) < 1; omega⟩
                  · exact absurd h252 h59
                · exact absurd rfl h127
              · exact absurd rfl h74
            · omega
  have w := l_rskip (G := G) (S := S) hM hT (n - p).toNat p hp.1 (by omega) hs h34
  rw [show sF S 453 7 p = S by rw [← h7]; exact sF_self S 453 7] at w
  rw [show LE mX11_reads [.ref 453] = [some (.ref 453), none] from rfl]
  refine T_aload_n dX11_reads_0 rfl rfl ?_
  refine P_geti dX11_reads_1 fX11_60 (by assumption) rfl ?_
  rw [h11]
  refine I_if_le (tgt := 8) dX11_reads_4 (by decide) ⟨by omega, by omega⟩ (fun h4 => ?_) (fun h4 => ?_)
  · exact w
  · omega
end RPA
