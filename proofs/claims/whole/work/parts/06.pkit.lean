/-! whole numbers in place of ints; heaps by shapes and values -/
def iv (z : Int) : Int32 := Int32.ofInt z
abbrev IV (z : Int) : Value := .int (iv z)
abbrev LV (z : Int) : Value := .long (Int64.ofInt z)
abbrev R32 (z : Int) : Prop := -2147483648 ≤ z ∧ z < 2147483648
abbrev R63 (z : Int) : Prop := -4611686018427387904 ≤ z ∧ z < 4611686018427387904
theorem iv_toInt {z : Int} (h : R32 z) : (iv z).toInt = z := Int32.toInt_ofInt_of_le (by have := h.1; omega) (by have := h.2; omega)
theorem iv_of (x : Int32) : iv x.toInt = x := Int32.ofInt_toInt x
theorem toInt_R32 (x : Int32) : R32 x.toInt := ⟨by have := x.le_toInt; omega, by have := x.toInt_lt; omega⟩
theorem iv_add (x y : Int) : iv x + iv y = iv (x + y) := (Int32.ofInt_add x y).symm
theorem iv_sub (x y : Int) : iv x - iv y = iv (x - y) := (Int32.ofInt_sub x y).symm
theorem iv_mul (x y : Int) : iv x * iv y = iv (x * y) := (Int32.ofInt_mul x y).symm
theorem iv_lt {x y : Int} (hx : R32 x) (hy : R32 y) : iv x < iv y ↔ x < y := by rw [Int32.lt_iff_toInt_lt, iv_toInt hx, iv_toInt hy]
theorem iv_le {x y : Int} (hx : R32 x) (hy : R32 y) : iv x ≤ iv y ↔ x ≤ y := by rw [Int32.le_iff_toInt_le, iv_toInt hx, iv_toInt hy]
theorem iv_eq {x y : Int} (hx : R32 x) (hy : R32 y) : iv x = iv y ↔ x = y := by rw [← Int32.toInt_inj, iv_toInt hx, iv_toInt hy]
theorem iv_nat {z : Int} (h0 : 0 ≤ z) (h1 : z < 2147483648) : (iv z).toNatClampNeg = z.toNat := by
  rw [← Int32.toNat_toInt, iv_toInt ⟨by omega, h1⟩]
theorem iv_in {z : Int} {n : Nat} (h0 : 0 ≤ z) (h1 : z < n) (hn : n ≤ 2147483648) : vp_in (iv z) n := by
  intro q
  rw [iv_nat h0 (by omega)] at q
  rcases q with q | q
  · have : iv z < iv 0 := q
    rw [iv_lt ⟨by omega, by omega⟩ ⟨by omega, by omega⟩] at this
    omega
  · omega
theorem iv_div {x y : Int} (hx : 0 ≤ x) (hx2 : x < 2147483648) (hy : 0 < y) (hy2 : y < 2147483648) : iv x / iv y = iv (x / y) := by
  have h := Int32.ofInt_tdiv (a := x) (b := y) (by show (-2147483648 : Int) ≤ x; omega) (by show x ≤ (2147483647 : Int); omega) (by show (-2147483648 : Int) ≤ y; omega) (by show y ≤ (2147483647 : Int); omega)
  rw [Int.tdiv_eq_ediv_of_nonneg hx] at h
  exact h.symm
theorem iv_ne0 {y : Int} (hy : 0 < y) (hy2 : y < 2147483648) : ¬ iv y = 0 := by
  intro h
  have h2 : iv y = iv 0 := h
  rw [iv_eq ⟨by omega, by omega⟩ ⟨by omega, by omega⟩] at h2
  omega
def cmpI (x y : Int) : Int := if y < x then 1 else if x = y then 0 else -1
theorem lv_cmp {x y : Int} (hx : R63 x) (hy : R63 y) : lg_cmp (Int64.ofInt x) (Int64.ofInt y) = iv (cmpI x y) := by
  have ex := Int64.toInt_ofInt_of_le (n := x) (by have := hx.1; omega) (by have := hx.2; omega)
  have ey := Int64.toInt_ofInt_of_le (n := y) (by have := hy.1; omega) (by have := hy.2; omega)
  unfold lg_cmp cmpI
  simp only [gt_iff_lt, Int64.lt_iff_toInt_lt, ← Int64.toInt_inj, ex, ey]
  split
  · rfl
  · split <;> rfl
theorem ivl {x : Int} (hx : R32 x) : (iv x).toInt64 = Int64.ofInt x := by
  apply Int64.toInt_inj.mp
  rw [Int32.toInt_toInt64, iv_toInt hx, Int64.toInt_ofInt_of_le (by have := hx.1; omega) (by have := hx.2; omega)]
section IK
variable {G : GT} {d mc ms : Nat} {j : MD} {pc : Nat} {L : List (Option Value)} {st : List Value} {σ : List va_E} {Q : Option Value → List va_E → Prop}
theorem I_iconst {n : Int} (hd : decode j.2.1 pc = .ok (.iconst n, 1)) (k : T G d mc ms j (pc + 1) L (IV n :: st) σ Q) : T G d mc ms j pc L st σ Q := T_iconst hd rfl k
theorem I_bipush {n : Int} (hd : decode j.2.1 pc = .ok (.bipush n, 2)) (hv : (Int8.ofInt n).toInt32 = iv n) (k : T G d mc ms j (pc + 2) L (IV n :: st) σ Q) : T G d mc ms j pc L st σ Q := T_bipush hd hv k
theorem I_sipush {n : Int} (hd : decode j.2.1 pc = .ok (.sipush n, 3)) (hv : (Int16.ofInt n).toInt32 = iv n) (k : T G d mc ms j (pc + 3) L (IV n :: st) σ Q) : T G d mc ms j pc L st σ Q := T_sipush hd hv k
theorem I_lconst {n : Fin 2} (hd : decode j.2.1 pc = .ok (.lconst n, 1)) (k : T G d mc ms j (pc + 1) L (LV (n : Nat) :: st) σ Q) : T G d mc ms j pc L st σ Q := T_lconst hd (by rw [Int64.ofInt_eq_ofNat]) k
theorem I_ldc2 {idx : Nat} {n : Int} {v : Int64} (hd : decode j.2.1 pc = .ok (.ldc2_w idx, 3)) (hw : Cond.constantLong j.1.cls idx v ∈ gtbl) (hv : v = Int64.ofInt n) (k : T G d mc ms j (pc + 3) L (LV n :: st) σ Q) : T G d mc ms j pc L st σ Q := T_ldc2 hd hw (by subst hv; exact k)
theorem I_iadd {x y : Int} (hd : decode j.2.1 pc = .ok (.iadd, 1)) (k : T G d mc ms j (pc + 1) L (IV (x + y) :: st) σ Q) : T G d mc ms j pc L (IV y :: IV x :: st) σ Q := T_iadd hd (by rw [iv_add]; exact k)
theorem I_isub {x y : Int} (hd : decode j.2.1 pc = .ok (.isub, 1)) (k : T G d mc ms j (pc + 1) L (IV (x - y) :: st) σ Q) : T G d mc ms j pc L (IV y :: IV x :: st) σ Q := T_isub hd (by rw [iv_sub]; exact k)
theorem I_imul {x y : Int} (hd : decode j.2.1 pc = .ok (.imul, 1)) (k : T G d mc ms j (pc + 1) L (IV (x * y) :: st) σ Q) : T G d mc ms j pc L (IV y :: IV x :: st) σ Q := T_imul hd (by rw [iv_mul]; exact k)
theorem I_idiv {x y : Int} (hd : decode j.2.1 pc = .ok (.idiv, 1)) (hx : 0 ≤ x ∧ x < 2147483648) (hy : 0 < y ∧ y < 2147483648) (k : T G d mc ms j (pc + 1) L (IV (x / y) :: st) σ Q) : T G d mc ms j pc L (IV y :: IV x :: st) σ Q := T_idiv hd (iv_ne0 hy.1 hy.2) (by rw [iv_div hx.1 hx.2 hy.1 hy.2]; exact k)
theorem I_irem {x y : Int} (hd : decode j.2.1 pc = .ok (.irem, 1)) (hx : 0 ≤ x ∧ x < 2147483648) (hy : 0 < y ∧ y < 2147483648) (k : T G d mc ms j (pc + 1) L (IV (x % y) :: st) σ Q) : T G d mc ms j pc L (IV y :: IV x :: st) σ Q := T_irem hd (iv_ne0 hy.1 hy.2) (by
  rw [iv_div hx.1 hx.2 hy.1 hy.2, iv_mul, iv_sub, show x - x / y * y = x % y by rw [Int.mul_comm]; have := Int.mul_ediv_add_emod x y; omega]
  exact k)
theorem I_iinc {i : Nat} {n x : Int} (hd : decode j.2.1 pc = .ok (.iinc i n, 3)) (hl : L[i]? = some (some (IV x))) (hi : i < j.2.2.1) (h2 : noL2 L = true) (k : T G d mc ms j (pc + 3) (L.set i (some (IV (x + n)))) st σ Q) : T G d mc ms j pc L st σ Q := T_iinc hd hl (iv_add x n) hi h2 k
theorem I_i2l {x : Int} (hd : decode j.2.1 pc = .ok (.i2l, 1)) (hx : R32 x) (k : T G d mc ms j (pc + 1) L (LV x :: st) σ Q) : T G d mc ms j pc L (IV x :: st) σ Q := T_i2l hd (by rw [ivl hx]; exact k)
theorem I_ladd {x y : Int} (hd : decode j.2.1 pc = .ok (.ladd, 1)) (k : T G d mc ms j (pc + 1) L (LV (x + y) :: st) σ Q) : T G d mc ms j pc L (LV y :: LV x :: st) σ Q := T_ladd hd (by rw [← Int64.ofInt_add]; exact k)
theorem I_lcmp {x y : Int} (hd : decode j.2.1 pc = .ok (.lcmp, 1)) (hx : R63 x) (hy : R63 y) (k : T G d mc ms j (pc + 1) L (IV (cmpI x y) :: st) σ Q) : T G d mc ms j pc L (LV y :: LV x :: st) σ Q := T_lcmp hd (by rw [lv_cmp hx hy]; exact k)
def bI (x : Int) : Int := Int.bmod x 256
theorem I_i2b {x : Int} (hd : decode j.2.1 pc = .ok (.i2b, 1)) (k : T G d mc ms j (pc + 1) L (IV (bI x) :: st) σ Q) : T G d mc ms j pc L (IV x :: st) σ Q := T_i2b hd (by
  have e : (iv x).toInt8.toInt32 = iv (bI x) := by
    apply Int32.toInt_inj.mp
    have hb : R32 (bI x) := ⟨by have := Int.le_bmod (x := x) (m := 256) (by decide); unfold bI; omega, by have := Int.bmod_lt (x := x) (m := 256) (by decide); unfold bI; omega⟩
    rw [iv_toInt hb, Int8.toInt_toInt32]
    show (Int32.ofInt x).toInt8.toInt = bI x
    rw [Int32.toInt8_ofInt, Int8.toInt_ofInt]
    rfl
  rw [e]; exact k)
theorem I_if_eq {x : Int} {off : Int} {tgt : Nat} (hd : decode j.2.1 pc = .ok (.ifCond .eq off, 3)) (ht : (pc : Int) + off = (tgt : Int)) (hx : R32 x) (kt : x = 0 → T G d mc ms j tgt L st σ Q) (kf : ¬ x = 0 → T G d mc ms j (pc + 3) L st σ Q) : T G d mc ms j pc L (IV x :: st) σ Q :=
  T_if_eq hd ht (fun q => kt ((iv_eq (y := 0) hx ⟨by omega, by omega⟩).mp q)) (fun q => kf (fun z => q ((iv_eq (y := 0) hx ⟨by omega, by omega⟩).mpr z)))
theorem I_if_ne {x : Int} {off : Int} {tgt : Nat} (hd : decode j.2.1 pc = .ok (.ifCond .ne off, 3)) (ht : (pc : Int) + off = (tgt : Int)) (hx : R32 x) (kt : ¬ x = 0 → T G d mc ms j tgt L st σ Q) (kf : x = 0 → T G d mc ms j (pc + 3) L st σ Q) : T G d mc ms j pc L (IV x :: st) σ Q :=
  T_if_ne hd ht (fun q => kt (fun z => q ((iv_eq (y := 0) hx ⟨by omega, by omega⟩).mpr z))) (fun q => kf ((iv_eq (y := 0) hx ⟨by omega, by omega⟩).mp q))
theorem I_if_lt {x : Int} {off : Int} {tgt : Nat} (hd : decode j.2.1 pc = .ok (.ifCond .lt off, 3)) (ht : (pc : Int) + off = (tgt : Int)) (hx : R32 x) (kt : x < 0 → T G d mc ms j tgt L st σ Q) (kf : ¬ x < 0 → T G d mc ms j (pc + 3) L st σ Q) : T G d mc ms j pc L (IV x :: st) σ Q :=
  T_if_lt hd ht (fun q => kt ((iv_lt (y := 0) hx ⟨by omega, by omega⟩).mp q)) (fun q => kf (fun z => q ((iv_lt (y := 0) hx ⟨by omega, by omega⟩).mpr z)))
theorem I_if_ge {x : Int} {off : Int} {tgt : Nat} (hd : decode j.2.1 pc = .ok (.ifCond .ge off, 3)) (ht : (pc : Int) + off = (tgt : Int)) (hx : R32 x) (kt : 0 ≤ x → T G d mc ms j tgt L st σ Q) (kf : ¬ 0 ≤ x → T G d mc ms j (pc + 3) L st σ Q) : T G d mc ms j pc L (IV x :: st) σ Q :=
  T_if_ge hd ht (fun q => kt ((iv_le (x := 0) ⟨by omega, by omega⟩ hx).mp q)) (fun q => kf (fun z => q ((iv_le (x := 0) ⟨by omega, by omega⟩ hx).mpr z)))
theorem I_if_gt {x : Int} {off : Int} {tgt : Nat} (hd : decode j.2.1 pc = .ok (.ifCond .gt off, 3)) (ht : (pc : Int) + off = (tgt : Int)) (hx : R32 x) (kt : 0 < x → T G d mc ms j tgt L st σ Q) (kf : ¬ 0 < x → T G d mc ms j (pc + 3) L st σ Q) : T G d mc ms j pc L (IV x :: st) σ Q :=
  T_if_gt hd ht (fun q => kt ((iv_lt (x := 0) ⟨by omega, by omega⟩ hx).mp q)) (fun q => kf (fun z => q ((iv_lt (x := 0) ⟨by omega, by omega⟩ hx).mpr z)))
theorem I_if_le {x : Int} {off : Int} {tgt : Nat} (hd : decode j.2.1 pc = .ok (.ifCond .le off, 3)) (ht : (pc : Int) + off = (tgt : Int)) (hx : R32 x) (kt : x ≤ 0 → T G d mc ms j tgt L st σ Q) (kf : ¬ x ≤ 0 → T G d mc ms j (pc + 3) L st σ Q) : T G d mc ms j pc L (IV x :: st) σ Q :=
  T_if_le hd ht (fun q => kt ((iv_le (y := 0) hx ⟨by omega, by omega⟩).mp q)) (fun q => kf (fun z => q ((iv_le (y := 0) hx ⟨by omega, by omega⟩).mpr z)))
theorem I_icmp_eq {x y : Int} {off : Int} {tgt : Nat} (hd : decode j.2.1 pc = .ok (.if_icmp .eq off, 3)) (ht : (pc : Int) + off = (tgt : Int)) (hx : R32 x) (hy : R32 y) (kt : x = y → T G d mc ms j tgt L st σ Q) (kf : ¬ x = y → T G d mc ms j (pc + 3) L st σ Q) : T G d mc ms j pc L (IV y :: IV x :: st) σ Q :=
  T_icmp_eq hd ht (fun q => kt ((iv_eq hx hy).mp q)) (fun q => kf (fun z => q ((iv_eq hx hy).mpr z)))
theorem I_icmp_ne {x y : Int} {off : Int} {tgt : Nat} (hd : decode j.2.1 pc = .ok (.if_icmp .ne off, 3)) (ht : (pc : Int) + off = (tgt : Int)) (hx : R32 x) (hy : R32 y) (kt : ¬ x = y → T G d mc ms j tgt L st σ Q) (kf : x = y → T G d mc ms j (pc + 3) L st σ Q) : T G d mc ms j pc L (IV y :: IV x :: st) σ Q :=
  T_icmp_ne hd ht (fun q => kt (fun z => q ((iv_eq hx hy).mpr z))) (fun q => kf ((iv_eq hx hy).mp q))
theorem I_icmp_lt {x y : Int} {off : Int} {tgt : Nat} (hd : decode j.2.1 pc = .ok (.if_icmp .lt off, 3)) (ht : (pc : Int) + off = (tgt : Int)) (hx : R32 x) (hy : R32 y) (kt : x < y → T G d mc ms j tgt L st σ Q) (kf : ¬ x < y → T G d mc ms j (pc + 3) L st σ Q) : T G d mc ms j pc L (IV y :: IV x :: st) σ Q :=
  T_icmp_lt hd ht (fun q => kt ((iv_lt hx hy).mp q)) (fun q => kf (fun z => q ((iv_lt hx hy).mpr z)))
theorem I_icmp_ge {x y : Int} {off : Int} {tgt : Nat} (hd : decode j.2.1 pc = .ok (.if_icmp .ge off, 3)) (ht : (pc : Int) + off = (tgt : Int)) (hx : R32 x) (hy : R32 y) (kt : y ≤ x → T G d mc ms j tgt L st σ Q) (kf : ¬ y ≤ x → T G d mc ms j (pc + 3) L st σ Q) : T G d mc ms j pc L (IV y :: IV x :: st) σ Q :=
  T_icmp_ge hd ht (fun q => kt ((iv_le hy hx).mp q)) (fun q => kf (fun z => q ((iv_le hy hx).mpr z)))
theorem I_icmp_gt {x y : Int} {off : Int} {tgt : Nat} (hd : decode j.2.1 pc = .ok (.if_icmp .gt off, 3)) (ht : (pc : Int) + off = (tgt : Int)) (hx : R32 x) (hy : R32 y) (kt : y < x → T G d mc ms j tgt L st σ Q) (kf : ¬ y < x → T G d mc ms j (pc + 3) L st σ Q) : T G d mc ms j pc L (IV y :: IV x :: st) σ Q :=
  T_icmp_gt hd ht (fun q => kt ((iv_lt hy hx).mp q)) (fun q => kf (fun z => q ((iv_lt hy hx).mpr z)))
theorem I_icmp_le {x y : Int} {off : Int} {tgt : Nat} (hd : decode j.2.1 pc = .ok (.if_icmp .le off, 3)) (ht : (pc : Int) + off = (tgt : Int)) (hx : R32 x) (hy : R32 y) (kt : x ≤ y → T G d mc ms j tgt L st σ Q) (kf : ¬ x ≤ y → T G d mc ms j (pc + 3) L st σ Q) : T G d mc ms j pc L (IV y :: IV x :: st) σ Q :=
  T_icmp_le hd ht (fun q => kt ((iv_le hx hy).mp q)) (fun q => kf (fun z => q ((iv_le hx hy).mpr z)))
theorem I_tblOut {dflt lo hi : Int} {offs : Array Int} {len : Nat} {x : Int} {tgt : Nat} (hd : decode j.2.1 pc = .ok (.tableswitch dflt lo hi offs, len)) (hx : R32 x) (h : x < lo ∨ hi < x) (ht : (pc : Int) + dflt = (tgt : Int)) (k : T G d mc ms j tgt L st σ Q) : T G d mc ms j pc L (IV x :: st) σ Q := T_tblOut hd (by rw [iv_toInt hx]; exact h) ht k
theorem I_tblIn {dflt lo hi : Int} {offs : Array Int} {len : Nat} {x : Int} {off : Int} {tgt : Nat} (hd : decode j.2.1 pc = .ok (.tableswitch dflt lo hi offs, len)) (hx : R32 x) (h1 : ¬ x < lo) (h2 : ¬ hi < x) (ho : offs[(x - lo).toNat]? = some off) (ht : (pc : Int) + off = (tgt : Int)) (k : T G d mc ms j tgt L st σ Q) : T G d mc ms j pc L (IV x :: st) σ Q := T_tblIn hd (by rw [iv_toInt hx]; exact h1) (by rw [iv_toInt hx]; exact h2) (by rw [iv_toInt hx]; exact ho) ht k
theorem I_ireturn {x : Int} (hd : decode j.2.1 pc = .ok (.ireturn, 1)) (hr : j.2.2.2 = some .int) (q : Q (some (IV x)) σ) : T G d mc ms j pc L [IV x] σ Q := T_ireturn hd hr rfl q
theorem I_zreturn {x : Int} (hd : decode j.2.1 pc = .ok (.ireturn, 1)) (hr : j.2.2.2 = some .boolean) (hx : x = 0 ∨ x = 1) (q : Q (some (IV x)) σ) : T G d mc ms j pc L [IV x] σ Q := T_ireturn hd hr (by rcases hx with rfl | rfl <;> decide) q
end IK
-- shapes
abbrev SH : Type := (Nat × Nat) ⊕ (Nat × List (Option Nat))
abbrev SV : Type := (Nat → Nat → Int) × (Nat → Int → Int) × (Nat → Int → Option Nat)
def fI (S : SV) (a k : Nat) : Int := S.1 a k
def aI (S : SV) (a : Nat) (i : Int) : Int := S.2.1 a i
def rI (S : SV) (a : Nat) (i : Int) : Option Nat := S.2.2 a i
def mkF (S : SV) (a : Nat) (q : Option Nat × Nat) : Value := match q.1 with
  | none => IV (fI S a q.2)
  | some r => .ref r
def mkC (S : SV) (a : Nat) (x : SH) : va_E := match x with
  | .inl (t, n) => if t < 3 then .inl (t, n, .inl (fun i => iv (aI S a (i : Nat)))) else .inl (t, n, .inr (.inr (.inr (.inr (fun i => rI S a (i : Nat))))))
  | .inr (ci, fds) => .inr (ci, fds.zipIdx.map (mkF S a))
def HP (K : List SH) (S : SV) : List va_E := K.zipIdx.map (fun q => mkC S q.2 q.1)
def sF (S : SV) (a k : Nat) (v : Int) : SV := (fun a' k' => if a' = a ∧ k' = k then v else S.1 a' k', S.2.1, S.2.2)
def sA (S : SV) (a : Nat) (i : Int) (v : Int) : SV := (S.1, fun a' i' => if a' = a ∧ i' = i then v else S.2.1 a' i', S.2.2)
def sR (S : SV) (a : Nat) (i : Int) (v : Option Nat) : SV := (S.1, S.2.1, fun a' i' => if a' = a ∧ i' = i then v else S.2.2 a' i')
theorem fI_sF (S : SV) (a k : Nat) (v : Int) (a' k' : Nat) : fI (sF S a k v) a' k' = if a' = a ∧ k' = k then v else fI S a' k' := rfl
theorem fI_sA (S : SV) (a : Nat) (k : Int) (v : Int) (a' k' : Nat) : fI (sA S a k v) a' k' = fI S a' k' := rfl
theorem fI_sR (S : SV) (a : Nat) (k : Int) (v : Option Nat) (a' k' : Nat) : fI (sR S a k v) a' k' = fI S a' k' := rfl
theorem aI_sF (S : SV) (a k : Nat) (v : Int) (a' : Nat) (k' : Int) : aI (sF S a k v) a' k' = aI S a' k' := rfl
theorem aI_sA (S : SV) (a : Nat) (k : Int) (v : Int) (a' : Nat) (k' : Int) : aI (sA S a k v) a' k' = if a' = a ∧ k' = k then v else aI S a' k' := rfl
theorem aI_sR (S : SV) (a : Nat) (k : Int) (v : Option Nat) (a' : Nat) (k' : Int) : aI (sR S a k v) a' k' = aI S a' k' := rfl
theorem rI_sF (S : SV) (a k : Nat) (v : Int) (a' : Nat) (k' : Int) : rI (sF S a k v) a' k' = rI S a' k' := rfl
theorem rI_sA (S : SV) (a : Nat) (k : Int) (v : Int) (a' : Nat) (k' : Int) : rI (sA S a k v) a' k' = rI S a' k' := rfl
theorem rI_sR (S : SV) (a : Nat) (k : Int) (v : Option Nat) (a' : Nat) (k' : Int) : rI (sR S a k v) a' k' = if a' = a ∧ k' = k then v else rI S a' k' := rfl
theorem SV_ext {S S' : SV} (h1 : ∀ a k, fI S a k = fI S' a k) (h2 : ∀ a k, aI S a k = aI S' a k) (h3 : ∀ a k, rI S a k = rI S' a k) : S = S' := by
  obtain ⟨f, g, r⟩ := S
  obtain ⟨f', g', r'⟩ := S'
  have e1 : f = f' := by funext a k; exact h1 a k
  have e2 : g = g' := by funext a k; exact h2 a k
  have e3 : r = r' := by funext a k; exact h3 a k
  rw [e1, e2, e3]
theorem HP_get (K : List SH) (S : SV) (a : Nat) : (HP K S)[a]? = (K[a]?).map (mkC S a) := by
  simp only [HP, List.getElem?_map, List.getElem?_zipIdx, Option.map_map, Nat.zero_add]
  rfl
theorem HP_at {K : List SH} {S : SV} {a : Nat} {x : SH} (h : K[a]? = some x) : (HP K S)[a]? = some (mkC S a x) := by rw [HP_get, h]; rfl
theorem HP_len (K : List SH) (S : SV) : (HP K S).length = K.length := by simp [HP]
theorem HP_set {K : List SH} {S S' : SV} {a : Nat} {x : SH} {e : va_E} (h : K[a]? = some x) (he : mkC S' a x = e) (ho : ∀ b y, b ≠ a → mkC S' b y = mkC S b y) : (HP K S).set a e = HP K S' := by
  have hl := (List.getElem?_eq_some_iff.mp h).1
  apply List.ext_getElem?
  intro i
  rw [HP_get]
  by_cases hi : a = i
  · subst hi
    rw [List.getElem?_set_self (by rw [HP_len]; exact hl), h, ← he]
    rfl
  · rw [List.getElem?_set_ne hi, HP_get]
    cases K[i]? with
    | none => rfl
    | some y => exact congrArg some (ho i y (Ne.symm hi)).symm
theorem mkC_obj (S : SV) (a ci : Nat) (fds : List (Option Nat)) : mkC S a (.inr (ci, fds)) = .inr (ci, fds.zipIdx.map (mkF S a)) := rfl
theorem mkF_get {S : SV} {a k : Nat} {fds : List (Option Nat)} {o : Option Nat} (h : fds[k]? = some o) : (fds.zipIdx.map (mkF S a))[k]? = some (mkF S a (o, k)) := by
  simp [List.getElem?_map, List.getElem?_zipIdx, h]
theorem HP_setF {K : List SH} {S : SV} {a k ci : Nat} {fds : List (Option Nat)} (v : Int) (h : K[a]? = some (.inr (ci, fds))) (hk : fds[k]? = some none) : (HP K S).set a (.inr (ci, (fds.zipIdx.map (mkF S a)).set k (IV v))) = HP K (sF S a k v) := by
  refine HP_set h ?_ ?_
  · rw [mkC_obj]
    congr 2
    apply List.ext_getElem?
    intro i
    by_cases hi : k = i
    · subst hi
      rw [mkF_get hk, List.getElem?_set_self (by have := mkF_get (S := S) (a := a) hk; exact (List.getElem?_eq_some_iff.mp this).1)]
      simp [mkF, fI, sF]
    · rw [List.getElem?_set_ne hi]
      simp only [List.getElem?_map, List.getElem?_zipIdx]
      cases fds[i]? with
      | none => rfl
      | some o =>
        cases o with
        | none => simp [mkF, fI, sF, Ne.symm hi]
        | some r => rfl
  · intro b y hb
    obtain ⟨t, n⟩ | ⟨ci', fds'⟩ := y
    · rfl
    · simp only [mkC_obj]
      congr 2
      apply List.map_congr_left
      intro q _
      obtain ⟨o, i⟩ := q
      cases o with
      | none => simp [mkF, fI, sF, hb]
      | some r => rfl
theorem HP_setA {K : List SH} {S : SV} {a t n : Nat} {i : Int} (v : Int) (h : K[a]? = some (.inl (t, n))) (ht : t < 3) (hi : 0 ≤ i) : (HP K S).set a (.inl (t, n, .inl (upd (fun i => iv (aI S a (i : Nat))) i.toNat (iv v)))) = HP K (sA S a i v) := by
  refine HP_set h ?_ ?_
  · simp only [mkC, if_pos ht]
    congr 4
    funext k
    simp only [upd, aI_sA]
    by_cases hk : k = i.toNat
    · subst hk
      rw [if_pos rfl, if_pos ⟨trivial, by omega⟩]
    · rw [if_neg hk, if_neg (fun z => hk (by omega))]
  · intro b y hb
    obtain ⟨t', n'⟩ | ⟨ci', fds'⟩ := y
    · have e1 : aI (sA S a i v) b = aI S b := by funext k; simp [aI, sA, hb]
      simp only [mkC, e1]
      rfl
    · rfl
theorem HP_setR {K : List SH} {S : SV} {a t n : Nat} {i : Int} (v : Option Nat) (h : K[a]? = some (.inl (t, n))) (ht : ¬ t < 3) (hi : 0 ≤ i) : (HP K S).set a (.inl (t, n, .inr (.inr (.inr (.inr (va_up (fun i => rI S a (i : Nat)) i.toNat v)))))) = HP K (sR S a i v) := by
  refine HP_set h ?_ ?_
  · simp only [mkC, if_neg ht]
    congr 7
    funext k
    simp only [va_up, rI_sR]
    by_cases hk : k = i.toNat
    · subst hk
      rw [if_pos rfl, if_pos ⟨trivial, by omega⟩]
    · rw [if_neg hk, if_neg (fun z => hk (by omega))]
  · intro b y hb
    obtain ⟨t', n'⟩ | ⟨ci', fds'⟩ := y
    · have e1 : rI (sR S a i v) b = rI S b := by funext k; simp [rI, sR, hb]
      simp only [mkC, e1]
      rfl
    · rfl
abbrev P (G : GT) (d mc ms : Nat) (j : MD) (pc : Nat) (L : List (Option Value)) (st : List Value) (K : List SH) (S : SV) (Q : Option Value → List SH → SV → Prop) : Prop := T G d mc ms j pc L st (HP K S) (fun r σ' => ∃ K' S', σ' = HP K' S' ∧ Q r K' S')
section PK
variable {G : GT} {d mc ms : Nat} {j : MD} {pc : Nat} {L : List (Option Value)} {st : List Value} {K : List SH} {S : SV} {Q : Option Value → List va_E → Prop}
theorem P_geti {idx ci k a : Nat} {fin : Bool} {fds : List (Option Nat)} (hd : decode j.2.1 pc = .ok (.getfield idx, 3)) (hf : FLok j.1.cls idx ci k fin) (hK : K[a]? = some (.inr (ci, fds))) (hk : fds[k]? = some none) (kk : T G d mc ms j (pc + 3) L (IV (fI S a k) :: st) (HP K S) Q) : T G d mc ms j pc L (.ref a :: st) (HP K S) Q :=
  T_get hd hf (HP_at hK) (mkF_get hk) kk
theorem P_getr {idx ci k a r : Nat} {fin : Bool} {fds : List (Option Nat)} (hd : decode j.2.1 pc = .ok (.getfield idx, 3)) (hf : FLok j.1.cls idx ci k fin) (hK : K[a]? = some (.inr (ci, fds))) (hk : fds[k]? = some (some r)) (kk : T G d mc ms j (pc + 3) L (.ref r :: st) (HP K S) Q) : T G d mc ms j pc L (.ref a :: st) (HP K S) Q :=
  T_get hd hf (HP_at hK) (mkF_get hk) kk
theorem P_puti {idx ci k a : Nat} {fds : List (Option Nat)} {v : Int} (hd : decode j.2.1 pc = .ok (.putfield idx, 3)) (hf : FLok j.1.cls idx ci k false) (hK : K[a]? = some (.inr (ci, fds))) (hk : fds[k]? = some none) (hp : tyG ci k = .int) (kk : T G d mc ms j (pc + 3) L st (HP K (sF S a k v)) Q) : T G d mc ms j pc L (IV v :: .ref a :: st) (HP K S) Q :=
  T_put hd hf (HP_at hK) (by have := mkF_get (S := S) (a := a) hk; exact (List.getElem?_eq_some_iff.mp this).1) (by rw [hp]; rfl) (by rw [HP_setF v hK hk]; exact kk)
theorem P_iald {a n : Nat} {i : Int} (hd : decode j.2.1 pc = .ok (.iaload, 1)) (hK : K[a]? = some (.inl (0, n))) (hi : 0 ≤ i ∧ i < n) (hn : n ≤ 2147483648) (kk : T G d mc ms j (pc + 1) L (IV (aI S a i) :: st) (HP K S) Q) : T G d mc ms j pc L (IV i :: .ref a :: st) (HP K S) Q :=
  T_iald hd (HP_at hK) (iv_in hi.1 hi.2 hn) (by rw [iv_nat hi.1 (by have := hi.2; omega), Int.toNat_of_nonneg hi.1]; exact kk)
theorem P_bald {a n : Nat} {i : Int} (hd : decode j.2.1 pc = .ok (.baload, 1)) (hK : K[a]? = some (.inl (1, n))) (hi : 0 ≤ i ∧ i < n) (hn : n ≤ 2147483648) (kk : T G d mc ms j (pc + 1) L (IV (aI S a i) :: st) (HP K S) Q) : T G d mc ms j pc L (IV i :: .ref a :: st) (HP K S) Q :=
  T_bald hd (HP_at hK) (iv_in hi.1 hi.2 hn) (by rw [iv_nat hi.1 (by have := hi.2; omega), Int.toNat_of_nonneg hi.1]; exact kk)
theorem P_zald {a n : Nat} {i : Int} (hd : decode j.2.1 pc = .ok (.baload, 1)) (hK : K[a]? = some (.inl (2, n))) (hi : 0 ≤ i ∧ i < n) (hn : n ≤ 2147483648) (kk : T G d mc ms j (pc + 1) L (IV (aI S a i) :: st) (HP K S) Q) : T G d mc ms j pc L (IV i :: .ref a :: st) (HP K S) Q :=
  T_zald hd (HP_at hK) (iv_in hi.1 hi.2 hn) (by rw [iv_nat hi.1 (by have := hi.2; omega), Int.toNat_of_nonneg hi.1]; exact kk)
theorem P_iast {a n : Nat} {i v : Int} (hd : decode j.2.1 pc = .ok (.iastore, 1)) (hK : K[a]? = some (.inl (0, n))) (hi : 0 ≤ i ∧ i < n) (hn : n ≤ 2147483648) (kk : T G d mc ms j (pc + 1) L st (HP K (sA S a i v)) Q) : T G d mc ms j pc L (IV v :: IV i :: .ref a :: st) (HP K S) Q :=
  T_iast hd (HP_at hK) (iv_in hi.1 hi.2 hn) (by rw [iv_nat hi.1 (by have := hi.2; omega), HP_setA v hK (by decide) hi.1]; exact kk)
theorem P_bast {a n : Nat} {i v : Int} (hd : decode j.2.1 pc = .ok (.bastore, 1)) (hK : K[a]? = some (.inl (1, n))) (hi : 0 ≤ i ∧ i < n) (hn : n ≤ 2147483648) (hv : vp_nar .byte (iv v) = iv v) (kk : T G d mc ms j (pc + 1) L st (HP K (sA S a i v)) Q) : T G d mc ms j pc L (IV v :: IV i :: .ref a :: st) (HP K S) Q :=
  T_bast hd (HP_at hK) (iv_in hi.1 hi.2 hn) (by rw [iv_nat hi.1 (by have := hi.2; omega), hv, HP_setA v hK (by decide) hi.1]; exact kk)
theorem P_zast {a n : Nat} {i v : Int} (hd : decode j.2.1 pc = .ok (.bastore, 1)) (hK : K[a]? = some (.inl (2, n))) (hi : 0 ≤ i ∧ i < n) (hn : n ≤ 2147483648) (hv : v = 0 ∨ v = 1) (kk : T G d mc ms j (pc + 1) L st (HP K (sA S a i v)) Q) : T G d mc ms j pc L (IV v :: IV i :: .ref a :: st) (HP K S) Q :=
  T_zast hd (HP_at hK) (iv_in hi.1 hi.2 hn) (by rw [iv_nat hi.1 (by have := hi.2; omega), show vp_nar .boolean (iv v) = iv v by rcases hv with rfl | rfl <;> decide, HP_setA v hK (by decide) hi.1]; exact kk)
theorem P_aald {a t n r : Nat} {i : Int} (hd : decode j.2.1 pc = .ok (.aaload, 1)) (hK : K[a]? = some (.inl (t, n))) (ht : 3 ≤ t ∧ t ≤ 6) (hi : 0 ≤ i ∧ i < n) (hn : n ≤ 2147483648) (hr : rI S a i = some r) (kk : T G d mc ms j (pc + 1) L (.ref r :: st) (HP K S) Q) : T G d mc ms j pc L (IV i :: .ref a :: st) (HP K S) Q :=
  T_aald hd (by rw [HP_at hK, mkC, if_neg (by omega)]) ht.1 ht.2 (iv_in hi.1 hi.2 hn) (by rw [iv_nat hi.1 (by have := hi.2; omega), Int.toNat_of_nonneg hi.1, hr]; exact kk)
theorem P_aaldN {a t n : Nat} {i : Int} (hd : decode j.2.1 pc = .ok (.aaload, 1)) (hK : K[a]? = some (.inl (t, n))) (ht : 3 ≤ t ∧ t ≤ 6) (hi : 0 ≤ i ∧ i < n) (hn : n ≤ 2147483648) (hr : rI S a i = none) (kk : T G d mc ms j (pc + 1) L (.null :: st) (HP K S) Q) : T G d mc ms j pc L (IV i :: .ref a :: st) (HP K S) Q :=
  T_aald hd (by rw [HP_at hK, mkC, if_neg (by omega)]) ht.1 ht.2 (iv_in hi.1 hi.2 hn) (by rw [iv_nat hi.1 (by have := hi.2; omega), Int.toNat_of_nonneg hi.1, hr]; exact kk)
theorem P_aast {a t n v ci : Nat} {i : Int} {fds : List (Option Nat)} {q : vw_C} (hd : decode j.2.1 pc = .ok (.aastore, 1)) (hK : K[a]? = some (.inl (t, n))) (ht3 : 3 ≤ t) (ht : (tysG G)[t]? = some (G.2.1 t, .object q.1)) (hv : K[v]? = some (.inr (ci, fds))) (hc : vwCl[ci]? = some q) (hi : 0 ≤ i ∧ i < n) (hn : n ≤ 2147483648) (kk : T G d mc ms j (pc + 1) L st (HP K (sR S a i (some v))) Q) : T G d mc ms j pc L (.ref v :: IV i :: .ref a :: st) (HP K S) Q :=
  T_aast hd (by rw [HP_at hK, mkC, if_neg (by omega)]) ht (HP_at hv) hc (iv_in hi.1 hi.2 hn) (by rw [iv_nat hi.1 (by have := hi.2; omega), HP_setR (some v) hK (by omega) hi.1]; exact kk)
theorem P_alen {a t n : Nat} {v : Int} (hd : decode j.2.1 pc = .ok (.arraylength, 1)) (hK : K[a]? = some (.inl (t, n))) (ht : t ≤ 6) (hv : (n : Int) = v) (kk : T G d mc ms j (pc + 1) L (IV v :: st) (HP K S) Q) : T G d mc ms j pc L (.ref a :: st) (HP K S) Q := by
  subst hv
  by_cases h3 : t < 3
  · exact T_alen hd (by rw [HP_at hK, mkC, if_pos h3]) ht (by rw [← Int32.ofInt_eq_ofNat]; rfl) kk
  · exact T_alen hd (by rw [HP_at hK, mkC, if_neg h3]) ht (by rw [← Int32.ofInt_eq_ofNat]; rfl) kk
variable {Q : Option Value → List SH → SV → Prop}
theorem P_ret {r : Option Value} {K : List SH} {S : SV} (q : Q r K S) : ∃ K' S', HP K S = HP K' S' ∧ Q r K' S' := ⟨K, S, rfl, q⟩
theorem P_callV {idx n b ci d' : Nat} {mc' ms' : Nat} {j' : MD} {As stk : List Value} {fds : List (Option Nat)} {Q' : Option Value → List SH → SV → Prop} {F : u_T} {N : Nat} (hd : decode j.2.1 pc = .ok (.invokevirtual idx, 3)) (hk : MOk j' ∧ MInst j' ∧ MPar j' n) (hl : MLk j.1.cls idx j') (hb : K[b]? = some (.inr (ci, fds))) (hc : vwCl[ci]? = some (j'.1.cls, F, N)) (hM : P G d' mc' ms' j' 0 (LE j' (.ref b :: As)) [] K S Q') (hn : As.length = n) (hstk : stk = As.reverse ++ .ref b :: st) (h8 : (st.map fun v => v.category).sum ≤ 8) (hL : (LA (.ref b :: As)).length ≤ j'.2.2.1) (hdd : d' + 1 ≤ d) (hmx : j'.2.2.1 ≤ 16) (kk : ∀ r K' S', Q' r K' S' → P G d mc ms j (pc + 3) L (r.toList ++ st) K' S' Q) : P G d (mc' + mc) (ms' + ms) j pc L stk K S Q :=
  T_callV hd hk hl (HP_at hb) hc hM hn hstk h8 hL hdd hmx (fun r σ' h => by obtain ⟨K', S', rfl, q⟩ := h; exact kk r K' S' q)
theorem P_callS {idx n d' mc' ms' : Nat} {j' : MD} {As stk : List Value} {Q' : Option Value → List SH → SV → Prop} (hd : decode j.2.1 pc = .ok (.invokestatic idx, 3)) (hk : MOk j' ∧ MStat j' ∧ MPar j' n) (hl : MLk j.1.cls idx j') (hM : P G d' mc' ms' j' 0 (LE j' As) [] K S Q') (hn : As.length = n) (hstk : stk = As.reverse ++ st) (h8 : (st.map fun v => v.category).sum ≤ 8) (hL : (LA As).length ≤ j'.2.2.1) (hdd : d' + 1 ≤ d) (hmx : j'.2.2.1 ≤ 16) (kk : ∀ r K' S', Q' r K' S' → P G d mc ms j (pc + 3) L (r.toList ++ st) K' S' Q) : P G d (mc' + mc) (ms' + ms) j pc L stk K S Q :=
  T_callS hd hk hl hM hn hstk h8 hL hdd hmx (fun r σ' h => by obtain ⟨K', S', rfl, q⟩ := h; exact kk r K' S' q)
theorem P_callSN {idx n d' mc' ms' : Nat} {j' : MD} {As stk : List Value} {Q' : Option Value → List SH → SV → Prop} (hd : decode j.2.1 pc = .ok (.invokestatic idx, 3)) (hk : MOk j' ∧ MStat j' ∧ MPar j' n) (hl : MNk j.1.cls idx j') (hM : P G d' mc' ms' j' 0 (LE j' As) [] K S Q') (hn : As.length = n) (hstk : stk = As.reverse ++ st) (h8 : (st.map fun v => v.category).sum ≤ 8) (hL : (LA As).length ≤ j'.2.2.1) (hdd : d' + 1 ≤ d) (hmx : j'.2.2.1 ≤ 16) (kk : ∀ r K' S', Q' r K' S' → P G d mc ms j (pc + 3) L (r.toList ++ st) K' S' Q) : P G d (mc' + mc) (ms' + ms) j pc L stk K S Q :=
  T_callSN hd hk hl hM hn hstk h8 hL hdd hmx (fun r σ' h => by obtain ⟨K', S', rfl, q⟩ := h; exact kk r K' S' q)
theorem P.weaken {Q' : Option Value → List SH → SV → Prop} (h : P G d mc ms j pc L st K S Q) (hq : ∀ r K' S', Q r K' S' → Q' r K' S') : P G d mc ms j pc L st K S Q' := T.weaken h (fun r σ' q => by obtain ⟨K', S', e, q⟩ := q; exact ⟨K', S', e, hq r K' S' q⟩)
theorem P.depth {d' : Nat} (h : P G d' mc ms j pc L st K S Q) (h1 : d' ≤ d) : P G d mc ms j pc L st K S Q := T.room h h1 (Nat.le_refl _) (Nat.le_refl _)
abbrev Ret (K : List SH) (v : Option Value) (S2 : SV) : Option Value → List SH → SV → Prop := fun r K' S' => r = v ∧ K' = K ∧ S' = S2
theorem Q_callV {idx n b ci d' : Nat} {j' : MD} {As stk : List Value} {fds : List (Option Nat)} {v : Option Value} {S2 : SV} {F : u_T} {N : Nat} (hd : decode j.2.1 pc = .ok (.invokevirtual idx, 3)) (hk : MOk j' ∧ MInst j' ∧ MPar j' n) (hl : MLk j.1.cls idx j') (hb : K[b]? = some (.inr (ci, fds))) (hc : vwCl[ci]? = some (j'.1.cls, F, N)) (hM : P G d' 0 0 j' 0 (LE j' (.ref b :: As)) [] K S (Ret K v S2)) (hn : As.length = n) (hstk : stk = As.reverse ++ .ref b :: st) (h8 : (st.map fun v => v.category).sum ≤ 8) (hL : (LA (.ref b :: As)).length ≤ j'.2.2.1) (hdd : d' + 1 ≤ d) (hmx : j'.2.2.1 ≤ 16) (kk : P G d mc ms j (pc + 3) L (v.toList ++ st) K S2 Q) : P G d mc ms j pc L stk K S Q := by
  have h := P_callV (mc := mc) (ms := ms) (st := st) (L := L) (Q := Q) hd hk hl hb hc hM hn hstk h8 hL hdd hmx (fun r K' S' q => by obtain ⟨rfl, rfl, rfl⟩ := q; exact kk)
  rw [Nat.zero_add, Nat.zero_add] at h
  exact h
theorem Q_callS {idx n d' : Nat} {j' : MD} {As stk : List Value} {v : Option Value} {S2 : SV} (hd : decode j.2.1 pc = .ok (.invokestatic idx, 3)) (hk : MOk j' ∧ MStat j' ∧ MPar j' n) (hl : MLk j.1.cls idx j') (hM : P G d' 0 0 j' 0 (LE j' As) [] K S (Ret K v S2)) (hn : As.length = n) (hstk : stk = As.reverse ++ st) (h8 : (st.map fun v => v.category).sum ≤ 8) (hL : (LA As).length ≤ j'.2.2.1) (hdd : d' + 1 ≤ d) (hmx : j'.2.2.1 ≤ 16) (kk : P G d mc ms j (pc + 3) L (v.toList ++ st) K S2 Q) : P G d mc ms j pc L stk K S Q := by
  have h := P_callS (mc := mc) (ms := ms) (st := st) (L := L) (Q := Q) hd hk hl hM hn hstk h8 hL hdd hmx (fun r K' S' q => by obtain ⟨rfl, rfl, rfl⟩ := q; exact kk)
  rw [Nat.zero_add, Nat.zero_add] at h
  exact h
theorem Q_callSN {idx n d' : Nat} {j' : MD} {As stk : List Value} {v : Option Value} {S2 : SV} (hd : decode j.2.1 pc = .ok (.invokestatic idx, 3)) (hk : MOk j' ∧ MStat j' ∧ MPar j' n) (hl : MNk j.1.cls idx j') (hM : P G d' 0 0 j' 0 (LE j' As) [] K S (Ret K v S2)) (hn : As.length = n) (hstk : stk = As.reverse ++ st) (h8 : (st.map fun v => v.category).sum ≤ 8) (hL : (LA As).length ≤ j'.2.2.1) (hdd : d' + 1 ≤ d) (hmx : j'.2.2.1 ≤ 16) (kk : P G d mc ms j (pc + 3) L (v.toList ++ st) K S2 Q) : P G d mc ms j pc L stk K S Q := by
  have h := P_callSN (mc := mc) (ms := ms) (st := st) (L := L) (Q := Q) hd hk hl hM hn hstk h8 hL hdd hmx (fun r K' S' q => by obtain ⟨rfl, rfl, rfl⟩ := q; exact kk)
  rw [Nat.zero_add, Nat.zero_add] at h
  exact h
theorem Q_end {v : Option Value} {S2 : SV} (h : S = S2) : ∃ K' S', HP K S = HP K' S' ∧ Ret K v S2 v K' S' := ⟨K, S, rfl, rfl, rfl, h⟩
end PK
