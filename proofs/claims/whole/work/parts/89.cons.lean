/-! constructors: a heap, an object on its end, what lies behind it -/
theorem ap_get {α : Type} (σ : List α) (x : α) (l : List α) : (σ ++ x :: l)[σ.length]? = some x := by simp
theorem ap_set {α : Type} (σ : List α) (x y : α) (l : List α) : (σ ++ x :: l).set σ.length y = σ ++ y :: l := by simp
theorem ap_len {α : Type} (σ : List α) (x : α) (l : List α) : (σ ++ x :: l).length = σ.length + (l.length + 1) := by simp
section CONS
variable {G : GT} {d mc ms : Nat} {j : MD} {pc : Nat} {L : List (Option Value)} {st : List Value} {σ : List va_E} {Q : Option Value → List va_E → Prop}
theorem C_put {idx ci k : Nat} {fs : List Value} {v : Value} {l : List va_E} (hd : decode j.2.1 pc = .ok (.putfield idx, 3)) (hf : FLok j.1.cls idx ci k true) (hin : j.1.name = "<init>") (hown : ∀ Cn F N, vwCl[ci]? = some (Cn, F, N) → Cn = j.1.cls) (hl : k < fs.length) (hp : putOk (tyG ci k) v = true) (kk : T G d mc ms j (pc + 3) L st (σ ++ .inr (ci, fs.set k v) :: l) Q) : T G d mc ms j pc L (v :: .ref σ.length :: st) (σ ++ .inr (ci, fs) :: l) Q := T_putF hd hf hin hown (ap_get _ _ _) hl hp (by rw [ap_set]; exact kk)
theorem C_get {idx ci k : Nat} {fin : Bool} {fs : List Value} {v : Value} {l : List va_E} (hd : decode j.2.1 pc = .ok (.getfield idx, 3)) (hf : FLok j.1.cls idx ci k fin) (hv : fs[k]? = some v) (kk : T G d mc ms j (pc + 3) L (v :: st) (σ ++ .inr (ci, fs) :: l) Q) : T G d mc ms j pc L (.ref σ.length :: st) (σ ++ .inr (ci, fs) :: l) Q := T_get hd hf (ap_get _ _ _) hv kk
def z0E (t n : Nat) : va_E := .inl (t, n, .inl (fun _ => 0))
theorem nlt0 {n : Int} (h : 0 ≤ n ∧ n ≤ 65536) : ¬ iv n < 0 := fun q => by
  have h2 : iv n < iv 0 := q
  rw [iv_lt ⟨by omega, by omega⟩ ⟨by omega, by omega⟩] at h2
  omega
theorem C_newi {n : Int} {x : va_E} {l : List va_E} (hd : decode j.2.1 pc = .ok (.newarray .int, 2)) (hn : 0 ≤ n ∧ n ≤ 65536) (hmc : 1 ≤ mc) (hms : n.toNat ≤ ms) (kk : T G d (mc - 1) (ms - n.toNat) j (pc + 2) L (.ref (σ.length + (l.length + 1)) :: st) (σ ++ x :: (l ++ [z0E 0 n.toNat])) Q) : T G d mc ms j pc L (IV n :: st) (σ ++ x :: l) Q := by
  have q : T G d (mc - 1 + 1) (ms - n.toNat + n.toNat) j pc L (IV n :: st) (σ ++ x :: l) Q := T_newi hd (nlt0 hn) (iv_nat hn.1 (by omega)) (by omega) (by rw [ap_len, List.append_assoc, List.cons_append]; exact kk)
  rwa [Nat.sub_add_cancel hmc, Nat.sub_add_cancel hms] at q
theorem C_newb {n : Int} {x : va_E} {l : List va_E} (hd : decode j.2.1 pc = .ok (.newarray .byte, 2)) (hn : 0 ≤ n ∧ n ≤ 65536) (hmc : 1 ≤ mc) (hms : n.toNat ≤ ms) (kk : T G d (mc - 1) (ms - n.toNat) j (pc + 2) L (.ref (σ.length + (l.length + 1)) :: st) (σ ++ x :: (l ++ [z0E 1 n.toNat])) Q) : T G d mc ms j pc L (IV n :: st) (σ ++ x :: l) Q := by
  have q : T G d (mc - 1 + 1) (ms - n.toNat + n.toNat) j pc L (IV n :: st) (σ ++ x :: l) Q := T_newb hd (nlt0 hn) (iv_nat hn.1 (by omega)) (by omega) (by rw [ap_len, List.append_assoc, List.cons_append]; exact kk)
  rwa [Nat.sub_add_cancel hmc, Nat.sub_add_cancel hms] at q
theorem C_newz {n : Int} {x : va_E} {l : List va_E} (hd : decode j.2.1 pc = .ok (.newarray .boolean, 2)) (hn : 0 ≤ n ∧ n ≤ 65536) (hmc : 1 ≤ mc) (hms : n.toNat ≤ ms) (kk : T G d (mc - 1) (ms - n.toNat) j (pc + 2) L (.ref (σ.length + (l.length + 1)) :: st) (σ ++ x :: (l ++ [z0E 2 n.toNat])) Q) : T G d mc ms j pc L (IV n :: st) (σ ++ x :: l) Q := by
  have q : T G d (mc - 1 + 1) (ms - n.toNat + n.toNat) j pc L (IV n :: st) (σ ++ x :: l) Q := T_newz hd (nlt0 hn) (iv_nat hn.1 (by omega)) (by omega) (by rw [ap_len, List.append_assoc, List.cons_append]; exact kk)
  rwa [Nat.sub_add_cancel hmc, Nat.sub_add_cancel hms] at q
def q0E (t n : Nat) (f : Nat → Option Nat) : va_E := .inl (t, n, .inr (.inr (.inr (.inr f))))
theorem C_newq {idx t : Nat} {Cn : String} {n : Int} {x : va_E} {l : List va_E} (hd : decode j.2.1 pc = .ok (.anewarray idx, 3)) (hcl : Cond.classLink j.1.cls idx Cn ∈ gtbl) (hover : ∀ s, EnvOK G s → va_AO Cn s) (ht : (tysG G)[t]? = some (G.2.1 t, .object Cn)) (hn : 0 ≤ n ∧ n ≤ 65536) (hmc : 1 ≤ mc) (hms : n.toNat ≤ ms) (kk : T G d (mc - 1) (ms - n.toNat) j (pc + 3) L (.ref (σ.length + (l.length + 1)) :: st) (σ ++ x :: (l ++ [q0E t n.toNat (fun _ => none)])) Q) : T G d mc ms j pc L (IV n :: st) (σ ++ x :: l) Q := by
  have q : T G d (mc - 1 + 1) (ms - n.toNat + n.toNat) j pc L (IV n :: st) (σ ++ x :: l) Q := T_newq hd hcl hover ht (nlt0 hn) (iv_nat hn.1 (by omega)) (by omega) (by rw [ap_len, List.append_assoc, List.cons_append]; exact kk)
  rwa [Nat.sub_add_cancel hmc, Nat.sub_add_cancel hms] at q
/-- what a constructor leaves: the heap, then its block -/
def CQ (σ : List va_E) (b : List va_E) : Option Value → List va_E → Prop := fun r σ' => r = none ∧ σ' = σ ++ b
theorem C_make {idx idx2 ci N d' mc' ms' : Nat} {Cn : String} {F : u_T} {fs : List Value} {j' : MD} {blk : List va_E} {x : va_E} {l : List va_E} (hd1 : decode j.2.1 pc = .ok (.new idx, 3)) (hcl : Cond.classLink j.1.cls idx Cn ∈ gtbl) (hin : Cond.instantiable Cn N ∈ gtbl ∧ Cond.initialized Cn ∈ gtbl) (hc : vwCl[ci]? = some (Cn, F, N)) (hfm : fs.map (tr G) = fs) (hfs : ∀ k, k < N → defaultValue (tyG ci k) = vp_V fs k) (hd2 : decode j.2.1 (pc + 3) = .ok (.dup, 1)) (hd3 : decode j.2.1 (pc + 4) = .ok (.invokespecial idx2, 3)) (hk : MOk j' ∧ MIni j' ∧ MPar j' 0) (hr : j'.2.2.2 = none) (hl : MLk j.1.cls idx2 j') (hM : T G d' mc' ms' j' 0 (LE j' [.ref (σ ++ x :: l).length]) [] ((σ ++ x :: l) ++ [.inr (ci, fs)]) (CQ (σ ++ x :: l) blk)) (h8 : (((Value.ref (σ ++ x :: l).length) :: st).map fun v => v.category).sum ≤ 8) (hL : (LA [Value.ref (σ ++ x :: l).length]).length ≤ j'.2.2.1) (hdd : d' + 1 ≤ d) (hmx : j'.2.2.1 ≤ 16) (hmc : mc' + 1 ≤ mc) (hms : ms' + N ≤ ms) (kk : T G d (mc - (mc' + 1)) (ms - (ms' + N)) j (pc + 7) L (.ref (σ.length + (l.length + 1)) :: st) (σ ++ x :: (l ++ blk)) Q) : T G d mc ms j pc L st (σ ++ x :: l) Q := by
  obtain ⟨mc, rfl⟩ : ∃ m, mc = mc' + m + 1 := ⟨mc - (mc' + 1), by omega⟩
  obtain ⟨ms, rfl⟩ : ∃ m, ms = ms' + m + N := ⟨ms - (ms' + N), by omega⟩
  rw [show mc' + mc + 1 - (mc' + 1) = mc by omega, show ms' + ms + N - (ms' + N) = ms by omega] at kk
  refine T_new hd1 hcl hin hc hfm hfs (T_dup hd2 rfl ?_)
  refine T_callI hd3 hk hr hl hM rfl rfl h8 hL hdd hmx (fun r σ' q => ?_)
  obtain ⟨rfl, rfl⟩ := q
  show T G d mc ms j (pc + 3 + 1 + 3) L (.ref (σ ++ x :: l).length :: st) ((σ ++ x :: l) ++ blk) Q
  rw [ap_len, List.append_assoc, List.cons_append]
  exact kk
theorem C_makeN {idx idx2 ci N d' mc' ms' : Nat} {Cn : String} {F : u_T} {fs : List Value} {j' : MD} {blk : List va_E} {x : va_E} {l : List va_E} (hd1 : decode j.2.1 pc = .ok (.new idx, 3)) (hcl : Cond.classLink j.1.cls idx Cn ∈ gtbl) (hin : Cond.instantiable Cn N ∈ gtbl ∧ Cond.initialized Cn ∈ gtbl) (hc : vwCl[ci]? = some (Cn, F, N)) (hfm : fs.map (tr G) = fs) (hfs : ∀ k, k < N → defaultValue (tyG ci k) = vp_V fs k) (hd2 : decode j.2.1 (pc + 3) = .ok (.dup, 1)) (hd3 : decode j.2.1 (pc + 4) = .ok (.invokespecial idx2, 3)) (hk : MOk j' ∧ MIni j' ∧ MPar j' 0) (hr : j'.2.2.2 = none) (hl : MNk j.1.cls idx2 j') (hM : T G d' mc' ms' j' 0 (LE j' [.ref (σ ++ x :: l).length]) [] ((σ ++ x :: l) ++ [.inr (ci, fs)]) (CQ (σ ++ x :: l) blk)) (h8 : (((Value.ref (σ ++ x :: l).length) :: st).map fun v => v.category).sum ≤ 8) (hL : (LA [Value.ref (σ ++ x :: l).length]).length ≤ j'.2.2.1) (hdd : d' + 1 ≤ d) (hmx : j'.2.2.1 ≤ 16) (hmc : mc' + 1 ≤ mc) (hms : ms' + N ≤ ms) (kk : T G d (mc - (mc' + 1)) (ms - (ms' + N)) j (pc + 7) L (.ref (σ.length + (l.length + 1)) :: st) (σ ++ x :: (l ++ blk)) Q) : T G d mc ms j pc L st (σ ++ x :: l) Q := by
  obtain ⟨mc, rfl⟩ : ∃ m, mc = mc' + m + 1 := ⟨mc - (mc' + 1), by omega⟩
  obtain ⟨ms, rfl⟩ : ∃ m, ms = ms' + m + N := ⟨ms - (ms' + N), by omega⟩
  rw [show mc' + mc + 1 - (mc' + 1) = mc by omega, show ms' + ms + N - (ms' + N) = ms by omega] at kk
  refine T_new hd1 hcl hin hc hfm hfs (T_dup hd2 rfl ?_)
  refine T_callIN hd3 hk hr hl hM rfl rfl h8 hL hdd hmx (fun r σ' q => ?_)
  obtain ⟨rfl, rfl⟩ := q
  show T G d mc ms j (pc + 3 + 1 + 3) L (.ref (σ ++ x :: l).length :: st) ((σ ++ x :: l) ++ blk) Q
  rw [ap_len, List.append_assoc, List.cons_append]
  exact kk
end CONS
theorem le11 {p : Nat → Prop} (h : ∀ k : Fin 11, p k.val) : ∀ k, k < 11 → p k := fun k hk => h ⟨k, hk⟩
def f0 : List Value := [.null, .null, IV 0, IV 0]
theorem dfX0 : ∀ k, k < 4 → defaultValue (tyG 0 k) = vp_V [.null, .null, IV 0, IV 0] k := fun k hk => by rcases (show k = 0 ∨ k = 1 ∨ k = 2 ∨ k = 3 by omega) with rfl | rfl | rfl | rfl <;> rfl
theorem dfX1 : ∀ k, k < 3 → defaultValue (tyG 1 k) = vp_V [.null, .null, .null] k := fun k hk => by rcases (show k = 0 ∨ k = 1 ∨ k = 2 by omega) with rfl | rfl | rfl <;> rfl
theorem dfX2 : ∀ k, k < 2 → defaultValue (tyG 2 k) = vp_V [.null, .null] k := fun k hk => by rcases (show k = 0 ∨ k = 1 by omega) with rfl | rfl <;> rfl
theorem dfX3 : ∀ k, k < 8 → defaultValue (tyG 3 k) = vp_V [IV 0, IV 0, IV 0, IV 0, IV 0, IV 0, IV 0, IV 0] k := fun k hk => by rcases (show k = 0 ∨ k = 1 ∨ k = 2 ∨ k = 3 ∨ k = 4 ∨ k = 5 ∨ k = 6 ∨ k = 7 by omega) with rfl | rfl | rfl | rfl | rfl | rfl | rfl | rfl <;> rfl
theorem dfX4 : ∀ k, k < 3 → defaultValue (tyG 4 k) = vp_V [.null, IV 0, IV 0] k := fun k hk => by rcases (show k = 0 ∨ k = 1 ∨ k = 2 by omega) with rfl | rfl | rfl <;> rfl
theorem dfX5 : ∀ k, k < 11 → defaultValue (tyG 5 k) = vp_V [IV 0, IV 0, .null, .null, .null, .null, .null, .null, .null, .null, .null] k := fun k hk => by rcases (show k = 0 ∨ k = 1 ∨ k = 2 ∨ k = 3 ∨ k = 4 ∨ k = 5 ∨ k = 6 ∨ k = 7 ∨ k = 8 ∨ k = 9 ∨ k = 10 by omega) with rfl | rfl | rfl | rfl | rfl | rfl | rfl | rfl | rfl | rfl | rfl <;> rfl
theorem dfX6 : ∀ k, k < 8 → defaultValue (tyG 6 k) = vp_V [IV 0, IV 0, IV 0, .null, .null, .null, .null, .null] k := fun k hk => by rcases (show k = 0 ∨ k = 1 ∨ k = 2 ∨ k = 3 ∨ k = 4 ∨ k = 5 ∨ k = 6 ∨ k = 7 by omega) with rfl | rfl | rfl | rfl | rfl | rfl | rfl | rfl <;> rfl
theorem dfX7 : ∀ k, k < 4 → defaultValue (tyG 7 k) = vp_V [IV 0, IV 0, .null, .null] k := fun k hk => by rcases (show k = 0 ∨ k = 1 ∨ k = 2 ∨ k = 3 by omega) with rfl | rfl | rfl | rfl <;> rfl
theorem dfX8 : ∀ k, k < 2 → defaultValue (tyG 8 k) = vp_V [.null, IV 0] k := fun k hk => by rcases (show k = 0 ∨ k = 1 by omega) with rfl | rfl <;> rfl
theorem dfX9 : ∀ k, k < 11 → defaultValue (tyG 9 k) = vp_V [.null, IV 0, .null, IV 0, IV 0, IV 0, IV 0, IV 0, IV 0, IV 0, IV 0] k := fun k hk => by rcases (show k = 0 ∨ k = 1 ∨ k = 2 ∨ k = 3 ∨ k = 4 ∨ k = 5 ∨ k = 6 ∨ k = 7 ∨ k = 8 ∨ k = 9 ∨ k = 10 by omega) with rfl | rfl | rfl | rfl | rfl | rfl | rfl | rfl | rfl | rfl | rfl <;> rfl
theorem dfX10 : ∀ k, k < 7 → defaultValue (tyG 10 k) = vp_V [.null, .null, .null, .null, .null, .null, .null] k := fun k hk => by rcases (show k = 0 ∨ k = 1 ∨ k = 2 ∨ k = 3 ∨ k = 4 ∨ k = 5 ∨ k = 6 by omega) with rfl | rfl | rfl | rfl | rfl | rfl | rfl <;> rfl
theorem dfX11 : ∀ k, k < 22 → defaultValue (tyG 11 k) = vp_V [.null, .null, .null, .null, .null, .null, IV 0, IV 0, IV 0, IV 0, IV 0, IV 0, IV 0, IV 0, IV 0, .null, .null, .null, IV 0, .null, .null, .null] k := fun k hk => by
  rcases (show k = 0 ∨ k = 1 ∨ k = 2 ∨ k = 3 ∨ k = 4 ∨ k = 5 ∨ k = 6 ∨ k = 7 ∨ k = 8 ∨ k = 9 ∨ k = 10 ∨ k = 11 ∨ k = 12 ∨ k = 13 ∨ k = 14 ∨ k = 15 ∨ k = 16 ∨ k = 17 ∨ k = 18 ∨ k = 19 ∨ k = 20 ∨ k = 21 by omega) with rfl | rfl | rfl | rfl | rfl | rfl | rfl | rfl | rfl | rfl | rfl | rfl | rfl | rfl | rfl | rfl | rfl | rfl | rfl | rfl | rfl | rfl <;> rfl
section CONS2
variable {G : GT} {σ : List va_E}
def bBook (L : Nat) : List va_E := [.inr (0, [.ref (L + 1), .ref (L + 2), IV 0, IV 0]), z0E 0 9, z0E 0 300]
theorem c_Book : T G 1 2 309 mX0_init 0 (LE mX0_init [.ref σ.length]) [] (σ ++ [.inr (0, [.null, .null, IV 0, IV 0])]) (CQ σ (bBook σ.length)) := by
  rw [show LE mX0_init [.ref σ.length] = [some (.ref σ.length)] from rfl]
  refine T_aload_n dX0_init_0 rfl rfl ?_
  refine T_objInit dX0_init_1 lX0_3 (Nat.le_of_ble_eq_true rfl) ?_
  refine T_aload_n dX0_init_4 rfl rfl ?_
  refine I_bipush dX0_init_5 (by decide) ?_
  refine C_newi dX0_init_7 ⟨by decide, by decide⟩ (by decide) (by decide) ?_
  refine C_put dX0_init_9 fX0_9 rfl (fun _ _ _ h => by cases h; rfl) (by simp) rfl ?_
  refine T_aload_n dX0_init_12 rfl rfl ?_
  refine I_sipush dX0_init_13 (by decide) ?_
  refine C_newi dX0_init_16 ⟨by decide, by decide⟩ (by decide) (by decide) ?_
  refine C_put dX0_init_18 fX0_15 rfl (fun _ _ _ h => by cases h; rfl) (by simp) rfl ?_
  exact T_return dX0_init_21 rfl ⟨rfl, rfl⟩
def bBoxes (L : Nat) : List va_E := [.inr (1, [.ref (L + 1), .ref (L + 2), .ref (L + 3)]), z0E 0 32, z0E 0 32, z0E 0 256]
theorem c_Boxes : T G 1 3 320 mX1_init 0 (LE mX1_init [.ref σ.length]) [] (σ ++ [.inr (1, [.null, .null, .null])]) (CQ σ (bBoxes σ.length)) := by
  rw [show LE mX1_init [.ref σ.length] = [some (.ref σ.length)] from rfl]
  refine T_aload_n dX1_init_0 rfl rfl ?_
  refine T_objInit dX1_init_1 lX1_3 (Nat.le_of_ble_eq_true rfl) ?_
  refine T_aload_n dX1_init_4 rfl rfl ?_
  refine I_bipush dX1_init_5 (by decide) ?_
  refine C_newi dX1_init_7 ⟨by decide, by decide⟩ (by decide) (by decide) ?_
  refine C_put dX1_init_9 fX1_9 rfl (fun _ _ _ h => by cases h; rfl) (by simp) rfl ?_
  refine T_aload_n dX1_init_12 rfl rfl ?_
  refine I_bipush dX1_init_13 (by decide) ?_
  refine C_newi dX1_init_15 ⟨by decide, by decide⟩ (by decide) (by decide) ?_
  refine C_put dX1_init_17 fX1_15 rfl (fun _ _ _ h => by cases h; rfl) (by simp) rfl ?_
  refine T_aload_n dX1_init_20 rfl rfl ?_
  refine I_sipush dX1_init_21 (by decide) ?_
  refine C_newi dX1_init_24 ⟨by decide, by decide⟩ (by decide) (by decide) ?_
  refine C_put dX1_init_26 fX1_18 rfl (fun _ _ _ h => by cases h; rfl) (by simp) rfl ?_
  exact T_return dX1_init_29 rfl ⟨rfl, rfl⟩
def bStr (L : Nat) : List va_E := [.inr (8, [.ref (L + 1), IV 0]), z0E 0 40]
theorem c_Str : T G 1 1 40 mX8_init 0 (LE mX8_init [.ref σ.length]) [] (σ ++ [.inr (8, [.null, IV 0])]) (CQ σ (bStr σ.length)) := by
  rw [show LE mX8_init [.ref σ.length] = [some (.ref σ.length)] from rfl]
  refine T_aload_n dX8_init_0 rfl rfl ?_
  refine T_objInit dX8_init_1 lX8_3 (Nat.le_of_ble_eq_true rfl) ?_
  refine T_aload_n dX8_init_4 rfl rfl ?_
  refine I_bipush dX8_init_5 (by decide) ?_
  refine C_newi dX8_init_7 ⟨by decide, by decide⟩ (by decide) (by decide) ?_
  refine C_put dX8_init_9 fX8_11 rfl (fun _ _ _ h => by cases h; rfl) (by simp) rfl ?_
  exact T_return dX8_init_12 rfl ⟨rfl, rfl⟩
def itE : va_E := .inr (3, [IV 0, IV 0, IV 0, IV 0, IV 0, IV 0, IV 0, IV 0])
theorem c_Item : T G 1 0 0 mX3_init 0 (LE mX3_init [.ref σ.length]) [] (σ ++ [itE]) (CQ σ [itE]) := by
  rw [show LE mX3_init [.ref σ.length] = [some (.ref σ.length)] from rfl]
  refine T_aload_n dX3_init_0 rfl rfl ?_
  refine T_objInit dX3_init_1 lX3_1 (Nat.le_of_ble_eq_true rfl) ?_
  exact T_return dX3_init_4 rfl ⟨rfl, rfl⟩
def bPlan (L : Nat) : List va_E := [.inr (5, [IV 0, IV 0, .ref (L + 1), .ref (L + 2), .ref (L + 3), .ref (L + 4), .ref (L + 5), .ref (L + 6), .ref (L + 7), .ref (L + 8), .ref (L + 9)]), z0E 0 5, z0E 0 4, z0E 0 12, z0E 0 12, z0E 0 12, z0E 0 32, z0E 0 4, z0E 0 32, z0E 0 128]
theorem c_Plan : T G 1 9 241 mX5_init 0 (LE mX5_init [.ref σ.length]) [] (σ ++ [.inr (5, [IV 0, IV 0, .null, .null, .null, .null, .null, .null, .null, .null, .null])]) (CQ σ (bPlan σ.length)) := by
  rw [show LE mX5_init [.ref σ.length] = [some (.ref σ.length)] from rfl]
  refine T_aload_n dX5_init_0 rfl rfl ?_
  refine T_objInit dX5_init_1 lX5_3 (Nat.le_of_ble_eq_true rfl) ?_
  refine T_aload_n dX5_init_4 rfl rfl ?_
  refine I_iconst dX5_init_5 ?_
  refine C_newi dX5_init_6 ⟨by decide, by decide⟩ (by decide) (by decide) ?_
  refine C_put dX5_init_8 fX5_9 rfl (fun _ _ _ h => by cases h; rfl) (by simp) rfl ?_
  refine T_aload_n dX5_init_11 rfl rfl ?_
  refine I_iconst dX5_init_12 ?_
  refine C_newi dX5_init_13 ⟨by decide, by decide⟩ (by decide) (by decide) ?_
  refine C_put dX5_init_15 fX5_15 rfl (fun _ _ _ h => by cases h; rfl) (by simp) rfl ?_
  refine T_aload_n dX5_init_18 rfl rfl ?_
  refine I_bipush dX5_init_19 (by decide) ?_
  refine C_newi dX5_init_21 ⟨by decide, by decide⟩ (by decide) (by decide) ?_
  refine C_put dX5_init_23 fX5_18 rfl (fun _ _ _ h => by cases h; rfl) (by simp) rfl ?_
  refine T_aload_n dX5_init_26 rfl rfl ?_
  refine I_bipush dX5_init_27 (by decide) ?_
  refine C_newi dX5_init_29 ⟨by decide, by decide⟩ (by decide) (by decide) ?_
  refine C_put dX5_init_31 fX5_21 rfl (fun _ _ _ h => by cases h; rfl) (by simp) rfl ?_
  refine T_aload_n dX5_init_34 rfl rfl ?_
  refine I_bipush dX5_init_35 (by decide) ?_
  refine C_newi dX5_init_37 ⟨by decide, by decide⟩ (by decide) (by decide) ?_
  refine C_put dX5_init_39 fX5_24 rfl (fun _ _ _ h => by cases h; rfl) (by simp) rfl ?_
  refine T_aload_n dX5_init_42 rfl rfl ?_
  refine I_bipush dX5_init_43 (by decide) ?_
  refine C_newi dX5_init_45 ⟨by decide, by decide⟩ (by decide) (by decide) ?_
  refine C_put dX5_init_47 fX5_27 rfl (fun _ _ _ h => by cases h; rfl) (by simp) rfl ?_
  refine T_aload_n dX5_init_50 rfl rfl ?_
  refine I_iconst dX5_init_51 ?_
  refine C_newi dX5_init_52 ⟨by decide, by decide⟩ (by decide) (by decide) ?_
  refine C_put dX5_init_54 fX5_30 rfl (fun _ _ _ h => by cases h; rfl) (by simp) rfl ?_
  refine T_aload_n dX5_init_57 rfl rfl ?_
  refine I_bipush dX5_init_58 (by decide) ?_
  refine C_newi dX5_init_60 ⟨by decide, by decide⟩ (by decide) (by decide) ?_
  refine C_put dX5_init_62 fX5_33 rfl (fun _ _ _ h => by cases h; rfl) (by simp) rfl ?_
  refine T_aload_n dX5_init_65 rfl rfl ?_
  refine I_sipush dX5_init_66 (by decide) ?_
  refine C_newi dX5_init_69 ⟨by decide, by decide⟩ (by decide) (by decide) ?_
  refine C_put dX5_init_71 fX5_36 rfl (fun _ _ _ h => by cases h; rfl) (by simp) rfl ?_
  exact T_return dX5_init_74 rfl ⟨rfl, rfl⟩
def bTape (L : Nat) : List va_E := [.inr (9, [.ref (L + 1), IV 0, .ref (L + 2), IV 0, IV 0, IV 0, IV 0, IV 0, IV 0, IV 0, IV 0]), z0E 1 200] ++ bPlan (L + 2)
theorem c_Tape : T G 2 11 452 mX9_init 0 (LE mX9_init [.ref σ.length]) [] (σ ++ [.inr (9, [.null, IV 0, .null, IV 0, IV 0, IV 0, IV 0, IV 0, IV 0, IV 0, IV 0])]) (CQ σ (bTape σ.length)) := by
  have c := c_Plan (G := G) (σ := σ ++ .inr (9, [.ref (σ.length + 1), IV 0, .null, IV 0, IV 0, IV 0, IV 0, IV 0, IV 0, IV 0, IV 0]) :: [z0E 1 200])
  rw [show bPlan (σ ++ .inr (9, [.ref (σ.length + 1), IV 0, .null, IV 0, IV 0, IV 0, IV 0, IV 0, IV 0, IV 0, IV 0]) :: [z0E 1 200]).length = bPlan (σ.length + 2) by rw [ap_len]; rfl] at c
  rw [show LE mX9_init [.ref σ.length] = [some (.ref σ.length)] from rfl]
  refine T_aload_n dX9_init_0 rfl rfl ?_
  refine T_objInit dX9_init_1 lX9_3 (Nat.le_of_ble_eq_true rfl) ?_
  refine T_aload_n dX9_init_4 rfl rfl ?_
  refine I_sipush dX9_init_5 (by decide) ?_
  refine C_newb dX9_init_8 ⟨by decide, by decide⟩ (by decide) (by decide) ?_
  refine C_put dX9_init_10 fX9_9 rfl (fun _ _ _ h => by cases h; rfl) (by simp) rfl ?_
  refine T_aload_n dX9_init_13 rfl rfl ?_
  refine C_makeN dX9_init_14 clX9_15 inX5 rfl rfl dfX5 dX9_init_17 dX9_init_18 kX5_init rfl lX9_17 c (Nat.le_of_ble_eq_true rfl) (Nat.le_of_ble_eq_true rfl) (by decide) (by decide) (by decide) (by decide) ?_
  refine C_put dX9_init_21 fX9_18 rfl (fun _ _ _ h => by cases h; rfl) (by simp) rfl ?_
  exact T_return dX9_init_24 rfl ⟨rfl, rfl⟩
end CONS2
