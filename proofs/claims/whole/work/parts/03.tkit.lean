/-! the judgement T: a frame of one of our methods, over an abstract heap: a list of cells from the base on; references are places in it -/
abbrev GT : Type := va_G × (Nat → Nat) × Nat × (Nat → Nat) × (Nat × (Nat → Int32))
def gB (G : GT) : Nat := G.2.2.1
def gx (G : GT) : Nat → Nat := G.2.2.2.1
def tr (G : GT) : Value → Value
  | .ref k => .ref (gB G + k)
  | .retAddr i => .ref (gx G i)
  | v => v
theorem tr_cat (G : GT) (v : Value) : (tr G v).category = v.category := by cases v <;> rfl
theorem tr_cats (G : GT) (st : List Value) : ((st.map (tr G)).map fun v => v.category).sum = (st.map fun v => v.category).sum := by
  rw [List.map_map]
  congr 1
  apply List.map_congr_left
  intro v _
  exact tr_cat G v
def trE (G : GT) : va_E → va_E
  | .inl (t, n, .inl f) => .inl (G.2.1 t, n, .inl f)
  | .inl (t, n, .inr (.inr (.inr (.inr f)))) => .inl (G.2.1 t, n, .inr (.inr (.inr (.inr (fun j => (f j).map (gB G + ·))))))
  | .inl (t, n, x) => .inl (G.2.1 t, n, x)
  | .inr (ci, fs) => .inr (ci, fs.map (tr G))
def wsG (G : GT) (σ : List va_E) : va_W := σ.zipIdx.map (fun q => (gB G + q.2, trE G q.1))
theorem wsG_get (G : GT) (σ : List va_E) (k : Nat) : (wsG G σ)[k]? = (σ[k]?).map (fun e => (gB G + k, trE G e)) := by
  simp only [wsG, List.getElem?_map, List.getElem?_zipIdx, Option.map_map, Nat.zero_add]
  rfl
theorem wsG_at {G : GT} {σ : List va_E} {k : Nat} {e : va_E} (h : σ[k]? = some e) : (wsG G σ)[k]? = some (gB G + k, trE G e) := by
  rw [wsG_get, h]; rfl
theorem wsG_set {G : GT} {σ : List va_E} {k : Nat} {e0 e : va_E} (h : σ[k]? = some e0) : (wsG G σ).set k (gB G + k, trE G e) = wsG G (σ.set k e) := by
  have hk := (List.getElem?_eq_some_iff.mp h).1
  apply List.ext_getElem?
  intro i
  rw [wsG_get]
  by_cases hi : k = i
  · subst hi
    rw [List.getElem?_set_self (by have := wsG_at (G := G) h; exact (List.getElem?_eq_some_iff.mp this).1), List.getElem?_set_self hk]
    rfl
  · rw [List.getElem?_set_ne hi, List.getElem?_set_ne hi, wsG_get]
theorem wsG_push (G : GT) (σ : List va_E) (e : va_E) : wsG G σ ++ [(gB G + σ.length, trE G e)] = wsG G (σ ++ [e]) := by
  simp [wsG, List.zipIdx_append]
def AG (G : GT) : Nat → Prop := fun q => gB G ≤ q
theorem wsG_D (G : GT) (σ : List va_E) : va_D (AG G) (wsG G σ) := by
  refine ⟨fun i j p q hi hj h => ?_, fun k q hk => ?_⟩
  · rw [wsG_get] at hi hj
    cases h1 : σ[i]? with
    | none => rw [h1] at hi; cases hi
    | some a =>
      cases h2 : σ[j]? with
      | none => rw [h2] at hj; cases hj
      | some b =>
        rw [h1] at hi; rw [h2] at hj
        cases hi; cases hj
        exact Nat.add_left_cancel h
  · rw [wsG_get] at hk
    cases h1 : σ[k]? with
    | none => rw [h1] at hk; cases hk
    | some a =>
      rw [h1] at hk
      cases hk
      exact Nat.le_add_right _ _
def RelH (G : GT) (σ : List va_E) (H : Heap) : Prop := va_P G.1 vwCl (wsG G σ) H ∧ H.size = gB G + σ.length
def tysG (G : GT) : List (ClassId × FieldType) := [(G.2.1 0, .int), (G.2.1 1, .byte), (G.2.1 2, .boolean), (G.2.1 3, .object RX3), (G.2.1 4, .object RX6), (G.2.1 5, .object RX7), (G.2.1 6, .object RX8)]
def slen : List Nat := [5, 6, 3, 5, 4, 4]
def sbyt : List (List Int32) := [[104, 111, 117, 115, 101], [100, 111, 109, 97, 105, 110], [98, 111, 120], [97, 108, 105, 97, 115], [108, 105, 115, 116], [119, 97, 114, 121]]
def EnvS (G : GT) (s : State) : Prop := vk_R RX9 48 "house" (gx G 0) s ∧ vk_R RX9 57 "domain" (gx G 1) s ∧ vk_R RX9 62 "box" (gx G 2) s ∧ vk_R RX9 67 "alias" (gx G 3) s ∧ vk_R RX9 72 "list" (gx G 4) s ∧ vk_R RX9 84 "wary" (gx G 5) s
def EnvH (G : GT) (s : State) (H : Heap) : Prop := vk_S 6 slen sbyt (gx G) (fun i => gx G (10 + i)) (AG G) s H ∧ va_Z "java/lang/String" "COMPACT_STRINGS" "Z" (.int 1) (AG G) s H ∧ (va_Z "jdk/internal/util/Preconditions" "SIOOBE_FORMATTER" "Ljava/util/function/BiFunction;" .null (AG G) s H ∨ va_Z "jdk/internal/util/Preconditions" "SIOOBE_FORMATTER" "Ljava/util/function/BiFunction;" (.ref (gx G 50)) (AG G) s H)
def EnvOK (G : GT) (s : State) : Prop := va_K G.1 vwCl (tysG G) s ∧ (∀ w ∈ ntbl, va_Nw w s) ∧ (va_AO RX3 s ∧ va_AO RX6 s ∧ va_AO RX7 s ∧ va_AO RX8 s) ∧ gB G ≤ s.heap.size ∧ EnvS G s ∧ EnvH G s s.heap ∧ va_X (gx G 100) G.2.2.2.2.1 G.2.2.2.2.2 s s.heap ∧ gx G 100 < gB G
theorem EnvS.warm {G : GT} {s U : State} (hW : s.WarmedH U.vm) (h : EnvS G s) : EnvS G U := ⟨h.1.warm hW, h.2.1.warm hW, h.2.2.1.warm hW, h.2.2.2.1.warm hW, h.2.2.2.2.1.warm hW, h.2.2.2.2.2.warm hW⟩
theorem EnvH.moved {G : GT} {s U : State} {H H1 : Heap} (hvm : s.vm.Alike U.vm) (hq : ∀ a : Nat, a < H.size → ¬ AG G a → H1[a]? = H[a]?) (h : EnvH G s H) : EnvH G U H1 :=
  ⟨(h.1.moved hvm).kept hq, (h.2.1.moved hvm).kept hq, h.2.2.elim (fun z => Or.inl ((z.moved hvm).kept hq)) (fun z => Or.inr ((z.moved hvm).kept hq))⟩
theorem nest_warm {s U : State} (hW : s.WarmedH U.vm) (h : ∀ w ∈ ntbl, va_Nw w s) : ∀ w ∈ ntbl, va_Nw w U := by
  intro w hw
  have h1 := h w hw
  have h2 := (List.mem_filter.mp hw).2
  cases w with
  | methodLinkNest a i x hh => exact va_Nw.warmM hW h1
  | _ => simp [isNest] at h2
theorem EnvOK.moved {G : GT} {s U : State} {locs : List Loc} (hW : s.WarmedH U.vm) (hS : va_S (AG G) s.heap U.heap locs) (h : EnvOK G s) : EnvOK G U := by
  obtain ⟨h1, h2, ⟨h3, h4, h5, h6⟩, h7, h8, h9, h10, h11⟩ := h
  have hb : gx G 100 < s.heap.size := Nat.lt_of_lt_of_le h11 h7
  exact ⟨va_K.moved hW.alike h1, nest_warm hW h2, ⟨h3.moved hW.alike, h4.moved hW.alike, h5.moved hW.alike, h6.moved hW.alike⟩, Nat.le_trans h7 hS.1, h8.warm hW, h9.moved hW.alike hS.2.1, (h10.moved hW.alike).kept (hS.2.1 _ hb (fun z => Nat.not_le.mpr h11 z)), h11⟩
def hasL (G : GT) (ls : Array Slot) (n : Nat) (L : List (Option Value)) : Prop := ls.size = n ∧ lv_wf ls ∧ ∀ (i : Nat) (v : Value), L[i]? = some (some v) → ls[i]? = some (.val (tr G v))
def lvL (G : GT) (L : List (Option Value)) : List (Nat × Value) := L.zipIdx.filterMap (fun q => q.1.map (fun v => (q.2, tr G v)))
theorem lvL_mem {G : GT} {L : List (Option Value)} {i : Nat} {w : Value} : (i, w) ∈ lvL G L ↔ ∃ v, L[i]? = some (some v) ∧ w = tr G v := by
  simp only [lvL, List.mem_filterMap, Option.map_eq_some_iff]
  constructor
  · rintro ⟨⟨o, k⟩, hm, v, hv, he⟩
    have hk := List.mem_zipIdx_iff_getElem?.mp hm
    simp only at hv he hk
    cases he
    exact ⟨v, by rw [hk, hv], rfl⟩
  · rintro ⟨v, hv, rfl⟩
    exact ⟨(some v, i), List.mem_zipIdx_iff_getElem?.mpr hv, v, rfl, rfl⟩
theorem hasL.lv {G : GT} {ls : Array Slot} {n : Nat} {L : List (Option Value)} (h : hasL G ls n L) : lv_has ls n (lvL G L) := ⟨h.1, h.2.1, fun q hq => by
  obtain ⟨i, w⟩ := q
  obtain ⟨v, hv, rfl⟩ := lvL_mem.mp hq
  exact h.2.2 i v hv⟩
def noL2 (L : List (Option Value)) : Bool := L.all (fun o => match o with | some v => v.category == 1 | none => true)
theorem hasL.put {G : GT} {ls : Array Slot} {n i : Nat} {v : Value} {L : List (Option Value)} (h2 : noL2 L = true) (h : lv_has ls n ((i, tr G v) :: (lvL G L).filter (fun q => !(q.1 == i) && !(q.1 + 1 == i && q.2.category == 2)))) : hasL G ls n (L.set i (some v)) := by
  refine ⟨h.1, h.2.1, fun k u hk => ?_⟩
  by_cases hi : i = k
  · subst hi
    by_cases hl : i < L.length
    · rw [List.getElem?_set_self hl] at hk
      cases hk
      exact h.2.2 (i, tr G v) List.mem_cons_self
    · rw [List.set_eq_of_length_le (Nat.le_of_not_lt hl)] at hk
      exact absurd (List.getElem?_eq_some_iff.mp hk).1 hl
  · rw [List.getElem?_set_ne hi] at hk
    have hc : u.category = 1 := by
      have h3 := List.all_eq_true.mp h2 (some u) (List.mem_of_getElem? hk)
      simpa using h3
    refine h.2.2 (k, tr G u) (List.mem_cons_of_mem _ (List.mem_filter.mpr ⟨lvL_mem.mpr ⟨u, hk, rfl⟩, ?_⟩))
    simp only [tr_cat, hc]
    simp [Ne.symm hi]
def RetW (G : GT) (j : MD) (p : Program) (l : Launch) (e : Env) (R : Room) (s : State) (m : MethodId) (args : Array Value) (below : List Frame) (meth : Method) (c : Code) (H : Heap) (locs : List Loc) (cells slots : Nat) (Qs : State → Prop) : Option Value → Prop
  | none => ∀ (pc : Nat) (ls : Array Slot), decode j.2.1 pc = .ok (.return_, 1) → j.2.2.2 = none → W p l e R s m args below meth c H locs cells slots Qs (F0 m pc ls [])
  | some (.int x) => ∀ (pc : Nat) (ls : Array Slot) (ty : FieldType), decode j.2.1 pc = .ok (.ireturn, 1) → j.2.2.2 = some ty → narrow ty (.int x) = .int x → W p l e R s m args below meth c H locs cells slots Qs (F0 m pc ls [.int x])
  | some v => ∀ (pc : Nat) (ls : Array Slot) (nm : String), decode j.2.1 pc = .ok (.areturn, 1) → j.2.2.2 = some (.object nm) → (v = .null ∨ ∃ a, v = .ref a) → W p l e R s m args below meth c H locs cells slots Qs (F0 m pc ls [tr G v])
def Cx (G : GT) (d mc ms : Nat) (j : MD) (L : List (Option Value)) (σ : List va_E) (Q : Option Value → List va_E → Prop) (p : Program) (l : Launch) (e : Env) (R : Room) (s : State) (m : MethodId) (args : Array Value) (below : List Frame) (meth : Method) (c : Code) (H : Heap) (locs : List Loc) (cells slots : Nat) (Qs : State → Prop) (ls : Array Slot) : Prop :=
  (p.tables.exec = Jvm.exec ∧ c.code = j.2.1 ∧ c.maxLocals = j.2.2.1 ∧ s.vm.findClass j.1.cls = some m.cls ∧ (∀ w ∈ gtbl, w.before args s = true) ∧ EnvOK G s ∧ meth.name = j.1.name ∧ d ≤ R.frames ∧ 35 * d ≤ R.locals) ∧
  (cells + mc ≤ R.cells ∧ slots + ms ≤ R.slots) ∧ RelH G σ H ∧ va_S (AG G) s.heap H locs ∧ hasL G ls j.2.2.1 L ∧
  (∀ (r : Option Value) (σ' : List va_E) (H' : Heap) (locs' : List Loc) (cells' slots' : Nat), Q r σ' → RelH G σ' H' → va_S (AG G) s.heap H' locs' → cells' ≤ R.cells → slots' ≤ R.slots → RetW G j p l e R s m args below meth c H' locs' cells' slots' Qs r)
def T (G : GT) (d mc ms : Nat) (j : MD) (pc : Nat) (L : List (Option Value)) (st : List Value) (σ : List va_E) (Q : Option Value → List va_E → Prop) : Prop :=
  ∀ (p : Program) (l : Launch) (e : Env) (R : Room) (s : State) (m : MethodId) (args : Array Value) (below : List Frame) (meth : Method) (c : Code) (H : Heap) (locs : List Loc) (cells slots : Nat) (Qs : State → Prop) (ls : Array Slot),
    Cx G d mc ms j L σ Q p l e R s m args below meth c H locs cells slots Qs ls → W p l e R s m args below meth c H locs cells slots Qs (F0 m pc ls (st.map (tr G)))
section TK
variable {G : GT} {d mc ms : Nat} {j : MD} {pc : Nat} {L : List (Option Value)} {st : List Value} {σ : List va_E} {Q : Option Value → List va_E → Prop}
theorem T.weaken {Q' : Option Value → List va_E → Prop} (h : T G d mc ms j pc L st σ Q) (hq : ∀ r σ', Q r σ' → Q' r σ') : T G d mc ms j pc L st σ Q' :=
  fun p l e R s m args below meth c H locs cells slots Qs ls C => h p l e R s m args below meth c H locs cells slots Qs ls ⟨C.1, C.2.1, C.2.2.1, C.2.2.2.1, C.2.2.2.2.1, fun r σ' H' locs' cells' slots' q => C.2.2.2.2.2 r σ' H' locs' cells' slots' (hq r σ' q)⟩
theorem T.room {d' mc' ms' : Nat} (h : T G d' mc' ms' j pc L st σ Q) (h1 : d' ≤ d) (h2 : mc' ≤ mc) (h3 : ms' ≤ ms) : T G d mc ms j pc L st σ Q :=
  fun p l e R s m args below meth c H locs cells slots Qs ls C => h p l e R s m args below meth c H locs cells slots Qs ls ⟨⟨C.1.1, C.1.2.1, C.1.2.2.1, C.1.2.2.2.1, C.1.2.2.2.2.1, C.1.2.2.2.2.2.1, C.1.2.2.2.2.2.2.1, Nat.le_trans h1 C.1.2.2.2.2.2.2.2.1, Nat.le_trans (Nat.mul_le_mul_left 35 h1) C.1.2.2.2.2.2.2.2.2⟩, ⟨Nat.le_trans (Nat.add_le_add_left h2 _) C.2.1.1, Nat.le_trans (Nat.add_le_add_left h3 _) C.2.1.2⟩, C.2.2⟩
theorem T.locals {L' : List (Option Value)} (h : T G d mc ms j pc L' st σ Q) (hl : ∀ (i : Nat) (v : Value), L'[i]? = some (some v) → L[i]? = some (some v)) : T G d mc ms j pc L st σ Q :=
  fun p l e R s m args below meth c H locs cells slots Qs ls C => h p l e R s m args below meth c H locs cells slots Qs ls ⟨C.1, C.2.1, C.2.2.1, C.2.2.2.1, ⟨C.2.2.2.2.1.1, C.2.2.2.2.1.2.1, fun i v q => C.2.2.2.2.1.2.2 i v (hl i v q)⟩, C.2.2.2.2.2⟩
theorem T_iconst {n : Int} {v : Int32} (hd : decode j.2.1 pc = .ok (.iconst n, 1)) (hv : Int32.ofInt n = v) (k : T G d mc ms j (pc + 1) L (.int v :: st) σ Q) : T G d mc ms j pc L st σ Q := by
  intro p l e R s m args below meth c H locs cells slots Qs ls C
  exact lv_iconst C.1.1 C.1.2.1 hd hv (k _ _ _ _ _ _ _ _ _ _ _ _ _ _ _ _ C)
theorem T_bipush {n : Int} {v : Int32} (hd : decode j.2.1 pc = .ok (.bipush n, 2)) (hv : (Int8.ofInt n).toInt32 = v) (k : T G d mc ms j (pc + 2) L (.int v :: st) σ Q) : T G d mc ms j pc L st σ Q := by
  intro p l e R s m args below meth c H locs cells slots Qs ls C
  exact lv_bipush C.1.1 C.1.2.1 hd hv (k _ _ _ _ _ _ _ _ _ _ _ _ _ _ _ _ C)
theorem T_sipush {n : Int} {v : Int32} (hd : decode j.2.1 pc = .ok (.sipush n, 3)) (hv : (Int16.ofInt n).toInt32 = v) (k : T G d mc ms j (pc + 3) L (.int v :: st) σ Q) : T G d mc ms j pc L st σ Q := by
  intro p l e R s m args below meth c H locs cells slots Qs ls C
  exact lv_sipush C.1.1 C.1.2.1 hd hv (k _ _ _ _ _ _ _ _ _ _ _ _ _ _ _ _ C)
theorem T_lconst {n : Fin 2} {v : Int64} (hd : decode j.2.1 pc = .ok (.lconst n, 1)) (hv : Int64.ofNat (n : Nat) = v) (k : T G d mc ms j (pc + 1) L (.long v :: st) σ Q) : T G d mc ms j pc L st σ Q := by
  intro p l e R s m args below meth c H locs cells slots Qs ls C
  exact lv_lconst C.1.1 C.1.2.1 hd hv (k _ _ _ _ _ _ _ _ _ _ _ _ _ _ _ _ C)
theorem T_iadd {x y : Int32} (hd : decode j.2.1 pc = .ok (.iadd, 1)) (k : T G d mc ms j (pc + 1) L (.int (x + y) :: st) σ Q) : T G d mc ms j pc L (.int y :: .int x :: st) σ Q := by
  intro p l e R s m args below meth c H locs cells slots Qs ls C
  exact lv_iadd C.1.1 C.1.2.1 hd (k _ _ _ _ _ _ _ _ _ _ _ _ _ _ _ _ C)
theorem T_isub {x y : Int32} (hd : decode j.2.1 pc = .ok (.isub, 1)) (k : T G d mc ms j (pc + 1) L (.int (x - y) :: st) σ Q) : T G d mc ms j pc L (.int y :: .int x :: st) σ Q := by
  intro p l e R s m args below meth c H locs cells slots Qs ls C
  exact lv_isub C.1.1 C.1.2.1 hd (k _ _ _ _ _ _ _ _ _ _ _ _ _ _ _ _ C)
theorem T_imul {x y : Int32} (hd : decode j.2.1 pc = .ok (.imul, 1)) (k : T G d mc ms j (pc + 1) L (.int (x * y) :: st) σ Q) : T G d mc ms j pc L (.int y :: .int x :: st) σ Q := by
  intro p l e R s m args below meth c H locs cells slots Qs ls C
  exact lv_imul C.1.1 C.1.2.1 hd (k _ _ _ _ _ _ _ _ _ _ _ _ _ _ _ _ C)
theorem T_iand {x y : Int32} (hd : decode j.2.1 pc = .ok (.iand, 1)) (k : T G d mc ms j (pc + 1) L (.int (x &&& y) :: st) σ Q) : T G d mc ms j pc L (.int y :: .int x :: st) σ Q := by
  intro p l e R s m args below meth c H locs cells slots Qs ls C
  exact lv_iand C.1.1 C.1.2.1 hd (k _ _ _ _ _ _ _ _ _ _ _ _ _ _ _ _ C)
theorem T_ior {x y : Int32} (hd : decode j.2.1 pc = .ok (.ior, 1)) (k : T G d mc ms j (pc + 1) L (.int (x ||| y) :: st) σ Q) : T G d mc ms j pc L (.int y :: .int x :: st) σ Q := by
  intro p l e R s m args below meth c H locs cells slots Qs ls C
  exact lv_ior C.1.1 C.1.2.1 hd (k _ _ _ _ _ _ _ _ _ _ _ _ _ _ _ _ C)
theorem T_ishl {x y : Int32} (hd : decode j.2.1 pc = .ok (.ishl, 1)) (k : T G d mc ms j (pc + 1) L (.int (x <<< (y &&& 31)) :: st) σ Q) : T G d mc ms j pc L (.int y :: .int x :: st) σ Q := by
  intro p l e R s m args below meth c H locs cells slots Qs ls C
  exact lv_ishl C.1.1 C.1.2.1 hd (k _ _ _ _ _ _ _ _ _ _ _ _ _ _ _ _ C)
theorem T_ishr {x y : Int32} (hd : decode j.2.1 pc = .ok (.ishr, 1)) (k : T G d mc ms j (pc + 1) L (.int (x >>> (y &&& 31)) :: st) σ Q) : T G d mc ms j pc L (.int y :: .int x :: st) σ Q := by
  intro p l e R s m args below meth c H locs cells slots Qs ls C
  exact lv_ishr C.1.1 C.1.2.1 hd (k _ _ _ _ _ _ _ _ _ _ _ _ _ _ _ _ C)
theorem T_idiv {x y : Int32} (hd : decode j.2.1 pc = .ok (.idiv, 1)) (hne : ¬ y = 0) (k : T G d mc ms j (pc + 1) L (.int (x / y) :: st) σ Q) : T G d mc ms j pc L (.int y :: .int x :: st) σ Q := by
  intro p l e R s m args below meth c H locs cells slots Qs ls C
  exact lv_idiv C.1.1 C.1.2.1 hd hne (k _ _ _ _ _ _ _ _ _ _ _ _ _ _ _ _ C)
theorem T_irem {x y : Int32} (hd : decode j.2.1 pc = .ok (.irem, 1)) (hne : ¬ y = 0) (k : T G d mc ms j (pc + 1) L (.int (x - x / y * y) :: st) σ Q) : T G d mc ms j pc L (.int y :: .int x :: st) σ Q := by
  intro p l e R s m args below meth c H locs cells slots Qs ls C
  exact lv_irem C.1.1 C.1.2.1 hd hne (k _ _ _ _ _ _ _ _ _ _ _ _ _ _ _ _ C)
theorem T_iushr {x y v : Int32} (hd : decode j.2.1 pc = .ok (.iushr, 1)) (hv : (x.toUInt32 >>> (y.toUInt32 &&& Int32.toUInt32 31)).toInt32 = v) (k : T G d mc ms j (pc + 1) L (.int v :: st) σ Q) : T G d mc ms j pc L (.int y :: .int x :: st) σ Q := by
  intro p l e R s m args below meth c H locs cells slots Qs ls C
  exact lv_iushr C.1.1 C.1.2.1 hd hv (k _ _ _ _ _ _ _ _ _ _ _ _ _ _ _ _ C)
theorem T_i2l {x : Int32} (hd : decode j.2.1 pc = .ok (.i2l, 1)) (k : T G d mc ms j (pc + 1) L (.long x.toInt64 :: st) σ Q) : T G d mc ms j pc L (.int x :: st) σ Q := by
  intro p l e R s m args below meth c H locs cells slots Qs ls C
  exact lv_i2l C.1.1 C.1.2.1 hd rfl (k _ _ _ _ _ _ _ _ _ _ _ _ _ _ _ _ C)
theorem T_i2b {x : Int32} (hd : decode j.2.1 pc = .ok (.i2b, 1)) (k : T G d mc ms j (pc + 1) L (.int x.toInt8.toInt32 :: st) σ Q) : T G d mc ms j pc L (.int x :: st) σ Q := by
  intro p l e R s m args below meth c H locs cells slots Qs ls C
  exact lv_i2b C.1.1 C.1.2.1 hd rfl (k _ _ _ _ _ _ _ _ _ _ _ _ _ _ _ _ C)
theorem T_ladd {x y : Int64} (hd : decode j.2.1 pc = .ok (.ladd, 1)) (k : T G d mc ms j (pc + 1) L (.long (x + y) :: st) σ Q) : T G d mc ms j pc L (.long y :: .long x :: st) σ Q := by
  intro p l e R s m args below meth c H locs cells slots Qs ls C
  exact lv_ladd C.1.1 C.1.2.1 hd (k _ _ _ _ _ _ _ _ _ _ _ _ _ _ _ _ C)
theorem T_lcmp {x y : Int64} (hd : decode j.2.1 pc = .ok (.lcmp, 1)) (k : T G d mc ms j (pc + 1) L (.int (lg_cmp x y) :: st) σ Q) : T G d mc ms j pc L (.long y :: .long x :: st) σ Q := by
  intro p l e R s m args below meth c H locs cells slots Qs ls C
  exact W.lcmp C.1.1 C.1.2.1 hd (k _ _ _ _ _ _ _ _ _ _ _ _ _ _ _ _ C)
theorem T_dup {v : Value} (hd : decode j.2.1 pc = .ok (.dup, 1)) (hv : v.category = 1) (k : T G d mc ms j (pc + 1) L (v :: v :: st) σ Q) : T G d mc ms j pc L (v :: st) σ Q := by
  intro p l e R s m args below meth c H locs cells slots Qs ls C
  exact lv_dup C.1.1 C.1.2.1 hd ((tr_cat G v).trans hv) (k _ _ _ _ _ _ _ _ _ _ _ _ _ _ _ _ C)
theorem T_dup2 {v w : Value} (hd : decode j.2.1 pc = .ok (.dup2, 1)) (hv : v.category = 1) (hw : w.category = 1) (k : T G d mc ms j (pc + 1) L (v :: w :: v :: w :: st) σ Q) : T G d mc ms j pc L (v :: w :: st) σ Q := by
  intro p l e R s m args below meth c H locs cells slots Qs ls C
  exact lv_dup2_11 C.1.1 C.1.2.1 hd ((tr_cat G v).trans hv) ((tr_cat G w).trans hw) (k _ _ _ _ _ _ _ _ _ _ _ _ _ _ _ _ C)
theorem T_pop {v : Value} (hd : decode j.2.1 pc = .ok (.pop, 1)) (hv : v.category = 1) (k : T G d mc ms j (pc + 1) L st σ Q) : T G d mc ms j pc L (v :: st) σ Q := by
  intro p l e R s m args below meth c H locs cells slots Qs ls C
  exact lv_pop C.1.1 C.1.2.1 hd ((tr_cat G v).trans hv) (k _ _ _ _ _ _ _ _ _ _ _ _ _ _ _ _ C)
theorem T_ldc {idx : Nat} {v : Int32} (hd : decode j.2.1 pc = .ok (.ldc idx, 2)) (hw : Cond.constant j.1.cls idx v ∈ gtbl) (k : T G d mc ms j (pc + 2) L (.int v :: st) σ Q) : T G d mc ms j pc L st σ Q := by
  intro p l e R s m args below meth c H locs cells slots Qs ls C
  exact lv_ldc C.1.1 C.1.2.1 C.1.2.2.2.1 (C.1.2.2.2.2.1 _ hw) hd (k _ _ _ _ _ _ _ _ _ _ _ _ _ _ _ _ C)
theorem T_ldcw {idx : Nat} {v : Int32} (hd : decode j.2.1 pc = .ok (.ldc_w idx, 3)) (hw : Cond.constant j.1.cls idx v ∈ gtbl) (k : T G d mc ms j (pc + 3) L (.int v :: st) σ Q) : T G d mc ms j pc L st σ Q := by
  intro p l e R s m args below meth c H locs cells slots Qs ls C
  exact lv_ldcw C.1.1 C.1.2.1 C.1.2.2.2.1 (C.1.2.2.2.2.1 _ hw) hd (k _ _ _ _ _ _ _ _ _ _ _ _ _ _ _ _ C)
theorem T_ldc2 {idx : Nat} {v : Int64} (hd : decode j.2.1 pc = .ok (.ldc2_w idx, 3)) (hw : Cond.constantLong j.1.cls idx v ∈ gtbl) (k : T G d mc ms j (pc + 3) L (.long v :: st) σ Q) : T G d mc ms j pc L st σ Q := by
  intro p l e R s m args below meth c H locs cells slots Qs ls C
  exact lv_ldc2 C.1.1 C.1.2.1 C.1.2.2.2.1 (C.1.2.2.2.2.1 _ hw) hd (k _ _ _ _ _ _ _ _ _ _ _ _ _ _ _ _ C)
theorem T_iload_n {i : Fin 4} {x : Int32} (hd : decode j.2.1 pc = .ok (.iload_n i, 1)) (hl : L[(i : Nat)]? = some (some (.int x))) (k : T G d mc ms j (pc + 1) L (.int x :: st) σ Q) : T G d mc ms j pc L st σ Q := by
  intro p l e R s m args below meth c H locs cells slots Qs ls C
  exact lv_iload_n C.1.1 C.1.2.1 hd rfl (C.2.2.2.2.1.2.2 _ _ hl) (k _ _ _ _ _ _ _ _ _ _ _ _ _ _ _ _ C)
theorem T_iload {i : Nat} {x : Int32} (hd : decode j.2.1 pc = .ok (.iload i, 2)) (hl : L[i]? = some (some (.int x))) (k : T G d mc ms j (pc + 2) L (.int x :: st) σ Q) : T G d mc ms j pc L st σ Q := by
  intro p l e R s m args below meth c H locs cells slots Qs ls C
  exact lv_iload C.1.1 C.1.2.1 hd (C.2.2.2.2.1.2.2 _ _ hl) (k _ _ _ _ _ _ _ _ _ _ _ _ _ _ _ _ C)
theorem T_lload_n {i : Fin 4} {x : Int64} (hd : decode j.2.1 pc = .ok (.lload_n i, 1)) (hl : L[(i : Nat)]? = some (some (.long x))) (k : T G d mc ms j (pc + 1) L (.long x :: st) σ Q) : T G d mc ms j pc L st σ Q := by
  intro p l e R s m args below meth c H locs cells slots Qs ls C
  exact lv_lload_n C.1.1 C.1.2.1 hd rfl (C.2.2.2.2.1.2.2 _ _ hl) (k _ _ _ _ _ _ _ _ _ _ _ _ _ _ _ _ C)
theorem T_lload {i : Nat} {x : Int64} (hd : decode j.2.1 pc = .ok (.lload i, 2)) (hl : L[i]? = some (some (.long x))) (k : T G d mc ms j (pc + 2) L (.long x :: st) σ Q) : T G d mc ms j pc L st σ Q := by
  intro p l e R s m args below meth c H locs cells slots Qs ls C
  exact lv_lload C.1.1 C.1.2.1 hd (C.2.2.2.2.1.2.2 _ _ hl) (k _ _ _ _ _ _ _ _ _ _ _ _ _ _ _ _ C)
def isRV : Value → Bool
  | .ref _ => true
  | .retAddr _ => true
  | .null => true
  | _ => false
theorem T_aload_n {i : Fin 4} {v : Value} (hd : decode j.2.1 pc = .ok (.aload_n i, 1)) (hl : L[(i : Nat)]? = some (some v)) (hv : isRV v = true) (k : T G d mc ms j (pc + 1) L (v :: st) σ Q) : T G d mc ms j pc L st σ Q := by
  intro p l e R s m args below meth c H locs cells slots Qs ls C
  have hl' := C.2.2.2.2.1.2.2 _ _ hl
  have k' := k _ _ _ _ _ _ _ _ _ _ _ _ _ _ _ _ C
  cases v with
  | ref a => exact lv_aload_n C.1.1 C.1.2.1 hd rfl hl' k'
  | retAddr a => exact lv_aload_n C.1.1 C.1.2.1 hd rfl hl' k'
  | null => exact lv_aload_nN C.1.1 C.1.2.1 hd rfl hl' k'
  | _ => simp [isRV] at hv
theorem T_aload {i : Nat} {v : Value} (hd : decode j.2.1 pc = .ok (.aload i, 2)) (hl : L[i]? = some (some v)) (hv : isRV v = true) (k : T G d mc ms j (pc + 2) L (v :: st) σ Q) : T G d mc ms j pc L st σ Q := by
  intro p l e R s m args below meth c H locs cells slots Qs ls C
  have hl' := C.2.2.2.2.1.2.2 _ _ hl
  have k' := k _ _ _ _ _ _ _ _ _ _ _ _ _ _ _ _ C
  cases v with
  | ref a => exact lv_aload C.1.1 C.1.2.1 hd hl' k'
  | retAddr a => exact lv_aload C.1.1 C.1.2.1 hd hl' k'
  | null => exact lv_aloadN C.1.1 C.1.2.1 hd hl' k'
  | _ => simp [isRV] at hv
theorem T_istore_n {i : Fin 4} {x : Int32} (hd : decode j.2.1 pc = .ok (.istore_n i, 1)) (hi : (i : Nat) < j.2.2.1) (h2 : noL2 L = true) (k : T G d mc ms j (pc + 1) (L.set (i : Nat) (some (.int x))) st σ Q) : T G d mc ms j pc L (.int x :: st) σ Q := by
  intro p l e R s m args below meth c H locs cells slots Qs ls C
  refine lv_istore_n C.1.1 C.1.2.1 hd rfl C.2.2.2.2.1.lv hi rfl (fun ls' hl' => ?_)
  exact k _ _ _ _ _ _ _ _ _ _ _ _ _ _ _ _ ⟨C.1, C.2.1, C.2.2.1, C.2.2.2.1, hasL.put h2 hl', C.2.2.2.2.2⟩
theorem T_istore {i : Nat} {x : Int32} (hd : decode j.2.1 pc = .ok (.istore i, 2)) (hi : i < j.2.2.1) (h2 : noL2 L = true) (k : T G d mc ms j (pc + 2) (L.set i (some (.int x))) st σ Q) : T G d mc ms j pc L (.int x :: st) σ Q := by
  intro p l e R s m args below meth c H locs cells slots Qs ls C
  refine lv_istore C.1.1 C.1.2.1 hd C.2.2.2.2.1.lv hi rfl (fun ls' hl' => ?_)
  exact k _ _ _ _ _ _ _ _ _ _ _ _ _ _ _ _ ⟨C.1, C.2.1, C.2.2.1, C.2.2.2.1, hasL.put h2 hl', C.2.2.2.2.2⟩
theorem T_astore_n {i : Fin 4} {x : Nat} (hd : decode j.2.1 pc = .ok (.astore_n i, 1)) (hi : (i : Nat) < j.2.2.1) (h2 : noL2 L = true) (k : T G d mc ms j (pc + 1) (L.set (i : Nat) (some (.ref x))) st σ Q) : T G d mc ms j pc L (.ref x :: st) σ Q := by
  intro p l e R s m args below meth c H locs cells slots Qs ls C
  refine lv_astore_n C.1.1 C.1.2.1 hd rfl C.2.2.2.2.1.lv hi rfl (fun ls' hl' => ?_)
  exact k _ _ _ _ _ _ _ _ _ _ _ _ _ _ _ _ ⟨C.1, C.2.1, C.2.2.1, C.2.2.2.1, hasL.put h2 hl', C.2.2.2.2.2⟩
theorem T_astore {i : Nat} {x : Nat} (hd : decode j.2.1 pc = .ok (.astore i, 2)) (hi : i < j.2.2.1) (h2 : noL2 L = true) (k : T G d mc ms j (pc + 2) (L.set i (some (.ref x))) st σ Q) : T G d mc ms j pc L (.ref x :: st) σ Q := by
  intro p l e R s m args below meth c H locs cells slots Qs ls C
  refine lv_astore C.1.1 C.1.2.1 hd C.2.2.2.2.1.lv hi rfl (fun ls' hl' => ?_)
  exact k _ _ _ _ _ _ _ _ _ _ _ _ _ _ _ _ ⟨C.1, C.2.1, C.2.2.1, C.2.2.2.1, hasL.put h2 hl', C.2.2.2.2.2⟩
theorem T_astore_nN {i : Fin 4} (hd : decode j.2.1 pc = .ok (.astore_n i, 1)) (hi : (i : Nat) < j.2.2.1) (h2 : noL2 L = true) (k : T G d mc ms j (pc + 1) (L.set (i : Nat) (some (.null))) st σ Q) : T G d mc ms j pc L (.null :: st) σ Q := by
  intro p l e R s m args below meth c H locs cells slots Qs ls C
  refine lv_astore_nN C.1.1 C.1.2.1 hd rfl C.2.2.2.2.1.lv hi rfl (fun ls' hl' => ?_)
  exact k _ _ _ _ _ _ _ _ _ _ _ _ _ _ _ _ ⟨C.1, C.2.1, C.2.2.1, C.2.2.2.1, hasL.put h2 hl', C.2.2.2.2.2⟩
theorem T_astoreN {i : Nat} (hd : decode j.2.1 pc = .ok (.astore i, 2)) (hi : i < j.2.2.1) (h2 : noL2 L = true) (k : T G d mc ms j (pc + 2) (L.set i (some (.null))) st σ Q) : T G d mc ms j pc L (.null :: st) σ Q := by
  intro p l e R s m args below meth c H locs cells slots Qs ls C
  refine lv_astoreN C.1.1 C.1.2.1 hd C.2.2.2.2.1.lv hi rfl (fun ls' hl' => ?_)
  exact k _ _ _ _ _ _ _ _ _ _ _ _ _ _ _ _ ⟨C.1, C.2.1, C.2.2.1, C.2.2.2.1, hasL.put h2 hl', C.2.2.2.2.2⟩
theorem T_iinc {i : Nat} {n : Int} {x v : Int32} (hd : decode j.2.1 pc = .ok (.iinc i n, 3)) (hl : L[i]? = some (some (.int x))) (hv : x + Int32.ofInt n = v) (hi : i < j.2.2.1) (h2 : noL2 L = true) (k : T G d mc ms j (pc + 3) (L.set i (some (.int v))) st σ Q) : T G d mc ms j pc L st σ Q := by
  intro p l e R s m args below meth c H locs cells slots Qs ls C
  obtain ⟨q, hq⟩ := List.getElem?_of_mem (lvL_mem (G := G).mpr ⟨_, hl, rfl⟩)
  refine lv_iinc C.1.1 C.1.2.1 hd C.2.2.2.2.1.lv hq hv hi rfl (fun ls' hl' => ?_)
  exact k _ _ _ _ _ _ _ _ _ _ _ _ _ _ _ _ ⟨C.1, C.2.1, C.2.2.1, C.2.2.2.1, hasL.put (v := .int v) h2 hl', C.2.2.2.2.2⟩
theorem T_if_eq {x : Int32} {off : Int} {tgt : Nat} (hd : decode j.2.1 pc = .ok (.ifCond .eq off, 3)) (ht : (pc : Int) + off = (tgt : Int)) (kt : (x = 0) → T G d mc ms j tgt L st σ Q) (kf : (¬ x = 0) → T G d mc ms j (pc + 3) L st σ Q) : T G d mc ms j pc L (.int x :: st) σ Q := by
  intro p l e R s m args below meth c H locs cells slots Qs ls C
  exact lv_if_eq C.1.1 C.1.2.1 hd ht (fun q => kt q _ _ _ _ _ _ _ _ _ _ _ _ _ _ _ _ C) (fun q => kf q _ _ _ _ _ _ _ _ _ _ _ _ _ _ _ _ C)
theorem T_icmp_eq {x y : Int32} {off : Int} {tgt : Nat} (hd : decode j.2.1 pc = .ok (.if_icmp .eq off, 3)) (ht : (pc : Int) + off = (tgt : Int)) (kt : (x = y) → T G d mc ms j tgt L st σ Q) (kf : (¬ x = y) → T G d mc ms j (pc + 3) L st σ Q) : T G d mc ms j pc L (.int y :: .int x :: st) σ Q := by
  intro p l e R s m args below meth c H locs cells slots Qs ls C
  exact lv_icmp_eq C.1.1 C.1.2.1 hd ht (fun q => kt q _ _ _ _ _ _ _ _ _ _ _ _ _ _ _ _ C) (fun q => kf q _ _ _ _ _ _ _ _ _ _ _ _ _ _ _ _ C)
theorem T_if_ne {x : Int32} {off : Int} {tgt : Nat} (hd : decode j.2.1 pc = .ok (.ifCond .ne off, 3)) (ht : (pc : Int) + off = (tgt : Int)) (kt : (x ≠ 0) → T G d mc ms j tgt L st σ Q) (kf : (x = 0) → T G d mc ms j (pc + 3) L st σ Q) : T G d mc ms j pc L (.int x :: st) σ Q := by
  intro p l e R s m args below meth c H locs cells slots Qs ls C
  exact lv_if_ne C.1.1 C.1.2.1 hd ht (fun q => kt q _ _ _ _ _ _ _ _ _ _ _ _ _ _ _ _ C) (fun q => kf q _ _ _ _ _ _ _ _ _ _ _ _ _ _ _ _ C)
theorem T_icmp_ne {x y : Int32} {off : Int} {tgt : Nat} (hd : decode j.2.1 pc = .ok (.if_icmp .ne off, 3)) (ht : (pc : Int) + off = (tgt : Int)) (kt : (x ≠ y) → T G d mc ms j tgt L st σ Q) (kf : (x = y) → T G d mc ms j (pc + 3) L st σ Q) : T G d mc ms j pc L (.int y :: .int x :: st) σ Q := by
  intro p l e R s m args below meth c H locs cells slots Qs ls C
  exact lv_icmp_ne C.1.1 C.1.2.1 hd ht (fun q => kt q _ _ _ _ _ _ _ _ _ _ _ _ _ _ _ _ C) (fun q => kf q _ _ _ _ _ _ _ _ _ _ _ _ _ _ _ _ C)
theorem T_if_lt {x : Int32} {off : Int} {tgt : Nat} (hd : decode j.2.1 pc = .ok (.ifCond .lt off, 3)) (ht : (pc : Int) + off = (tgt : Int)) (kt : (x < 0) → T G d mc ms j tgt L st σ Q) (kf : (¬ x < 0) → T G d mc ms j (pc + 3) L st σ Q) : T G d mc ms j pc L (.int x :: st) σ Q := by
  intro p l e R s m args below meth c H locs cells slots Qs ls C
  exact lv_if_lt C.1.1 C.1.2.1 hd ht (fun q => kt q _ _ _ _ _ _ _ _ _ _ _ _ _ _ _ _ C) (fun q => kf q _ _ _ _ _ _ _ _ _ _ _ _ _ _ _ _ C)
theorem T_icmp_lt {x y : Int32} {off : Int} {tgt : Nat} (hd : decode j.2.1 pc = .ok (.if_icmp .lt off, 3)) (ht : (pc : Int) + off = (tgt : Int)) (kt : (x < y) → T G d mc ms j tgt L st σ Q) (kf : (¬ x < y) → T G d mc ms j (pc + 3) L st σ Q) : T G d mc ms j pc L (.int y :: .int x :: st) σ Q := by
  intro p l e R s m args below meth c H locs cells slots Qs ls C
  exact lv_icmp_lt C.1.1 C.1.2.1 hd ht (fun q => kt q _ _ _ _ _ _ _ _ _ _ _ _ _ _ _ _ C) (fun q => kf q _ _ _ _ _ _ _ _ _ _ _ _ _ _ _ _ C)
theorem T_if_ge {x : Int32} {off : Int} {tgt : Nat} (hd : decode j.2.1 pc = .ok (.ifCond .ge off, 3)) (ht : (pc : Int) + off = (tgt : Int)) (kt : (x ≥ 0) → T G d mc ms j tgt L st σ Q) (kf : (¬ x ≥ 0) → T G d mc ms j (pc + 3) L st σ Q) : T G d mc ms j pc L (.int x :: st) σ Q := by
  intro p l e R s m args below meth c H locs cells slots Qs ls C
  exact lv_if_ge C.1.1 C.1.2.1 hd ht (fun q => kt q _ _ _ _ _ _ _ _ _ _ _ _ _ _ _ _ C) (fun q => kf q _ _ _ _ _ _ _ _ _ _ _ _ _ _ _ _ C)
theorem T_icmp_ge {x y : Int32} {off : Int} {tgt : Nat} (hd : decode j.2.1 pc = .ok (.if_icmp .ge off, 3)) (ht : (pc : Int) + off = (tgt : Int)) (kt : (x ≥ y) → T G d mc ms j tgt L st σ Q) (kf : (¬ x ≥ y) → T G d mc ms j (pc + 3) L st σ Q) : T G d mc ms j pc L (.int y :: .int x :: st) σ Q := by
  intro p l e R s m args below meth c H locs cells slots Qs ls C
  exact lv_icmp_ge C.1.1 C.1.2.1 hd ht (fun q => kt q _ _ _ _ _ _ _ _ _ _ _ _ _ _ _ _ C) (fun q => kf q _ _ _ _ _ _ _ _ _ _ _ _ _ _ _ _ C)
theorem T_if_gt {x : Int32} {off : Int} {tgt : Nat} (hd : decode j.2.1 pc = .ok (.ifCond .gt off, 3)) (ht : (pc : Int) + off = (tgt : Int)) (kt : (x > 0) → T G d mc ms j tgt L st σ Q) (kf : (¬ x > 0) → T G d mc ms j (pc + 3) L st σ Q) : T G d mc ms j pc L (.int x :: st) σ Q := by
  intro p l e R s m args below meth c H locs cells slots Qs ls C
  exact lv_if_gt C.1.1 C.1.2.1 hd ht (fun q => kt q _ _ _ _ _ _ _ _ _ _ _ _ _ _ _ _ C) (fun q => kf q _ _ _ _ _ _ _ _ _ _ _ _ _ _ _ _ C)
theorem T_icmp_gt {x y : Int32} {off : Int} {tgt : Nat} (hd : decode j.2.1 pc = .ok (.if_icmp .gt off, 3)) (ht : (pc : Int) + off = (tgt : Int)) (kt : (x > y) → T G d mc ms j tgt L st σ Q) (kf : (¬ x > y) → T G d mc ms j (pc + 3) L st σ Q) : T G d mc ms j pc L (.int y :: .int x :: st) σ Q := by
  intro p l e R s m args below meth c H locs cells slots Qs ls C
  exact lv_icmp_gt C.1.1 C.1.2.1 hd ht (fun q => kt q _ _ _ _ _ _ _ _ _ _ _ _ _ _ _ _ C) (fun q => kf q _ _ _ _ _ _ _ _ _ _ _ _ _ _ _ _ C)
theorem T_if_le {x : Int32} {off : Int} {tgt : Nat} (hd : decode j.2.1 pc = .ok (.ifCond .le off, 3)) (ht : (pc : Int) + off = (tgt : Int)) (kt : (x ≤ 0) → T G d mc ms j tgt L st σ Q) (kf : (¬ x ≤ 0) → T G d mc ms j (pc + 3) L st σ Q) : T G d mc ms j pc L (.int x :: st) σ Q := by
  intro p l e R s m args below meth c H locs cells slots Qs ls C
  exact lv_if_le C.1.1 C.1.2.1 hd ht (fun q => kt q _ _ _ _ _ _ _ _ _ _ _ _ _ _ _ _ C) (fun q => kf q _ _ _ _ _ _ _ _ _ _ _ _ _ _ _ _ C)
theorem T_icmp_le {x y : Int32} {off : Int} {tgt : Nat} (hd : decode j.2.1 pc = .ok (.if_icmp .le off, 3)) (ht : (pc : Int) + off = (tgt : Int)) (kt : (x ≤ y) → T G d mc ms j tgt L st σ Q) (kf : (¬ x ≤ y) → T G d mc ms j (pc + 3) L st σ Q) : T G d mc ms j pc L (.int y :: .int x :: st) σ Q := by
  intro p l e R s m args below meth c H locs cells slots Qs ls C
  exact lv_icmp_le C.1.1 C.1.2.1 hd ht (fun q => kt q _ _ _ _ _ _ _ _ _ _ _ _ _ _ _ _ C) (fun q => kf q _ _ _ _ _ _ _ _ _ _ _ _ _ _ _ _ C)
theorem T_goto {off : Int} {tgt : Nat} (hd : decode j.2.1 pc = .ok (.goto off, 3)) (ht : (pc : Int) + off = (tgt : Int)) (k : T G d mc ms j tgt L st σ Q) : T G d mc ms j pc L st σ Q := by
  intro p l e R s m args below meth c H locs cells slots Qs ls C
  exact lv_goto C.1.1 C.1.2.1 hd ht (k _ _ _ _ _ _ _ _ _ _ _ _ _ _ _ _ C)
theorem T_ifnull {a : Nat} {off : Int} (hd : decode j.2.1 pc = .ok (.ifnull off, 3)) (k : T G d mc ms j (pc + 3) L st σ Q) : T G d mc ms j pc L (.ref a :: st) σ Q := by
  intro p l e R s m args below meth c H locs cells slots Qs ls C
  exact lv_ifnull C.1.1 C.1.2.1 hd (k _ _ _ _ _ _ _ _ _ _ _ _ _ _ _ _ C)
theorem T_ifnonnull {a : Nat} {off : Int} {tgt : Nat} (hd : decode j.2.1 pc = .ok (.ifnonnull off, 3)) (ht : (pc : Int) + off = (tgt : Int)) (k : T G d mc ms j tgt L st σ Q) : T G d mc ms j pc L (.ref a :: st) σ Q := by
  intro p l e R s m args below meth c H locs cells slots Qs ls C
  exact lv_ifnonnull C.1.1 C.1.2.1 hd ht (k _ _ _ _ _ _ _ _ _ _ _ _ _ _ _ _ C)
theorem T_ifnullN {off : Int} {tgt : Nat} (hd : decode j.2.1 pc = .ok (.ifnull off, 3)) (ht : (pc : Int) + off = (tgt : Int)) (k : T G d mc ms j tgt L st σ Q) : T G d mc ms j pc L (.null :: st) σ Q := by
  intro p l e R s m args below meth c H locs cells slots Qs ls C
  exact lv_ifnullN C.1.1 C.1.2.1 hd ht (k _ _ _ _ _ _ _ _ _ _ _ _ _ _ _ _ C)
theorem T_ifnonnullN {off : Int} (hd : decode j.2.1 pc = .ok (.ifnonnull off, 3)) (k : T G d mc ms j (pc + 3) L st σ Q) : T G d mc ms j pc L (.null :: st) σ Q := by
  intro p l e R s m args below meth c H locs cells slots Qs ls C
  exact lv_ifnonnullN C.1.1 C.1.2.1 hd (k _ _ _ _ _ _ _ _ _ _ _ _ _ _ _ _ C)
theorem T_null (hd : decode j.2.1 pc = .ok (.aconst_null, 1)) (k : T G d mc ms j (pc + 1) L (.null :: st) σ Q) : T G d mc ms j pc L st σ Q := by
  intro p l e R s m args below meth c H locs cells slots Qs ls C
  exact lv_null C.1.1 C.1.2.1 hd (k _ _ _ _ _ _ _ _ _ _ _ _ _ _ _ _ C)
theorem T_tblOut {dflt lo hi : Int} {offs : Array Int} {len : Nat} {x : Int32} {tgt : Nat} (hd : decode j.2.1 pc = .ok (.tableswitch dflt lo hi offs, len)) (h : x.toInt < lo ∨ hi < x.toInt) (ht : (pc : Int) + dflt = (tgt : Int)) (k : T G d mc ms j tgt L st σ Q) : T G d mc ms j pc L (.int x :: st) σ Q := by
  intro p l e R s m args below meth c H locs cells slots Qs ls C
  exact lv_tableOut C.1.1 C.1.2.1 hd h ht (k _ _ _ _ _ _ _ _ _ _ _ _ _ _ _ _ C)
theorem T_tblIn {dflt lo hi : Int} {offs : Array Int} {len : Nat} {x : Int32} {off : Int} {tgt : Nat} (hd : decode j.2.1 pc = .ok (.tableswitch dflt lo hi offs, len)) (h1 : ¬ x.toInt < lo) (h2 : ¬ hi < x.toInt) (ho : offs[(x.toInt - lo).toNat]? = some off) (ht : (pc : Int) + off = (tgt : Int)) (k : T G d mc ms j tgt L st σ Q) : T G d mc ms j pc L (.int x :: st) σ Q := by
  intro p l e R s m args below meth c H locs cells slots Qs ls C
  exact lv_tableIn C.1.1 C.1.2.1 hd h1 h2 ho ht (k _ _ _ _ _ _ _ _ _ _ _ _ _ _ _ _ C)
theorem T_return (hd : decode j.2.1 pc = .ok (.return_, 1)) (hr : j.2.2.2 = none) (q : Q none σ) : T G d mc ms j pc L [] σ Q := by
  intro p l e R s m args below meth c H locs cells slots Qs ls C
  exact C.2.2.2.2.2 _ _ _ _ _ _ q C.2.2.1 C.2.2.2.1 (Nat.le_trans (Nat.le_add_right _ _) C.2.1.1) (Nat.le_trans (Nat.le_add_right _ _) C.2.1.2) pc ls hd hr
theorem T_ireturn {x : Int32} {ty : FieldType} (hd : decode j.2.1 pc = .ok (.ireturn, 1)) (hr : j.2.2.2 = some ty) (hn : narrow ty (.int x) = .int x) (q : Q (some (.int x)) σ) : T G d mc ms j pc L [.int x] σ Q := by
  intro p l e R s m args below meth c H locs cells slots Qs ls C
  exact C.2.2.2.2.2 _ _ _ _ _ _ q C.2.2.1 C.2.2.2.1 (Nat.le_trans (Nat.le_add_right _ _) C.2.1.1) (Nat.le_trans (Nat.le_add_right _ _) C.2.1.2) pc ls ty hd hr hn
theorem T_areturn {a : Nat} {nm : String} (hd : decode j.2.1 pc = .ok (.areturn, 1)) (hr : j.2.2.2 = some (.object nm)) (q : Q (some (.ref a)) σ) : T G d mc ms j pc L [.ref a] σ Q := by
  intro p l e R s m args below meth c H locs cells slots Qs ls C
  exact C.2.2.2.2.2 _ _ _ _ _ _ q C.2.2.1 C.2.2.2.1 (Nat.le_trans (Nat.le_add_right _ _) C.2.1.1) (Nat.le_trans (Nat.le_add_right _ _) C.2.1.2) pc ls nm hd hr (Or.inr ⟨a, rfl⟩)
theorem T_areturnN {nm : String} (hd : decode j.2.1 pc = .ok (.areturn, 1)) (hr : j.2.2.2 = some (.object nm)) (q : Q (some .null) σ) : T G d mc ms j pc L [.null] σ Q := by
  intro p l e R s m args below meth c H locs cells slots Qs ls C
  exact C.2.2.2.2.2 _ _ _ _ _ _ q C.2.2.1 C.2.2.2.1 (Nat.le_trans (Nat.le_add_right _ _) C.2.1.1) (Nat.le_trans (Nat.le_add_right _ _) C.2.1.2) pc ls nm hd hr (Or.inl rfl)
end TK
