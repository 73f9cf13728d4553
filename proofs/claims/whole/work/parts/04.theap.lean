/-! heap rows of the judgement T -/
def tyG (ci : Nat) : Nat → FieldType := match ci with
  | 0 => tyX0
  | 1 => tyX1
  | 2 => tyX2
  | 3 => tyX3
  | 4 => tyX4
  | 5 => tyX5
  | 6 => tyX6
  | 7 => tyX7
  | 8 => tyX8
  | 9 => tyX9
  | 10 => tyX10
  | _ => tyX11
theorem clsOk {ci : Nat} {C : String} {F : u_T} {N : Nat} (h : vwCl[ci]? = some (C, F, N)) : (∀ w ∈ u_ws C F N, w ∈ gtbl) ∧ (∀ k, k < N → parseFieldDescriptor (F k).2.2.1 = some (tyG ci k)) ∧ (∀ a, a < N → ∀ b, b < N → a ≠ b → (F a).2.1 ≠ (F b).2.1) := by
  match ci, h with
  | 0, h => cases h; exact ⟨fw0, tyX0_ok, nmX0⟩
  | 1, h => cases h; exact ⟨fw1, tyX1_ok, nmX1⟩
  | 2, h => cases h; exact ⟨fw2, tyX2_ok, nmX2⟩
  | 3, h => cases h; exact ⟨fw3, tyX3_ok, nmX3⟩
  | 4, h => cases h; exact ⟨fw4, tyX4_ok, nmX4⟩
  | 5, h => cases h; exact ⟨fw5, tyX5_ok, nmX5⟩
  | 6, h => cases h; exact ⟨fw6, tyX6_ok, nmX6⟩
  | 7, h => cases h; exact ⟨fw7, tyX7_ok, nmX7⟩
  | 8, h => cases h; exact ⟨fw8, tyX8_ok, nmX8⟩
  | 9, h => cases h; exact ⟨fw9, tyX9_ok, nmX9⟩
  | 10, h => cases h; exact ⟨fw10, tyX10_ok, nmX10⟩
  | 11, h => cases h; exact ⟨fw11, tyX11_ok, nmX11⟩
  | n + 12, h => simp [vwCl] at h
def putOk (ty : FieldType) (v : Value) : Bool := match ty, v with
  | .int, .int _ => true
  | .object _, .ref _ => true
  | .array _, .ref _ => true
  | _, _ => false
theorem putOk.spec {G : GT} {ty : FieldType} {v : Value} (h : putOk ty v = true) : narrow ty (tr G v) = tr G v ∧ fits ty (tr G v) = true := by
  unfold putOk at h
  split at h
  · exact ⟨rfl, rfl⟩
  · exact ⟨rfl, rfl⟩
  · exact ⟨rfl, rfl⟩
  · cases h
theorem rel_set {G : GT} {σ : List va_E} {a : Nat} {e0 e : va_E} {H H1 : Heap} (hR : RelH G σ H) (h : σ[a]? = some e0) (he : va_at G.1 vwCl (gB G + a, trE G e) H1) (oq : ∀ q : Nat, q ≠ gB G + a → H1[q]? = H[q]?) (z : H1.size = H.size) : RelH G (σ.set a e) H1 :=
  ⟨by rw [← wsG_set h]; exact hR.1.set (wsG_D G σ) (wsG_at h) he oq, by rw [z, hR.2, List.length_set]⟩
theorem rel_push {G : GT} {σ : List va_E} {e : va_E} {H H1 : Heap} (hR : RelH G σ H) (he : va_at G.1 vwCl (gB G + σ.length, trE G e) H1) (z : H1.size = H.size + 1) (o1 : ∀ q : Nat, q < H.size → H1[q]? = H[q]?) : RelH G (σ ++ [e]) H1 := by
  refine ⟨?_, by rw [z, hR.2, List.length_append]; rfl⟩
  rw [← wsG_push]
  refine (hR.1.kept (fun k q hk => o1 q.1 ((hR.1 k q hk).lt))).app (fun k q hk => ?_)
  have hz : k < 1 := (List.getElem?_eq_some_iff.mp hk).1
  rw [show k = 0 by omega] at hk
  cases hk
  exact he
theorem S_push {G : GT} {H0 H H1 : Heap} {locs : List Loc} (hS : va_S (AG G) H0 H locs) (z : H1.size = H.size + 1) (o1 : ∀ q : Nat, q < H.size → H1[q]? = H[q]?) : va_S (AG G) H0 H1 locs :=
  ⟨Nat.le_trans hS.1 (by omega), fun x h1 h2 => (o1 x (Nat.lt_of_lt_of_le h1 hS.1)).trans (hS.2.1 x h1 h2), hS.2.2⟩
section TH
variable {G : GT} {d mc ms : Nat} {j : MD} {pc : Nat} {L : List (Option Value)} {st : List Value} {σ : List va_E} {Q : Option Value → List va_E → Prop}
theorem T_get {idx ci k a : Nat} {fin : Bool} {fs : List Value} {v : Value} (hd : decode j.2.1 pc = .ok (.getfield idx, 3)) (hf : FLok j.1.cls idx ci k fin) (hσ : σ[a]? = some (.inr (ci, fs))) (hv : fs[k]? = some v) (kk : T G d mc ms j (pc + 3) L (v :: st) σ Q) : T G d mc ms j pc L (.ref a :: st) σ Q := by
  intro p l e R s m args below meth c H locs cells slots Qs ls C
  obtain ⟨Cn, F, N, hc, hk, h1, h2, hw⟩ := hf
  exact va_get (D := G.1) (tys := tysG G) C.1.1 C.1.2.1 C.1.2.2.2.2.1 (clsOk hc).1 C.1.2.2.2.1 C.1.2.2.2.2.2.1.1 C.2.2.1.1 a (wsG_at hσ) hc k hk (C.1.2.2.2.2.1 _ hw) (fun x h => h) (v := tr G v) (by rw [List.getElem?_map, hv]; rfl) hd (kk _ _ _ _ _ _ _ _ _ _ _ _ _ _ _ _ C)
theorem T_put {idx ci k a : Nat} {fs : List Value} {v : Value} (hd : decode j.2.1 pc = .ok (.putfield idx, 3)) (hf : FLok j.1.cls idx ci k false) (hσ : σ[a]? = some (.inr (ci, fs))) (hl : k < fs.length) (hp : putOk (tyG ci k) v = true) (kk : T G d mc ms j (pc + 3) L st (σ.set a (.inr (ci, fs.set k v))) Q) : T G d mc ms j pc L (v :: .ref a :: st) σ Q := by
  intro p l e R s m args below meth c H locs cells slots Qs ls C
  obtain ⟨Cn, F, N, hc, hk, h1, h2, hw⟩ := hf
  have hcl := clsOk hc
  have hK := C.1.2.2.2.2.2.1.1
  have hts := C.1.2.2.2.2.1
  have hap := va_apart (own := j.1.cls) hts hcl.1 (tyG ci) hcl.2.1 hcl.2.2 hK hc
  obtain ⟨r, h3, cell, q1, q2, q3, q4⟩ := C.2.2.1.1 a _ (wsG_at hσ)
  have hr : r = (Cn, F, N) := Option.some.inj (h3.symm.trans hc)
  subst hr
  obtain ⟨hSl, hfc, kC, hkC, hkind⟩ := hK.1 ci _ hc
  obtain ⟨cf, kf, fi, f, hi, hsl⟩ := hSl k hk
  have hlay := hts _ (hcl.1 _ (u_in_lay hk))
  unfold u_lay at hlay
  rw [if_neg (by rw [h2]; decide)] at hlay
  have hst := (u_facts hfc hkC (u_lays hts hcl.1 hk) hi).1
  have hok := putOk.spec (G := G) hp
  have h6 := u_store hfc hkC hkind hlay hi (hcl.2.1 k hk) hok.1 hok.2
  refine W.putK C.1.1 C.1.2.1 (f := f) ⟨C.1.2.2.2.1, hts _ hw, ⟨_, _, _, hi⟩, hst⟩ (by rw [q2]; exact h6) q1 q3 (by rw [hsl]; exact k2_hasslot (q4 k hk)) rfl rfl hd fun H' e1 e2 e3 => ?_
  rw [hsl] at e1 ⊢
  have hR : RelH G (σ.set a (.inr (ci, fs.set k v))) H' := by
    refine rel_set C.2.2.1 hσ ?_ e3 e2
    show va_at G.1 vwCl (gB G + a, .inr (ci, (fs.set k v).map (tr G))) H'
    rw [List.map_set]
    exact ⟨_, hc, t_OB.to (V := updV (vp_V (fs.map (tr G))) k (tr G v)) ⟨_, e1, q2, q3, t_set q4 hap hk (tr G v)⟩ (fun i _ => vp_updV_set (by rw [List.length_map]; exact hl) (tr G v) i)⟩
  exact kk _ _ _ _ _ _ _ _ _ _ _ _ _ _ _ _ ⟨C.1, C.2.1, hR, C.2.2.2.1.put e2 e3 (Nat.le_add_right _ _), C.2.2.2.2⟩
theorem T_putF {idx ci k a : Nat} {fs : List Value} {v : Value} (hd : decode j.2.1 pc = .ok (.putfield idx, 3)) (hf : FLok j.1.cls idx ci k true) (hin : j.1.name = "<init>") (hown : ∀ Cn F N, vwCl[ci]? = some (Cn, F, N) → Cn = j.1.cls) (hσ : σ[a]? = some (.inr (ci, fs))) (hl : k < fs.length) (hp : putOk (tyG ci k) v = true) (kk : T G d mc ms j (pc + 3) L st (σ.set a (.inr (ci, fs.set k v))) Q) : T G d mc ms j pc L (v :: .ref a :: st) σ Q := by
  intro p l e R s m args below meth c H locs cells slots Qs ls C
  obtain ⟨Cn, F, N, hc, hk, h1, h2, hw⟩ := hf
  have hcl := clsOk hc
  have hK := C.1.2.2.2.2.2.1.1
  have hts := C.1.2.2.2.2.1
  have hap := va_apart (own := j.1.cls) hts hcl.1 (tyG ci) hcl.2.1 hcl.2.2 hK hc
  obtain ⟨r, h3, cell, q1, q2, q3, q4⟩ := C.2.2.1.1 a _ (wsG_at hσ)
  have hr : r = (Cn, F, N) := Option.some.inj (h3.symm.trans hc)
  subst hr
  obtain ⟨hSl, hfc, kC, hkC, hkind⟩ := hK.1 ci _ hc
  obtain ⟨cf, kf, fi, f, hi, hsl⟩ := hSl k hk
  have hlay := hts _ (hcl.1 _ (u_in_lay hk))
  unfold u_lay at hlay
  rw [if_pos h2] at hlay
  have hst := (u_facts hfc hkC (u_lays hts hcl.1 hk) hi).1
  have hcf : m.cls = cf := by
    obtain ⟨_, _, c', _, _, _, -, -, hf', -, -, -, hown2, -⟩ := Cond.laysFinal_spec hlay
    have e1 : c' = cf := by have := hi.symm.trans hf'; simp at this; exact this.1.symm
    rw [h1, hown Cn F N hc] at hown2
    rw [← e1]; exact Option.some.inj (C.1.2.2.2.1.symm.trans hown2)
  have hok := putOk.spec (G := G) hp
  have h6 := u_fits hfc hkC hkind (Or.inr hlay) hi (hcl.2.1 k hk) hok.1 hok.2
  refine W.putFinK C.1.1 C.1.2.1 C.1.2.2.2.1 (hts _ hw) hi hst hcf (C.1.2.2.2.2.2.2.1.trans hin) (by rw [q2]; exact h6) q1 q3 (by rw [hsl]; exact k2_hasslot (q4 k hk)) rfl rfl hd fun H' e1 e2 e3 => ?_
  rw [hsl] at e1 ⊢
  have hR : RelH G (σ.set a (.inr (ci, fs.set k v))) H' := by
    refine rel_set C.2.2.1 hσ ?_ e3 e2
    show va_at G.1 vwCl (gB G + a, .inr (ci, (fs.set k v).map (tr G))) H'
    rw [List.map_set]
    exact ⟨_, hc, t_OB.to (V := updV (vp_V (fs.map (tr G))) k (tr G v)) ⟨_, e1, q2, q3, t_set q4 hap hk (tr G v)⟩ (fun i _ => vp_updV_set (by rw [List.length_map]; exact hl) (tr G v) i)⟩
  exact kk _ _ _ _ _ _ _ _ _ _ _ _ _ _ _ _ ⟨C.1, C.2.1, hR, C.2.2.2.1.put e2 e3 (Nat.le_add_right _ _), C.2.2.2.2⟩
theorem T_iald {a n : Nat} {f : Nat → Int32} {i : Int32} (hd : decode j.2.1 pc = .ok (.iaload, 1)) (hσ : σ[a]? = some (.inl (0, n, .inl f))) (hi : vp_in i n) (kk : T G d mc ms j (pc + 1) L (.int (f i.toNatClampNeg) :: st) σ Q) : T G d mc ms j pc L (.int i :: .ref a :: st) σ Q := by
  intro p l e R s m args below meth c H locs cells slots Qs ls C
  exact va_iald (D := G.1) (tys := tysG G) C.1.1 C.1.2.1 C.1.2.2.2.2.2.1.1 C.2.2.1.1 a 0 (wsG_at hσ) rfl hi hd (kk _ _ _ _ _ _ _ _ _ _ _ _ _ _ _ _ C)
theorem T_bald {a n : Nat} {f : Nat → Int32} {i : Int32} (hd : decode j.2.1 pc = .ok (.baload, 1)) (hσ : σ[a]? = some (.inl (1, n, .inl f))) (hi : vp_in i n) (kk : T G d mc ms j (pc + 1) L (.int (f i.toNatClampNeg) :: st) σ Q) : T G d mc ms j pc L (.int i :: .ref a :: st) σ Q := by
  intro p l e R s m args below meth c H locs cells slots Qs ls C
  exact va_bald (D := G.1) (tys := tysG G) C.1.1 C.1.2.1 C.1.2.2.2.2.2.1.1 C.2.2.1.1 a 1 (wsG_at hσ) rfl hi hd (kk _ _ _ _ _ _ _ _ _ _ _ _ _ _ _ _ C)
theorem T_zald {a n : Nat} {f : Nat → Int32} {i : Int32} (hd : decode j.2.1 pc = .ok (.baload, 1)) (hσ : σ[a]? = some (.inl (2, n, .inl f))) (hi : vp_in i n) (kk : T G d mc ms j (pc + 1) L (.int (f i.toNatClampNeg) :: st) σ Q) : T G d mc ms j pc L (.int i :: .ref a :: st) σ Q := by
  intro p l e R s m args below meth c H locs cells slots Qs ls C
  exact va_zald (D := G.1) (tys := tysG G) C.1.1 C.1.2.1 C.1.2.2.2.2.2.1.1 C.2.2.1.1 a 2 (wsG_at hσ) rfl hi hd (kk _ _ _ _ _ _ _ _ _ _ _ _ _ _ _ _ C)
theorem tyQ {t : Nat} (h3 : 3 ≤ t) (h6 : t ≤ 6) : ∃ C : String, (tysG G)[t]? = some (G.2.1 t, .object C) := by
  rcases (show t = 3 ∨ t = 4 ∨ t = 5 ∨ t = 6 by omega) with rfl | rfl | rfl | rfl <;> exact ⟨_, rfl⟩
theorem tr_rf (o : Option Nat) : va_rf (o.map (gB G + ·)) = tr G (va_rf o) := by cases o <;> rfl
theorem T_aald {a t n : Nat} {f : Nat → Option Nat} {i : Int32} (hd : decode j.2.1 pc = .ok (.aaload, 1)) (hσ : σ[a]? = some (.inl (t, n, .inr (.inr (.inr (.inr f)))))) (h3 : 3 ≤ t) (h6 : t ≤ 6) (hi : vp_in i n) (kk : T G d mc ms j (pc + 1) L (va_rf (f i.toNatClampNeg) :: st) σ Q) : T G d mc ms j pc L (.int i :: .ref a :: st) σ Q := by
  intro p l e R s m args below meth c H locs cells slots Qs ls C
  obtain ⟨Cn, hC⟩ := tyQ (G := G) h3 h6
  refine va_aldq (D := G.1) (tys := tysG G) C.1.1 C.1.2.1 C.1.2.2.2.2.2.1.1 C.2.2.1.1 a t (wsG_at hσ) hC hi hd ?_
  show W p l e R s m args below meth c H locs cells slots Qs (F0 m (pc + 1) ls (va_rf ((f i.toNatClampNeg).map (gB G + ·)) :: st.map (tr G)))
  rw [tr_rf]
  exact kk _ _ _ _ _ _ _ _ _ _ _ _ _ _ _ _ C
theorem T_alen {a t n : Nat} {x : (Nat → Int32) ⊕ (Nat → Int64) ⊕ (Nat → UInt32) ⊕ (Nat → UInt64) ⊕ (Nat → Option Nat)} {v : Int32} (hd : decode j.2.1 pc = .ok (.arraylength, 1)) (hσ : σ[a]? = some (.inl (t, n, x))) (h6 : t ≤ 6) (hv : Int32.ofNat n = v) (kk : T G d mc ms j (pc + 1) L (.int v :: st) σ Q) : T G d mc ms j pc L (.ref a :: st) σ Q := by
  intro p l e R s m args below meth c H locs cells slots Qs ls C
  have ht : ∃ ty, (tysG G)[t]? = some (G.2.1 t, ty) := by
    rcases (show t = 0 ∨ t = 1 ∨ t = 2 ∨ t = 3 ∨ t = 4 ∨ t = 5 ∨ t = 6 by omega) with rfl | rfl | rfl | rfl | rfl | rfl | rfl <;> exact ⟨_, rfl⟩
  obtain ⟨ty, ht⟩ := ht
  have hw := wsG_at (G := G) hσ
  have k' := kk _ _ _ _ _ _ _ _ _ _ _ _ _ _ _ _ C
  obtain f | f | f | f | f := x
  · exact va_alen (D := G.1) (tys := tysG G) C.1.1 C.1.2.1 C.1.2.2.2.2.2.1.1 C.2.2.1.1 a t hw ht hv hd k'
  · exact va_alen (D := G.1) (tys := tysG G) C.1.1 C.1.2.1 C.1.2.2.2.2.2.1.1 C.2.2.1.1 a t hw ht hv hd k'
  · exact va_alen (D := G.1) (tys := tysG G) C.1.1 C.1.2.1 C.1.2.2.2.2.2.1.1 C.2.2.1.1 a t hw ht hv hd k'
  · exact va_alen (D := G.1) (tys := tysG G) C.1.1 C.1.2.1 C.1.2.2.2.2.2.1.1 C.2.2.1.1 a t hw ht hv hd k'
  · exact va_alen (D := G.1) (tys := tysG G) C.1.1 C.1.2.1 C.1.2.2.2.2.2.1.1 C.2.2.1.1 a t hw ht hv hd k'
theorem T_iast {a n : Nat} {f : Nat → Int32} {i x : Int32} (hd : decode j.2.1 pc = .ok (.iastore, 1)) (hσ : σ[a]? = some (.inl (0, n, .inl f))) (hi : vp_in i n) (kk : T G d mc ms j (pc + 1) L st (σ.set a (.inl (0, n, .inl (upd f i.toNatClampNeg x)))) Q) : T G d mc ms j pc L (.int x :: .int i :: .ref a :: st) σ Q := by
  intro p l e R s m args below meth c H locs cells slots Qs ls C
  refine W.iast C.1.1 C.1.2.1 (C.2.2.1.1 a _ (wsG_at hσ)) ((C.1.2.2.2.2.2.1.1.2 0 _ rfl).1 n (fun j => .int (f j))) (fun q => by cases q) (by show ¬ (i < 0 ∨ (arrV _ _ _).slots.size ≤ _); rw [arrV_size]; exact hi) rfl rfl hd fun H1 e1 z oq => ?_
  refine kk _ _ _ _ _ _ _ _ _ _ _ _ _ _ _ _ ⟨C.1, C.2.1, rel_set C.2.2.1 hσ ?_ oq z, C.2.2.2.1.put z oq (Nat.le_add_right _ _), C.2.2.2.2⟩
  show H1[gB G + a]? = some (vp_cell _ _)
  rw [e1]
  show some ((vp_cell _ _).setSlot _ _) = _
  rw [vp_cell_i, vp_cell_i, arrV_store]
  congr 2
  funext q
  by_cases hq : q = i.toNatClampNeg
  · subst hq
    simp [updV, upd]
  · simp [updV, upd, hq]
theorem T_bast {a n : Nat} {f : Nat → Int32} {i x : Int32} (hd : decode j.2.1 pc = .ok (.bastore, 1)) (hσ : σ[a]? = some (.inl (1, n, .inl f))) (hi : vp_in i n) (kk : T G d mc ms j (pc + 1) L st (σ.set a (.inl (1, n, .inl (upd f i.toNatClampNeg (vp_nar .byte x))))) Q) : T G d mc ms j pc L (.int x :: .int i :: .ref a :: st) σ Q := by
  intro p l e R s m args below meth c H locs cells slots Qs ls C
  refine W.bast C.1.1 C.1.2.1 (C.2.2.1.1 a _ (wsG_at hσ)) ((C.1.2.2.2.2.2.1.1.2 1 _ rfl).1 n (fun j => .int (f j))) (fun q => by cases q) (by show ¬ (i < 0 ∨ (arrV _ _ _).slots.size ≤ _); rw [arrV_size]; exact hi) rfl rfl hd fun H1 e1 z oq => ?_
  refine kk _ _ _ _ _ _ _ _ _ _ _ _ _ _ _ _ ⟨C.1, C.2.1, rel_set C.2.2.1 hσ ?_ oq z, C.2.2.2.1.put z oq (Nat.le_add_right _ _), C.2.2.2.2⟩
  show H1[gB G + a]? = some (vp_cell _ _)
  rw [e1]
  show some ((vp_cell _ _).setSlot _ _) = _
  rw [vp_cell_i, vp_cell_i, arrV_store]
  congr 2
  funext q
  by_cases hq : q = i.toNatClampNeg
  · subst hq
    simp [updV, upd, vp_nar]
    try rfl
  · simp [updV, upd, hq]
theorem T_zast {a n : Nat} {f : Nat → Int32} {i x : Int32} (hd : decode j.2.1 pc = .ok (.bastore, 1)) (hσ : σ[a]? = some (.inl (2, n, .inl f))) (hi : vp_in i n) (kk : T G d mc ms j (pc + 1) L st (σ.set a (.inl (2, n, .inl (upd f i.toNatClampNeg (vp_nar .boolean x))))) Q) : T G d mc ms j pc L (.int x :: .int i :: .ref a :: st) σ Q := by
  intro p l e R s m args below meth c H locs cells slots Qs ls C
  refine W.zast C.1.1 C.1.2.1 (C.2.2.1.1 a _ (wsG_at hσ)) ((C.1.2.2.2.2.2.1.1.2 2 _ rfl).1 n (fun j => .int (f j))) (fun q => by cases q) (by show ¬ (i < 0 ∨ (arrV _ _ _).slots.size ≤ _); rw [arrV_size]; exact hi) rfl rfl hd fun H1 e1 z oq => ?_
  refine kk _ _ _ _ _ _ _ _ _ _ _ _ _ _ _ _ ⟨C.1, C.2.1, rel_set C.2.2.1 hσ ?_ oq z, C.2.2.2.1.put z oq (Nat.le_add_right _ _), C.2.2.2.2⟩
  show H1[gB G + a]? = some (vp_cell _ _)
  rw [e1]
  show some ((vp_cell _ _).setSlot _ _) = _
  rw [vp_cell_i, vp_cell_i, arrV_store]
  congr 2
  funext q
  by_cases hq : q = i.toNatClampNeg
  · subst hq
    simp [updV, upd, vp_nar]
    try rfl
  · simp [updV, upd, hq]
theorem T_aast {a t n v ci : Nat} {f : Nat → Option Nat} {fs : List Value} {r : vw_C} {i : Int32} (hd : decode j.2.1 pc = .ok (.aastore, 1)) (hσ : σ[a]? = some (.inl (t, n, .inr (.inr (.inr (.inr f)))))) (ht : (tysG G)[t]? = some (G.2.1 t, .object r.1)) (hv : σ[v]? = some (.inr (ci, fs))) (hc : vwCl[ci]? = some r) (hi : vp_in i n) (kk : T G d mc ms j (pc + 1) L st (σ.set a (.inl (t, n, .inr (.inr (.inr (.inr (va_up f i.toNatClampNeg (some v)))))))) Q) : T G d mc ms j pc L (.ref v :: .int i :: .ref a :: st) σ Q := by
  intro p l e R s m args below meth c H locs cells slots Qs ls C
  have hK := C.1.2.2.2.2.2.1.1
  have hlt : i.toNatClampNeg < n := Nat.not_le.mp fun q => hi (Or.inr q)
  have h0 : ¬ i < 0 := fun q => hi (Or.inl q)
  obtain ⟨r', hr', cellV, g1, g2, g3, -⟩ := C.2.2.1.1 v _ (wsG_at hv)
  have hcls := (hK.1 ci r hc).2
  obtain ⟨kA, comp, k1, k2, k3, -⟩ := (hK.2 t _ ht).2
  have hcomp : comp = G.1.1 ci := Option.some.inj (k3.symm.trans hcls.1)
  subst hcomp
  obtain ⟨kC, hkC, -⟩ := hcls.2
  refine W.aast C.1.1 C.1.2.1 (C.2.2.1.1 a _ (wsG_at hσ)) (fun q h => by cases h) (fun h => by cases h) k1 k2 rfl hkC ⟨h0, by show _ < (arrV _ _ _).slots.size; rw [arrV_size]; exact hlt⟩ g1 (fun q h => by rw [g3] at h; cases h) (by rw [g2]; exact hkC) (by rw [g2]; exact va_assign hcls) rfl rfl hd fun H1 e1 z oq => ?_
  refine kk _ _ _ _ _ _ _ _ _ _ _ _ _ _ _ _ ⟨C.1, C.2.1, rel_set C.2.2.1 hσ ?_ oq z, C.2.2.2.1.put z oq (Nat.le_add_right _ _), C.2.2.2.2⟩
  show H1[gB G + a]? = some (vp_cell _ _)
  rw [e1]
  show some ((vp_cell _ _).setSlot _ _) = _
  rw [vp_cell_q, vp_cell_q, arrV_store]
  congr 2
  funext q
  by_cases hq : q = i.toNatClampNeg
  · subst hq
    simp [updV, va_up, va_rf]
  · simp [updV, va_up, hq]
end TH
