/-! new cells and calls in the judgement T -/
section TN
variable {G : GT} {d mc ms : Nat} {j : MD} {pc : Nat} {L : List (Option Value)} {st : List Value} {σ : List va_E} {Q : Option Value → List va_E → Prop}
theorem T_new {idx ci N : Nat} {Cn : String} {F : u_T} {fs : List Value} (hd : decode j.2.1 pc = .ok (.new idx, 3)) (hcl : Cond.classLink j.1.cls idx Cn ∈ gtbl) (hin : Cond.instantiable Cn N ∈ gtbl ∧ Cond.initialized Cn ∈ gtbl) (hc : vwCl[ci]? = some (Cn, F, N)) (hfm : fs.map (tr G) = fs) (hfs : ∀ k, k < N → defaultValue (tyG ci k) = vp_V fs k) (kk : T G d mc ms j (pc + 3) L (.ref σ.length :: st) (σ ++ [.inr (ci, fs)]) Q) : T G d (mc + 1) (ms + N) j pc L st σ Q := by
  intro p l e R s m args below meth c H locs cells slots Qs ls C
  have hts := C.1.2.2.2.2.1
  have hk := clsOk hc
  have hKn := C.1.2.2.2.2.2.1.1.1 ci _ hc
  refine W.newcK C.1.1 C.1.2.1 C.1.2.2.2.1 (hts _ hcl) (hts _ hin.1) (hts _ hin.2) rfl hd (by have := C.2.1.1; omega) (by have := C.2.1.2; omega) hKn.2.1 C.2.2.1.2 fun H1 kC hkC e1 z1 o1 => ?_
  refine kk _ _ _ _ _ _ _ _ _ _ _ _ _ _ _ _ ⟨C.1, ⟨by have := C.2.1.1; omega, by have := C.2.1.2; omega⟩, rel_push C.2.2.1 ?_ (by rw [z1, C.2.2.1.2]) (fun q hq => o1 q (by rw [← C.2.2.1.2]; exact hq)), S_push C.2.2.2.1 (by rw [z1, C.2.2.1.2]) (fun q hq => o1 q (by rw [← C.2.2.1.2]; exact hq)), C.2.2.2.2⟩
  show va_at G.1 vwCl (gB G + σ.length, .inr (ci, fs.map (tr G))) H1
  rw [hfm]
  exact ⟨_, hc, (u_born (tyG ci) hts hk.1 hKn hkC e1 hk.2.1).to hfs⟩
theorem T_newi {n : Int32} {N : Nat} (hd : decode j.2.1 pc = .ok (.newarray .int, 2)) (hn : ¬ n < 0) (hN : n.toNatClampNeg = N) (hb : N ≤ 65536) (kk : T G d mc ms j (pc + 2) L (.ref σ.length :: st) (σ ++ [.inl (0, N, .inl (fun _ => 0))]) Q) : T G d (mc + 1) (ms + N) j pc L (.int n :: st) σ Q := by
  intro p l e R s m args below meth c H locs cells slots Qs ls C
  refine va_newaK (atype := .int) C.1.1 C.1.2.1 (C.1.2.2.2.2.1 _ ac_int) rfl hd rfl hn hN (by show N * 4 ≤ _; omega) (by have := C.2.1.1; omega) (by have := C.2.1.2; omega) C.2.2.1.2 fun H1 cA e1 z1 o1 hAr hNm => ?_
  have hcA : cA = G.2.1 0 := Option.some.inj (hNm.symm.trans (C.1.2.2.2.2.2.1.1.2 0 _ rfl).2)
  subst hcA
  exact kk _ _ _ _ _ _ _ _ _ _ _ _ _ _ _ _ ⟨C.1, ⟨by have := C.2.1.1; omega, by have := C.2.1.2; omega⟩, rel_push C.2.2.1 e1 (by rw [z1, C.2.2.1.2]) (fun q hq => o1 q (by rw [← C.2.2.1.2]; exact hq)), S_push C.2.2.2.1 (by rw [z1, C.2.2.1.2]) (fun q hq => o1 q (by rw [← C.2.2.1.2]; exact hq)), C.2.2.2.2⟩
theorem T_newb {n : Int32} {N : Nat} (hd : decode j.2.1 pc = .ok (.newarray .byte, 2)) (hn : ¬ n < 0) (hN : n.toNatClampNeg = N) (hb : N ≤ 65536) (kk : T G d mc ms j (pc + 2) L (.ref σ.length :: st) (σ ++ [.inl (1, N, .inl (fun _ => 0))]) Q) : T G d (mc + 1) (ms + N) j pc L (.int n :: st) σ Q := by
  intro p l e R s m args below meth c H locs cells slots Qs ls C
  refine va_newaK (atype := .byte) C.1.1 C.1.2.1 (C.1.2.2.2.2.1 _ ac_byte) rfl hd rfl hn hN (by show N * 1 ≤ _; omega) (by have := C.2.1.1; omega) (by have := C.2.1.2; omega) C.2.2.1.2 fun H1 cA e1 z1 o1 hAr hNm => ?_
  have hcA : cA = G.2.1 1 := Option.some.inj (hNm.symm.trans (C.1.2.2.2.2.2.1.1.2 1 _ rfl).2)
  subst hcA
  exact kk _ _ _ _ _ _ _ _ _ _ _ _ _ _ _ _ ⟨C.1, ⟨by have := C.2.1.1; omega, by have := C.2.1.2; omega⟩, rel_push C.2.2.1 e1 (by rw [z1, C.2.2.1.2]) (fun q hq => o1 q (by rw [← C.2.2.1.2]; exact hq)), S_push C.2.2.2.1 (by rw [z1, C.2.2.1.2]) (fun q hq => o1 q (by rw [← C.2.2.1.2]; exact hq)), C.2.2.2.2⟩
theorem T_newz {n : Int32} {N : Nat} (hd : decode j.2.1 pc = .ok (.newarray .boolean, 2)) (hn : ¬ n < 0) (hN : n.toNatClampNeg = N) (hb : N ≤ 65536) (kk : T G d mc ms j (pc + 2) L (.ref σ.length :: st) (σ ++ [.inl (2, N, .inl (fun _ => 0))]) Q) : T G d (mc + 1) (ms + N) j pc L (.int n :: st) σ Q := by
  intro p l e R s m args below meth c H locs cells slots Qs ls C
  refine va_newaK (atype := .boolean) C.1.1 C.1.2.1 (C.1.2.2.2.2.1 _ ac_boolean) rfl hd rfl hn hN (by show N * 1 ≤ _; omega) (by have := C.2.1.1; omega) (by have := C.2.1.2; omega) C.2.2.1.2 fun H1 cA e1 z1 o1 hAr hNm => ?_
  have hcA : cA = G.2.1 2 := Option.some.inj (hNm.symm.trans (C.1.2.2.2.2.2.1.1.2 2 _ rfl).2)
  subst hcA
  exact kk _ _ _ _ _ _ _ _ _ _ _ _ _ _ _ _ ⟨C.1, ⟨by have := C.2.1.1; omega, by have := C.2.1.2; omega⟩, rel_push C.2.2.1 e1 (by rw [z1, C.2.2.1.2]) (fun q hq => o1 q (by rw [← C.2.2.1.2]; exact hq)), S_push C.2.2.2.1 (by rw [z1, C.2.2.1.2]) (fun q hq => o1 q (by rw [← C.2.2.1.2]; exact hq)), C.2.2.2.2⟩
theorem T_newq {idx t : Nat} {Cn : String} {n : Int32} {N : Nat} (hd : decode j.2.1 pc = .ok (.anewarray idx, 3)) (hcl : Cond.classLink j.1.cls idx Cn ∈ gtbl) (hover : ∀ s, EnvOK G s → va_AO Cn s) (ht : (tysG G)[t]? = some (G.2.1 t, .object Cn)) (hn : ¬ n < 0) (hN : n.toNatClampNeg = N) (hb : N ≤ 65536) (kk : T G d mc ms j (pc + 3) L (.ref σ.length :: st) (σ ++ [.inl (t, N, .inr (.inr (.inr (.inr (fun _ => none)))))]) Q) : T G d (mc + 1) (ms + N) j pc L (.int n :: st) σ Q := by
  intro p l e R s m args below meth c H locs cells slots Qs ls C
  subst hN
  refine W.anew C.1.1 C.1.2.1 C.1.2.2.2.1 (C.1.2.2.2.2.1 _ hcl) (va_AO.use (hover s C.1.2.2.2.2.2.1)) rfl hd rfl hn (by omega) (by have := C.2.1.1; omega) (by have := C.2.1.2; omega) fun cA kA comp f1 f2 f3 f4 => ?_
  obtain ⟨kA', comp', k1, k2, k3, k4⟩ := (C.1.2.2.2.2.2.1.1.2 t _ ht).2
  have hcA : cA = G.2.1 t := Option.some.inj (f1.symm.trans k4)
  subst hcA
  generalize hH1 : H.push ({ cls := G.2.1 t, slots := Array.replicate n.toNatClampNeg .null, vm := .none } : Cell) = H1
  have z1 : H1.size = H.size + 1 := by rw [← hH1, Array.size_push]
  have e1 : H1[H.size]? = some (arrV (G.2.1 t) n.toNatClampNeg (fun _ => .null)) := by rw [← hH1, Array.getElem?_push_size, ← arrV_new]
  have o1 : ∀ q : Nat, q < H.size → H1[q]? = H[q]? := fun q hq => by rw [← hH1, Array.getElem?_push, if_neg (Nat.ne_of_lt hq)]
  have k' := kk p l e R s m args below meth c H1 locs (cells + 1) (slots + n.toNatClampNeg) Qs ls ⟨C.1, ⟨by have := C.2.1.1; omega, by have := C.2.1.2; omega⟩, rel_push C.2.2.1 (by show H1[gB G + σ.length]? = some (vp_cell _ _); rw [← C.2.2.1.2, vp_cell_q]; exact e1) z1 o1, S_push C.2.2.2.1 z1 o1, C.2.2.2.2⟩
  rw [C.2.2.1.2]
  exact k'
theorem T_objInit {idx a : Nat} (hd : decode j.2.1 pc = .ok (.invokespecial idx, 3)) (hl : Cond.methodLink j.1.cls idx objectInit ∈ gtbl) (h8 : (st.map fun v => v.category).sum ≤ 8) (kk : T G (d + 1) mc ms j (pc + 3) L st σ Q) : T G (d + 1) mc ms j pc L (.ref a :: st) σ Q := by
  intro p l e R s m args below meth c H locs cells slots Qs ls C
  have hts := C.1.2.2.2.2.1
  refine W.objInit C.1.1 C.1.2.1 C.1.2.2.2.1 (hts _ hl) (hts _ gObj.1) (hts _ gObj.2) rfl (C.2.2.2.2.1.1.trans C.1.2.2.1.symm) rfl hd (by have := C.1.2.2.2.2.2.2.2.1; omega) ?_ (kk _ _ _ _ _ _ _ _ _ _ _ _ _ _ _ _ C)
  rw [tr_cats]
  have := C.1.2.2.2.2.2.2.2.2
  show 2 * 0 + _ + 12 ≤ _
  omega
theorem T_mmin {idx : Nat} {x y : Int32} (hd : decode j.2.1 pc = .ok (.invokestatic idx, 3)) (hl : Cond.methodLink j.1.cls idx Lib.Math.min.name ∈ gtbl) (h8 : (st.map fun v => v.category).sum ≤ 8) (kk : T G (d + 1) mc ms j (pc + 3) L (.int (if y < x then y else x) :: st) σ Q) : T G (d + 1) mc ms j pc L (.int y :: .int x :: st) σ Q := by
  intro p l e R s m args below meth c H locs cells slots Qs ls C
  have hts := C.1.2.2.2.2.1
  refine va_mmin C.1.1 C.1.2.1 (C.1.2.2.1.trans C.2.2.2.2.1.1.symm) C.1.2.2.2.1 (hts _ hl) (hts _ mmOk.1) (hts _ mmOk.2.1) (hts _ mmOk.2.2) (by have := C.1.2.2.2.2.2.2.2.1; omega) ?_ (Nat.le_trans (Nat.le_add_right _ _) C.2.1.1) (Nat.le_trans (Nat.le_add_right _ _) C.2.1.2) hd (kk _ _ _ _ _ _ _ _ _ _ _ _ _ _ _ _ C)
  rw [tr_cats]
  have := C.1.2.2.2.2.2.2.2.2
  omega
-- calls
def rmT (d mc ms : Nat) : Room := { frames := d, cells := mc, slots := ms, locals := 35 * d }
def LA (vs : List Value) : List (Option Value) := vs.flatMap (fun v => if v.category = 2 then [some v, none] else [some v])
def LE (j : MD) (vs : List Value) : List (Option Value) := LA vs ++ List.replicate (j.2.2.1 - (LA vs).length) none
def PcT (G : GT) (vs : List Value) (σ : List va_E) : Array Value → State → Prop := va_Pc (vs.map (tr G)) (fun U => RelH G σ U.heap ∧ EnvOK G U)
def QcT (G : GT) (Q : Option Value → List va_E → Prop) : Array Value → State → Outcome → State → Prop := fun _ st oc t => (∃ (r : Option Value) (σ' : List va_E), oc = .returned (r.map (tr G)) ∧ Q r σ' ∧ RelH G σ' t.heap) ∧ va_F (AG G) st t
theorem LA_mem : ∀ (vs : List Value) (k i : Nat) (v : Value), (LA vs)[i]? = some (some v) → (k + i, tr G v) ∈ lv_args k (vs.map (tr G))
  | [], k, i, v, h => by simp [LA] at h
  | w :: vs, k, i, v, h => by
    have e : LA (w :: vs) = (if w.category = 2 then [some w, none] else [some w]) ++ LA vs := rfl
    rw [e] at h
    rw [List.map_cons, lv_args, tr_cat]
    by_cases hw : w.category = 2
    · rw [if_pos hw] at h ⊢
      match i, h with
      | 0, h => cases h; exact List.mem_cons_self
      | 1, h => cases h
      | i + 2, h =>
        have := LA_mem vs (k + 2) i v h
        rw [show k + (i + 2) = k + 2 + i by omega]
        exact List.mem_cons_of_mem _ this
    · rw [if_neg hw] at h ⊢
      match i, h with
      | 0, h => cases h; exact List.mem_cons_self
      | i + 1, h =>
        have := LA_mem vs (k + 1) i v h
        rw [show k + (i + 1) = k + 1 + i by omega]
        exact List.mem_cons_of_mem _ this
theorem LA_len (vs : List Value) : (lg_sl (vs.map (tr G))).length = (LA vs).length := by
  induction vs with
  | nil => rfl
  | cons w vs ih =>
    have e1 : LA (w :: vs) = (if w.category = 2 then [some w, none] else [some w]) ++ LA vs := rfl
    have e2 : lg_sl ((w :: vs).map (tr G)) = (if (tr G w).category = 2 then [.val (tr G w), .second] else [.val (tr G w)]) ++ lg_sl (vs.map (tr G)) := rfl
    rw [e1, e2, List.length_append, List.length_append, ih, tr_cat]
    by_cases hw : w.category = 2
    · rw [if_pos hw, if_pos hw]; rfl
    · rw [if_neg hw, if_neg hw]; rfl
theorem T.met {l : Launch} {vs : List Value} (hk : MOk j) (hL : (LA vs).length ≤ j.2.2.1) (h : T G d mc ms j 0 (LE j vs) [] σ Q) : Met l j.1 (Cond.code j.1 j.2.1 j.2.2.1 j.2.2.2 :: gtbl) (rmT d mc ms) (PcT G vs σ) (QcT G Q) mc ms (AG G) := by
  refine Met.ofW (cc := j.2.1) (maxL := j.2.2.1) (ret := j.2.2.2) hk.2.2.2.2 rfl ?_
  intro p e s m args below meth c s₁ B hml hv
  obtain ⟨rfl, hR, hE⟩ := hv
  have hts0 := atoms_spec (ws := Cond.code j.1 j.2.1 j.2.2.1 j.2.2.2 :: gtbl) B.pre
  have hl := lv_entry (vs.map (tr G)) (n := j.2.2.1) (by rw [LA_len]; exact hL)
  rw [lg_entry_eq]
  generalize (lg_sl (vs.map (tr G)) ++ List.replicate (j.2.2.1 - (lg_sl (vs.map (tr G))).length) Slot.unset).toArray = ls at hl ⊢
  have hx := B.exec
  have hb := B.bytes
  have hret := B.returns
  have hlocks := B.notSynchronized
  refine h p l e _ s m _ below meth c s.heap [] 0 0 _ ls ⟨⟨hx, hb, hml, findClass_of_methodNamed B.named, fun w hw => hts0 w (List.mem_cons_of_mem _ hw), hE, (name_of_methodNamed B.named B.method).1, Nat.le_refl _, Nat.le_refl _⟩, ⟨by show 0 + mc ≤ mc; omega, by show 0 + ms ≤ ms; omega⟩, hR, va_S.rf, ⟨hl.1, hl.2.1, fun i v hi => ?_⟩, ?_⟩
  · have hi' : (LA vs)[i]? = some (some v) := by
      unfold LE at hi
      by_cases hlt : i < (LA vs).length
      · rw [List.getElem?_append_left hlt] at hi; exact hi
      · rw [List.getElem?_append_right (Nat.le_of_not_lt hlt), List.getElem?_replicate] at hi
        split at hi <;> cases hi
    have := hl.2.2 _ (LA_mem (G := G) vs 0 i v hi')
    rw [Nat.zero_add] at this
    exact this
  · intro r σ' H' locs' cells' slots' q hR' hS' hc hs
    match r, q with
    | none, q =>
      intro pc ls hd hr
      exact W.widen hc hs (W.vret hx hb (hret.trans hr) (fun t ht hW => ⟨⟨none, σ', rfl, q, by rw [ht]; exact hR'⟩, hS'.F ht⟩) hS'.2.2 hd)
    | some (.int x), q =>
      intro pc ls ty hd hr hn
      exact W.widen hc hs (W.zret hx hb (hret.trans hr) hn (fun t ht hW => ⟨⟨some (.int x), σ', rfl, q, by rw [ht]; exact hR'⟩, hS'.F ht⟩) hS'.2.2 hd)
    | some (.ref a), q =>
      intro pc ls nm hd hr hv
      exact W.widen hc hs (W.aret hx hb (hret.trans hr) (Or.inl ⟨nm, rfl⟩) (Or.inr ⟨_, rfl⟩) (fun t ht hW => ⟨⟨some (.ref a), σ', rfl, q, by rw [ht]; exact hR'⟩, hS'.F ht⟩) hS'.2.2 hd)
    | some .null, q =>
      intro pc ls nm hd hr hv
      exact W.widen hc hs (W.aret hx hb (hret.trans hr) (Or.inl ⟨nm, rfl⟩) (Or.inl rfl) (fun t ht hW => ⟨⟨some .null, σ', rfl, q, by rw [ht]; exact hR'⟩, hS'.F ht⟩) hS'.2.2 hd)
    | some (.long x), q => intro pc ls nm hd hr hv; rcases hv with hv | ⟨a, hv⟩ <;> cases hv
    | some (.float x), q => intro pc ls nm hd hr hv; rcases hv with hv | ⟨a, hv⟩ <;> cases hv
    | some (.double x), q => intro pc ls nm hd hr hv; rcases hv with hv | ⟨a, hv⟩ <;> cases hv
    | some (.retAddr x), q => intro pc ls nm hd hr hv; rcases hv with hv | ⟨a, hv⟩ <;> cases hv
theorem T_core {mc' ms' : Nat} {Q' : Option Value → List va_E → Prop} {p : Program} {l : Launch} {e : Env} {R : Room} {s : State} {m : MethodId} {args a : Array Value} {below : List Frame} {meth : Method} {c : Code} {H : Heap} {locs : List Loc} {cells slots : Nat} {Qs : State → Prop} {ls : Array Slot} {stk : List Value} (run : va_Run p l e R s m args below meth c H locs cells slots mc' ms' (F0 m pc ls stk) (st.map (tr G)) (QcT G Q' a) (AG G)) (C : Cx G d (mc' + mc) (ms' + ms) j L σ Q p l e R s m args below meth c H locs cells slots Qs ls) (kk : ∀ r σ', Q' r σ' → T G d mc ms j (pc + 3) L (r.toList ++ st) σ' Q) : W p l e R s m args below meth c H locs cells slots Qs (F0 m pc ls stk) := by
  intro T hT X
  obtain ⟨v, st₀, t, T', Lc, h0, X', hL, e1, e2, ⟨⟨r, σ', hv, hq, hR'⟩, hz, hkp⟩, go⟩ := run T hT X
  rw [h0] at hz hkp
  have hS := C.2.2.2.1
  have hv' : v = r.map (tr G) := by cases hv; rfl
  subst hv'
  obtain ⟨t2, a1, b1⟩ := kk r σ' hq p l e R s m args below meth c T'.heap (locs ++ Lc) (cells + mc') (slots + ms') Qs ls ⟨C.1, ⟨by have := C.2.1.1; omega, by have := C.2.1.2; omega⟩, by rw [e1]; exact hR', ⟨Nat.le_trans hS.1 (by rw [e1]; exact hz), fun q h1 h2 => by rw [e1, hkp q (Nat.lt_of_lt_of_le h1 hS.1) h2]; exact hS.2.1 q h1 h2, fun q hq => by
      rcases List.mem_append.mp hq with h | h
      · exact hS.2.2 q h
      · exact hL q h⟩, C.2.2.2.2⟩ T' rfl X'
  refine ⟨t2, go t2 ?_, b1⟩
  have e3 : (r.toList ++ st).map (tr G) = (r.map (tr G)).toList ++ st.map (tr G) := by rw [List.map_append]; cases r <;> rfl
  rw [e3] at a1
  exact a1
theorem good_g (j : MD) (h : Cond.code j.1 j.2.1 j.2.2.1 j.2.2.2 ∈ gtbl) : GoodIn gtbl (Cond.code j.1 j.2.1 j.2.2.1 j.2.2.2 :: gtbl) := by
  intro w hw
  have hw' : w ∈ gtbl := by
    rcases List.mem_cons.mp hw with rfl | hw
    · exact h
    · exact hw
  exact ⟨hw', good_of_word (List.mem_filter.mp hw').2⟩
theorem PcT_blind (vs : List Value) : FrameBlind (PcT G vs σ) := fun a U g mk q => ⟨q.1, q.2.1, EnvOK.moved (s := U) (U := U.calling g mk a) (State.WarmedH.refl U) va_S.rf q.2.2⟩
theorem callB_T {idx n d' mc' ms' : Nat} {j' : MD} {R : Room} {s : State} {args : Array Value} {own : String} (hts : ∀ w ∈ gtbl, w.before args s = true) (hk : MOk j') (hp : MPar j' n) (hl : MLk own idx j') (hR : d' + 1 ≤ R.frames ∧ 8 + (j'.2.2.1 + 11) + 35 * d' ≤ R.locals) : CallB R s args own idx j'.1 j'.2.1 j'.2.2.1 j'.2.2.2 (Cond.code j'.1 j'.2.1 j'.2.2.1 j'.2.2.2 :: gtbl) (rmT d' mc' ms') mc' ms' n :=
  callB_of n hts (good_g j' hk.1) rfl rfl rfl (hts _ hk.2.1) (hts _ hl) ⟨hk.2.2.1, hk.2.2.2.1, hp⟩ hR
theorem callN_T {idx n d' mc' ms' : Nat} {j' : MD} {R : Room} {s : State} {args : Array Value} {own : String} (hts : ∀ w ∈ gtbl, w.before args s = true) (hn : ∀ w ∈ ntbl, va_Nw w s) (hk : MOk j') (hp : MPar j' n) (hl : MNk own idx j') (hR : d' + 1 ≤ R.frames ∧ 8 + (j'.2.2.1 + 11) + 35 * d' ≤ R.locals) : va_CN R s args own idx j'.1 "WaryHouses" j'.2.1 j'.2.2.1 j'.2.2.2 (Cond.code j'.1 j'.2.1 j'.2.2.1 j'.2.2.2 :: gtbl) (rmT d' mc' ms') mc' ms' n :=
  va_cnB n hts (good_g j' hk.1) rfl rfl rfl (hn _ hl) (hts _ hk.2.1) ⟨hk.2.2.1, hk.2.2.2.1, hp⟩ hR
theorem T_callV {idx n b ci d' mc' ms' : Nat} {j' : MD} {As fs stk : List Value} {Q' : Option Value → List va_E → Prop} {F : u_T} {N : Nat} (hd : decode j.2.1 pc = .ok (.invokevirtual idx, 3)) (hk : MOk j' ∧ MInst j' ∧ MPar j' n) (hl : MLk j.1.cls idx j') (hb : σ[b]? = some (.inr (ci, fs))) (hc : vwCl[ci]? = some (j'.1.cls, F, N)) (hM : T G d' mc' ms' j' 0 (LE j' (.ref b :: As)) [] σ Q') (hn : As.length = n) (hstk : stk = As.reverse ++ .ref b :: st) (h8 : (st.map fun v => v.category).sum ≤ 8) (hL : (LA (.ref b :: As)).length ≤ j'.2.2.1) (hdd : d' + 1 ≤ d) (hmx : j'.2.2.1 ≤ 16) (kk : ∀ r σ', Q' r σ' → T G d mc ms j (pc + 3) L (r.toList ++ st) σ' Q) : T G d (mc' + mc) (ms' + ms) j pc L stk σ Q := by
  intro p l e R s m args below meth c H locs cells slots Qs ls C
  subst hstk
  have hts := C.1.2.2.2.2.1
  have hM' := T.met (l := l) hk.1 hL hM
  refine T_core (va_runV (C := j'.1.cls) (b := gB G + b) (As := As.map (tr G)) (g := F0 m pc ls _) ⟨C.1.1, C.1.2.1, C.1.2.2.1, C.1.2.2.2.1, hts⟩ hM' ⟨callB_T hts hk.1 hk.2.2 hl ⟨?_, ?_⟩, hts _ hk.2.1.1, hts _ hk.2.1.2⟩ ⟨PcT_blind _, va_recv C.1.2.2.2.2.2.1.1 C.2.2.1.1 hc (wsG_at hb), fun U hU hW => ⟨rfl, by rw [hU]; exact C.2.2.1, EnvOK.moved hW (by rw [hU]; exact C.2.2.2.1) C.1.2.2.2.2.2.1⟩⟩ rfl (by rw [List.length_map]; exact hn) C.2.2.2.2.1.1 (by show _ = _; simp [tr]) ?_ hd ⟨?_, ?_⟩) C kk
  · have := C.1.2.2.2.2.2.2.2.1; omega
  · have := C.1.2.2.2.2.2.2.2.2; omega
  · rw [tr_cats]; show 2 * 0 + _ ≤ 8; omega
  · have := C.2.1.1; omega
  · have := C.2.1.2; omega
theorem T_callS {idx n d' mc' ms' : Nat} {j' : MD} {As stk : List Value} {Q' : Option Value → List va_E → Prop} (hd : decode j.2.1 pc = .ok (.invokestatic idx, 3)) (hk : MOk j' ∧ MStat j' ∧ MPar j' n) (hl : MLk j.1.cls idx j') (hM : T G d' mc' ms' j' 0 (LE j' As) [] σ Q') (hn : As.length = n) (hstk : stk = As.reverse ++ st) (h8 : (st.map fun v => v.category).sum ≤ 8) (hL : (LA As).length ≤ j'.2.2.1) (hdd : d' + 1 ≤ d) (hmx : j'.2.2.1 ≤ 16) (kk : ∀ r σ', Q' r σ' → T G d mc ms j (pc + 3) L (r.toList ++ st) σ' Q) : T G d (mc' + mc) (ms' + ms) j pc L stk σ Q := by
  intro p l e R s m args below meth c H locs cells slots Qs ls C
  subst hstk
  have hts := C.1.2.2.2.2.1
  have hM' := T.met (l := l) hk.1 hL hM
  refine T_core (va_runS (As := As.map (tr G)) (g := F0 m pc ls _) ⟨C.1.1, C.1.2.1, C.1.2.2.1, C.1.2.2.2.1, hts⟩ hM' ⟨callB_T hts hk.1 hk.2.2 hl ⟨?_, ?_⟩, hts _ hk.2.1⟩ ⟨PcT_blind _, fun U hU hW => ⟨rfl, by rw [hU]; exact C.2.2.1, EnvOK.moved hW (by rw [hU]; exact C.2.2.2.1) C.1.2.2.2.2.2.1⟩⟩ rfl (by rw [List.length_map]; exact hn) C.2.2.2.2.1.1 (by show _ = _; simp) ?_ hd ⟨?_, ?_⟩) C kk
  · have := C.1.2.2.2.2.2.2.2.1; omega
  · have := C.1.2.2.2.2.2.2.2.2; omega
  · rw [tr_cats]; show 2 * 0 + _ ≤ 8; omega
  · have := C.2.1.1; omega
  · have := C.2.1.2; omega
theorem T_callSN {idx n d' mc' ms' : Nat} {j' : MD} {As stk : List Value} {Q' : Option Value → List va_E → Prop} (hd : decode j.2.1 pc = .ok (.invokestatic idx, 3)) (hk : MOk j' ∧ MStat j' ∧ MPar j' n) (hl : MNk j.1.cls idx j') (hM : T G d' mc' ms' j' 0 (LE j' As) [] σ Q') (hn : As.length = n) (hstk : stk = As.reverse ++ st) (h8 : (st.map fun v => v.category).sum ≤ 8) (hL : (LA As).length ≤ j'.2.2.1) (hdd : d' + 1 ≤ d) (hmx : j'.2.2.1 ≤ 16) (kk : ∀ r σ', Q' r σ' → T G d mc ms j (pc + 3) L (r.toList ++ st) σ' Q) : T G d (mc' + mc) (ms' + ms) j pc L stk σ Q := by
  intro p l e R s m args below meth c H locs cells slots Qs ls C
  subst hstk
  have hts := C.1.2.2.2.2.1
  have hM' := T.met (l := l) hk.1 hL hM
  refine T_core (va_runSN (host := "WaryHouses") (As := As.map (tr G)) (g := F0 m pc ls _) ⟨C.1.1, C.1.2.1, C.1.2.2.1, C.1.2.2.2.1, hts⟩ hM' ⟨callN_T hts C.1.2.2.2.2.2.1.2.1 hk.1 hk.2.2 hl ⟨?_, ?_⟩, hts _ hk.2.1, trivial⟩ ⟨PcT_blind _, fun U hU hW => ⟨rfl, by rw [hU]; exact C.2.2.1, EnvOK.moved hW (by rw [hU]; exact C.2.2.2.1) C.1.2.2.2.2.2.1⟩⟩ rfl (by rw [List.length_map]; exact hn) C.2.2.2.2.1.1 (by show _ = _; simp) ?_ hd ⟨?_, ?_⟩) C kk
  · have := C.1.2.2.2.2.2.2.2.1; omega
  · have := C.1.2.2.2.2.2.2.2.2; omega
  · rw [tr_cats]; show 2 * 0 + _ ≤ 8; omega
  · have := C.2.1.1; omega
  · have := C.2.1.2; omega
theorem T_callI {idx n b d' mc' ms' : Nat} {j' : MD} {As stk : List Value} {Q' : Option Value → List va_E → Prop} (hd : decode j.2.1 pc = .ok (.invokespecial idx, 3)) (hk : MOk j' ∧ MIni j' ∧ MPar j' n) (hr : j'.2.2.2 = none) (hl : MLk j.1.cls idx j') (hM : T G d' mc' ms' j' 0 (LE j' (.ref b :: As)) [] σ Q') (hn : As.length = n) (hstk : stk = As.reverse ++ .ref b :: st) (h8 : (st.map fun v => v.category).sum ≤ 8) (hL : (LA (.ref b :: As)).length ≤ j'.2.2.1) (hdd : d' + 1 ≤ d) (hmx : j'.2.2.1 ≤ 16) (kk : ∀ r σ', Q' r σ' → T G d mc ms j (pc + 3) L (r.toList ++ st) σ' Q) : T G d (mc' + mc) (ms' + ms) j pc L stk σ Q := by
  intro p l e R s m args below meth c H locs cells slots Qs ls C
  subst hstk
  have hts := C.1.2.2.2.2.1
  have hM' := T.met (l := l) hk.1 hL hM
  have hB := callB_T (n := n) (d' := d') (mc' := mc') (ms' := ms') (R := R) hts hk.1 hk.2.2 hl ⟨by have := C.1.2.2.2.2.2.2.2.1; omega, by have := C.1.2.2.2.2.2.2.2.2; omega⟩
  rw [hr] at hB hM'
  refine T_core (va_runI (b := gB G + b) (As := As.map (tr G)) (g := F0 m pc ls _) ⟨C.1.1, C.1.2.1, C.1.2.2.1, C.1.2.2.2.1, hts⟩ hM' ⟨hB, hk.2.1.2, hts _ hk.2.1.1⟩ ⟨PcT_blind (.ref b :: As), fun U hU hW => ⟨rfl, by rw [hU]; exact C.2.2.1, EnvOK.moved hW (by rw [hU]; exact C.2.2.2.1) C.1.2.2.2.2.2.1⟩⟩ rfl (by rw [List.length_map]; exact hn) C.2.2.2.2.1.1 (by show _ = _; simp [tr]) ?_ hd ⟨?_, ?_⟩) C kk
  · rw [tr_cats]; show 2 * 0 + _ ≤ 8; omega
  · have := C.2.1.1; omega
  · have := C.2.1.2; omega
theorem T_callIN {idx n b d' mc' ms' : Nat} {j' : MD} {As stk : List Value} {Q' : Option Value → List va_E → Prop} (hd : decode j.2.1 pc = .ok (.invokespecial idx, 3)) (hk : MOk j' ∧ MIni j' ∧ MPar j' n) (hr : j'.2.2.2 = none) (hl : MNk j.1.cls idx j') (hM : T G d' mc' ms' j' 0 (LE j' (.ref b :: As)) [] σ Q') (hn : As.length = n) (hstk : stk = As.reverse ++ .ref b :: st) (h8 : (st.map fun v => v.category).sum ≤ 8) (hL : (LA (.ref b :: As)).length ≤ j'.2.2.1) (hdd : d' + 1 ≤ d) (hmx : j'.2.2.1 ≤ 16) (kk : ∀ r σ', Q' r σ' → T G d mc ms j (pc + 3) L (r.toList ++ st) σ' Q) : T G d (mc' + mc) (ms' + ms) j pc L stk σ Q := by
  intro p l e R s m args below meth c H locs cells slots Qs ls C
  subst hstk
  have hts := C.1.2.2.2.2.1
  have hM' := T.met (l := l) hk.1 hL hM
  have hB := callN_T (n := n) (d' := d') (mc' := mc') (ms' := ms') (R := R) hts C.1.2.2.2.2.2.1.2.1 hk.1 hk.2.2 hl ⟨by have := C.1.2.2.2.2.2.2.2.1; omega, by have := C.1.2.2.2.2.2.2.2.2; omega⟩
  rw [hr] at hB hM'
  refine T_core (va_runIN (host := "WaryHouses") (b := gB G + b) (As := As.map (tr G)) (g := F0 m pc ls _) ⟨C.1.1, C.1.2.1, C.1.2.2.1, C.1.2.2.2.1, hts⟩ hM' ⟨hB, hk.2.1.2, hts _ hk.2.1.1⟩ ⟨PcT_blind (.ref b :: As), fun U hU hW => ⟨rfl, by rw [hU]; exact C.2.2.1, EnvOK.moved hW (by rw [hU]; exact C.2.2.2.1) C.1.2.2.2.2.2.1⟩⟩ rfl (by rw [List.length_map]; exact hn) C.2.2.2.2.1.1 (by show _ = _; simp [tr]) ?_ hd ⟨?_, ?_⟩) C kk
  · rw [tr_cats]; show 2 * 0 + _ ≤ 8; omega
  · have := C.2.1.1; omega
  · have := C.2.1.2; omega
end TN
