/-! the smaller of two, copies of rows, switches -/
section MORE
variable {G : GT} {d mc ms : Nat} {j : MD} {pc : Nat} {L : List (Option Value)} {st : List Value} {σ : List va_E} {Q : Option Value → List va_E → Prop}
theorem I_mmin {idx : Nat} {x y : Int} (hd : decode j.2.1 pc = .ok (.invokestatic idx, 3)) (hl : Cond.methodLink j.1.cls idx Lib.Math.min.name ∈ gtbl) (h8 : (st.map fun v => v.category).sum ≤ 8) (hx : R32 x) (hy : R32 y) (kk : T G (d + 1) mc ms j (pc + 3) L (IV (if y < x then y else x) :: st) σ Q) : T G (d + 1) mc ms j pc L (IV y :: IV x :: st) σ Q := by
  refine T_mmin hd hl h8 ?_
  have e : (if iv y < iv x then iv y else iv x) = iv (if y < x then y else x) := by
    by_cases h : y < x
    · rw [if_pos h, if_pos ((iv_lt hy hx).mpr h)]
    · rw [if_neg h, if_neg (fun z => h ((iv_lt hy hx).mp z))]
  rw [e]
  exact kk
theorem T_copy {idx a0 a t n0 n1 : Nat} {f g : Nat → Int32} {ty : FieldType} {sp dp n : Int32} (hd : decode j.2.1 pc = .ok (.invokestatic idx, 3)) (hl : Cond.methodLink j.1.cls idx arraycopyName ∈ gtbl) (ha0 : σ[a0]? = some (.inl (t, n0, .inl f))) (ha1 : σ[a]? = some (.inl (t, n1, .inl g))) (ht : ∀ G : GT, (tysG G)[t]? = some (G.2.1 t, ty)) (hprim : refKind ty = false) (h1 : ¬ sp < 0) (h2 : ¬ dp < 0) (h3 : ¬ n < 0) (h4 : sp.toNatClampNeg + n.toNatClampNeg ≤ n0) (h5 : dp.toNatClampNeg + n.toNatClampNeg ≤ n1) (hfit : ∀ i, i < n.toNatClampNeg → fits ty (.int (f (sp.toNatClampNeg + i))) = true) (h8 : (st.map fun v => v.category).sum ≤ 8)
    (kk : T G (d + 1) mc ms j (pc + 3) L st (σ.set a (.inl (t, n1, .inl (va_cpy f g sp.toNatClampNeg dp.toNatClampNeg n.toNatClampNeg)))) Q) : T G (d + 1) mc ms j pc L (.int n :: .int dp :: .ref a :: .int sp :: .ref a0 :: st) σ Q := by
  intro p l e R s m args below meth c H locs cells slots Qs ls C
  have nn : ∀ z : Int32, ¬ z < 0 → z.toInt = (z.toNatClampNeg : Int) := by
    intro z hz
    have hz0 : (0 : Int) ≤ z.toInt := by
      have := Int32.not_lt.mp hz
      simpa using Int32.le_iff_toInt_le.mp this
    show z.toInt = ((z.toInt.toNat : Nat) : Int)
    omega
  intro T hT X
  have hts := C.1.2.2.2.2.1
  have hK := C.1.2.2.2.2.2.1.1
  have hc0 : H[gB G + a0]? = some (vp_cell (G.2.1 t) (n0, .inl f)) := C.2.2.1.1 a0 _ (wsG_at ha0)
  have hc1 : H[gB G + a]? = some (vp_cell (G.2.1 t) (n1, .inl g)) := C.2.2.1.1 a _ (wsG_at ha1)
  obtain ⟨-, k0, hk0, cm0, hkk0⟩ := (hK.2 t _ (ht G)).1 n0 (fun j => .int (f j))
  have hfr : 1 ≤ R.frames := by have := C.1.2.2.2.2.2.2.2.1; omega
  have hlo := C.1.2.2.2.2.2.2.2.2
  obtain ⟨vm', X', step⟩ := X.arraycopy C.1.1 C.1.2.2.2.1 (hts _ hl) (hts _ acp_native) (hts _ acp_static) (hts _ acp_ini) (src := gB G + a0) (dst := gB G + a) (cs := vp_cell (G.2.1 t) (n0, .inl f)) (cd := vp_cell (G.2.1 t) (n1, .inl g)) (srcPos := sp) (destPos := dp) (n := n) (by rw [hT]; exact hc0) (by rw [hT]; exact hc1)
    (fun _ h => by cases h) (fun _ h => by cases h) (fun h => by cases h) (fun h => by cases h) hk0 hk0 hkk0 hkk0 (by simp [hprim]) h1 h2 h3
    (by rw [nn sp h1, nn n h3]; show ¬ _ > ((arrV (G.2.1 t) n0 (fun j => .int (f j))).slots.size : Int); rw [arrV_size]; omega)
    (by rw [nn dp h2, nn n h3]; show ¬ _ > ((arrV (G.2.1 t) n1 (fun j => .int (g j))).slots.size : Int); rw [arrV_size]; omega)
    (fun vm₁ _ i hi => by
      have e : (vp_cell (G.2.1 t) (n0, .inl f)).slots.getD (sp.toNatClampNeg + i) .null = .int (f (sp.toNatClampNeg + i)) := by
        show (arrV (G.2.1 t) n0 (fun j => .int (f j))).slots.getD _ _ = _
        rw [Array.getD_eq_getD_getElem?, arrV_read _ _ (by omega)]
        rfl
      refine ⟨?_, ?_⟩
      · rw [e]
        exact hfit i hi
      · rw [e]
        exact trivial)
    (g := F0 m pc ls (.int n :: .int dp :: .ref (gB G + a) :: .int sp :: .ref (gB G + a0) :: st.map (tr G))) rfl (C.2.2.2.2.1.1.trans C.1.2.2.1.symm) (rest := st.map (tr G)) rfl (by rw [C.1.2.1]; exact hd) hfr (by
      rw [tr_cats]
      show 2 * 0 + _ + (7 + 11) ≤ _
      omega)
  have e1 : copied (vp_cell (G.2.1 t) (n0, .inl f)) (vp_cell (G.2.1 t) (n1, .inl g)) sp dp n = vp_cell (G.2.1 t) (n1, .inl (va_cpy f g sp.toNatClampNeg dp.toNatClampNeg n.toNatClampNeg)) := va_copied (fun z => .int z) (G.2.1 t) (G.2.1 t) f g h4
  rw [e1] at X' step
  have hl' : gB G + a < H.size := (Array.getElem?_eq_some_iff.mp hc1).1
  have hheap : ((T.setVm vm').setCell (gB G + a) (vp_cell (G.2.1 t) (n1, .inl (va_cpy f g sp.toNatClampNeg dp.toNatClampNeg n.toNatClampNeg)))).heap = H.setIfInBounds (gB G + a) (vp_cell (G.2.1 t) (n1, .inl (va_cpy f g sp.toNatClampNeg dp.toNatClampNeg n.toNatClampNeg))) := by rw [← hT]; rfl
  have oq : ∀ q : Nat, q ≠ gB G + a → (H.setIfInBounds (gB G + a) (vp_cell (G.2.1 t) (n1, .inl (va_cpy f g sp.toNatClampNeg dp.toNatClampNeg n.toNatClampNeg))))[q]? = H[q]? := fun q hq => by simp [Array.getElem?_setIfInBounds, Ne.symm hq]
  have hS := C.2.2.2.1
  obtain ⟨t', a1, b1⟩ := kk p l e R s m args below meth c _ _ cells slots Qs ls ⟨C.1, C.2.1, rel_set C.2.2.1 ha1 (show (H.setIfInBounds (gB G + a) _)[gB G + a]? = some _ by simp [Array.getElem?_setIfInBounds, hl']) oq (by simp), ⟨by simp; exact hS.1, fun q g1 g2 => by
      rw [oq q (fun e => g2 (by rw [e]; exact Nat.le_add_right _ _))]
      exact hS.2.1 q g1 g2, fun q hq => by
      rcases List.mem_append.mp hq with h | h
      · exact hS.2.2 q h
      · obtain ⟨z, -, hz⟩ := List.mem_map.mp h
        rw [← hz]
        exact Nat.le_add_right _ _⟩, C.2.2.2.2⟩ _ hheap X'
  exact ⟨t', step t' a1, b1⟩
def sC (S : SV) (a b : Nat) (sp dp n : Int) : SV := (S.1, fun a' i => if a' = a ∧ dp ≤ i ∧ i < dp + n then S.2.1 b (sp + (i - dp)) else S.2.1 a' i, S.2.2)
theorem fI_sC (S : SV) (a b : Nat) (sp dp n : Int) (a' k' : Nat) : fI (sC S a b sp dp n) a' k' = fI S a' k' := rfl
theorem rI_sC (S : SV) (a b : Nat) (sp dp n : Int) (a' : Nat) (k' : Int) : rI (sC S a b sp dp n) a' k' = rI S a' k' := rfl
theorem aI_sC (S : SV) (a b : Nat) (sp dp n : Int) (a' : Nat) (i : Int) : aI (sC S a b sp dp n) a' i = if a' = a ∧ dp ≤ i ∧ i < dp + n then aI S b (sp + (i - dp)) else aI S a' i := rfl
variable {K : List SH} {S : SV}
theorem P_copy {idx a0 a t n0 n1 : Nat} {sp dp n : Int} (hd : decode j.2.1 pc = .ok (.invokestatic idx, 3)) (hl : Cond.methodLink j.1.cls idx arraycopyName ∈ gtbl) (h0 : K[a0]? = some (.inl (t, n0))) (h1 : K[a]? = some (.inl (t, n1))) (ht : t < 2) (c : 0 ≤ sp ∧ 0 ≤ dp ∧ 0 ≤ n ∧ sp + n ≤ n0 ∧ dp + n ≤ n1) (hn : n0 ≤ 2147483647 ∧ n1 ≤ 2147483647) (hfit : t = 1 → ∀ i : Int, sp ≤ i → i < sp + n → -128 ≤ aI S a0 i ∧ aI S a0 i < 128) (h8 : (st.map fun v => v.category).sum ≤ 8) (kk : T G (d + 1) mc ms j (pc + 3) L st (HP K (sC S a a0 sp dp n)) Q) : T G (d + 1) mc ms j pc L (IV n :: IV dp :: .ref a :: IV sp :: .ref a0 :: st) (HP K S) Q := by
  obtain ⟨c1, c2, c3, c4, c5⟩ := c
  have e1 := iv_nat c1 (by omega)
  have e2 := iv_nat c2 (by omega)
  have e3 := iv_nat c3 (by omega)
  have z0 : ∀ z : Int, 0 ≤ z → z < 2147483648 → ¬ iv z < 0 := fun z q1 q2 q => by
    have h : iv z < iv 0 := q
    rw [iv_lt ⟨by omega, q2⟩ ⟨by omega, by omega⟩] at h
    omega
  refine T_copy (ty := if t = 0 then .int else .byte) hd hl (by rw [HP_at h0, mkC, if_pos (by omega)]) (by rw [HP_at h1, mkC, if_pos (by omega)]) (fun G => by
    rcases (show t = 0 ∨ t = 1 by omega) with rfl | rfl <;> rfl) (by split <;> rfl) (z0 _ c1 (by omega)) (z0 _ c2 (by omega)) (z0 _ c3 (by omega)) (by rw [e1, e3]; omega) (by rw [e2, e3]; omega) ?_ h8 ?_
  · intro i hi
    rw [e3] at hi
    rcases (show t = 0 ∨ t = 1 by omega) with rfl | rfl
    · rfl
    · have hq := hfit rfl (sp + i) (by omega) (by omega)
      rw [e1]
      have e4 : ((sp.toNat + i : Nat) : Int) = sp + i := by omega
      simp only [e4]
      show fits .byte (.int (iv (aI S a0 (sp + i)))) = true
      have a1 : iv (-128) ≤ iv (aI S a0 (sp + i)) := (iv_le ⟨by omega, by omega⟩ ⟨by omega, by omega⟩).mpr (by omega)
      have a2 : iv (aI S a0 (sp + i)) ≤ iv 127 := (iv_le ⟨by omega, by omega⟩ ⟨by omega, by omega⟩).mpr (by omega)
      show (decide (iv (-128) ≤ iv (aI S a0 (sp + i))) && decide (iv (aI S a0 (sp + i)) ≤ iv 127)) = true
      simp [a1, a2]
  · rw [e1, e2, e3]
    have e5 : (HP K S).set a (.inl (t, n1, .inl (va_cpy (fun i => iv (aI S a0 (i : Nat))) (fun i => iv (aI S a (i : Nat))) sp.toNat dp.toNat n.toNat))) = HP K (sC S a a0 sp dp n) := by
      refine HP_set h1 ?_ ?_
      · simp only [mkC, if_pos (show t < 3 by omega)]
        congr 4
        funext k
        simp only [va_cpy, aI_sC]
        by_cases hk : dp.toNat ≤ k ∧ k < dp.toNat + n.toNat
        · rw [if_pos hk, if_pos ⟨trivial, by omega, by omega⟩]
          congr 2
          omega
        · rw [if_neg hk, if_neg (fun z => hk ⟨by omega, by omega⟩)]
      · intro b y hb
        obtain ⟨t', n'⟩ | ⟨ci', fds'⟩ := y
        · have e6 : aI (sC S a a0 sp dp n) b = aI S b := by funext k; rw [aI_sC, if_neg (fun z => hb z.1)]
          simp only [mkC, e6]
          rfl
        · rfl
    rw [e5]
    exact kk
theorem I_tbl {dflt lo hi : Int} {offs : Array Int} {len : Nat} {x : Int} (hd : decode j.2.1 pc = .ok (.tableswitch dflt lo hi offs, len)) (hx : R32 x) (hz : hi = lo + offs.size - 1) (kd : x < lo ∨ hi < x → ∀ tgt : Nat, (pc : Int) + dflt = tgt → T G d mc ms j tgt L st σ Q) (kc : ∀ i : Nat, i < offs.size → x = lo + i → ∀ (off : Int) (tgt : Nat), offs[i]? = some off → (pc : Int) + off = tgt → T G d mc ms j tgt L st σ Q) (ht : 0 ≤ (pc : Int) + dflt ∧ ∀ i : Nat, i < offs.size → 0 ≤ (pc : Int) + offs[i]!) : T G d mc ms j pc L (IV x :: st) σ Q := by
  by_cases h : x < lo ∨ hi < x
  · exact I_tblOut hd hx h (tgt := ((pc : Int) + dflt).toNat) (by have := ht.1; omega) (kd h _ (by have := ht.1; omega))
  · have h1 : ¬ x < lo := fun z => h (Or.inl z)
    have h2 : ¬ hi < x := fun z => h (Or.inr z)
    have hi' : (x - lo).toNat < offs.size := by omega
    have ho : offs[(x - lo).toNat]? = some offs[(x - lo).toNat]! := by simp [hi']
    have hp := ht.2 _ hi'
    exact I_tblIn hd hx h1 h2 ho (tgt := ((pc : Int) + offs[(x - lo).toNat]!).toNat) (by omega) (kc (x - lo).toNat hi' (by omega) _ _ ho (by omega))
end MORE
