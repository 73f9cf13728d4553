/-! the law: its cases, its loop -/
abbrev mLn (nm : String) : MD := (⟨RL, nm, "([I)Z"⟩, cL_law, 4, some .boolean)
def gn (G : GT) : Nat := G.2.2.2.2.1
def scr (G : GT) (z : Int) : Int := (G.2.2.2.2.2 z.toNat).toInt
theorem scr_R (G : GT) (z : Int) : R32 (scr G z) := ⟨by have := Int32.le_toInt (G.2.2.2.2.2 z.toNat); unfold scr; omega, by have := Int32.toInt_lt (G.2.2.2.2.2 z.toNat); unfold scr; omega⟩
section LAW0
variable {G : GT} {d mc ms : Nat} {j : MD} {pc : Nat} {L : List (Option Value)} {st : List Value} {σ : List va_E} {Q : Option Value → List va_E → Prop}
theorem T_slen (hd : decode j.2.1 pc = .ok (.arraylength, 1)) (k : T G d mc ms j (pc + 1) L (IV (gn G) :: st) σ Q) : T G d mc ms j pc L (.retAddr 100 :: st) σ Q := by
  intro p l e R s m args below meth c H locs cells slots Qs ls C
  have hE := C.1.2.2.2.2.2.1.2.2.2.2.2.2
  have hB := C.1.2.2.2.2.2.1.2.2.2.1
  refine va_slen C.1.1 C.1.2.1 hE.1 (Nat.lt_of_lt_of_le hE.2 hB) (fun z => Nat.not_le.mpr hE.2 z) C.2.2.2.1 hd ?_
  have e : Int32.ofNat G.2.2.2.2.1 = iv (gn G) := by show _ = Int32.ofInt ((gn G : Nat) : Int); rw [Int32.ofInt_eq_ofNat]; rfl
  rw [e]
  exact k _ _ _ _ _ _ _ _ _ _ _ _ _ _ _ _ C
theorem T_sld {z : Int} (hd : decode j.2.1 pc = .ok (.iaload, 1)) (hz : 0 ≤ z ∧ z < gn G) (hn : gn G ≤ 2560) (k : T G d mc ms j (pc + 1) L (IV (scr G z) :: st) σ Q) : T G d mc ms j pc L (IV z :: .retAddr 100 :: st) σ Q := by
  intro p l e R s m args below meth c H locs cells slots Qs ls C
  have hE := C.1.2.2.2.2.2.1.2.2.2.2.2.2
  have hB := C.1.2.2.2.2.2.1.2.2.2.1
  refine va_sld C.1.1 C.1.2.1 hE.1 (Nat.lt_of_lt_of_le hE.2 hB) (fun z => Nat.not_le.mpr hE.2 z) C.2.2.2.1 (iv_in hz.1 hz.2 (by show gn G ≤ _; omega)) hd ?_
  have e : G.2.2.2.2.2 (iv z).toNatClampNeg = iv (scr G z) := by rw [iv_nat hz.1 (by omega)]; exact (iv_of _).symm
  rw [e]
  exact k _ _ _ _ _ _ _ _ _ _ _ _ _ _ _ _ C
theorem L_eq {v off : Int} {tgt : Nat} (hd : decode j.2.1 pc = .ok (.if_icmp .eq off, 3)) (ht : (pc : Int) + off = (tgt : Int)) (k : T G d mc ms j tgt L st σ Q) : T G d mc ms j pc L (IV v :: IV v :: st) σ Q := T_icmp_eq hd ht (fun _ => k) (fun z => absurd rfl z)
theorem R_callVg {K : List SH} {S : SV} {Q : Option Value → List SH → SV → Prop} {idx n b ci d' mc' ms' : Nat} {j' : MD} {As stk : List Value} {fds : List (Option Nat)} {Q' : Option Value → List SH → SV → Prop} {F : u_T} {N : Nat} (hd : decode j.2.1 pc = .ok (.invokevirtual idx, 3)) (hk : MOk j' ∧ MInst j' ∧ MPar j' n) (hl : MLk j.1.cls idx j') (hb : K[b]? = some (.inr (ci, fds))) (hc : vwCl[ci]? = some (j'.1.cls, F, N)) (hM : P G d' mc' ms' j' 0 (LE j' (.ref b :: As)) [] K S Q') (hn : As.length = n) (hstk : stk = As.reverse ++ .ref b :: st) (h8 : (st.map fun v => v.category).sum ≤ 8) (hL : (LA (.ref b :: As)).length ≤ j'.2.2.1) (hdd : d' + 1 ≤ d) (hmx : j'.2.2.1 ≤ 16) (kk : ∀ r K' S', Q' r K' S' → P G d mc ms j (pc + 3) L (r.toList ++ st) K' S' Q) : P G d (mc' + mc) (ms' + ms) j pc L stk K S Q :=
  T_callV hd hk hl (HP_at hb) hc hM hn hstk h8 hL hdd hmx (fun r σ' q => by
    obtain ⟨K', S', rfl, q⟩ := q
    exact kk r K' S' q)
end LAW0
theorem RR.same {K : List SH} {S S' : SV} {M : MS} (h : RR K S M) (hs : Same S S' 453 466) (hr : AllR S') : RR K S' M := by
  obtain ⟨g1, g2, g3, g4, g5, g6⟩ := h
  have ea : ∀ a, 453 ≤ a → a < 466 → ∀ i, aI S' a i = aI S a i := fun a x y => (hs a x y).2.1
  have e : aI S' 454 = aI S 454 := funext (ea 454 (by omega) (by omega))
  have ef := (hs 453 (by omega) (by omega)).1
  refine ⟨⟨g1.1, hr, g1.2.2.1, by rw [e]; exact g1.2.2.2.1, by rw [e]; exact g1.2.2.2.2⟩, ⟨(ef 6).trans g2.1, g2.2.1, fun i a b => ⟨(ea 459 (by omega) (by omega) i).trans (g2.2.2 i a b).1, (g2.2.2 i a b).2⟩⟩, (ef 11).trans g3, g4, RIm.wo g5 (ea 456 (by omega) (by omega)) (ea 457 (by omega) (by omega)), RSh.wo g6 (ea 463 (by omega) (by omega)) (ea 464 (by omega) (by omega)) (ea 465 (by omega) (by omega))⟩
theorem WR.outs {K : List SH} {S S' : SV} {M : MS} {N : Int} (h : WR K S M N) (hO : Outs S S' 453 466) (hr : AllR S') : WR K S' M N := by
  obtain ⟨g1, ⟨g2, g3⟩, ⟨g4, g5⟩, g6, g7, g8⟩ := h
  exact ⟨g1, ⟨g2.outs hO hr (by omega), (hO.f (by omega) 8).trans g3⟩, ⟨g4.same (hO _ _ (by omega)), g5⟩, g6.outs hO hr (by omega) (by omega), g7.outs hO (by omega), g8.outs hO (by omega)⟩
section LAW
variable {nm : String} {G : GT} {mc ms : Nat} {K : List SH} {S : SV} {M : MS} {N i : Int} {Q : Option Value → List SH → SV → Prop}
theorem law_feed (hW : WR K S M N) (hR : RR K S M) (hN : N + 400000 ≤ 1000000000) (hi : 0 ≤ i ∧ i + 5 ≤ gn G) (hn : gn G ≤ 2560) (hk : ∀ (K' : List SH) (S' : SV) (M' : MS), WR K' S' M' (N + 400000) → RR K' S' M' → P G 8 mc ms (mLn nm) 943 [some (.retAddr 100), some (.ref 0), some (.ref 453), some (IV i)] [] K' S' Q) : P G 8 (3 + mc) (44 + ms) (mLn nm) 148 [some (.retAddr 100), some (.ref 0), some (.ref 453), some (IV i)] [] K S Q := by
  have w0 := hW.1.1
  have m0 := hR.1.1.1
  refine T.room (mc' := mc) (ms' := ms) ?_ (Nat.le_refl _) (by omega) (by omega)
  refine T_aload_n dL_law_148 rfl rfl ?_
  refine T_aload_n dL_law_149 rfl rfl ?_
  refine T_iload_n dL_law_150 rfl ?_
  refine I_iconst dL_law_151 ?_
  refine I_iadd dL_law_152 ?_
  refine T_sld dL_law_153 ⟨by omega, by omega⟩ hn ?_
  refine R_callV dL_law_154 kX10_feed lL_13 (by assumption) rfl (p_W_feed hW (scr_R G _)) rfl rfl (Nat.le_of_ble_eq_true rfl) (Nat.le_of_ble_eq_true rfl) (by decide) (by decide) (fun r_ K_ S_ q_ => ?_)
  obtain ⟨rfl, rfl, hW1, hs⟩ := q_
  have hR1 := hR.same hs hW1.allR
  refine T_aload_n dL_law_157 rfl rfl ?_
  refine T_aload_n dL_law_158 rfl rfl ?_
  refine T_iload_n dL_law_159 rfl ?_
  refine I_iconst dL_law_160 ?_
  refine I_iadd dL_law_161 ?_
  refine T_sld dL_law_162 ⟨by omega, by omega⟩ hn ?_
  refine R_callV dL_law_163 kX11_feed lL_17 (by assumption) rfl (p_R_feed hR1 (scr_R G _)) rfl rfl (Nat.le_of_ble_eq_true rfl) (Nat.le_of_ble_eq_true rfl) (by decide) (by decide) (fun r_ K_ S_ q_ => ?_)
  obtain ⟨rfl, rfl, hR2, hO⟩ := q_
  exact L_eq (tgt := 943) dL_law_166 (by decide) (hk _ _ _ ((hW1.outs hO hR2.1.2.1).mono (by omega) hN) hR2)
theorem law_end (hW : WR K S M N) (hR : RR K S M) (hN : N + 400000 ≤ 1000000000) (hi : 0 ≤ i ∧ i + 5 ≤ gn G) (hn : gn G ≤ 2560) (hk : ∀ (K' : List SH) (S' : SV) (M' : MS), WR K' S' M' (N + 400000) → RR K' S' M' → P G 8 mc ms (mLn nm) 943 [some (.retAddr 100), some (.ref 0), some (.ref 453), some (IV i)] [] K' S' Q) : P G 8 (3 + mc) (44 + ms) (mLn nm) 171 [some (.retAddr 100), some (.ref 0), some (.ref 453), some (IV i)] [] K S Q := by
  have w0 := hW.1.1
  have m0 := hR.1.1.1
  refine T.room (mc' := mc) (ms' := ms) ?_ (Nat.le_refl _) (by omega) (by omega)
  refine T_aload_n dL_law_171 rfl rfl ?_
  refine T_aload_n dL_law_172 rfl rfl ?_
  refine T_iload_n dL_law_173 rfl ?_
  refine I_iconst dL_law_174 ?_
  refine I_iadd dL_law_175 ?_
  refine T_sld dL_law_176 ⟨by omega, by omega⟩ hn ?_
  refine R_callV dL_law_177 kX10_end lL_18 (by assumption) rfl (p_W_end hW (scr_R G _)) rfl rfl (Nat.le_of_ble_eq_true rfl) (Nat.le_of_ble_eq_true rfl) (by decide) (by decide) (fun r_ K_ S_ q_ => ?_)
  obtain ⟨rfl, rfl, hW1, hs⟩ := q_
  have hR1 := hR.same hs hW1.allR
  refine T_aload_n dL_law_180 rfl rfl ?_
  refine T_aload_n dL_law_181 rfl rfl ?_
  refine T_iload_n dL_law_182 rfl ?_
  refine I_iconst dL_law_183 ?_
  refine I_iadd dL_law_184 ?_
  refine T_sld dL_law_185 ⟨by omega, by omega⟩ hn ?_
  refine R_callV dL_law_186 kX11_end lL_21 (by assumption) rfl (p_R_end hR1 (scr_R G _)) rfl rfl (Nat.le_of_ble_eq_true rfl) (Nat.le_of_ble_eq_true rfl) (by decide) (by decide) (fun r_ K_ S_ q_ => ?_)
  obtain ⟨rfl, rfl, hR2, hO⟩ := q_
  exact L_eq (tgt := 943) dL_law_189 (by decide) (hk _ _ _ ((hW1.outs hO hR2.1.2.1).mono (by omega) hN) hR2)
theorem law_text (hW : WR K S M N) (hR : RR K S M) (hN : N + 400000 ≤ 1000000000) (hi : 0 ≤ i ∧ i + 5 ≤ gn G) (hn : gn G ≤ 2560) (hk : ∀ (K' : List SH) (S' : SV) (M' : MS), WR K' S' M' (N + 400000) → RR K' S' M' → P G 8 mc ms (mLn nm) 943 [some (.retAddr 100), some (.ref 0), some (.ref 453), some (IV i)] [] K' S' Q) : P G 8 (3 + mc) (44 + ms) (mLn nm) 194 [some (.retAddr 100), some (.ref 0), some (.ref 453), some (IV i)] [] K S Q := by
  have w0 := hW.1.1
  have m0 := hR.1.1.1
  refine T.room (mc' := mc) (ms' := ms) ?_ (Nat.le_refl _) (by omega) (by omega)
  refine T_aload_n dL_law_194 rfl rfl ?_
  refine R_callV dL_law_195 kX10_text lL_22 (by assumption) rfl (p_W_text hW) rfl rfl (Nat.le_of_ble_eq_true rfl) (Nat.le_of_ble_eq_true rfl) (by decide) (by decide) (fun r_ K_ S_ q_ => ?_)
  obtain ⟨rfl, rfl, hW1, hs⟩ := q_
  have hR1 := hR.same hs hW1.allR
  refine T_aload_n dL_law_198 rfl rfl ?_
  refine R_callV dL_law_199 kX11_text lL_26 (by assumption) rfl (p_R_text hR1) rfl rfl (Nat.le_of_ble_eq_true rfl) (Nat.le_of_ble_eq_true rfl) (by decide) (by decide) (fun r_ K_ S_ q_ => ?_)
  obtain ⟨rfl, rfl, hR2, hO⟩ := q_
  exact L_eq (tgt := 943) dL_law_202 (by decide) (hk _ _ _ ((hW1.outs hO hR2.1.2.1).mono (by omega) hN) hR2)
theorem law_fault (hW : WR K S M N) (hR : RR K S M) (hN : N + 400000 ≤ 1000000000) (hi : 0 ≤ i ∧ i + 5 ≤ gn G) (hn : gn G ≤ 2560) (hk : ∀ (K' : List SH) (S' : SV) (M' : MS), WR K' S' M' (N + 400000) → RR K' S' M' → P G 8 mc ms (mLn nm) 943 [some (.retAddr 100), some (.ref 0), some (.ref 453), some (IV i)] [] K' S' Q) : P G 8 (3 + mc) (44 + ms) (mLn nm) 207 [some (.retAddr 100), some (.ref 0), some (.ref 453), some (IV i)] [] K S Q := by
  have w0 := hW.1.1
  have m0 := hR.1.1.1
  refine T.room (mc' := mc) (ms' := ms) ?_ (Nat.le_refl _) (by omega) (by omega)
  refine T_aload_n dL_law_207 rfl rfl ?_
  refine R_callV dL_law_208 kX10_fault lL_27 (by assumption) rfl (p_W_fault hW) rfl rfl (Nat.le_of_ble_eq_true rfl) (Nat.le_of_ble_eq_true rfl) (by decide) (by decide) (fun r_ K_ S_ q_ => ?_)
  obtain ⟨rfl, rfl, hW1, hs⟩ := q_
  have hR1 := hR.same hs hW1.allR
  refine T_aload_n dL_law_211 rfl rfl ?_
  refine R_callV dL_law_212 kX11_fault lL_30 (by assumption) rfl (p_R_fault hR1) rfl rfl (Nat.le_of_ble_eq_true rfl) (Nat.le_of_ble_eq_true rfl) (by decide) (by decide) (fun r_ K_ S_ q_ => ?_)
  obtain ⟨rfl, rfl, hR2, hO⟩ := q_
  exact L_eq (tgt := 943) dL_law_215 (by decide) (hk _ _ _ ((hW1.outs hO hR2.1.2.1).mono (by omega) hN) hR2)
theorem law_rule (hW : WR K S M N) (hR : RR K S M) (hN : N + 400000 ≤ 1000000000) (hi : 0 ≤ i ∧ i + 5 ≤ gn G) (hn : gn G ≤ 2560) (hk : ∀ (K' : List SH) (S' : SV) (M' : MS), WR K' S' M' (N + 400000) → RR K' S' M' → P G 8 mc ms (mLn nm) 943 [some (.retAddr 100), some (.ref 0), some (.ref 453), some (IV i)] [] K' S' Q) : P G 8 (3 + mc) (44 + ms) (mLn nm) 220 [some (.retAddr 100), some (.ref 0), some (.ref 453), some (IV i)] [] K S Q := by
  have w0 := hW.1.1
  have m0 := hR.1.1.1
  refine T.room (mc' := mc) (ms' := ms) ?_ (Nat.le_refl _) (by omega) (by omega)
  refine T_aload_n dL_law_220 rfl rfl ?_
  refine T_aload_n dL_law_221 rfl rfl ?_
  refine T_iload_n dL_law_222 rfl ?_
  refine I_iconst dL_law_223 ?_
  refine I_iadd dL_law_224 ?_
  refine T_sld dL_law_225 ⟨by omega, by omega⟩ hn ?_
  refine R_callV dL_law_226 kX10_rule lL_31 (by assumption) rfl (p_W_rule hW (scr_R G _)) rfl rfl (Nat.le_of_ble_eq_true rfl) (Nat.le_of_ble_eq_true rfl) (by decide) (by decide) (fun r_ K_ S_ q_ => ?_)
  obtain ⟨rfl, rfl, hW1, hs⟩ := q_
  have hR1 := hR.same hs hW1.allR
  refine T_aload_n dL_law_229 rfl rfl ?_
  refine T_aload_n dL_law_230 rfl rfl ?_
  refine T_iload_n dL_law_231 rfl ?_
  refine I_iconst dL_law_232 ?_
  refine I_iadd dL_law_233 ?_
  refine T_sld dL_law_234 ⟨by omega, by omega⟩ hn ?_
  refine R_callV dL_law_235 kX11_rule lL_34 (by assumption) rfl (p_R_rule hR1 (scr_R G _)) rfl rfl (Nat.le_of_ble_eq_true rfl) (Nat.le_of_ble_eq_true rfl) (by decide) (by decide) (fun r_ K_ S_ q_ => ?_)
  obtain ⟨rfl, rfl, hR2, hO⟩ := q_
  exact L_eq (tgt := 943) dL_law_238 (by decide) (hk _ _ _ ((hW1.outs hO hR2.1.2.1).mono (by omega) hN) hR2)
theorem law_house (hW : WR K S M N) (hR : RR K S M) (hN : N + 400000 ≤ 1000000000) (hi : 0 ≤ i ∧ i + 5 ≤ gn G) (hn : gn G ≤ 2560) (hk : ∀ (K' : List SH) (S' : SV) (M' : MS), WR K' S' M' (N + 400000) → RR K' S' M' → P G 8 mc ms (mLn nm) 943 [some (.retAddr 100), some (.ref 0), some (.ref 453), some (IV i)] [] K' S' Q) : P G 8 (3 + mc) (44 + ms) (mLn nm) 243 [some (.retAddr 100), some (.ref 0), some (.ref 453), some (IV i)] [] K S Q := by
  have w0 := hW.1.1
  have m0 := hR.1.1.1
  refine T.room (mc' := mc) (ms' := ms) ?_ (Nat.le_refl _) (by omega) (by omega)
  refine T_aload_n dL_law_243 rfl rfl ?_
  refine T_aload_n dL_law_244 rfl rfl ?_
  refine T_iload_n dL_law_245 rfl ?_
  refine I_iconst dL_law_246 ?_
  refine I_iadd dL_law_247 ?_
  refine T_sld dL_law_248 ⟨by omega, by omega⟩ hn ?_
  refine T_aload_n dL_law_249 rfl rfl ?_
  refine T_iload_n dL_law_250 rfl ?_
  refine I_iconst dL_law_251 ?_
  refine I_iadd dL_law_252 ?_
  refine T_sld dL_law_253 ⟨by omega, by omega⟩ hn ?_
  refine R_callV dL_law_254 kX10_house lL_35 (by assumption) rfl (p_W_house hW (scr_R G _) (scr_R G _)) rfl rfl (Nat.le_of_ble_eq_true rfl) (Nat.le_of_ble_eq_true rfl) (by decide) (by decide) (fun r_ K_ S_ q_ => ?_)
  obtain ⟨rfl, rfl, hW1, hs⟩ := q_
  have hR1 := hR.same hs hW1.allR
  refine T_aload_n dL_law_257 rfl rfl ?_
  refine T_aload_n dL_law_258 rfl rfl ?_
  refine T_iload_n dL_law_259 rfl ?_
  refine I_iconst dL_law_260 ?_
  refine I_iadd dL_law_261 ?_
  refine T_sld dL_law_262 ⟨by omega, by omega⟩ hn ?_
  refine T_aload_n dL_law_263 rfl rfl ?_
  refine T_iload_n dL_law_264 rfl ?_
  refine I_iconst dL_law_265 ?_
  refine I_iadd dL_law_266 ?_
  refine T_sld dL_law_267 ⟨by omega, by omega⟩ hn ?_
  refine R_callV dL_law_268 kX11_house lL_39 (by assumption) rfl (p_R_house hR1 (scr_R G _) (scr_R G _)) rfl rfl (Nat.le_of_ble_eq_true rfl) (Nat.le_of_ble_eq_true rfl) (by decide) (by decide) (fun r_ K_ S_ q_ => ?_)
  obtain ⟨rfl, rfl, hR2, hO⟩ := q_
  exact L_eq (tgt := 943) dL_law_271 (by decide) (hk _ _ _ ((hW1.outs hO hR2.1.2.1).mono (by omega) hN) hR2)
theorem law_receiver (hW : WR K S M N) (hR : RR K S M) (hN : N + 400000 ≤ 1000000000) (hi : 0 ≤ i ∧ i + 5 ≤ gn G) (hn : gn G ≤ 2560) (hk : ∀ (K' : List SH) (S' : SV) (M' : MS), WR K' S' M' (N + 400000) → RR K' S' M' → P G 8 mc ms (mLn nm) 943 [some (.retAddr 100), some (.ref 0), some (.ref 453), some (IV i)] [] K' S' Q) : P G 8 (3 + mc) (44 + ms) (mLn nm) 276 [some (.retAddr 100), some (.ref 0), some (.ref 453), some (IV i)] [] K S Q := by
  have w0 := hW.1.1
  have m0 := hR.1.1.1
  refine T.room (mc' := mc) (ms' := ms) ?_ (Nat.le_refl _) (by omega) (by omega)
  refine T_aload_n dL_law_276 rfl rfl ?_
  refine T_aload_n dL_law_277 rfl rfl ?_
  refine T_iload_n dL_law_278 rfl ?_
  refine I_iconst dL_law_279 ?_
  refine I_iadd dL_law_280 ?_
  refine T_sld dL_law_281 ⟨by omega, by omega⟩ hn ?_
  refine T_aload_n dL_law_282 rfl rfl ?_
  refine T_iload_n dL_law_283 rfl ?_
  refine I_iconst dL_law_284 ?_
  refine I_iadd dL_law_285 ?_
  refine T_sld dL_law_286 ⟨by omega, by omega⟩ hn ?_
  refine T_aload_n dL_law_287 rfl rfl ?_
  refine T_iload_n dL_law_288 rfl ?_
  refine I_iconst dL_law_289 ?_
  refine I_iadd dL_law_290 ?_
  refine T_sld dL_law_291 ⟨by omega, by omega⟩ hn ?_
  refine R_callV dL_law_292 kX10_receiver lL_40 (by assumption) rfl (p_W_receiver hW (scr_R G _) (scr_R G _) (scr_R G _)) rfl rfl (Nat.le_of_ble_eq_true rfl) (Nat.le_of_ble_eq_true rfl) (by decide) (by decide) (fun r_ K_ S_ q_ => ?_)
  obtain ⟨rfl, rfl, hW1, hs⟩ := q_
  have hR1 := hR.same hs hW1.allR
  refine T_aload_n dL_law_295 rfl rfl ?_
  refine T_aload_n dL_law_296 rfl rfl ?_
  refine T_iload_n dL_law_297 rfl ?_
  refine I_iconst dL_law_298 ?_
  refine I_iadd dL_law_299 ?_
  refine T_sld dL_law_300 ⟨by omega, by omega⟩ hn ?_
  refine T_aload_n dL_law_301 rfl rfl ?_
  refine T_iload_n dL_law_302 rfl ?_
  refine I_iconst dL_law_303 ?_
  refine I_iadd dL_law_304 ?_
  refine T_sld dL_law_305 ⟨by omega, by omega⟩ hn ?_
  refine T_aload_n dL_law_306 rfl rfl ?_
  refine T_iload_n dL_law_307 rfl ?_
  refine I_iconst dL_law_308 ?_
  refine I_iadd dL_law_309 ?_
  refine T_sld dL_law_310 ⟨by omega, by omega⟩ hn ?_
  refine R_callV dL_law_311 kX11_receiver lL_44 (by assumption) rfl (p_R_receiver hR1 (scr_R G _) (scr_R G _) (scr_R G _)) rfl rfl (Nat.le_of_ble_eq_true rfl) (Nat.le_of_ble_eq_true rfl) (by decide) (by decide) (fun r_ K_ S_ q_ => ?_)
  obtain ⟨rfl, rfl, hR2, hO⟩ := q_
  exact L_eq (tgt := 943) dL_law_314 (by decide) (hk _ _ _ ((hW1.outs hO hR2.1.2.1).mono (by omega) hN) hR2)
theorem law_address (hW : WR K S M N) (hR : RR K S M) (hN : N + 400000 ≤ 1000000000) (hi : 0 ≤ i ∧ i + 5 ≤ gn G) (hn : gn G ≤ 2560) (hk : ∀ (K' : List SH) (S' : SV) (M' : MS), WR K' S' M' (N + 400000) → RR K' S' M' → P G 8 mc ms (mLn nm) 943 [some (.retAddr 100), some (.ref 0), some (.ref 453), some (IV i)] [] K' S' Q) : P G 8 (3 + mc) (44 + ms) (mLn nm) 319 [some (.retAddr 100), some (.ref 0), some (.ref 453), some (IV i)] [] K S Q := by
  have w0 := hW.1.1
  have m0 := hR.1.1.1
  refine T.room (mc' := mc) (ms' := ms) ?_ (Nat.le_refl _) (by omega) (by omega)
  refine T_aload_n dL_law_319 rfl rfl ?_
  refine T_aload_n dL_law_320 rfl rfl ?_
  refine T_iload_n dL_law_321 rfl ?_
  refine I_iconst dL_law_322 ?_
  refine I_iadd dL_law_323 ?_
  refine T_sld dL_law_324 ⟨by omega, by omega⟩ hn ?_
  refine T_aload_n dL_law_325 rfl rfl ?_
  refine T_iload_n dL_law_326 rfl ?_
  refine I_iconst dL_law_327 ?_
  refine I_iadd dL_law_328 ?_
  refine T_sld dL_law_329 ⟨by omega, by omega⟩ hn ?_
  refine R_callV dL_law_330 kX10_address lL_45 (by assumption) rfl (p_W_address hW (scr_R G _) (scr_R G _)) rfl rfl (Nat.le_of_ble_eq_true rfl) (Nat.le_of_ble_eq_true rfl) (by decide) (by decide) (fun r_ K_ S_ q_ => ?_)
  obtain ⟨rfl, rfl, hW1, hs⟩ := q_
  have hR1 := hR.same hs hW1.allR
  refine T_aload_n dL_law_333 rfl rfl ?_
  refine T_aload_n dL_law_334 rfl rfl ?_
  refine T_iload_n dL_law_335 rfl ?_
  refine I_iconst dL_law_336 ?_
  refine I_iadd dL_law_337 ?_
  refine T_sld dL_law_338 ⟨by omega, by omega⟩ hn ?_
  refine T_aload_n dL_law_339 rfl rfl ?_
  refine T_iload_n dL_law_340 rfl ?_
  refine I_iconst dL_law_341 ?_
  refine I_iadd dL_law_342 ?_
  refine T_sld dL_law_343 ⟨by omega, by omega⟩ hn ?_
  refine R_callV dL_law_344 kX11_address lL_48 (by assumption) rfl (p_R_address hR1 (scr_R G _) (scr_R G _)) rfl rfl (Nat.le_of_ble_eq_true rfl) (Nat.le_of_ble_eq_true rfl) (by decide) (by decide) (fun r_ K_ S_ q_ => ?_)
  obtain ⟨rfl, rfl, hR2, hO⟩ := q_
  exact L_eq (tgt := 943) dL_law_347 (by decide) (hk _ _ _ ((hW1.outs hO hR2.1.2.1).mono (by omega) hN) hR2)
theorem law_leads (hW : WR K S M N) (hR : RR K S M) (hN : N + 400000 ≤ 1000000000) (hi : 0 ≤ i ∧ i + 5 ≤ gn G) (hn : gn G ≤ 2560) (hk : ∀ (K' : List SH) (S' : SV) (M' : MS), WR K' S' M' (N + 400000) → RR K' S' M' → P G 8 mc ms (mLn nm) 943 [some (.retAddr 100), some (.ref 0), some (.ref 453), some (IV i)] [] K' S' Q) : P G 8 (3 + mc) (44 + ms) (mLn nm) 352 [some (.retAddr 100), some (.ref 0), some (.ref 453), some (IV i)] [] K S Q := by
  have w0 := hW.1.1
  have m0 := hR.1.1.1
  refine T.room (mc' := mc) (ms' := ms) ?_ (Nat.le_refl _) (by omega) (by omega)
  refine T_aload_n dL_law_352 rfl rfl ?_
  refine T_aload_n dL_law_353 rfl rfl ?_
  refine T_iload_n dL_law_354 rfl ?_
  refine I_iconst dL_law_355 ?_
  refine I_iadd dL_law_356 ?_
  refine T_sld dL_law_357 ⟨by omega, by omega⟩ hn ?_
  refine T_aload_n dL_law_358 rfl rfl ?_
  refine T_iload_n dL_law_359 rfl ?_
  refine I_iconst dL_law_360 ?_
  refine I_iadd dL_law_361 ?_
  refine T_sld dL_law_362 ⟨by omega, by omega⟩ hn ?_
  refine R_callV dL_law_363 kX10_leads lL_49 (by assumption) rfl (p_W_leads hW (scr_R G _) (scr_R G _)) rfl rfl (Nat.le_of_ble_eq_true rfl) (Nat.le_of_ble_eq_true rfl) (by decide) (by decide) (fun r_ K_ S_ q_ => ?_)
  obtain ⟨rfl, rfl, hW1, hs⟩ := q_
  have hR1 := hR.same hs hW1.allR
  refine T_aload_n dL_law_366 rfl rfl ?_
  refine T_aload_n dL_law_367 rfl rfl ?_
  refine T_iload_n dL_law_368 rfl ?_
  refine I_iconst dL_law_369 ?_
  refine I_iadd dL_law_370 ?_
  refine T_sld dL_law_371 ⟨by omega, by omega⟩ hn ?_
  refine T_aload_n dL_law_372 rfl rfl ?_
  refine T_iload_n dL_law_373 rfl ?_
  refine I_iconst dL_law_374 ?_
  refine I_iadd dL_law_375 ?_
  refine T_sld dL_law_376 ⟨by omega, by omega⟩ hn ?_
  refine R_callV dL_law_377 kX11_leads lL_52 (by assumption) rfl (p_R_leads hR1 (scr_R G _) (scr_R G _)) rfl rfl (Nat.le_of_ble_eq_true rfl) (Nat.le_of_ble_eq_true rfl) (by decide) (by decide) (fun r_ K_ S_ q_ => ?_)
  obtain ⟨rfl, rfl, hR2, hO⟩ := q_
  exact L_eq (tgt := 943) dL_law_380 (by decide) (hk _ _ _ ((hW1.outs hO hR2.1.2.1).mono (by omega) hN) hR2)
theorem law_reaches (hW : WR K S M N) (hR : RR K S M) (hN : N + 400000 ≤ 1000000000) (hi : 0 ≤ i ∧ i + 5 ≤ gn G) (hn : gn G ≤ 2560) (hk : ∀ (K' : List SH) (S' : SV) (M' : MS), WR K' S' M' (N + 400000) → RR K' S' M' → P G 8 mc ms (mLn nm) 943 [some (.retAddr 100), some (.ref 0), some (.ref 453), some (IV i)] [] K' S' Q) : P G 8 (3 + mc) (44 + ms) (mLn nm) 385 [some (.retAddr 100), some (.ref 0), some (.ref 453), some (IV i)] [] K S Q := by
  have w0 := hW.1.1
  have m0 := hR.1.1.1
  refine T.room (mc' := mc) (ms' := ms) ?_ (Nat.le_refl _) (by omega) (by omega)
  refine T_aload_n dL_law_385 rfl rfl ?_
  refine T_aload_n dL_law_386 rfl rfl ?_
  refine T_iload_n dL_law_387 rfl ?_
  refine I_iconst dL_law_388 ?_
  refine I_iadd dL_law_389 ?_
  refine T_sld dL_law_390 ⟨by omega, by omega⟩ hn ?_
  refine T_aload_n dL_law_391 rfl rfl ?_
  refine T_iload_n dL_law_392 rfl ?_
  refine I_iconst dL_law_393 ?_
  refine I_iadd dL_law_394 ?_
  refine T_sld dL_law_395 ⟨by omega, by omega⟩ hn ?_
  refine R_callV dL_law_396 kX10_reaches lL_53 (by assumption) rfl (p_W_reaches hW (scr_R G _) (scr_R G _)) rfl rfl (Nat.le_of_ble_eq_true rfl) (Nat.le_of_ble_eq_true rfl) (by decide) (by decide) (fun r_ K_ S_ q_ => ?_)
  obtain ⟨rfl, rfl, hW1, hs⟩ := q_
  have hR1 := hR.same hs hW1.allR
  refine T_aload_n dL_law_399 rfl rfl ?_
  refine T_aload_n dL_law_400 rfl rfl ?_
  refine T_iload_n dL_law_401 rfl ?_
  refine I_iconst dL_law_402 ?_
  refine I_iadd dL_law_403 ?_
  refine T_sld dL_law_404 ⟨by omega, by omega⟩ hn ?_
  refine T_aload_n dL_law_405 rfl rfl ?_
  refine T_iload_n dL_law_406 rfl ?_
  refine I_iconst dL_law_407 ?_
  refine I_iadd dL_law_408 ?_
  refine T_sld dL_law_409 ⟨by omega, by omega⟩ hn ?_
  refine R_callV dL_law_410 kX11_reaches lL_56 (by assumption) rfl (p_R_reaches hR1 (scr_R G _) (scr_R G _)) rfl rfl (Nat.le_of_ble_eq_true rfl) (Nat.le_of_ble_eq_true rfl) (by decide) (by decide) (fun r_ K_ S_ q_ => ?_)
  obtain ⟨rfl, rfl, hR2, hO⟩ := q_
  exact L_eq (tgt := 943) dL_law_413 (by decide) (hk _ _ _ ((hW1.outs hO hR2.1.2.1).mono (by omega) hN) hR2)
theorem law_send (hW : WR K S M N) (hR : RR K S M) (hN : N + 400000 ≤ 1000000000) (hi : 0 ≤ i ∧ i + 5 ≤ gn G) (hn : gn G ≤ 2560) (hk : ∀ (K' : List SH) (S' : SV) (M' : MS), WR K' S' M' (N + 400000) → RR K' S' M' → P G 8 mc ms (mLn nm) 943 [some (.retAddr 100), some (.ref 0), some (.ref 453), some (IV i)] [] K' S' Q) : P G 8 (3 + mc) (44 + ms) (mLn nm) 418 [some (.retAddr 100), some (.ref 0), some (.ref 453), some (IV i)] [] K S Q := by
  have w0 := hW.1.1
  have m0 := hR.1.1.1
  refine T.room (mc' := mc) (ms' := ms) ?_ (Nat.le_refl _) (by omega) (by omega)
  refine T_aload_n dL_law_418 rfl rfl ?_
  refine T_aload_n dL_law_419 rfl rfl ?_
  refine T_iload_n dL_law_420 rfl ?_
  refine I_iconst dL_law_421 ?_
  refine I_iadd dL_law_422 ?_
  refine T_sld dL_law_423 ⟨by omega, by omega⟩ hn ?_
  refine T_aload_n dL_law_424 rfl rfl ?_
  refine T_iload_n dL_law_425 rfl ?_
  refine I_iconst dL_law_426 ?_
  refine I_iadd dL_law_427 ?_
  refine T_sld dL_law_428 ⟨by omega, by omega⟩ hn ?_
  refine T_aload_n dL_law_429 rfl rfl ?_
  refine T_iload_n dL_law_430 rfl ?_
  refine I_iconst dL_law_431 ?_
  refine I_iadd dL_law_432 ?_
  refine T_sld dL_law_433 ⟨by omega, by omega⟩ hn ?_
  refine R_callV dL_law_434 kX10_send lL_57 (by assumption) rfl (p_W_send hW (scr_R G _) (scr_R G _) (scr_R G _) (by omega)) rfl rfl (Nat.le_of_ble_eq_true rfl) (Nat.le_of_ble_eq_true rfl) (by decide) (by decide) (fun r_ K_ S_ q_ => ?_)
  obtain ⟨rfl, rfl, hW1, hs⟩ := q_
  have hR1 := hR.same hs hW1.allR
  refine T_aload_n dL_law_437 rfl rfl ?_
  refine T_aload_n dL_law_438 rfl rfl ?_
  refine T_iload_n dL_law_439 rfl ?_
  refine I_iconst dL_law_440 ?_
  refine I_iadd dL_law_441 ?_
  refine T_sld dL_law_442 ⟨by omega, by omega⟩ hn ?_
  refine T_aload_n dL_law_443 rfl rfl ?_
  refine T_iload_n dL_law_444 rfl ?_
  refine I_iconst dL_law_445 ?_
  refine I_iadd dL_law_446 ?_
  refine T_sld dL_law_447 ⟨by omega, by omega⟩ hn ?_
  refine T_aload_n dL_law_448 rfl rfl ?_
  refine T_iload_n dL_law_449 rfl ?_
  refine I_iconst dL_law_450 ?_
  refine I_iadd dL_law_451 ?_
  refine T_sld dL_law_452 ⟨by omega, by omega⟩ hn ?_
  refine R_callV dL_law_453 kX11_send lL_60 (by assumption) rfl (p_R_send hR1 hW.pu (scr_R G _) (scr_R G _) (scr_R G _)) rfl rfl (Nat.le_of_ble_eq_true rfl) (Nat.le_of_ble_eq_true rfl) (by decide) (by decide) (fun r_ K_ S_ q_ => ?_)
  obtain ⟨rfl, rfl, hR2, hO⟩ := q_
  exact L_eq (tgt := 943) dL_law_456 (by decide) (hk _ _ _ ((hW1.outs hO hR2.1.2.1).mono (by omega) hN) hR2)
theorem law_tick (hW : WR K S M N) (hR : RR K S M) (hN : N + 400000 ≤ 1000000000) (hi : 0 ≤ i ∧ i + 5 ≤ gn G) (hn : gn G ≤ 2560) (hk : ∀ (K' : List SH) (S' : SV) (M' : MS), WR K' S' M' (N + 400000) → RR K' S' M' → P G 8 mc ms (mLn nm) 943 [some (.retAddr 100), some (.ref 0), some (.ref 453), some (IV i)] [] K' S' Q) : P G 8 (3 + mc) (44 + ms) (mLn nm) 461 [some (.retAddr 100), some (.ref 0), some (.ref 453), some (IV i)] [] K S Q := by
  have w0 := hW.1.1
  have m0 := hR.1.1.1
  refine T.room (mc' := mc) (ms' := ms) ?_ (Nat.le_refl _) (by omega) (by omega)
  refine T_aload_n dL_law_461 rfl rfl ?_
  refine T_aload_n dL_law_462 rfl rfl ?_
  refine T_iload_n dL_law_463 rfl ?_
  refine I_iconst dL_law_464 ?_
  refine I_iadd dL_law_465 ?_
  refine T_sld dL_law_466 ⟨by omega, by omega⟩ hn ?_
  refine R_callV dL_law_467 kX10_tick lL_61 (by assumption) rfl (p_W_tick hW (scr_R G _) (by omega)) rfl rfl (Nat.le_of_ble_eq_true rfl) (Nat.le_of_ble_eq_true rfl) (by decide) (by decide) (fun r_ K_ S_ q_ => ?_)
  obtain ⟨rfl, rfl, hW1, hs⟩ := q_
  have hR1 := hR.same hs hW1.allR
  refine T_aload_n dL_law_470 rfl rfl ?_
  refine T_aload_n dL_law_471 rfl rfl ?_
  refine T_iload_n dL_law_472 rfl ?_
  refine I_iconst dL_law_473 ?_
  refine I_iadd dL_law_474 ?_
  refine T_sld dL_law_475 ⟨by omega, by omega⟩ hn ?_
  refine R_callV dL_law_476 kX11_tick lL_64 (by assumption) rfl (p_R_tick hR1 hW.pu (scr_R G _) (by omega)) rfl rfl (Nat.le_of_ble_eq_true rfl) (Nat.le_of_ble_eq_true rfl) (by decide) (by decide) (fun r_ K_ S_ q_ => ?_)
  obtain ⟨rfl, rfl, hR2, hO⟩ := q_
  exact L_eq (tgt := 943) dL_law_479 (by decide) (hk _ _ _ ((hW1.outs hO hR2.1.2.1).mono (by omega) hN) hR2)
theorem law_run (hW : WR K S M N) (hR : RR K S M) (hN : N + 400000 ≤ 1000000000) (hi : 0 ≤ i ∧ i + 5 ≤ gn G) (hn : gn G ≤ 2560) (hk : ∀ (K' : List SH) (S' : SV) (M' : MS), WR K' S' M' (N + 400000) → RR K' S' M' → P G 8 mc ms (mLn nm) 943 [some (.retAddr 100), some (.ref 0), some (.ref 453), some (IV i)] [] K' S' Q) : P G 8 (3 + mc) (44 + ms) (mLn nm) 484 [some (.retAddr 100), some (.ref 0), some (.ref 453), some (IV i)] [] K S Q := by
  have w0 := hW.1.1
  have m0 := hR.1.1.1
  refine T.room (mc' := mc) (ms' := ms) ?_ (Nat.le_refl _) (by omega) (by omega)
  refine T_aload_n dL_law_484 rfl rfl ?_
  refine T_aload_n dL_law_485 rfl rfl ?_
  refine T_iload_n dL_law_486 rfl ?_
  refine I_iconst dL_law_487 ?_
  refine I_iadd dL_law_488 ?_
  refine T_sld dL_law_489 ⟨by omega, by omega⟩ hn ?_
  refine R_callV dL_law_490 kX10_run lL_65 (by assumption) rfl (p_W_run hW (scr_R G _) (by omega)) rfl rfl (Nat.le_of_ble_eq_true rfl) (Nat.le_of_ble_eq_true rfl) (by decide) (by decide) (fun r_ K_ S_ q_ => ?_)
  obtain ⟨rfl, rfl, hW1, hs⟩ := q_
  have hR1 := hR.same hs hW1.allR
  refine T_aload_n dL_law_493 rfl rfl ?_
  refine T_aload_n dL_law_494 rfl rfl ?_
  refine T_iload_n dL_law_495 rfl ?_
  refine I_iconst dL_law_496 ?_
  refine I_iadd dL_law_497 ?_
  refine T_sld dL_law_498 ⟨by omega, by omega⟩ hn ?_
  refine R_callV dL_law_499 kX11_run lL_68 (by assumption) rfl (p_R_run hR1 hW.pu (scr_R G _) (by omega)) rfl rfl (Nat.le_of_ble_eq_true rfl) (Nat.le_of_ble_eq_true rfl) (by decide) (by decide) (fun r_ K_ S_ q_ => ?_)
  obtain ⟨rfl, rfl, hR2, hO⟩ := q_
  exact L_eq (tgt := 943) dL_law_502 (by decide) (hk _ _ _ ((hW1.outs hO hR2.1.2.1).mono (by omega) hN) hR2)
theorem law_set (hW : WR K S M N) (hR : RR K S M) (hN : N + 400000 ≤ 1000000000) (hi : 0 ≤ i ∧ i + 5 ≤ gn G) (hn : gn G ≤ 2560) (hk : ∀ (K' : List SH) (S' : SV) (M' : MS), WR K' S' M' (N + 400000) → RR K' S' M' → P G 8 mc ms (mLn nm) 943 [some (.retAddr 100), some (.ref 0), some (.ref 453), some (IV i)] [] K' S' Q) : P G 8 (3 + mc) (44 + ms) (mLn nm) 507 [some (.retAddr 100), some (.ref 0), some (.ref 453), some (IV i)] [] K S Q := by
  have w0 := hW.1.1
  have m0 := hR.1.1.1
  refine T.room (mc' := mc) (ms' := ms) ?_ (Nat.le_refl _) (by omega) (by omega)
  refine T_aload_n dL_law_507 rfl rfl ?_
  refine T_aload_n dL_law_508 rfl rfl ?_
  refine T_iload_n dL_law_509 rfl ?_
  refine I_iconst dL_law_510 ?_
  refine I_iadd dL_law_511 ?_
  refine T_sld dL_law_512 ⟨by omega, by omega⟩ hn ?_
  refine T_aload_n dL_law_513 rfl rfl ?_
  refine T_iload_n dL_law_514 rfl ?_
  refine I_iconst dL_law_515 ?_
  refine I_iadd dL_law_516 ?_
  refine T_sld dL_law_517 ⟨by omega, by omega⟩ hn ?_
  refine R_callV dL_law_518 kX10_set lL_69 (by assumption) rfl (p_W_set hW (scr_R G _) (scr_R G _)) rfl rfl (Nat.le_of_ble_eq_true rfl) (Nat.le_of_ble_eq_true rfl) (by decide) (by decide) (fun r_ K_ S_ q_ => ?_)
  obtain ⟨rfl, rfl, hW1, hs⟩ := q_
  have hR1 := hR.same hs hW1.allR
  refine T_aload_n dL_law_521 rfl rfl ?_
  refine T_aload_n dL_law_522 rfl rfl ?_
  refine T_iload_n dL_law_523 rfl ?_
  refine I_iconst dL_law_524 ?_
  refine I_iadd dL_law_525 ?_
  refine T_sld dL_law_526 ⟨by omega, by omega⟩ hn ?_
  refine T_aload_n dL_law_527 rfl rfl ?_
  refine T_iload_n dL_law_528 rfl ?_
  refine I_iconst dL_law_529 ?_
  refine I_iadd dL_law_530 ?_
  refine T_sld dL_law_531 ⟨by omega, by omega⟩ hn ?_
  refine R_callV dL_law_532 kX11_set lL_72 (by assumption) rfl (p_R_set hR1 (scr_R G _) (scr_R G _)) rfl rfl (Nat.le_of_ble_eq_true rfl) (Nat.le_of_ble_eq_true rfl) (by decide) (by decide) (fun r_ K_ S_ q_ => ?_)
  obtain ⟨rfl, rfl, hR2, hO⟩ := q_
  exact L_eq (tgt := 943) dL_law_535 (by decide) (hk _ _ _ ((hW1.outs hO hR2.1.2.1).mono (by omega) hN) hR2)
theorem law_item (hW : WR K S M N) (hR : RR K S M) (hN : N + 400000 ≤ 1000000000) (hi : 0 ≤ i ∧ i + 5 ≤ gn G) (hn : gn G ≤ 2560) (hk : ∀ (K' : List SH) (S' : SV) (M' : MS), WR K' S' M' (N + 400000) → RR K' S' M' → P G 8 mc ms (mLn nm) 943 [some (.retAddr 100), some (.ref 0), some (.ref 453), some (IV i)] [] K' S' Q) : P G 8 (3 + mc) (44 + ms) (mLn nm) 540 [some (.retAddr 100), some (.ref 0), some (.ref 453), some (IV i)] [] K S Q := by
  have w0 := hW.1.1
  have m0 := hR.1.1.1
  refine T.room (mc' := mc) (ms' := ms) ?_ (Nat.le_refl _) (by omega) (by omega)
  refine T_aload_n dL_law_540 rfl rfl ?_
  refine T_aload_n dL_law_541 rfl rfl ?_
  refine T_iload_n dL_law_542 rfl ?_
  refine I_iconst dL_law_543 ?_
  refine I_iadd dL_law_544 ?_
  refine T_sld dL_law_545 ⟨by omega, by omega⟩ hn ?_
  refine T_aload_n dL_law_546 rfl rfl ?_
  refine T_iload_n dL_law_547 rfl ?_
  refine I_iconst dL_law_548 ?_
  refine I_iadd dL_law_549 ?_
  refine T_sld dL_law_550 ⟨by omega, by omega⟩ hn ?_
  refine T_aload_n dL_law_551 rfl rfl ?_
  refine T_iload_n dL_law_552 rfl ?_
  refine I_iconst dL_law_553 ?_
  refine I_iadd dL_law_554 ?_
  refine T_sld dL_law_555 ⟨by omega, by omega⟩ hn ?_
  refine R_callV dL_law_556 kX10_item lL_73 (by assumption) rfl (p_W_item hW (scr_R G _) (scr_R G _) (scr_R G _)) rfl rfl (Nat.le_of_ble_eq_true rfl) (Nat.le_of_ble_eq_true rfl) (by decide) (by decide) (fun r_ K_ S_ q_ => ?_)
  obtain ⟨rfl, rfl, hW1, hs⟩ := q_
  have hR1 := hR.same hs hW1.allR
  refine T_aload_n dL_law_559 rfl rfl ?_
  refine T_aload_n dL_law_560 rfl rfl ?_
  refine T_iload_n dL_law_561 rfl ?_
  refine I_iconst dL_law_562 ?_
  refine I_iadd dL_law_563 ?_
  refine T_sld dL_law_564 ⟨by omega, by omega⟩ hn ?_
  refine T_aload_n dL_law_565 rfl rfl ?_
  refine T_iload_n dL_law_566 rfl ?_
  refine I_iconst dL_law_567 ?_
  refine I_iadd dL_law_568 ?_
  refine T_sld dL_law_569 ⟨by omega, by omega⟩ hn ?_
  refine T_aload_n dL_law_570 rfl rfl ?_
  refine T_iload_n dL_law_571 rfl ?_
  refine I_iconst dL_law_572 ?_
  refine I_iadd dL_law_573 ?_
  refine T_sld dL_law_574 ⟨by omega, by omega⟩ hn ?_
  refine R_callV dL_law_575 kX11_item lL_76 (by assumption) rfl (p_R_item hR1 (scr_R G _) (scr_R G _) (scr_R G _)) rfl rfl (Nat.le_of_ble_eq_true rfl) (Nat.le_of_ble_eq_true rfl) (by decide) (by decide) (fun r_ K_ S_ q_ => ?_)
  obtain ⟨rfl, rfl, hR2, hO⟩ := q_
  exact L_eq (tgt := 943) dL_law_578 (by decide) (hk _ _ _ ((hW1.outs hO hR2.1.2.1).mono (by omega) hN) hR2)
theorem law_asks (hW : WR K S M N) (hR : RR K S M) (hN : N + 400000 ≤ 1000000000) (hi : 0 ≤ i ∧ i + 5 ≤ gn G) (hn : gn G ≤ 2560) (hk : ∀ (K' : List SH) (S' : SV) (M' : MS), WR K' S' M' (N + 400000) → RR K' S' M' → P G 8 mc ms (mLn nm) 943 [some (.retAddr 100), some (.ref 0), some (.ref 453), some (IV i)] [] K' S' Q) : P G 8 (3 + mc) (44 + ms) (mLn nm) 583 [some (.retAddr 100), some (.ref 0), some (.ref 453), some (IV i)] [] K S Q := by
  have w0 := hW.1.1
  have m0 := hR.1.1.1
  refine T.room (mc' := mc) (ms' := ms) ?_ (Nat.le_refl _) (by omega) (by omega)
  refine T_aload_n dL_law_583 rfl rfl ?_
  refine T_aload_n dL_law_584 rfl rfl ?_
  refine T_iload_n dL_law_585 rfl ?_
  refine I_iconst dL_law_586 ?_
  refine I_iadd dL_law_587 ?_
  refine T_sld dL_law_588 ⟨by omega, by omega⟩ hn ?_
  refine T_aload_n dL_law_589 rfl rfl ?_
  refine T_iload_n dL_law_590 rfl ?_
  refine I_iconst dL_law_591 ?_
  refine I_iadd dL_law_592 ?_
  refine T_sld dL_law_593 ⟨by omega, by omega⟩ hn ?_
  refine T_aload_n dL_law_594 rfl rfl ?_
  refine T_iload_n dL_law_595 rfl ?_
  refine I_iconst dL_law_596 ?_
  refine I_iadd dL_law_597 ?_
  refine T_sld dL_law_598 ⟨by omega, by omega⟩ hn ?_
  refine R_callV dL_law_599 kX10_asks lL_77 (by assumption) rfl (p_W_asks hW (scr_R G _) (scr_R G _) (scr_R G _)) rfl rfl (Nat.le_of_ble_eq_true rfl) (Nat.le_of_ble_eq_true rfl) (by decide) (by decide) (fun r_ K_ S_ q_ => ?_)
  obtain ⟨rfl, rfl, hW1, hs⟩ := q_
  have hR1 := hR.same hs hW1.allR
  refine T_aload_n dL_law_602 rfl rfl ?_
  refine T_aload_n dL_law_603 rfl rfl ?_
  refine T_iload_n dL_law_604 rfl ?_
  refine I_iconst dL_law_605 ?_
  refine I_iadd dL_law_606 ?_
  refine T_sld dL_law_607 ⟨by omega, by omega⟩ hn ?_
  refine T_aload_n dL_law_608 rfl rfl ?_
  refine T_iload_n dL_law_609 rfl ?_
  refine I_iconst dL_law_610 ?_
  refine I_iadd dL_law_611 ?_
  refine T_sld dL_law_612 ⟨by omega, by omega⟩ hn ?_
  refine T_aload_n dL_law_613 rfl rfl ?_
  refine T_iload_n dL_law_614 rfl ?_
  refine I_iconst dL_law_615 ?_
  refine I_iadd dL_law_616 ?_
  refine T_sld dL_law_617 ⟨by omega, by omega⟩ hn ?_
  refine R_callV dL_law_618 kX11_asks lL_80 (by assumption) rfl (p_R_asks hR1 (scr_R G _) (scr_R G _) (scr_R G _)) rfl rfl (Nat.le_of_ble_eq_true rfl) (Nat.le_of_ble_eq_true rfl) (by decide) (by decide) (fun r_ K_ S_ q_ => ?_)
  obtain ⟨rfl, rfl, hR2, hO⟩ := q_
  exact L_eq (tgt := 943) dL_law_621 (by decide) (hk _ _ _ ((hW1.outs hO hR2.1.2.1).mono (by omega) hN) hR2)
theorem law_stranger (hW : WR K S M N) (hR : RR K S M) (hN : N + 400000 ≤ 1000000000) (hi : 0 ≤ i ∧ i + 5 ≤ gn G) (hn : gn G ≤ 2560) (hk : ∀ (K' : List SH) (S' : SV) (M' : MS), WR K' S' M' (N + 400000) → RR K' S' M' → P G 8 mc ms (mLn nm) 943 [some (.retAddr 100), some (.ref 0), some (.ref 453), some (IV i)] [] K' S' Q) : P G 8 (3 + mc) (44 + ms) (mLn nm) 626 [some (.retAddr 100), some (.ref 0), some (.ref 453), some (IV i)] [] K S Q := by
  have w0 := hW.1.1
  have m0 := hR.1.1.1
  refine T.room (mc' := mc) (ms' := ms) ?_ (Nat.le_refl _) (by omega) (by omega)
  refine T_aload_n dL_law_626 rfl rfl ?_
  refine T_aload_n dL_law_627 rfl rfl ?_
  refine T_iload_n dL_law_628 rfl ?_
  refine I_iconst dL_law_629 ?_
  refine I_iadd dL_law_630 ?_
  refine T_sld dL_law_631 ⟨by omega, by omega⟩ hn ?_
  refine T_aload_n dL_law_632 rfl rfl ?_
  refine T_iload_n dL_law_633 rfl ?_
  refine I_iconst dL_law_634 ?_
  refine I_iadd dL_law_635 ?_
  refine T_sld dL_law_636 ⟨by omega, by omega⟩ hn ?_
  refine T_aload_n dL_law_637 rfl rfl ?_
  refine T_iload_n dL_law_638 rfl ?_
  refine I_iconst dL_law_639 ?_
  refine I_iadd dL_law_640 ?_
  refine T_sld dL_law_641 ⟨by omega, by omega⟩ hn ?_
  refine R_callV dL_law_642 kX10_stranger lL_81 (by assumption) rfl (p_W_stranger hW (scr_R G _) (scr_R G _) (scr_R G _)) rfl rfl (Nat.le_of_ble_eq_true rfl) (Nat.le_of_ble_eq_true rfl) (by decide) (by decide) (fun r_ K_ S_ q_ => ?_)
  obtain ⟨rfl, rfl, hW1, hs⟩ := q_
  have hR1 := hR.same hs hW1.allR
  refine T_aload_n dL_law_645 rfl rfl ?_
  refine T_aload_n dL_law_646 rfl rfl ?_
  refine T_iload_n dL_law_647 rfl ?_
  refine I_iconst dL_law_648 ?_
  refine I_iadd dL_law_649 ?_
  refine T_sld dL_law_650 ⟨by omega, by omega⟩ hn ?_
  refine T_aload_n dL_law_651 rfl rfl ?_
  refine T_iload_n dL_law_652 rfl ?_
  refine I_iconst dL_law_653 ?_
  refine I_iadd dL_law_654 ?_
  refine T_sld dL_law_655 ⟨by omega, by omega⟩ hn ?_
  refine T_aload_n dL_law_656 rfl rfl ?_
  refine T_iload_n dL_law_657 rfl ?_
  refine I_iconst dL_law_658 ?_
  refine I_iadd dL_law_659 ?_
  refine T_sld dL_law_660 ⟨by omega, by omega⟩ hn ?_
  refine R_callV dL_law_661 kX11_stranger lL_84 (by assumption) rfl (p_R_stranger hR1 (scr_R G _) (scr_R G _) (scr_R G _)) rfl rfl (Nat.le_of_ble_eq_true rfl) (Nat.le_of_ble_eq_true rfl) (by decide) (by decide) (fun r_ K_ S_ q_ => ?_)
  obtain ⟨rfl, rfl, hR2, hO⟩ := q_
  exact L_eq (tgt := 943) dL_law_664 (by decide) (hk _ _ _ ((hW1.outs hO hR2.1.2.1).mono (by omega) hN) hR2)
theorem law_log (hW : WR K S M N) (hR : RR K S M) (hN : N + 400000 ≤ 1000000000) (hi : 0 ≤ i ∧ i + 5 ≤ gn G) (hn : gn G ≤ 2560) (hk : ∀ (K' : List SH) (S' : SV) (M' : MS), WR K' S' M' (N + 400000) → RR K' S' M' → P G 8 mc ms (mLn nm) 943 [some (.retAddr 100), some (.ref 0), some (.ref 453), some (IV i)] [] K' S' Q) : P G 8 (3 + mc) (44 + ms) (mLn nm) 669 [some (.retAddr 100), some (.ref 0), some (.ref 453), some (IV i)] [] K S Q := by
  have w0 := hW.1.1
  have m0 := hR.1.1.1
  refine T.room (mc' := mc) (ms' := ms) ?_ (Nat.le_refl _) (by omega) (by omega)
  refine T_aload_n dL_law_669 rfl rfl ?_
  refine T_aload_n dL_law_670 rfl rfl ?_
  refine T_iload_n dL_law_671 rfl ?_
  refine I_iconst dL_law_672 ?_
  refine I_iadd dL_law_673 ?_
  refine T_sld dL_law_674 ⟨by omega, by omega⟩ hn ?_
  refine T_aload_n dL_law_675 rfl rfl ?_
  refine T_iload_n dL_law_676 rfl ?_
  refine I_iconst dL_law_677 ?_
  refine I_iadd dL_law_678 ?_
  refine T_sld dL_law_679 ⟨by omega, by omega⟩ hn ?_
  refine R_callV dL_law_680 kX10_log lL_85 (by assumption) rfl (p_W_log hW (scr_R G _) (scr_R G _)) rfl rfl (Nat.le_of_ble_eq_true rfl) (Nat.le_of_ble_eq_true rfl) (by decide) (by decide) (fun r_ K_ S_ q_ => ?_)
  obtain ⟨rfl, rfl, hW1, hs⟩ := q_
  have hR1 := hR.same hs hW1.allR
  refine T_aload_n dL_law_683 rfl rfl ?_
  refine T_aload_n dL_law_684 rfl rfl ?_
  refine T_iload_n dL_law_685 rfl ?_
  refine I_iconst dL_law_686 ?_
  refine I_iadd dL_law_687 ?_
  refine T_sld dL_law_688 ⟨by omega, by omega⟩ hn ?_
  refine T_aload_n dL_law_689 rfl rfl ?_
  refine T_iload_n dL_law_690 rfl ?_
  refine I_iconst dL_law_691 ?_
  refine I_iadd dL_law_692 ?_
  refine T_sld dL_law_693 ⟨by omega, by omega⟩ hn ?_
  refine R_callV dL_law_694 kX11_log lL_88 (by assumption) rfl (p_R_log hR1 (scr_R G _) (scr_R G _)) rfl rfl (Nat.le_of_ble_eq_true rfl) (Nat.le_of_ble_eq_true rfl) (by decide) (by decide) (fun r_ K_ S_ q_ => ?_)
  obtain ⟨rfl, rfl, hR2, hO⟩ := q_
  exact L_eq (tgt := 943) dL_law_697 (by decide) (hk _ _ _ ((hW1.outs hO hR2.1.2.1).mono (by omega) hN) hR2)
theorem law_draw (hW : WR K S M N) (hR : RR K S M) (hN : N + 400000 ≤ 1000000000) (hi : 0 ≤ i ∧ i + 5 ≤ gn G) (hn : gn G ≤ 2560) (hk : ∀ (K' : List SH) (S' : SV) (M' : MS), WR K' S' M' (N + 400000) → RR K' S' M' → P G 8 mc ms (mLn nm) 943 [some (.retAddr 100), some (.ref 0), some (.ref 453), some (IV i)] [] K' S' Q) : P G 8 (3 + mc) (44 + ms) (mLn nm) 702 [some (.retAddr 100), some (.ref 0), some (.ref 453), some (IV i)] [] K S Q := by
  have w0 := hW.1.1
  have m0 := hR.1.1.1
  refine T.room (mc' := mc) (ms' := ms) ?_ (Nat.le_refl _) (by omega) (by omega)
  refine T_aload_n dL_law_702 rfl rfl ?_
  refine T_aload_n dL_law_703 rfl rfl ?_
  refine T_iload_n dL_law_704 rfl ?_
  refine I_iconst dL_law_705 ?_
  refine I_iadd dL_law_706 ?_
  refine T_sld dL_law_707 ⟨by omega, by omega⟩ hn ?_
  refine T_aload_n dL_law_708 rfl rfl ?_
  refine T_iload_n dL_law_709 rfl ?_
  refine I_iconst dL_law_710 ?_
  refine I_iadd dL_law_711 ?_
  refine T_sld dL_law_712 ⟨by omega, by omega⟩ hn ?_
  refine R_callV dL_law_713 kX10_draw lL_89 (by assumption) rfl (p_W_draw hW (scr_R G _) (scr_R G _) (by omega)) rfl rfl (Nat.le_of_ble_eq_true rfl) (Nat.le_of_ble_eq_true rfl) (by decide) (by decide) (fun r_ K_ S_ q_ => ?_)
  obtain ⟨rfl, rfl, hW1, hs⟩ := q_
  have hR1 := hR.same hs hW1.allR
  refine T_aload_n dL_law_716 rfl rfl ?_
  refine T_aload_n dL_law_717 rfl rfl ?_
  refine T_iload_n dL_law_718 rfl ?_
  refine I_iconst dL_law_719 ?_
  refine I_iadd dL_law_720 ?_
  refine T_sld dL_law_721 ⟨by omega, by omega⟩ hn ?_
  refine T_aload_n dL_law_722 rfl rfl ?_
  refine T_iload_n dL_law_723 rfl ?_
  refine I_iconst dL_law_724 ?_
  refine I_iadd dL_law_725 ?_
  refine T_sld dL_law_726 ⟨by omega, by omega⟩ hn ?_
  refine R_callV dL_law_727 kX11_draw lL_92 (by assumption) rfl (p_R_draw hR1 hW.pu (scr_R G _) (scr_R G _) (by omega)) rfl rfl (Nat.le_of_ble_eq_true rfl) (Nat.le_of_ble_eq_true rfl) (by decide) (by decide) (fun r_ K_ S_ q_ => ?_)
  obtain ⟨rfl, rfl, hR2, hO⟩ := q_
  exact L_eq (tgt := 943) dL_law_730 (by decide) (hk _ _ _ ((hW1.outs hO hR2.1.2.1).mono (by omega) hN) hR2)
theorem law_keep (hW : WR K S M N) (hR : RR K S M) (hN : N + 400000 ≤ 1000000000) (hi : 0 ≤ i ∧ i + 5 ≤ gn G) (hn : gn G ≤ 2560) (hk : ∀ (K' : List SH) (S' : SV) (M' : MS), WR K' S' M' (N + 400000) → RR K' S' M' → P G 8 mc ms (mLn nm) 943 [some (.retAddr 100), some (.ref 0), some (.ref 453), some (IV i)] [] K' S' Q) : P G 8 (3 + mc) (44 + ms) (mLn nm) 735 [some (.retAddr 100), some (.ref 0), some (.ref 453), some (IV i)] [] K S Q := by
  have w0 := hW.1.1
  have m0 := hR.1.1.1
  refine T.room (mc' := mc) (ms' := ms) ?_ (Nat.le_refl _) (by omega) (by omega)
  refine T_aload_n dL_law_735 rfl rfl ?_
  refine T_aload_n dL_law_736 rfl rfl ?_
  refine T_iload_n dL_law_737 rfl ?_
  refine I_iconst dL_law_738 ?_
  refine I_iadd dL_law_739 ?_
  refine T_sld dL_law_740 ⟨by omega, by omega⟩ hn ?_
  refine R_callV dL_law_741 kX10_keep lL_93 (by assumption) rfl (p_W_keep hW (scr_R G _)) rfl rfl (Nat.le_of_ble_eq_true rfl) (Nat.le_of_ble_eq_true rfl) (by decide) (by decide) (fun r_ K_ S_ q_ => ?_)
  obtain ⟨rfl, rfl, hW1, hs⟩ := q_
  have hR1 := hR.same hs hW1.allR
  refine T_aload_n dL_law_744 rfl rfl ?_
  refine T_aload_n dL_law_745 rfl rfl ?_
  refine T_iload_n dL_law_746 rfl ?_
  refine I_iconst dL_law_747 ?_
  refine I_iadd dL_law_748 ?_
  refine T_sld dL_law_749 ⟨by omega, by omega⟩ hn ?_
  refine R_callV dL_law_750 kX11_keep lL_96 (by assumption) rfl (p_R_keep hR1 (scr_R G _)) rfl rfl (Nat.le_of_ble_eq_true rfl) (Nat.le_of_ble_eq_true rfl) (by decide) (by decide) (fun r_ K_ S_ q_ => ?_)
  obtain ⟨rfl, rfl, hR2, hO⟩ := q_
  exact L_eq (tgt := 943) dL_law_753 (by decide) (hk _ _ _ ((hW1.outs hO hR2.1.2.1).mono (by omega) hN) hR2)
theorem law_back (hW : WR K S M N) (hR : RR K S M) (hN : N + 400000 ≤ 1000000000) (hi : 0 ≤ i ∧ i + 5 ≤ gn G) (hn : gn G ≤ 2560) (hk : ∀ (K' : List SH) (S' : SV) (M' : MS), WR K' S' M' (N + 400000) → RR K' S' M' → P G 8 mc ms (mLn nm) 943 [some (.retAddr 100), some (.ref 0), some (.ref 453), some (IV i)] [] K' S' Q) : P G 8 (3 + mc) (44 + ms) (mLn nm) 758 [some (.retAddr 100), some (.ref 0), some (.ref 453), some (IV i)] [] K S Q := by
  have w0 := hW.1.1
  have m0 := hR.1.1.1
  refine T.room (mc' := mc) (ms' := ms) ?_ (Nat.le_refl _) (by omega) (by omega)
  refine T_aload_n dL_law_758 rfl rfl ?_
  refine T_aload_n dL_law_759 rfl rfl ?_
  refine T_iload_n dL_law_760 rfl ?_
  refine I_iconst dL_law_761 ?_
  refine I_iadd dL_law_762 ?_
  refine T_sld dL_law_763 ⟨by omega, by omega⟩ hn ?_
  refine R_callV dL_law_764 kX10_back lL_97 (by assumption) rfl (p_W_back hW (scr_R G _)) rfl rfl (Nat.le_of_ble_eq_true rfl) (Nat.le_of_ble_eq_true rfl) (by decide) (by decide) (fun r_ K_ S_ q_ => ?_)
  obtain ⟨rfl, rfl, hW1, hs⟩ := q_
  have hR1 := hR.same hs hW1.allR
  refine T_aload_n dL_law_767 rfl rfl ?_
  refine T_aload_n dL_law_768 rfl rfl ?_
  refine T_iload_n dL_law_769 rfl ?_
  refine I_iconst dL_law_770 ?_
  refine I_iadd dL_law_771 ?_
  refine T_sld dL_law_772 ⟨by omega, by omega⟩ hn ?_
  refine R_callV dL_law_773 kX11_back lL_100 (by assumption) rfl (p_R_back hR1 (scr_R G _)) rfl rfl (Nat.le_of_ble_eq_true rfl) (Nat.le_of_ble_eq_true rfl) (by decide) (by decide) (fun r_ K_ S_ q_ => ?_)
  obtain ⟨rfl, rfl, hR2, hO⟩ := q_
  exact L_eq (tgt := 943) dL_law_776 (by decide) (hk _ _ _ ((hW1.outs hO hR2.1.2.1).mono (by omega) hN) hR2)
theorem law_sheet (hW : WR K S M N) (hR : RR K S M) (hN : N + 400000 ≤ 1000000000) (hi : 0 ≤ i ∧ i + 5 ≤ gn G) (hn : gn G ≤ 2560) (hk : ∀ (K' : List SH) (S' : SV) (M' : MS), WR K' S' M' (N + 400000) → RR K' S' M' → P G 8 mc ms (mLn nm) 943 [some (.retAddr 100), some (.ref 0), some (.ref 453), some (IV i)] [] K' S' Q) : P G 8 (3 + mc) (44 + ms) (mLn nm) 781 [some (.retAddr 100), some (.ref 0), some (.ref 453), some (IV i)] [] K S Q := by
  have w0 := hW.1.1
  have m0 := hR.1.1.1
  have h466 : 466 ≤ K.length := gKl hR.1.1.2.2.2.2.2.2.2.2.2.2.2.2
  refine T_aload_n dL_law_781 rfl rfl ?_
  refine T_aload_n dL_law_782 rfl rfl ?_
  refine T_iload_n dL_law_783 rfl ?_
  refine I_iconst dL_law_784 ?_
  refine I_iadd dL_law_785 ?_
  refine T_sld dL_law_786 ⟨by omega, by omega⟩ hn ?_
  refine T_aload_n dL_law_787 rfl rfl ?_
  refine T_iload_n dL_law_788 rfl ?_
  refine I_iconst dL_law_789 ?_
  refine I_iadd dL_law_790 ?_
  refine T_sld dL_law_791 ⟨by omega, by omega⟩ hn ?_
  refine T_aload_n dL_law_792 rfl rfl ?_
  refine T_iload_n dL_law_793 rfl ?_
  refine I_iconst dL_law_794 ?_
  refine I_iadd dL_law_795 ?_
  refine T_sld dL_law_796 ⟨by omega, by omega⟩ hn ?_
  refine R_callVg dL_law_797 kX10_sheet lL_101 (by assumption) rfl (p_W_sheet hW h466 (scr_R G _) (scr_R G _) (scr_R G _)) rfl rfl (Nat.le_of_ble_eq_true rfl) (Nat.le_of_ble_eq_true rfl) (by decide) (by decide) (fun r_ K_ S_ q_ => ?_)
  obtain ⟨rfl, ⟨X, rfl⟩, hW1, hs⟩ := q_
  have hR1 := (hR.app X).same hs hW1.allR
  have m0' := hR1.1.1.1
  refine T_aload_n dL_law_800 rfl rfl ?_
  refine T_aload_n dL_law_801 rfl rfl ?_
  refine T_iload_n dL_law_802 rfl ?_
  refine I_iconst dL_law_803 ?_
  refine I_iadd dL_law_804 ?_
  refine T_sld dL_law_805 ⟨by omega, by omega⟩ hn ?_
  refine T_aload_n dL_law_806 rfl rfl ?_
  refine T_iload_n dL_law_807 rfl ?_
  refine I_iconst dL_law_808 ?_
  refine I_iadd dL_law_809 ?_
  refine T_sld dL_law_810 ⟨by omega, by omega⟩ hn ?_
  refine T_aload_n dL_law_811 rfl rfl ?_
  refine T_iload_n dL_law_812 rfl ?_
  refine I_iconst dL_law_813 ?_
  refine I_iadd dL_law_814 ?_
  refine T_sld dL_law_815 ⟨by omega, by omega⟩ hn ?_
  refine R_callV dL_law_816 kX11_sheet lL_104 (by assumption) rfl (p_R_sheet hR1 (scr_R G _) (scr_R G _) (scr_R G _)) rfl rfl (Nat.le_of_ble_eq_true rfl) (Nat.le_of_ble_eq_true rfl) (by decide) (by decide) (fun r_ K_ S_ q_ => ?_)
  obtain ⟨rfl, rfl, hR2, hO⟩ := q_
  exact L_eq (tgt := 943) dL_law_819 (by decide) (hk _ _ _ ((hW1.outs hO hR2.1.2.1).mono (by omega) hN) hR2)
theorem law_lay (hW : WR K S M N) (hR : RR K S M) (hN : N + 400000 ≤ 1000000000) (hi : 0 ≤ i ∧ i + 5 ≤ gn G) (hn : gn G ≤ 2560) (hk : ∀ (K' : List SH) (S' : SV) (M' : MS), WR K' S' M' (N + 400000) → RR K' S' M' → P G 8 mc ms (mLn nm) 943 [some (.retAddr 100), some (.ref 0), some (.ref 453), some (IV i)] [] K' S' Q) : P G 8 (3 + mc) (44 + ms) (mLn nm) 824 [some (.retAddr 100), some (.ref 0), some (.ref 453), some (IV i)] [] K S Q := by
  have w0 := hW.1.1
  have m0 := hR.1.1.1
  refine T.room (mc' := mc) (ms' := ms) ?_ (Nat.le_refl _) (by omega) (by omega)
  refine T_aload_n dL_law_824 rfl rfl ?_
  refine T_aload_n dL_law_825 rfl rfl ?_
  refine T_iload_n dL_law_826 rfl ?_
  refine I_iconst dL_law_827 ?_
  refine I_iadd dL_law_828 ?_
  refine T_sld dL_law_829 ⟨by omega, by omega⟩ hn ?_
  refine T_aload_n dL_law_830 rfl rfl ?_
  refine T_iload_n dL_law_831 rfl ?_
  refine I_iconst dL_law_832 ?_
  refine I_iadd dL_law_833 ?_
  refine T_sld dL_law_834 ⟨by omega, by omega⟩ hn ?_
  refine T_aload_n dL_law_835 rfl rfl ?_
  refine T_iload_n dL_law_836 rfl ?_
  refine I_iconst dL_law_837 ?_
  refine I_iadd dL_law_838 ?_
  refine T_sld dL_law_839 ⟨by omega, by omega⟩ hn ?_
  refine R_callV dL_law_840 kX10_lay lL_105 (by assumption) rfl (p_W_lay hW (scr_R G _) (scr_R G _) (scr_R G _)) rfl rfl (Nat.le_of_ble_eq_true rfl) (Nat.le_of_ble_eq_true rfl) (by decide) (by decide) (fun r_ K_ S_ q_ => ?_)
  obtain ⟨rfl, rfl, hW1, hs⟩ := q_
  have hR1 := hR.same hs hW1.allR
  refine T_aload_n dL_law_843 rfl rfl ?_
  refine T_aload_n dL_law_844 rfl rfl ?_
  refine T_iload_n dL_law_845 rfl ?_
  refine I_iconst dL_law_846 ?_
  refine I_iadd dL_law_847 ?_
  refine T_sld dL_law_848 ⟨by omega, by omega⟩ hn ?_
  refine T_aload_n dL_law_849 rfl rfl ?_
  refine T_iload_n dL_law_850 rfl ?_
  refine I_iconst dL_law_851 ?_
  refine I_iadd dL_law_852 ?_
  refine T_sld dL_law_853 ⟨by omega, by omega⟩ hn ?_
  refine T_aload_n dL_law_854 rfl rfl ?_
  refine T_iload_n dL_law_855 rfl ?_
  refine I_iconst dL_law_856 ?_
  refine I_iadd dL_law_857 ?_
  refine T_sld dL_law_858 ⟨by omega, by omega⟩ hn ?_
  refine R_callV dL_law_859 kX11_lay lL_108 (by assumption) rfl (p_R_lay hR1 (scr_R G _) (scr_R G _) (scr_R G _)) rfl rfl (Nat.le_of_ble_eq_true rfl) (Nat.le_of_ble_eq_true rfl) (by decide) (by decide) (fun r_ K_ S_ q_ => ?_)
  obtain ⟨rfl, rfl, hR2, hO⟩ := q_
  exact L_eq (tgt := 943) dL_law_862 (by decide) (hk _ _ _ ((hW1.outs hO hR2.1.2.1).mono (by omega) hN) hR2)
theorem law_post (hW : WR K S M N) (hR : RR K S M) (hN : N + 400000 ≤ 1000000000) (hi : 0 ≤ i ∧ i + 5 ≤ gn G) (hn : gn G ≤ 2560) (hk : ∀ (K' : List SH) (S' : SV) (M' : MS), WR K' S' M' (N + 400000) → RR K' S' M' → P G 8 mc ms (mLn nm) 943 [some (.retAddr 100), some (.ref 0), some (.ref 453), some (IV i)] [] K' S' Q) : P G 8 (3 + mc) (44 + ms) (mLn nm) 867 [some (.retAddr 100), some (.ref 0), some (.ref 453), some (IV i)] [] K S Q := by
  have w0 := hW.1.1
  have m0 := hR.1.1.1
  have h466 : 466 ≤ K.length := gKl hR.1.1.2.2.2.2.2.2.2.2.2.2.2.2
  refine T_aload_n dL_law_867 rfl rfl ?_
  refine T_aload_n dL_law_868 rfl rfl ?_
  refine T_iload_n dL_law_869 rfl ?_
  refine I_iconst dL_law_870 ?_
  refine I_iadd dL_law_871 ?_
  refine T_sld dL_law_872 ⟨by omega, by omega⟩ hn ?_
  refine T_aload_n dL_law_873 rfl rfl ?_
  refine T_iload_n dL_law_874 rfl ?_
  refine I_iconst dL_law_875 ?_
  refine I_iadd dL_law_876 ?_
  refine T_sld dL_law_877 ⟨by omega, by omega⟩ hn ?_
  refine T_aload_n dL_law_878 rfl rfl ?_
  refine T_iload_n dL_law_879 rfl ?_
  refine I_iconst dL_law_880 ?_
  refine I_iadd dL_law_881 ?_
  refine T_sld dL_law_882 ⟨by omega, by omega⟩ hn ?_
  refine T_aload_n dL_law_883 rfl rfl ?_
  refine T_iload_n dL_law_884 rfl ?_
  refine I_iconst dL_law_885 ?_
  refine I_iadd dL_law_886 ?_
  refine T_sld dL_law_887 ⟨by omega, by omega⟩ hn ?_
  refine R_callVg dL_law_888 kX10_post lL_109 (by assumption) rfl (p_W_post hW h466 (by omega) (scr_R G _) (scr_R G _) (scr_R G _) (scr_R G _)) rfl rfl (Nat.le_of_ble_eq_true rfl) (Nat.le_of_ble_eq_true rfl) (by decide) (by decide) (fun r_ K_ S_ q_ => ?_)
  obtain ⟨rfl, ⟨X, rfl⟩, hW1, hs⟩ := q_
  have hR1 := (hR.app X).same hs hW1.allR
  have m0' := hR1.1.1.1
  refine T_aload_n dL_law_891 rfl rfl ?_
  refine T_aload_n dL_law_892 rfl rfl ?_
  refine T_iload_n dL_law_893 rfl ?_
  refine I_iconst dL_law_894 ?_
  refine I_iadd dL_law_895 ?_
  refine T_sld dL_law_896 ⟨by omega, by omega⟩ hn ?_
  refine T_aload_n dL_law_897 rfl rfl ?_
  refine T_iload_n dL_law_898 rfl ?_
  refine I_iconst dL_law_899 ?_
  refine I_iadd dL_law_900 ?_
  refine T_sld dL_law_901 ⟨by omega, by omega⟩ hn ?_
  refine T_aload_n dL_law_902 rfl rfl ?_
  refine T_iload_n dL_law_903 rfl ?_
  refine I_iconst dL_law_904 ?_
  refine I_iadd dL_law_905 ?_
  refine T_sld dL_law_906 ⟨by omega, by omega⟩ hn ?_
  refine T_aload_n dL_law_907 rfl rfl ?_
  refine T_iload_n dL_law_908 rfl ?_
  refine I_iconst dL_law_909 ?_
  refine I_iadd dL_law_910 ?_
  refine T_sld dL_law_911 ⟨by omega, by omega⟩ hn ?_
  refine R_callV dL_law_912 kX11_post lL_113 (by assumption) rfl (p_R_post hR1 hW.pu (by omega) (scr_R G _) (scr_R G _) (scr_R G _) (scr_R G _)) rfl rfl (Nat.le_of_ble_eq_true rfl) (Nat.le_of_ble_eq_true rfl) (by decide) (by decide) (fun r_ K_ S_ q_ => ?_)
  obtain ⟨rfl, rfl, hR2, hO⟩ := q_
  exact L_eq (tgt := 943) dL_law_915 (by decide) (hk _ _ _ ((hW1.outs hO hR2.1.2.1).mono (by omega) hN) hR2)
theorem law_count (hW : WR K S M N) (hR : RR K S M) (hN : N + 400000 ≤ 1000000000) (hi : 0 ≤ i ∧ i + 5 ≤ gn G) (hn : gn G ≤ 2560) (hk : ∀ (K' : List SH) (S' : SV) (M' : MS), WR K' S' M' (N + 400000) → RR K' S' M' → P G 8 mc ms (mLn nm) 943 [some (.retAddr 100), some (.ref 0), some (.ref 453), some (IV i)] [] K' S' Q) : P G 8 (3 + mc) (44 + ms) (mLn nm) 920 [some (.retAddr 100), some (.ref 0), some (.ref 453), some (IV i)] [] K S Q := by
  have w0 := hW.1.1
  have m0 := hR.1.1.1
  refine T.room (mc' := mc) (ms' := ms) ?_ (Nat.le_refl _) (by omega) (by omega)
  refine T_aload_n dL_law_920 rfl rfl ?_
  refine T_aload_n dL_law_921 rfl rfl ?_
  refine T_iload_n dL_law_922 rfl ?_
  refine I_iconst dL_law_923 ?_
  refine I_iadd dL_law_924 ?_
  refine T_sld dL_law_925 ⟨by omega, by omega⟩ hn ?_
  refine R_callV dL_law_926 kX10_count lL_114 (by assumption) rfl (p_W_count hW (scr_R G _)) rfl rfl (Nat.le_of_ble_eq_true rfl) (Nat.le_of_ble_eq_true rfl) (by decide) (by decide) (fun r_ K_ S_ q_ => ?_)
  obtain ⟨rfl, rfl, hW1, hs⟩ := q_
  have hR1 := hR.same hs hW1.allR
  refine T_aload_n dL_law_929 rfl rfl ?_
  refine T_aload_n dL_law_930 rfl rfl ?_
  refine T_iload_n dL_law_931 rfl ?_
  refine I_iconst dL_law_932 ?_
  refine I_iadd dL_law_933 ?_
  refine T_sld dL_law_934 ⟨by omega, by omega⟩ hn ?_
  refine R_callV dL_law_935 kX11_count lL_117 (by assumption) rfl (p_R_count hR1 (scr_R G _)) rfl rfl (Nat.le_of_ble_eq_true rfl) (Nat.le_of_ble_eq_true rfl) (by decide) (by decide) (fun r_ K_ S_ q_ => ?_)
  obtain ⟨rfl, rfl, hR2, hO⟩ := q_
  exact L_eq (tgt := 943) dL_law_938 (by decide) (hk _ _ _ ((hW1.outs hO hR2.1.2.1).mono (by omega) hN) hR2)
theorem law_sw {x : Int32} (hW : WR K S M N) (hR : RR K S M) (hN : N + 400000 ≤ 1000000000) (hi : 0 ≤ i ∧ i + 5 ≤ gn G) (hn : gn G ≤ 2560) (hk : ∀ (K' : List SH) (S' : SV) (M' : MS), WR K' S' M' (N + 400000) → RR K' S' M' → P G 8 mc ms (mLn nm) 943 [some (.retAddr 100), some (.ref 0), some (.ref 453), some (IV i)] [] K' S' Q) : P G 8 (3 + mc) (44 + ms) (mLn nm) 32 [some (.retAddr 100), some (.ref 0), some (.ref 453), some (IV i)] [.int x] K S Q := by
  by_cases hb : x.toInt < 0 ∨ 24 < x.toInt
  · refine T_tblOut (tgt := 943) dL_law_32 hb (by decide) ?_
    exact T.room (hk _ _ _ (hW.mono (by omega) hN) hR) (Nat.le_refl _) (by omega) (by omega)
  · have hc : x.toInt = 0 ∨ x.toInt = 1 ∨ x.toInt = 2 ∨ x.toInt = 3 ∨ x.toInt = 4 ∨ x.toInt = 5 ∨ x.toInt = 6 ∨ x.toInt = 7 ∨ x.toInt = 8 ∨ x.toInt = 9 ∨ x.toInt = 10 ∨ x.toInt = 11 ∨ x.toInt = 12 ∨ x.toInt = 13 ∨ x.toInt = 14 ∨ x.toInt = 15 ∨ x.toInt = 16 ∨ x.toInt = 17 ∨ x.toInt = 18 ∨ x.toInt = 19 ∨ x.toInt = 20 ∨ x.toInt = 21 ∨ x.toInt = 22 ∨ x.toInt = 23 ∨ x.toInt = 24 := by omega
    rcases hc with hc | hc | hc | hc | hc | hc | hc | hc | hc | hc | hc | hc | hc | hc | hc | hc | hc | hc | hc | hc | hc | hc | hc | hc | hc
    · refine T_tblIn (off := 116) (tgt := 148) dL_law_32 (by omega) (by omega) (by rw [hc]; rfl) (by decide) ?_
      exact law_feed hW hR hN hi hn hk
    · refine T_tblIn (off := 139) (tgt := 171) dL_law_32 (by omega) (by omega) (by rw [hc]; rfl) (by decide) ?_
      exact law_end hW hR hN hi hn hk
    · refine T_tblIn (off := 162) (tgt := 194) dL_law_32 (by omega) (by omega) (by rw [hc]; rfl) (by decide) ?_
      exact law_text hW hR hN hi hn hk
    · refine T_tblIn (off := 175) (tgt := 207) dL_law_32 (by omega) (by omega) (by rw [hc]; rfl) (by decide) ?_
      exact law_fault hW hR hN hi hn hk
    · refine T_tblIn (off := 188) (tgt := 220) dL_law_32 (by omega) (by omega) (by rw [hc]; rfl) (by decide) ?_
      exact law_rule hW hR hN hi hn hk
    · refine T_tblIn (off := 211) (tgt := 243) dL_law_32 (by omega) (by omega) (by rw [hc]; rfl) (by decide) ?_
      exact law_house hW hR hN hi hn hk
    · refine T_tblIn (off := 244) (tgt := 276) dL_law_32 (by omega) (by omega) (by rw [hc]; rfl) (by decide) ?_
      exact law_receiver hW hR hN hi hn hk
    · refine T_tblIn (off := 287) (tgt := 319) dL_law_32 (by omega) (by omega) (by rw [hc]; rfl) (by decide) ?_
      exact law_address hW hR hN hi hn hk
    · refine T_tblIn (off := 320) (tgt := 352) dL_law_32 (by omega) (by omega) (by rw [hc]; rfl) (by decide) ?_
      exact law_leads hW hR hN hi hn hk
    · refine T_tblIn (off := 353) (tgt := 385) dL_law_32 (by omega) (by omega) (by rw [hc]; rfl) (by decide) ?_
      exact law_reaches hW hR hN hi hn hk
    · refine T_tblIn (off := 386) (tgt := 418) dL_law_32 (by omega) (by omega) (by rw [hc]; rfl) (by decide) ?_
      exact law_send hW hR hN hi hn hk
    · refine T_tblIn (off := 429) (tgt := 461) dL_law_32 (by omega) (by omega) (by rw [hc]; rfl) (by decide) ?_
      exact law_tick hW hR hN hi hn hk
    · refine T_tblIn (off := 452) (tgt := 484) dL_law_32 (by omega) (by omega) (by rw [hc]; rfl) (by decide) ?_
      exact law_run hW hR hN hi hn hk
    · refine T_tblIn (off := 475) (tgt := 507) dL_law_32 (by omega) (by omega) (by rw [hc]; rfl) (by decide) ?_
      exact law_set hW hR hN hi hn hk
    · refine T_tblIn (off := 508) (tgt := 540) dL_law_32 (by omega) (by omega) (by rw [hc]; rfl) (by decide) ?_
      exact law_item hW hR hN hi hn hk
    · refine T_tblIn (off := 551) (tgt := 583) dL_law_32 (by omega) (by omega) (by rw [hc]; rfl) (by decide) ?_
      exact law_asks hW hR hN hi hn hk
    · refine T_tblIn (off := 594) (tgt := 626) dL_law_32 (by omega) (by omega) (by rw [hc]; rfl) (by decide) ?_
      exact law_stranger hW hR hN hi hn hk
    · refine T_tblIn (off := 637) (tgt := 669) dL_law_32 (by omega) (by omega) (by rw [hc]; rfl) (by decide) ?_
      exact law_log hW hR hN hi hn hk
    · refine T_tblIn (off := 670) (tgt := 702) dL_law_32 (by omega) (by omega) (by rw [hc]; rfl) (by decide) ?_
      exact law_draw hW hR hN hi hn hk
    · refine T_tblIn (off := 703) (tgt := 735) dL_law_32 (by omega) (by omega) (by rw [hc]; rfl) (by decide) ?_
      exact law_keep hW hR hN hi hn hk
    · refine T_tblIn (off := 726) (tgt := 758) dL_law_32 (by omega) (by omega) (by rw [hc]; rfl) (by decide) ?_
      exact law_back hW hR hN hi hn hk
    · refine T_tblIn (off := 749) (tgt := 781) dL_law_32 (by omega) (by omega) (by rw [hc]; rfl) (by decide) ?_
      exact law_sheet hW hR hN hi hn hk
    · refine T_tblIn (off := 792) (tgt := 824) dL_law_32 (by omega) (by omega) (by rw [hc]; rfl) (by decide) ?_
      exact law_lay hW hR hN hi hn hk
    · refine T_tblIn (off := 835) (tgt := 867) dL_law_32 (by omega) (by omega) (by rw [hc]; rfl) (by decide) ?_
      exact law_post hW hR hN hi hn hk
    · refine T_tblIn (off := 888) (tgt := 920) dL_law_32 (by omega) (by omega) (by rw [hc]; rfl) (by decide) ?_
      exact law_count hW hR hN hi hn hk
def LW : Option Value → List SH → SV → Prop := fun rv _ _ => rv = some (IV 1)
theorem law_loop (hn : gn G ≤ 2560) (m : Nat) : ∀ (jn : Nat) (i : Int) (K : List SH) (S : SV) (M : MS) (N : Int), jn + m = 512 → i = 5 * jn → WR K S M N → RR K S M → N ≤ 1 + 400000 * jn → P G 8 (3 * m) (44 * m) (mLn nm) 18 [some (.retAddr 100), some (.ref 0), some (.ref 453), some (IV i)] [] K S LW := by
  induction m with
  | zero =>
    intro jn i K S M N hj hi hW hR hN
    refine T_iload_n dL_law_18 rfl ?_
    refine T_aload_n dL_law_19 rfl rfl ?_
    refine T_slen dL_law_20 ?_
    refine I_iconst dL_law_21 ?_
    refine I_isub dL_law_22 ?_
    refine I_icmp_gt (tgt := 949) dL_law_23 (by decide) ⟨by omega, by omega⟩ ⟨by omega, by omega⟩ (fun h23 => ?_) (fun h23 => ?_)
    · refine I_iconst dL_law_949 ?_
      exact I_zreturn dL_law_950 rfl (by decide) ⟨_, _, rfl, rfl⟩
    · omega
  | succ m ih =>
    intro jn i K S M N hj hi hW hR hN
    have hN4 : N + 400000 ≤ 1000000000 := by omega
    have hk : ∀ (K' : List SH) (S' : SV) (M' : MS), WR K' S' M' (N + 400000) → RR K' S' M' → P G 8 (3 * m) (44 * m) (mLn nm) 943 [some (.retAddr 100), some (.ref 0), some (.ref 453), some (IV i)] [] K' S' LW := by
      intro K' S' M' hW' hR'
      have w := ih (jn + 1) (i + 5) K' S' M' (N + 400000) (by omega) (by omega) hW' hR' (by omega)
      refine I_iinc dL_law_943 rfl (Nat.le_of_ble_eq_true rfl) rfl ?_
      refine T_goto (tgt := 18) dL_law_946 (by decide) ?_
      exact w
    refine T.room (mc' := 3 + 3 * m) (ms' := 44 + 44 * m) ?_ (Nat.le_refl _) (by omega) (by omega)
    refine T_iload_n dL_law_18 rfl ?_
    refine T_aload_n dL_law_19 rfl rfl ?_
    refine T_slen dL_law_20 ?_
    refine I_iconst dL_law_21 ?_
    refine I_isub dL_law_22 ?_
    refine I_icmp_gt (tgt := 949) dL_law_23 (by decide) ⟨by omega, by omega⟩ ⟨by omega, by omega⟩ (fun h23 => ?_) (fun h23 => ?_)
    · refine I_iconst dL_law_949 ?_
      exact I_zreturn dL_law_950 rfl (by decide) ⟨_, _, rfl, rfl⟩
    · refine T_aload_n dL_law_26 rfl rfl ?_
      refine T_iload_n dL_law_27 rfl ?_
      refine T_sld dL_law_28 ⟨by omega, by omega⟩ hn ?_
      refine I_bipush dL_law_29 (by decide) ?_
      refine T_iand dL_law_31 ?_
      exact law_sw hW hR hN4 ⟨by omega, by omega⟩ hn hk
end LAW
