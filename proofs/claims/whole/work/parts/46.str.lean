/-! strings: what lies outside -/
theorem fs_compact : Cond.fieldLink RJ0 38 RJ0 "COMPACT_STRINGS" "Z" ∈ gtbl := gm 459 (by decide +kernel) rfl
theorem fs_form : Cond.fieldLink RJ0 1053 "jdk/internal/util/Preconditions" "SIOOBE_FORMATTER" "Ljava/util/function/BiFunction;" ∈ gtbl := gm 475 (by decide +kernel) rfl
theorem fs_value : Cond.fieldLink RJ0 9 RJ0 "value" "[B" ∈ gtbl := gm 1369 (by decide +kernel) rfl
theorem fs_coder : Cond.fieldLink RJ0 15 RJ0 "coder" "B" ∈ gtbl := gm 1370 (by decide +kernel) rfl
section Str
variable {G : GT} {d mc ms : Nat} {j : MD} {pc : Nat} {L : List (Option Value)} {st : List Value} {σ : List va_E} {Q : Option Value → List va_E → Prop}
theorem T_ldcS {idx q : Nat} {tx : String} (hd : decode j.2.1 pc = .ok (.ldc idx, 2)) (hz : ∀ s, EnvS G s → vk_R j.1.cls idx tx (gx G q) s) (k : T G d mc ms j (pc + 2) L (.retAddr q :: st) σ Q) : T G d mc ms j pc L st σ Q := by
  intro p l e R s m args below meth c H locs cells slots Qs ls C
  exact va_ldcS C.1.1 C.1.2.1 C.1.2.2.2.1 (hz s C.1.2.2.2.2.2.1.2.2.2.2.1) hd (k _ _ _ _ _ _ _ _ _ _ _ _ _ _ _ _ C)
theorem T_getsC (hd : decode j.2.1 pc = .ok (.getstatic 38, 3)) (hj : j.1.cls = RJ0) (k : T G d mc ms j (pc + 3) L (IV 1 :: st) σ Q) : T G d mc ms j pc L st σ Q := by
  intro p l e R s m args below meth c H locs cells slots Qs ls C
  have hE := C.1.2.2.2.2.2.1.2.2.2.2.2.1
  exact va_gets (ref := RJ0) C.1.1 C.1.2.1 hE.2.1 C.2.2.2.1 C.1.2.2.2.1 (by rw [hj]; exact C.1.2.2.2.2.1 _ fs_compact) (fun x h => h) hd (k _ _ _ _ _ _ _ _ _ _ _ _ _ _ _ _ C)
theorem T_getsF (hd : decode j.2.1 pc = .ok (.getstatic 1053, 3)) (hj : j.1.cls = RJ0) (k : ∀ v, v = .null ∨ v = .retAddr 50 → T G d mc ms j (pc + 3) L (v :: st) σ Q) : T G d mc ms j pc L st σ Q := by
  intro p l e R s m args below meth c H locs cells slots Qs ls C
  have hE := C.1.2.2.2.2.2.1.2.2.2.2.2.1
  rcases hE.2.2 with z | z
  · exact va_gets (ref := "jdk/internal/util/Preconditions") C.1.1 C.1.2.1 z C.2.2.2.1 C.1.2.2.2.1 (by rw [hj]; exact C.1.2.2.2.2.1 _ fs_form) (fun x h => h) hd (k .null (Or.inl rfl) _ _ _ _ _ _ _ _ _ _ _ _ _ _ _ _ C)
  · exact va_gets (ref := "jdk/internal/util/Preconditions") C.1.1 C.1.2.1 z C.2.2.2.1 C.1.2.2.2.1 (by rw [hj]; exact C.1.2.2.2.2.1 _ fs_form) (fun x h => h) hd (k (.retAddr 50) (Or.inr rfl) _ _ _ _ _ _ _ _ _ _ _ _ _ _ _ _ C)
theorem T_getV {i : Nat} (hi : i < 6) (hd : decode j.2.1 pc = .ok (.getfield 9, 3)) (hj : j.1.cls = RJ0) (k : T G d mc ms j (pc + 3) L (.retAddr (10 + i) :: st) σ Q) : T G d mc ms j pc L (.retAddr i :: st) σ Q := by
  intro p l e R s m args below meth c H locs cells slots Qs ls C
  have hE := C.1.2.2.2.2.2.1.2.2.2.2.2.1
  exact vk_getf (ref := RJ0) C.1.1 C.1.2.1 (hE.1.1 i hi).2.2.1 C.2.2.2.1 C.1.2.2.2.1 (by rw [hj]; exact C.1.2.2.2.2.1 _ fs_value) (fun x h => h) hd (k _ _ _ _ _ _ _ _ _ _ _ _ _ _ _ _ C)
theorem T_getC {i : Nat} (hi : i < 6) (hd : decode j.2.1 pc = .ok (.getfield 15, 3)) (hj : j.1.cls = RJ0) (k : T G d mc ms j (pc + 3) L (IV 0 :: st) σ Q) : T G d mc ms j pc L (.retAddr i :: st) σ Q := by
  intro p l e R s m args below meth c H locs cells slots Qs ls C
  have hE := C.1.2.2.2.2.2.1.2.2.2.2.2.1
  exact vk_getf (ref := RJ0) C.1.1 C.1.2.1 (hE.1.1 i hi).2.1 C.2.2.2.1 C.1.2.2.2.1 (by rw [hj]; exact C.1.2.2.2.2.1 _ fs_coder) (fun x h => h) hd (k _ _ _ _ _ _ _ _ _ _ _ _ _ _ _ _ C)
theorem T_alenX {i : Nat} {n : Int} (hi : i < 6) (hn : ((slen.getD i 0 : Nat) : Int) = n) (hd : decode j.2.1 pc = .ok (.arraylength, 1)) (k : T G d mc ms j (pc + 1) L (IV n :: st) σ Q) : T G d mc ms j pc L (.retAddr (10 + i) :: st) σ Q := by
  intro p l e R s m args below meth c H locs cells slots Qs ls C
  have hE := C.1.2.2.2.2.2.1.2.2.2.2.2.1
  exact va_tlen C.1.1 C.1.2.1 (hE.1.1 i hi).2.2.2 C.2.2.2.1 (by rw [← hn, ← Int32.ofInt_eq_ofNat]; rfl) hd (k _ _ _ _ _ _ _ _ _ _ _ _ _ _ _ _ C)
theorem T_baldX {i : Nat} {z : Int} {v : Int32} (hi : i < 6) (hz : 0 ≤ z ∧ z < (slen.getD i 0 : Nat)) (hv : (sbyt.getD i []).getD z.toNat 0 = v) (hd : decode j.2.1 pc = .ok (.baload, 1)) (k : T G d mc ms j (pc + 1) L (.int v :: st) σ Q) : T G d mc ms j pc L (IV z :: .retAddr (10 + i) :: st) σ Q := by
  intro p l e R s m args below meth c H locs cells slots Qs ls C
  have hE := C.1.2.2.2.2.2.1.2.2.2.2.2.1
  have hl : slen.getD i 0 ≤ 6 := by
    rcases (show i = 0 ∨ i = 1 ∨ i = 2 ∨ i = 3 ∨ i = 4 ∨ i = 5 by omega) with rfl | rfl | rfl | rfl | rfl | rfl <;> decide
  exact va_tb C.1.1 C.1.2.1 (hE.1.1 i hi).2.2.2 C.2.2.2.1 (iv_in hz.1 hz.2 (by omega)) (by rw [iv_nat hz.1 (by omega), hv]; rfl) hd (k _ _ _ _ _ _ _ _ _ _ _ _ _ _ _ _ C)
theorem T_i2c {x v : Int32} (hd : decode j.2.1 pc = .ok (.i2c, 1)) (hv : (x.toUInt32 % 65536).toInt32 = v) (k : T G d mc ms j (pc + 1) L (.int v :: st) σ Q) : T G d mc ms j pc L (.int x :: st) σ Q := by
  intro p l e R s m args below meth c H locs cells slots Qs ls C
  exact lv_i2c C.1.1 C.1.2.1 hd hv (k _ _ _ _ _ _ _ _ _ _ _ _ _ _ _ _ C)
theorem T_callX {idx n i d' mc' ms' : Nat} {j' : MD} {As stk : List Value} {Q' : Option Value → List va_E → Prop} (hi : i < 6) (hc : j'.1.cls = RJ0) (hd : decode j.2.1 pc = .ok (.invokevirtual idx, 3)) (hk : MOk j' ∧ MInst j' ∧ MPar j' n) (hl : MLk j.1.cls idx j') (hM : T G d' mc' ms' j' 0 (LE j' (.retAddr i :: As)) [] σ Q') (hn : As.length = n) (hstk : stk = As.reverse ++ .retAddr i :: st) (h8 : (st.map fun v => v.category).sum ≤ 8) (hL : (LA (.retAddr i :: As)).length ≤ j'.2.2.1) (hdd : d' + 1 ≤ d) (hmx : j'.2.2.1 ≤ 16) (kk : ∀ r σ', Q' r σ' → T G d mc ms j (pc + 3) L (r.toList ++ st) σ' Q) : T G d (mc' + mc) (ms' + ms) j pc L stk σ Q := by
  intro p l e R s m args below meth c H locs cells slots Qs ls C
  subst hstk
  have hts := C.1.2.2.2.2.1
  have hE := C.1.2.2.2.2.2.1.2.2.2.2.2.1
  have hM' := T.met (l := l) hk.1 hL hM
  refine T_core (va_runV (C := j'.1.cls) (b := gx G i) (As := As.map (tr G)) (g := F0 m pc ls _) ⟨C.1.1, C.1.2.1, C.1.2.2.1, C.1.2.2.2.1, hts⟩ hM' ⟨callB_T hts hk.1 hk.2.2 hl ⟨?_, ?_⟩, hts _ hk.2.1.1, hts _ hk.2.1.2⟩ ⟨PcT_blind _, by rw [hc]; exact vk_recv hE.1 hi C.2.2.2.1, fun U hU hW => ⟨rfl, by rw [hU]; exact C.2.2.1, EnvOK.moved hW (by rw [hU]; exact C.2.2.2.1) C.1.2.2.2.2.2.1⟩⟩ rfl (by rw [List.length_map]; exact hn) C.2.2.2.2.1.1 (by show _ = _; simp [tr]) ?_ hd ⟨?_, ?_⟩) C kk
  · have := C.1.2.2.2.2.2.2.2.1; omega
  · have := C.1.2.2.2.2.2.2.2.2; omega
  · rw [tr_cats]; show 2 * 0 + _ ≤ 8; omega
  · have := C.2.1.1; omega
  · have := C.2.1.2; omega
variable {K : List SH} {S : SV}
theorem X_call {idx n i d' : Nat} {j' : MD} {As stk : List Value} {v : Option Value} {Q : Option Value → List SH → SV → Prop} (hi : i < 6) (hc : j'.1.cls = RJ0) (hd : decode j.2.1 pc = .ok (.invokevirtual idx, 3)) (hk : MOk j' ∧ MInst j' ∧ MPar j' n) (hl : MLk j.1.cls idx j') (hM : P G d' 0 0 j' 0 (LE j' (.retAddr i :: As)) [] K S (Ret K v S)) (hn : As.length = n) (hstk : stk = As.reverse ++ .retAddr i :: st) (h8 : (st.map fun v => v.category).sum ≤ 8) (hL : (LA (.retAddr i :: As)).length ≤ j'.2.2.1) (hdd : d' + 1 ≤ d) (hmx : j'.2.2.1 ≤ 16) (kk : P G d mc ms j (pc + 3) L (v.toList ++ st) K S Q) : P G d mc ms j pc L stk K S Q := by
  have h := T_callX (mc := mc) (ms := ms) (st := st) (L := L) (Q := fun r σ' => ∃ K' S', σ' = HP K' S' ∧ Q r K' S') hi hc hd hk hl hM hn hstk h8 hL hdd hmx (fun r σ' h => by obtain ⟨K', S', rfl, rfl, rfl, rfl⟩ := h; exact kk)
  rw [Nat.zero_add, Nat.zero_add] at h
  exact h
theorem p_coder {i : Nat} (hi : i < 6) : P G 0 0 0 mJ0_coder_7d493 0 (LE mJ0_coder_7d493 [.retAddr i]) [] K S (Ret K (some (IV 0)) S) := by
  rw [show LE mJ0_coder_7d493 [.retAddr i] = [some (.retAddr i)] from rfl]
  refine T_getsC dJ0_coder_7d493_0 rfl ?_
  refine I_if_eq (tgt := 13) dJ0_coder_7d493_3 (by decide) (by decide) (fun h => by omega) (fun _ => ?_)
  refine T_aload_n dJ0_coder_7d493_6 rfl rfl ?_
  refine T_getC hi dJ0_coder_7d493_7 rfl ?_
  refine T_goto (tgt := 14) dJ0_coder_7d493_10 (by decide) ?_
  exact T_ireturn dJ0_coder_7d493_14 rfl rfl ⟨_, _, rfl, rfl, rfl, rfl⟩
theorem p_isLatin1 {i : Nat} (hi : i < 6) : P G 0 0 0 mJ0_isLatin1_aae02 0 (LE mJ0_isLatin1_aae02 [.retAddr i]) [] K S (Ret K (some (IV 1)) S) := by
  rw [show LE mJ0_isLatin1_aae02 [.retAddr i] = [some (.retAddr i)] from rfl]
  refine T_getsC dJ0_isLatin1_aae02_0 rfl ?_
  refine I_if_eq (tgt := 17) dJ0_isLatin1_aae02_3 (by decide) (by decide) (fun h => by omega) (fun _ => ?_)
  refine T_aload_n dJ0_isLatin1_aae02_6 rfl rfl ?_
  refine T_getC hi dJ0_isLatin1_aae02_7 rfl ?_
  refine I_if_ne (tgt := 17) dJ0_isLatin1_aae02_10 (by decide) (by decide) (fun h => absurd rfl h) (fun _ => ?_)
  refine I_iconst dJ0_isLatin1_aae02_13 ?_
  refine T_goto (tgt := 18) dJ0_isLatin1_aae02_14 (by decide) ?_
  exact I_zreturn dJ0_isLatin1_aae02_18 rfl (by decide) ⟨_, _, rfl, rfl, rfl, rfl⟩
theorem p_Slength {i : Nat} {n : Int} (hi : i < 6) (hn : ((slen.getD i 0 : Nat) : Int) = n) : P G 1 0 0 mJ0_length_8abf5 0 (LE mJ0_length_8abf5 [.retAddr i]) [] K S (Ret K (some (IV n)) S) := by
  rw [show LE mJ0_length_8abf5 [.retAddr i] = [some (.retAddr i)] from rfl]
  refine T_aload_n dJ0_length_8abf5_0 rfl rfl ?_
  refine T_getV hi dJ0_length_8abf5_1 rfl ?_
  refine T_alenX hi hn dJ0_length_8abf5_4 ?_
  refine T_aload_n dJ0_length_8abf5_5 rfl rfl ?_
  refine X_call hi rfl dJ0_length_8abf5_6 kJ0_coder_7d493 lJ0_335 (p_coder hi) rfl rfl (Nat.le_of_ble_eq_true rfl) (Nat.le_of_ble_eq_true rfl) (by decide) (by decide) ?_
  refine T_ishr dJ0_length_8abf5_9 ?_
  rw [show iv n >>> (iv 0 &&& 31) = iv n from Int32.shiftRight_zero]
  exact I_ireturn dJ0_length_8abf5_10 rfl ⟨_, _, rfl, rfl, rfl, rfl⟩
theorem p_J3check {z n : Int} {v : Value} (hz : 0 ≤ z ∧ z < n) (hn : n ≤ 100) (hc : v = .null ∨ v = .retAddr 50) : P G 0 0 0 mJ3_checkIndex_8e157 0 (LE mJ3_checkIndex_8e157 [IV z, IV n, v]) [] K S (Ret K (some (IV z)) S) := by
  have e : LE mJ3_checkIndex_8e157 [IV z, IV n, v] = [some (IV z), some (IV n), some v] := by
    rcases hc with rfl | rfl <;> rfl
  rw [e]
  refine T_iload_n dJ3_checkIndex_8e157_0 rfl ?_
  refine I_if_lt (tgt := 9) dJ3_checkIndex_8e157_1 (by decide) ⟨by omega, by omega⟩ (fun h => by omega) (fun _ => ?_)
  refine T_iload_n dJ3_checkIndex_8e157_4 rfl ?_
  refine T_iload_n dJ3_checkIndex_8e157_5 rfl ?_
  refine I_icmp_lt (tgt := 16) dJ3_checkIndex_8e157_6 (by decide) ⟨by omega, by omega⟩ ⟨by omega, by omega⟩ (fun _ => ?_) (fun h => by omega)
  refine T_iload_n dJ3_checkIndex_8e157_16 rfl ?_
  exact I_ireturn dJ3_checkIndex_8e157_17 rfl ⟨_, _, rfl, rfl, rfl, rfl⟩
theorem p_J0check {z n : Int} (hz : 0 ≤ z ∧ z < n) (hn : n ≤ 100) : P G 1 0 0 mJ0_checkIndex_df160 0 (LE mJ0_checkIndex_df160 [IV z, IV n]) [] K S (Ret K none S) := by
  rw [show LE mJ0_checkIndex_df160 [IV z, IV n] = [some (IV z), some (IV n)] from rfl]
  refine T_iload_n dJ0_checkIndex_df160_0 rfl ?_
  refine T_iload_n dJ0_checkIndex_df160_1 rfl ?_
  refine T_getsF dJ0_checkIndex_df160_2 rfl (fun v hc => ?_)
  refine Q_callS dJ0_checkIndex_df160_5 kJ3_checkIndex_8e157 lJ0_1059 (p_J3check hz hn hc) rfl rfl (Nat.le_of_ble_eq_true rfl) (by rcases hc with rfl | rfl <;> exact Nat.le_of_ble_eq_true rfl) (by decide) (by decide) ?_
  refine T_pop dJ0_checkIndex_df160_8 rfl ?_
  exact T_return dJ0_checkIndex_df160_9 rfl ⟨_, _, rfl, rfl, rfl, rfl⟩
/-- letter z of word i -/
def chrM (i : Nat) (z : Int) : Int := ((sbyt.getD i []).getD z.toNat 0).toInt
theorem chr_ok {i : Nat} (hi : i < 6) {z : Int} (hz : 0 ≤ z ∧ z < (slen.getD i 0 : Nat)) : ((((sbyt.getD i []).getD z.toNat 0) &&& iv 255).toUInt32 % 65536).toInt32 = iv (chrM i z) ∧ narrow .char (.int (iv (chrM i z))) = .int (iv (chrM i z)) := by
  obtain ⟨n, rfl⟩ : ∃ n : Nat, z = n := ⟨z.toNat, by omega⟩
  unfold chrM
  rw [Int.toNat_natCast, iv_of]
  have hz2 : n < slen.getD i 0 := by omega
  have h : ∀ i : Fin 6, ∀ n : Fin 6, n.val < slen.getD i.val 0 → ((((sbyt.getD i.val []).getD n.val 0) &&& iv 255).toUInt32 % 65536).toInt32 = (sbyt.getD i.val []).getD n.val 0 ∧ narrow .char (.int ((sbyt.getD i.val []).getD n.val 0)) = .int ((sbyt.getD i.val []).getD n.val 0) := by decide
  have hl : slen.getD i 0 ≤ 6 := by
    rcases (show i = 0 ∨ i = 1 ∨ i = 2 ∨ i = 3 ∨ i = 4 ∨ i = 5 by omega) with rfl | rfl | rfl | rfl | rfl | rfl <;> decide
  exact h ⟨i, hi⟩ ⟨n, by omega⟩ hz2
theorem chr_R (i : Nat) (z : Int) : R32 (chrM i z) := toInt_R32 _
theorem slen_le {i : Nat} (hi : i < 6) : slen.getD i 0 ≤ 6 := by
  rcases (show i = 0 ∨ i = 1 ∨ i = 2 ∨ i = 3 ∨ i = 4 ∨ i = 5 by omega) with rfl | rfl | rfl | rfl | rfl | rfl <;> decide
theorem p_J1charAt {i : Nat} {z : Int} (hi : i < 6) (hz : 0 ≤ z ∧ z < (slen.getD i 0 : Nat)) : P G 2 0 0 mJ1_charAt_3b067 0 (LE mJ1_charAt_3b067 [.retAddr (10 + i), IV z]) [] K S (Ret K (some (IV (chrM i z))) S) := by
  rw [show LE mJ1_charAt_3b067 [.retAddr (10 + i), IV z] = [some (.retAddr (10 + i)), some (IV z)] from rfl]
  have hl := slen_le hi
  refine T_iload_n dJ1_charAt_3b067_0 rfl ?_
  refine T_aload_n dJ1_charAt_3b067_1 rfl rfl ?_
  refine T_alenX hi rfl dJ1_charAt_3b067_2 ?_
  refine Q_callS dJ1_charAt_3b067_3 kJ0_checkIndex_df160 lJ1_9 (p_J0check hz (by omega)) rfl rfl (Nat.le_of_ble_eq_true rfl) (Nat.le_of_ble_eq_true rfl) (by decide) (by decide) ?_
  refine T_aload_n dJ1_charAt_3b067_6 rfl rfl ?_
  refine T_iload_n dJ1_charAt_3b067_7 rfl ?_
  refine T_baldX hi hz rfl dJ1_charAt_3b067_8 ?_
  refine I_sipush dJ1_charAt_3b067_9 (by decide) ?_
  refine T_iand dJ1_charAt_3b067_12 ?_
  refine T_i2c dJ1_charAt_3b067_13 (chr_ok hi hz).1 ?_
  exact T_ireturn dJ1_charAt_3b067_14 rfl (chr_ok hi hz).2 ⟨_, _, rfl, rfl, rfl, rfl⟩
theorem p_charAt {i : Nat} {z : Int} (hi : i < 6) (hz : 0 ≤ z ∧ z < (slen.getD i 0 : Nat)) : P G 3 0 0 mJ0_charAt_5068e 0 (LE mJ0_charAt_5068e [.retAddr i, IV z]) [] K S (Ret K (some (IV (chrM i z))) S) := by
  rw [show LE mJ0_charAt_5068e [.retAddr i, IV z] = [some (.retAddr i), some (IV z)] from rfl]
  refine T_aload_n dJ0_charAt_5068e_0 rfl rfl ?_
  refine X_call hi rfl dJ0_charAt_5068e_1 kJ0_isLatin1_aae02 lJ0_492 (p_isLatin1 hi) rfl rfl (Nat.le_of_ble_eq_true rfl) (Nat.le_of_ble_eq_true rfl) (by decide) (by decide) ?_
  refine I_if_eq (tgt := 16) dJ0_charAt_5068e_4 (by decide) (by decide) (fun h => by omega) (fun _ => ?_)
  refine T_aload_n dJ0_charAt_5068e_7 rfl rfl ?_
  refine T_getV hi dJ0_charAt_5068e_8 rfl ?_
  refine T_iload_n dJ0_charAt_5068e_11 rfl ?_
  refine Q_callS dJ0_charAt_5068e_12 kJ1_charAt_3b067 lJ0_495 (p_J1charAt hi hz) rfl rfl (Nat.le_of_ble_eq_true rfl) (Nat.le_of_ble_eq_true rfl) (by decide) (by decide) ?_
  exact T_ireturn dJ0_charAt_5068e_15 rfl (chr_ok hi hz).2 ⟨_, _, rfl, rfl, rfl, rfl⟩
end Str
