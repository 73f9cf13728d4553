/-! Carrier: a list is opened -/
noncomputable def freeU (p : PL) (m l : Int) (n : Nat) : List Int := ((List.range n).map (fun t : Nat => pLd p l (t : Int))).filter (fun a => @decide (¬ bitM m a) (Classical.propDecidable _))
theorem freeU_t {p : PL} {m l : Int} {n : Nat} (h : bitM m (pLd p l n)) : freeU p m l (n + 1) = freeU p m l n := by
  unfold freeU
  rw [List.range_succ, List.map_append, List.filter_append]
  simp [h]
theorem freeU_f {p : PL} {m l : Int} {n : Nat} (h : ¬ bitM m (pLd p l n)) : freeU p m l (n + 1) = freeU p m l n ++ [pLd p l n] := by
  unfold freeU
  rw [List.range_succ, List.map_append, List.filter_append]
  simp [h]
theorem freeU_len (p : PL) (m l : Int) (n : Nat) : (freeU p m l n).length ≤ n := by
  unfold freeU
  have := List.length_filter_le (fun a => @decide (¬ bitM m a) (Classical.propDecidable _)) ((List.range n).map (fun t : Nat => pLd p l (t : Int)))
  rw [List.length_map, List.length_range] at this
  exact this
theorem freeU_mono (p : PL) (m l : Int) (n k : Nat) : (freeU p m l n).length ≤ (freeU p m l (n + k)).length := by
  induction k with
  | zero => exact Nat.le_refl _
  | succ k ih =>
    rw [← Nat.add_assoc]
    by_cases h : bitM m (pLd p l ((n + k : Nat) : Int))
    · rw [freeU_t h]; exact ih
    · rw [freeU_f h, List.length_append]; exact Nat.le_trans ih (Nat.le_add_right _ _)
theorem freeM_eq (p : PL) (m l : Int) : freeM p m l = freeU p m l (pLc p l).toNat := rfl
section Car4
variable {G : GT} {K : List SH} {S : SV} {c p r : Nat} {ad : Int → Nat} {cr : List Row} {liv N : Int} {e : EN} {pl : PL} {i : Nat} {x : Row}
theorem l_Car_unmarked {l m : Int} (hS : CS K S c p r ad cr liv e pl) (hlr : 0 ≤ l ∧ l < 32) (k : Nat) (hk : (k : Int) ≤ pLc pl l) : P G 1 0 0 mX2_unmarked 5 [some (.ref c), some (IV l), some (IV m), some (IV (freeU pl m l k).length), some (IV k)] [] K S (Ret K (some (IV (freeM pl m l).length)) S) := by
  obtain ⟨⟨kc, kp, kr, hA⟩, hpr, hr, hP, hR, -⟩ := id hS
  unfold CarAt at kc
  have kp0 := kp.1
  have kp8 := kp.2.2.2.2.2.2.2.2.1
  have hO := hP.1.2.2.2.2.2 l hlr.1 hlr.2
  obtain ⟨-, hlc, hld⟩ := hP.2.2.2.2.1 l hlr.1 hlr.2
  have hfl := freeU_len pl m l k
  induction hm : (pLc pl l - k).toNat using Nat.strongRecOn generalizing k with
  | _ w ih =>
    have hip : ((k : Int) + 1) = ((k + 1 : Nat) : Int) := by omega
    refine T_iload dX2_unmarked_5 rfl ?_
    refine T_aload_n dX2_unmarked_7 rfl rfl ?_
    refine P_getr dX2_unmarked_8 fX2_9 (by assumption) rfl ?_
    refine P_getr dX2_unmarked_11 fX2_174 (by assumption) rfl ?_
    refine T_iload_n dX2_unmarked_14 rfl ?_
    refine P_iald dX2_unmarked_15 (by assumption) ⟨by omega, by omega⟩ (by first | decide | omega) ?_
    rw [hlc]
    refine I_icmp_ge (tgt := 45) dX2_unmarked_16 (by decide) ⟨by omega, by omega⟩ ⟨by omega, by omega⟩ (fun h16 => ?_) (fun h16 => ?_)
    · refine T_iload_n dX2_unmarked_45 rfl ?_
      exact I_ireturn dX2_unmarked_46 rfl ⟨_, _, rfl, by rw [freeM_eq, show (pLc pl l).toNat = k by omega], rfl, rfl⟩
    · refine T_iload_n dX2_unmarked_19 rfl ?_
      refine T_aload_n dX2_unmarked_20 rfl rfl ?_
      refine P_getr dX2_unmarked_21 fX2_9 (by assumption) rfl ?_
      refine T_iload_n dX2_unmarked_24 rfl ?_
      refine T_iload dX2_unmarked_25 rfl ?_
      refine Q_callV dX2_unmarked_27 kX5_lead lX2_161 (by assumption) rfl (p_Plan_lead kp hlr ⟨by omega, by omega⟩) rfl rfl (Nat.le_of_ble_eq_true rfl) (Nat.le_of_ble_eq_true rfl) (by decide) (by decide) ?_
      rw [hld k (by omega) (by omega)]
      have hb := hO.2.2.2.2 k (by omega) (by omega)
      refine T_iushr dX2_unmarked_30 rfl ?_
      refine I_iconst dX2_unmarked_31 ?_
      refine T_iand dX2_unmarked_32 ?_
      rw [bit_ushr hb]
      refine I_if_ne (tgt := 39) dX2_unmarked_33 (by decide) (by rcases b2p_01 (bitM m (pLd pl l k)) with z | z <;> rw [z] <;> decide) (fun h33 => ?_) (fun h33 => ?_)
      · refine I_iinc dX2_unmarked_39 rfl (by decide) rfl ?_
        refine T_goto (tgt := 5) dX2_unmarked_42 (by decide) ?_
        first
          | (have hyb : bitM m (pLd pl l k) := Classical.byContradiction (fun z => h33 (b2p_f z))
             have z := ih _ (by omega) (k + 1) (by omega) (freeU_len pl m l (k + 1)) rfl
             rw [freeU_t hyb, ← hip] at z
             exact z)
          | (have z := ih _ (by omega) (k + 1) (by omega) (freeU_len pl m l (k + 1)) rfl
             rw [freeU_f hnb, List.length_append, ← hip, show (((freeU pl m l k).length + [pLd pl l k].length : Nat) : Int) = ((freeU pl m l k).length : Int) + 1 by simp] at z
             exact z)
      · have hnb : ¬ bitM m (pLd pl l k) := fun z => by rw [b2p_t z] at h33; exact absurd h33 (by decide)
        refine I_iinc dX2_unmarked_36 rfl (by decide) rfl ?_
        refine I_iinc dX2_unmarked_39 rfl (by decide) rfl ?_
        refine T_goto (tgt := 5) dX2_unmarked_42 (by decide) ?_
        first
          | (have hyb : bitM m (pLd pl l k) := Classical.byContradiction (fun z => h33 (b2p_f z))
             have z := ih _ (by omega) (k + 1) (by omega) (freeU_len pl m l (k + 1)) rfl
             rw [freeU_t hyb, ← hip] at z
             exact z)
          | (have z := ih _ (by omega) (k + 1) (by omega) (freeU_len pl m l (k + 1)) rfl
             rw [freeU_f hnb, List.length_append, ← hip, show (((freeU pl m l k).length + [pLd pl l k].length : Nat) : Int) = ((freeU pl m l k).length : Int) + 1 by simp] at z
             exact z)
theorem p_Car_unmarked {l m : Int} (hS : CS K S c p r ad cr liv e pl) (hlr : 0 ≤ l ∧ l < 32) : P G 1 0 0 mX2_unmarked 0 (LE mX2_unmarked [.ref c, IV l, IV m]) [] K S (Ret K (some (IV (freeM pl m l).length)) S) := by
  have hO := hS.2.2.2.1.1.2.2.2.2.2 l hlr.1 hlr.2
  rw [show LE mX2_unmarked [.ref c, IV l, IV m] = [some (.ref c), some (IV l), some (IV m), none, none] from rfl]
  refine I_iconst dX2_unmarked_0 ?_
  refine T_istore_n dX2_unmarked_1 (by decide) rfl ?_
  refine I_iconst dX2_unmarked_2 ?_
  refine T_istore dX2_unmarked_3 (by decide) rfl ?_
  exact l_Car_unmarked hS hlr 0 (by have := hO.2.1; omega)
/-- the rows of those that come of a list -/
def listRows (e : EN) (x : Row) (m : Int) (l : List Int) : List Row := l.map (fun a => row8 (x 0) (x 1) (x 2) a 0 (x 5 + 1) (eCl e + 1) m)
theorem l_Car_open {m : Int} {S0 : SV} (hi : cr[i]? = some x) (hx : RowB N pl x) (hx8 : x 5 ≤ 7) (hE : EnB N e) (hmr : R32 m) (hv : 0 ≤ liv ∧ liv ≤ 60) (hg : cr.length + (freeM pl m (x 3)).length ≤ 120) (hli : i < cr.length) (k : Nat) (hk : (k : Int) ≤ pLc pl (x 3)) (S : SV) (hS : CS K S c p r ad (cr ++ listRows e x m (freeU pl m (x 3) k)) (liv + (freeU pl m (x 3) k).length) (logI e 5 x (x 0)) pl) (hO0 : Outs S0 S r (r + 142)) : P G 3 0 0 mX2_openList 127 [some (.ref c), some (.ref (ad i)), some (IV (x 3)), some (IV m), some (IV (freeM pl m (x 3)).length), some (IV k), none] [] K S (fun rv K' S' => rv = none ∧ K' = K ∧ CS K S' c p r ad ((cr ++ listRows e x m (freeM pl m (x 3))).set i (rset x 0 (-1))) (liv + (freeM pl m (x 3)).length - 1) (eOlS (logI e 5 x (x 0)) (eOl e + (freeM pl m (x 3)).length)) pl ∧ Outs S0 S' r (r + 142)) := by
  induction hm : (pLc pl (x 3) - k).toNat using Nat.strongRecOn generalizing k S with
  | _ w ih =>
    obtain ⟨⟨kc, kp, kr, hA⟩, hpr, hr, hP, hR, hll⟩ := id hS
    unfold CarAt at kc
    obtain ⟨kr0, kr1, km, kb, kk, -⟩ := id kr
    have km0 := km.1
    have kp0 := kp.1
    have kp8 := kp.2.2.2.2.2.2.2.2.1
    obtain ⟨b0, b1, b2, b3, b4, b5, b6, b7⟩ := hx
    have hPO := hP.1.2.2.2.2.2 (x 3) b3.1 b3.2
    have hhs := hP.1.1
    obtain ⟨-, hlc, hld⟩ := hP.2.2.2.2.1 (x 3) b3.1 b3.2
    have hi1 : (cr ++ listRows e x m (freeU pl m (x 3) k))[i]? = some x := by rw [List.getElem?_append_left hli]; exact hi
    obtain ⟨hf, kq, hq⟩ := hS.row hi1
    have hN := hE.2.2.2.2.2.2
    have hec := hE.1
    have heo := hE.2.2.1
    have hcl : fI S r 0 = eCl e := hR.1.1
    have hol : fI S r 2 = eOl e := hR.1.2.2
    have hip : ((k : Int) + 1) = ((k + 1 : Nat) : Int) := by omega
    have hfm := freeU_mono pl m (x 3) k ((pLc pl (x 3)).toNat - k)
    rw [show k + ((pLc pl (x 3)).toNat - k) = (pLc pl (x 3)).toNat by omega, ← freeM_eq] at hfm
    have hf4 := freeU_len pl m (x 3) (pLc pl (x 3)).toNat
    rw [← freeM_eq] at hf4
    have hlrl : (listRows e x m (freeU pl m (x 3) k)).length = (freeU pl m (x 3) k).length := List.length_map _
    have gu2 := hR.2.2.1
    have gu3 := gu2.1
    rw [List.length_append, hlrl] at gu3
    refine T_iload dX2_openList_127 rfl ?_
    refine T_aload_n dX2_openList_129 rfl rfl ?_
    refine P_getr dX2_openList_130 fX2_9 (by assumption) rfl ?_
    refine P_getr dX2_openList_133 fX2_174 (by assumption) rfl ?_
    refine T_iload_n dX2_openList_136 rfl ?_
    refine P_iald dX2_openList_137 (by assumption) ⟨by omega, by omega⟩ (by first | decide | omega) ?_
    rw [hlc]
    refine I_icmp_ge (tgt := 195) dX2_openList_138 (by decide) ⟨by omega, by omega⟩ ⟨by omega, by omega⟩ (fun h138 => ?_) (fun h138 => ?_)
    · have hkl : (pLc pl (x 3)).toNat = k := by omega
      have hfe : freeU pl m (x 3) k = freeM pl m (x 3) := by rw [freeM_eq, hkl]
      rw [hfe] at hS hi1
      obtain ⟨hS1, hO1⟩ := hS.ol (v := eOl e + (freeM pl m (x 3)).length) ⟨by omega, by omega⟩
      have hS2 := hS1.rem ⟨by omega, by omega⟩ hi1
      refine T_aload_n dX2_openList_195 rfl rfl ?_
      refine P_getr dX2_openList_196 fX2_15 (by assumption) rfl ?_
      refine T_dup dX2_openList_199 rfl ?_
      refine P_geti dX2_openList_200 fX2_181 (by assumption) rfl ?_
      rw [hol]
      refine T_iload dX2_openList_203 rfl ?_
      refine I_iadd dX2_openList_205 ?_
      refine P_puti dX2_openList_206 fX2_181 (by assumption) rfl rfl ?_
      refine T_aload_n dX2_openList_209 rfl rfl ?_
      refine P_getr dX2_openList_210 fX2_15 (by assumption) rfl ?_
      refine P_getr dX2_openList_213 fX2_29 (by assumption) rfl ?_
      refine T_aload_n dX2_openList_216 rfl rfl ?_
      refine Q_callV dX2_openList_217 kX4_remove lX2_158 (by assumption) rfl (p_Mail_remove km kq (by omega)) rfl rfl (Nat.le_of_ble_eq_true rfl) (Nat.le_of_ble_eq_true rfl) (by decide) (by decide) ?_
      exact T_return dX2_openList_220 rfl ⟨_, _, rfl, rfl, rfl, hS2.1, (hO0.tr hO1).tr hS2.2⟩
    · refine T_aload_n dX2_openList_141 rfl rfl ?_
      refine P_getr dX2_openList_142 fX2_9 (by assumption) rfl ?_
      refine T_iload_n dX2_openList_145 rfl ?_
      refine T_iload dX2_openList_146 rfl ?_
      refine Q_callV dX2_openList_148 kX5_lead lX2_161 (by assumption) rfl (p_Plan_lead kp b3 ⟨by omega, by omega⟩) rfl rfl (Nat.le_of_ble_eq_true rfl) (Nat.le_of_ble_eq_true rfl) (by decide) (by decide) ?_
      rw [hld k (by omega) (by omega)]
      have hb := hPO.2.2.2.2 k (by omega) (by omega)
      refine T_istore dX2_openList_151 (by decide) rfl ?_
      refine T_iload_n dX2_openList_153 rfl ?_
      refine T_iload dX2_openList_154 rfl ?_
      refine T_iushr dX2_openList_156 rfl ?_
      refine I_iconst dX2_openList_157 ?_
      refine T_iand dX2_openList_158 ?_
      rw [bit_ushr hb]
      refine I_if_ne (tgt := 189) dX2_openList_159 (by decide) (by rcases b2p_01 (bitM m (pLd pl (x 3) k)) with z | z <;> rw [z] <;> decide) (fun h159 => ?_) (fun h159 => ?_)
      · refine I_iinc dX2_openList_189 rfl (by decide) rfl ?_
        refine T_goto (tgt := 127) dX2_openList_192 (by decide) ?_
        refine T.forget 6 ?_
        first
          | (have hyb : bitM m (pLd pl (x 3) k) := Classical.byContradiction (fun z => h159 (b2p_f z))
             have z := ih _ (by omega) (k + 1) (by omega) S (by rw [freeU_t hyb]; exact hS) hO0 rfl
             rw [← hip] at z
             exact z)
          | (have z := ih _ (by omega) (k + 1) (by omega) _ (by
               rw [freeU_f hnb]
               unfold listRows at hS1 ⊢
               rw [List.map_append, ← List.append_assoc, List.length_append, show (((freeU pl m (x 3) k).length + [pLd pl (x 3) k].length : Nat) : Int) = ((freeU pl m (x 3) k).length : Int) + 1 by simp, ← Int.add_assoc]
               exact hS1) (hO0.tr hO1) rfl
             rw [← hip] at z
             exact z)
      · have hnb : ¬ bitM m (pLd pl (x 3) k) := fun z => by rw [b2p_t z] at h159; exact absurd h159 (by decide)
        have hfs := freeU_mono pl m (x 3) (k + 1) ((pLc pl (x 3)).toNat - (k + 1))
        rw [show k + 1 + ((pLc pl (x 3)).toNat - (k + 1)) = (pLc pl (x 3)).toNat by omega, ← freeM_eq, freeU_f hnb, List.length_append, show [pLd pl (x 3) k].length = 1 from rfl] at hfs
        have hlen2 : (cr ++ listRows e x m (freeU pl m (x 3) k)).length ≤ 119 := by rw [List.length_append, hlrl]; omega
        obtain ⟨hS1, hO1⟩ := hS.onw hlen2 (at_ := x 0) (to_ := pLd pl (x 3) k) (marks := m) (due := eCl e + 1) ⟨by omega, by omega⟩ hi1 ⟨by omega, by omega⟩ ⟨by omega, by omega⟩ ⟨by omega, by omega⟩ hmr ⟨by omega, by omega⟩
        have hqa : qa S (r + 2) (fI S (r + 2) 1) = ad (cr ++ listRows e x m (freeU pl m (x 3) k)).length := by rw [gu2.1]; exact gu2.qaE (by omega) (by omega)
        have hne : ad i ≠ ad (cr ++ listRows e x m (freeU pl m (x 3) k)).length := hA.ne (by omega) (by omega) (by rw [List.length_append]; omega)
        refine T_aload_n dX2_openList_162 rfl rfl ?_
        refine P_getr dX2_openList_163 fX2_15 (by assumption) rfl ?_
        refine P_getr dX2_openList_166 fX2_29 (by assumption) rfl ?_
        refine T_aload_n dX2_openList_169 rfl rfl ?_
        refine T_aload_n dX2_openList_170 rfl rfl ?_
        refine P_geti dX2_openList_171 fX2_89 (by assumption) rfl ?_
        rw [hf 0 (by omega)]
        refine T_iload dX2_openList_174 rfl ?_
        refine T_iload_n dX2_openList_176 rfl ?_
        refine T_aload_n dX2_openList_177 rfl rfl ?_
        refine P_getr dX2_openList_178 fX2_15 (by assumption) rfl ?_
        refine P_geti dX2_openList_181 fX2_47 (by assumption) rfl ?_
        rw [hcl]
        refine I_iconst dX2_openList_184 ?_
        refine I_iadd dX2_openList_185 ?_
        refine Q_callV dX2_openList_186 kX4_addOnward lX2_177 (by assumption) rfl (p_Mail_addOnward km (gu2.rows hA) ⟨by omega, by omega⟩ kq (by rw [hqa]; exact hne) (by omega)) rfl rfl (Nat.le_of_ble_eq_true rfl) (Nat.le_of_ble_eq_true rfl) (by decide) (by decide) ?_
        refine I_iinc dX2_openList_189 rfl (by decide) rfl ?_
        refine T_goto (tgt := 127) dX2_openList_192 (by decide) ?_
        refine T.forget 6 ?_
        first
          | (have hyb : bitM m (pLd pl (x 3) k) := Classical.byContradiction (fun z => h159 (b2p_f z))
             have z := ih _ (by omega) (k + 1) (by omega) S (by rw [freeU_t hyb]; exact hS) hO0 rfl
             rw [← hip] at z
             exact z)
          | (have z := ih _ (by omega) (k + 1) (by omega) _ (by
               rw [freeU_f hnb]
               unfold listRows at hS1 ⊢
               rw [List.map_append, ← List.append_assoc, List.length_append, show (((freeU pl m (x 3) k).length + [pLd pl (x 3) k].length : Nat) : Int) = ((freeU pl m (x 3) k).length : Int) + 1 by simp, ← Int.add_assoc]
               exact hS1) (hO0.tr hO1) rfl
             rw [← hip] at z
             exact z)
end Car4
