/-! Carrier: tried later, asked, opened, handled -/
def HR (K : List SH) (S : SV) (c p r : Nat) (ad : Int → Nat) (cr : List Row) (i : Nat) (liv : Int) (res : EN × Option Row × List Row) (pl : PL) : Option Value → List SH → SV → Prop := fun rv K' S' => rv = none ∧ K' = K ∧ Outs S S' r (r + 142) ∧ ∃ y : Row, (∀ z, res.2.1 = some z → y = z) ∧ (res.2.1 = none → y 0 = -1) ∧ CS K S' c p r ad ((cr ++ res.2.2).set i y) (liv + res.2.2.length - (if res.2.1.isNone then 1 else 0)) res.1 pl
def lateM (e : EN) (x : Row) : EN × Option Row × List Row := if x 4 + 1 = 5 then ((bounceM e x).1, none, (bounceM e x).2) else (logI e 6 x (x 0), some (rset (rset x 4 (x 4 + 1)) 6 (eCl e + 2 ^ (x 4).toNat)), [])
theorem T.forget {G : GT} {d mc ms : Nat} {j : MD} {pc : Nat} {L : List (Option Value)} {st : List Value} {σ : List va_E} {Q : Option Value → List va_E → Prop} (k : Nat) (h : T G d mc ms j pc (L.set k none) st σ Q) : T G d mc ms j pc L st σ Q := T.locals h (fun i v q => by
  rw [List.getElem?_set] at q
  split at q
  · split at q <;> cases q
  · exact q)
theorem pow_le4 {t : Int} (h : 0 ≤ t ∧ t ≤ 4) : 1 ≤ (2 : Int) ^ t.toNat ∧ (2 : Int) ^ t.toNat ≤ 16 := by
  rcases (show t = 0 ∨ t = 1 ∨ t = 2 ∨ t = 3 ∨ t = 4 by omega) with rfl | rfl | rfl | rfl | rfl <;> decide
section Car2
variable {G : GT} {K : List SH} {S : SV} {c p r : Nat} {ad : Int → Nat} {cr : List Row} {liv N : Int} {e : EN} {pl : PL} {i : Nat} {x : Row}
theorem HR_gone {S' : SV} {e' : EN} {app : List Row} (hO : Outs S S' r (r + 142)) (y : Row) (hy : y 0 = -1) (h : CS K S' c p r ad ((cr ++ app).set i y) (liv + app.length - 1) e' pl) : HR K S c p r ad cr i liv (e', none, app) pl none K S' := ⟨rfl, rfl, hO, y, fun z h => (by cases h), fun _ => hy, h⟩
theorem HR_stay {S' : SV} {e' : EN} {z : Row} (hO : Outs S S' r (r + 142)) (h : CS K S' c p r ad (cr.set i z) liv e' pl) : HR K S c p r ad cr i liv (e', some z, []) pl none K S' := by
  refine ⟨rfl, rfl, hO, z, fun z h => (by cases h; rfl), fun h => (by cases h), ?_⟩
  show CS K S' c p r ad ((cr ++ []).set i z) (liv + ((0 : Nat) : Int) - 0) e' pl
  rw [List.append_nil, show liv + ((0 : Nat) : Int) - 0 = liv by omega]
  exact h
theorem p_Car_later (hS : CS K S c p r ad cr liv e pl) (hi : cr[i]? = some x) (hx : RowB N pl x) (hx4 : x 4 ≤ 4) (hE : EnB N e) (hl : cr.length ≤ 119) (hv : 0 ≤ liv ∧ liv ≤ 1000) : P G 3 0 0 mX2_tryLater 0 (LE mX2_tryLater [.ref c, .ref (ad i)]) [] K S (HR K S c p r ad cr i liv (lateM e x) pl) := by
  have hx0 := hx
  obtain ⟨⟨kc, kp, kr, hA⟩, hpr, -, hP, hR, -⟩ := id hS
  unfold CarAt at kc
  obtain ⟨kr0, kr1, km, kb, kk, -⟩ := id kr
  have kk0 := kk.1
  have km0 := km.1
  obtain ⟨hf, kq, hq⟩ := hS.row hi
  have f0 := hf 0 (by omega)
  have f1 := hf 1 (by omega)
  have f2 := hf 2 (by omega)
  have f3 := hf 3 (by omega)
  have hcl := hR.1.1
  obtain ⟨b0, b1, b2, b3, b4, b5, b6, b7⟩ := hx
  have hhs := hP.1.1
  have hb2 := hR.2.2.2.2.1.2.2.2.1
  have hb3 := hR.2.2.2.2.1.2.1
  have hb4 := hR.2.2.2.2.1.2.2.1
  have hN := hE.2.2.2.2.2.2
  have hle := hE.2.1
  have hec := hE.1
  have f4 := hf 4 (by omega)
  have hlt := (List.getElem?_eq_some_iff.mp hi).1
  obtain ⟨hS1, hO1⟩ := hS.setF hi (k := 4) (v := x 4 + 1) ⟨by omega, by omega⟩
  have hi1 : (cr.set i (rset x 4 (x 4 + 1)))[i]? = some (rset x 4 (x 4 + 1)) := List.getElem?_set_self hlt
  have g := (hS1.row hi1).1
  have g4 : fI (sF S (ad i) 4 (x 4 + 1)) (ad i) 4 = x 4 + 1 := g 4 (by omega)
  have hx1 : RowB N pl (rset x 4 (x 4 + 1)) := ⟨hx0.1, hx0.2.1, hx0.2.2.1, hx0.2.2.2.1, ⟨by show 0 ≤ x 4 + 1; omega, by show x 4 + 1 ≤ 5; omega⟩, hx0.2.2.2.2.2⟩
  by_cases h5 : x 4 + 1 = 5
  · have hM : lateM e x = ((bounceM e x).1, none, (bounceM e x).2) := if_pos h5
    rw [hM]
    rw [show LE mX2_tryLater [.ref c, .ref (ad i)] = [some (.ref c), some (.ref (ad i))] from rfl]
    refine T_aload_n dX2_tryLater_0 rfl rfl ?_
    refine T_dup dX2_tryLater_1 rfl ?_
    refine P_geti dX2_tryLater_2 fX2_165 (by assumption) rfl ?_
    rw [f4]
    refine I_iconst dX2_tryLater_5 ?_
    refine I_iadd dX2_tryLater_6 ?_
    refine P_puti dX2_tryLater_7 fX2_165 (by assumption) rfl rfl ?_
    refine T_aload_n dX2_tryLater_10 rfl rfl ?_
    refine P_geti dX2_tryLater_11 fX2_165 (by assumption) rfl ?_
    rw [g4]
    refine I_iconst dX2_tryLater_14 ?_
    refine I_icmp_lt (tgt := 24) dX2_tryLater_15 (by decide) ⟨by omega, by omega⟩ ⟨by omega, by omega⟩ (fun h15 => ?_) (fun h15 => ?_)
    · omega
    · refine T_aload_n dX2_tryLater_18 rfl rfl ?_
      refine T_aload_n dX2_tryLater_19 rfl rfl ?_
      refine R_callV dX2_tryLater_20 kX2_bounce lX2_113 (by assumption) rfl (p_Car_bounce hS1 hi1 hx1 hE (by rw [List.length_set]; exact hl) hv) rfl rfl (Nat.le_of_ble_eq_true rfl) (Nat.le_of_ble_eq_true rfl) (by decide) (by decide) (fun r_ K_ S_ q_ => ?_)
      obtain ⟨rfl, rfl, hS2, hO2⟩ := q_
      rw [show bounceM e (rset x 4 (x 4 + 1)) = bounceM e x from rfl, List.set_append_left _ _ (by rw [List.length_set]; exact hlt), List.set_set] at hS2
      exact T_return dX2_tryLater_23 rfl ⟨_, _, rfl, HR_gone (hO1.tr hO2) (rset (rset x 4 (x 4 + 1)) 0 (-1)) rfl (by rw [List.set_append_left _ _ hlt]; exact hS2)⟩
  · have hM : lateM e x = (logI e 6 x (x 0), some (rset (rset x 4 (x 4 + 1)) 6 (eCl e + 2 ^ (x 4).toNat)), []) := if_neg h5
    rw [hM]
    have hR1 := hS1.2.2.2.2.1
    have gb2 := hR1.2.2.2.2.1.2.2.2.1
    have gb3 := hR1.2.2.2.2.1.2.1
    have gb4 := hR1.2.2.2.2.1.2.2.1
    have hpw := pow_le4 (t := x 4) ⟨by omega, by omega⟩
    obtain ⟨hS2, hO2⟩ := hS1.write hE (deed := 6) (letter := x 1) (at_ := x 0) (to_ := x 3) ⟨by omega, by omega⟩ ⟨by omega, by omega⟩ ⟨by omega, by omega⟩ ⟨by omega, by omega⟩
    rw [show LE mX2_tryLater [.ref c, .ref (ad i)] = [some (.ref c), some (.ref (ad i))] from rfl]
    refine T_aload_n dX2_tryLater_0 rfl rfl ?_
    refine T_dup dX2_tryLater_1 rfl ?_
    refine P_geti dX2_tryLater_2 fX2_165 (by assumption) rfl ?_
    rw [f4]
    refine I_iconst dX2_tryLater_5 ?_
    refine I_iadd dX2_tryLater_6 ?_
    refine P_puti dX2_tryLater_7 fX2_165 (by assumption) rfl rfl ?_
    refine T_aload_n dX2_tryLater_10 rfl rfl ?_
    refine P_geti dX2_tryLater_11 fX2_165 (by assumption) rfl ?_
    rw [g4]
    refine I_iconst dX2_tryLater_14 ?_
    refine I_icmp_lt (tgt := 24) dX2_tryLater_15 (by decide) ⟨by omega, by omega⟩ ⟨by omega, by omega⟩ (fun h15 => ?_) (fun h15 => ?_)
    · refine T_aload_n dX2_tryLater_24 rfl rfl ?_
      refine P_getr dX2_tryLater_25 fX2_15 (by assumption) rfl ?_
      refine P_getr dX2_tryLater_28 fX2_54 (by assumption) rfl ?_
      refine I_bipush dX2_tryLater_31 (by decide) ?_
      refine T_aload_n dX2_tryLater_33 rfl rfl ?_
      refine P_getr dX2_tryLater_34 fX2_15 (by assumption) rfl ?_
      refine P_geti dX2_tryLater_37 fX2_47 (by assumption) rfl ?_
      rw [show fI (sF S (ad i) 4 (x 4 + 1)) r 0 = eCl e from hR1.1.1]
      refine T_aload_n dX2_tryLater_40 rfl rfl ?_
      refine T_aload_n dX2_tryLater_41 rfl rfl ?_
      refine P_geti dX2_tryLater_42 fX2_89 (by assumption) rfl ?_
      rw [show fI (sF S (ad i) 4 (x 4 + 1)) (ad i) 0 = x 0 from g 0 (by omega)]
      refine Q_callV dX2_tryLater_45 kX0_write lX2_58 (by assumption) rfl (p_Book_write kk kq ⟨by omega, by omega⟩ gb2 ⟨by omega, by omega⟩) rfl rfl (Nat.le_of_ble_eq_true rfl) (Nat.le_of_ble_eq_true rfl) (by decide) (by decide) ?_
      rw [show fI (sF S (ad i) 4 (x 4 + 1)) (ad i) 1 = x 1 from g 1 (by omega), show fI (sF S (ad i) 4 (x 4 + 1)) (ad i) 3 = x 3 from g 3 (by omega)]
      generalize bkE (sF S (ad i) 4 (x 4 + 1)) (r + 128) 6 (eCl e) (x 1) (x 0) (x 3) = S2 at hS2 hO2 ⊢
      have q4 : fI S2 (ad i) 4 = x 4 + 1 := (hS2.row hi1).1 4 (by omega)
      have qc : fI S2 r 0 = eCl e := hS2.2.2.2.2.1.1.1
      obtain ⟨hS3, hO3⟩ := hS2.setF hi1 (k := 6) (v := eCl e + 2 ^ (x 4).toNat) ⟨by omega, by omega⟩
      rw [List.set_set] at hS3
      refine T_aload_n dX2_tryLater_48 rfl rfl ?_
      refine T_aload_n dX2_tryLater_49 rfl rfl ?_
      refine P_getr dX2_tryLater_50 fX2_15 (by assumption) rfl ?_
      refine P_geti dX2_tryLater_53 fX2_47 (by assumption) rfl ?_
      rw [qc]
      refine I_iconst dX2_tryLater_56 ?_
      refine T_aload_n dX2_tryLater_57 rfl rfl ?_
      refine P_geti dX2_tryLater_58 fX2_165 (by assumption) rfl ?_
      rw [q4]
      refine I_iconst dX2_tryLater_61 ?_
      refine I_isub dX2_tryLater_62 ?_
      rw [show x 4 + 1 - 1 = x 4 by omega]
      refine T_ishl dX2_tryLater_63 ?_
      rw [shl_pow ⟨by omega, by omega⟩]
      refine I_iadd dX2_tryLater_64 ?_
      refine P_puti dX2_tryLater_65 fX2_94 (by assumption) rfl rfl ?_
      exact T_return dX2_tryLater_68 rfl ⟨_, _, rfl, HR_stay ((hO1.tr hO2).tr hO3) hS3⟩
    · omega
end Car2
