/-! Carrier: a turn, a tick -/
theorem RoundR.mail2 {S S' : SV} {r : Nat} {ad ad' : Int → Nat} {cr cr' : List Row} {liv liv' : Int} {e : EN} (h : RoundR S r ad cr liv e) (hm : MailR S' (r + 2) ad' cr' liv') (lo : Same S S' r (r + 2)) (hi : Same S S' (r + 124) (r + 142)) : RoundR S' r ad' cr' liv' e := by
  obtain ⟨⟨h1, h2, h3⟩, h4, h5, h6, h7, h8, h9⟩ := h
  have q := lo r (by omega) (by omega)
  exact ⟨⟨(q.1 0).trans h1, (q.1 1).trans h2, (q.1 2).trans h3⟩, fun x a b => ((lo (r + 1) (by omega) (by omega)).2.1 x).trans (h4 x a b), hm, h6.same (hi.sub (by omega) (by omega)), h7.same (hi.sub (by omega) (by omega)), fun x a b => ((hi (r + 131) (by omega) (by omega)).2.2 x).trans (h8 x a b), fun x a b => (h9 x a b).same (hi.sub (by unfold sgAt; omega) (by unfold sgAt; omega))⟩
/-- between turns: all rows live -/
def CT (K : List SH) (S : SV) (c p r : Nat) (its : List Row) (e : EN) (pl : PL) (N : Int) : Prop := (∃ ad, CS K S c p r ad its its.length e pl) ∧ EnB N e ∧ (∀ x ∈ its, okRow N pl x) ∧ its.length ≤ 60
theorem okRow.live {N : Int} {pl : PL} {x : Row} (h : okRow N pl x) : liveB x = true := by
  have := h.1.1.1
  simp only [liveB, decide_eq_true_eq]
  omega
theorem okRow.mono {N N' : Int} {pl : PL} {x : Row} (h : okRow N pl x) (hN : N ≤ N') : okRow N' pl x := ⟨h.1.mono hN, h.2⟩
theorem filter_live {N : Int} {pl : PL} {l : List Row} (h : ∀ x ∈ l, okRow N pl x) : l.filter liveB = l := List.filter_eq_self.mpr (fun x hx => (h x hx).live)
section Turn
variable {G : GT} {K : List SH} {c p r : Nat} {ad : Int → Nat} {pl : PL}
def TQ (K : List SH) (S : SV) (c p r : Nat) (pl : PL) (res : EN × List Row) (N : Int) : Option Value → List SH → SV → Prop := fun rv K' S' => rv = none ∧ K' = K ∧ Outs S S' r (r + 142) ∧ CT K S' c p r res.2 res.1 pl N
theorem l_turn {h A : Int} (hh : R32 h) : ∀ (rest cd nw : List Row) (S : SV) (e : EN) (N : Int), CS K S c p r ad (cd ++ rest ++ nw) (((cd.filter liveB).length : Int) + (rest.length : Int) + (nw.length : Int)) e pl → EnB N e → N + 20 * rest.length ≤ 1000000000 → (∀ x ∈ cd.filter liveB, okRow N pl x) → (∀ x ∈ rest, okRow N pl x) → (∀ x ∈ nw, okRow N pl x) → (cd.filter liveB).length + rest.length + nw.length ≤ 60 → ((cd.length : Int) + rest.length = A ∧ A ≤ 60) → P G 5 0 0 mX2_takeTurn 13 [some (.ref c), some (IV h), some (IV A), some (IV cd.length), none] [] K S (TQ K S c p r pl (turnM pl h (cd.filter liveB) rest nw e) (N + 20 * rest.length))
  | [], cd, nw, S, e, N, hS, hE, hN, hcd, _, hnw, h60, hA60 => by
    obtain ⟨⟨kc, kp, kr, hA⟩, hpr, hr, hP, hR, hll⟩ := id hS
    unfold CarAt at kc
    obtain ⟨kr0, kr1, km, kb, kk, -⟩ := id kr
    have km0 := km.1
    have hr0 : ([] : List Row).length = 0 := rfl
    have hrI : (([] : List Row).length : Int) = 0 := rfl
    have hfl : (cd ++ [] ++ nw).filter liveB = cd.filter liveB ++ nw := by rw [List.append_nil, List.filter_append, filter_live hnw]
    refine T_iload_n dX2_takeTurn_13 rfl ?_
    refine T_iload_n dX2_takeTurn_14 rfl ?_
    refine I_icmp_ge (tgt := 68) dX2_takeTurn_15 (by decide) ⟨by omega, by omega⟩ ⟨by omega, by omega⟩ (fun h15 => ?_) (fun h15 => ?_)
    · refine T_aload_n dX2_takeTurn_68 rfl rfl ?_
      refine P_getr dX2_takeTurn_69 fX2_15 (by assumption) rfl ?_
      refine P_getr dX2_takeTurn_72 fX2_29 (by assumption) rfl ?_
      refine R_callV dX2_takeTurn_75 kX4_closeGaps lX2_101 (by assumption) rfl (p_closeGaps km hll hA hr hR.2.2.1) rfl rfl (Nat.le_of_ble_eq_true rfl) (Nat.le_of_ble_eq_true rfl) (by decide) (by decide) (fun r_ K_ S_ q_ => ?_)
      obtain ⟨rfl, rfl, ⟨ad', hA', hM'⟩, hO1, hr'⟩ := q_
      rw [hfl] at hM'
      exact T_return dX2_takeTurn_78 rfl ⟨_, _, rfl, rfl, rfl, hO1.sub (by omega) (by omega), ⟨ad', ⟨kc, kp, kr, hA'⟩, hpr, hr', hP.same (hO1 _ _ (by omega)), by
        have z := hR.mail2 hM' (hO1 _ _ (by omega)) (hO1 _ _ (by omega))
        rw [show (((cd.filter liveB).length : Int) + (([] : List Row).length : Int) + (nw.length : Int)) = ((cd.filter liveB ++ nw).length : Int) by rw [List.length_append]; omega] at z
        exact z, by show (cd.filter liveB ++ nw).length ≤ 120; rw [List.length_append]; omega⟩, hE.mono (by omega) hN, fun x hx => by
        rcases List.mem_append.mp hx with q | q
        · exact (hcd x q).mono (by omega)
        · exact (hnw x q).mono (by omega), by show (cd.filter liveB ++ nw).length ≤ 60; rw [List.length_append]; omega⟩
    · omega
  | x :: rs, cd, nw, S, e, N, hS, hE, hN, hcd, hrs, hnw, h60, hA60 => by
    have hrl : (x :: rs).length = rs.length + 1 := rfl
    have hrI : ((x :: rs).length : Int) = rs.length + 1 := by rw [hrl]; omega
    have hxk := hrs x List.mem_cons_self
    have hrs' : ∀ y ∈ rs, okRow N pl y := fun y hy => hrs y (List.mem_cons_of_mem _ hy)
    obtain ⟨⟨kc, kp, kr, hA⟩, hpr, hr, hP, hR, hll⟩ := id hS
    unfold CarAt at kc
    obtain ⟨kr0, kr1, km, kb, kk, -⟩ := id kr
    have km0 := km.1
    have km1 := km.2.1
    have hi : (cd ++ x :: rs ++ nw)[cd.length]? = some x := by
      rw [List.append_assoc, List.getElem?_append_right (Nat.le_refl _), Nat.sub_self]; rfl
    obtain ⟨hf, kq, hq⟩ := hS.row hi
    have f0 := hf 0 (by omega)
    have f6 := hf 6 (by omega)
    have hcl : fI S r 0 = eCl e := hR.1.1
    obtain ⟨⟨b0, b1, b2, b3, b4, b5, b6, b7⟩, hx4⟩ := id hxk
    have hec := hE.1
    have hNN := hE.2.2.2.2.2.2
    have hhs := hP.1.1
    have hip : ((cd.length : Int) + 1) = ((cd.length + 1 : Nat) : Int) := by omega
    have hcrl : (cd ++ x :: rs ++ nw).length = cd.length + (rs.length + 1) + nw.length := by rw [List.length_append, List.length_append, hrl]
    have hdl := List.length_filter_le liveB cd
    by_cases hdue : x 0 = h ∧ x 6 ≤ eCl e
    · have hT : turnM pl h (cd.filter liveB) (x :: rs) nw e = turnM pl h (cd.filter liveB ++ (handleM pl e ((cd.filter liveB).length + (rs.length + 1) + nw.length) x).2.1.toList) rs (nw ++ (handleM pl e ((cd.filter liveB).length + (rs.length + 1) + nw.length) x).2.2) (handleM pl e ((cd.filter liveB).length + (rs.length + 1) + nw.length) x).1 := by rw [turnM, if_pos hdue]
      rw [hT]
      have hok := handleM_ok (n := ((cd.filter liveB).length : Int) + (rs.length + 1) + nw.length) hP.1 hE hxk (by omega)
      have h6 := handleM_60 (pl := pl) (e := e) (x := x) (n := ((cd.filter liveB).length : Int) + (rs.length + 1) + nw.length) ⟨by omega, by omega⟩
      rw [hrI] at hS
      refine T_iload_n dX2_takeTurn_13 rfl ?_
      refine T_iload_n dX2_takeTurn_14 rfl ?_
      refine I_icmp_ge (tgt := 68) dX2_takeTurn_15 (by decide) ⟨by omega, by omega⟩ ⟨by omega, by omega⟩ (fun h15 => ?_) (fun h15 => ?_)
      · omega
      · refine T_aload_n dX2_takeTurn_18 rfl rfl ?_
        refine P_getr dX2_takeTurn_19 fX2_15 (by assumption) rfl ?_
        refine P_getr dX2_takeTurn_22 fX2_29 (by assumption) rfl ?_
        refine P_getr dX2_takeTurn_25 fX2_85 (by assumption) rfl ?_
        refine T_iload_n dX2_takeTurn_28 rfl ?_
        refine P_aald dX2_takeTurn_29 (by assumption) (by decide) ⟨by omega, by omega⟩ (by decide) (hR.2.2.1.2.2.1 _ (by omega) (by omega)) ?_
        refine T_astore dX2_takeTurn_30 (by decide) rfl ?_
        refine T_aload dX2_takeTurn_32 rfl rfl ?_
        refine P_geti dX2_takeTurn_34 fX2_89 (by assumption) rfl ?_
        rw [f0]
        refine T_iload_n dX2_takeTurn_37 rfl ?_
        refine I_icmp_ne (tgt := 62) dX2_takeTurn_38 (by decide) ⟨by omega, by omega⟩ ⟨by omega, by omega⟩ (fun h38 => ?_) (fun h38 => ?_)
        · exact absurd hdue.1 h38
        · refine T_aload dX2_takeTurn_41 rfl rfl ?_
          refine P_geti dX2_takeTurn_43 fX2_94 (by assumption) rfl ?_
          rw [f6]
          refine T_aload_n dX2_takeTurn_46 rfl rfl ?_
          refine P_getr dX2_takeTurn_47 fX2_15 (by assumption) rfl ?_
          refine P_geti dX2_takeTurn_50 fX2_47 (by assumption) rfl ?_
          rw [hcl]
          refine I_icmp_gt (tgt := 62) dX2_takeTurn_53 (by decide) ⟨by omega, by omega⟩ ⟨by omega, by omega⟩ (fun h53 => ?_) (fun h53 => ?_)
          · omega
          · refine T_aload_n dX2_takeTurn_56 rfl rfl ?_
            refine T_aload dX2_takeTurn_57 rfl rfl ?_
            refine R_callV dX2_takeTurn_59 kX2_handle lX2_97 (by assumption) rfl (p_Car_handle hS hi hxk.1 hxk.2 hE ⟨by omega, by omega⟩ (by rw [hcrl]; omega)) rfl rfl (Nat.le_of_ble_eq_true rfl) (Nat.le_of_ble_eq_true rfl) (by decide) (by decide) (fun r_ K_ S_ q_ => ?_)
            obtain ⟨rfl, hKe, hO1, y, hy1, hy2, hS1⟩ := q_
            have hKe := hKe.symm
            subst hKe
            generalize handleM pl e (((cd.filter liveB).length : Int) + (rs.length + 1) + nw.length) x = res at hok h6 hy1 hy2 hS1 ⊢
            obtain ⟨e1, stay, app⟩ := res
            have hcr : (cd ++ x :: rs ++ nw ++ app).set cd.length y = (cd ++ [y]) ++ rs ++ (nw ++ app) := by
              rw [List.append_assoc, List.append_assoc, List.set_append_right _ _ (Nat.le_refl _), Nat.sub_self]
              simp
            have hfy : (cd ++ [y]).filter liveB = cd.filter liveB ++ stay.toList := by
              rw [List.filter_append]
              congr 1
              cases stay with
              | none => simp [liveB, hy2 rfl]
              | some z => rw [hy1 z rfl]; simp [(hok.2.1 z rfl).live]
            have hsl : ((stay.toList.length : Nat) : Int) = 1 - (if stay.isNone then 1 else 0) := by cases stay <;> rfl
            have hz := l_turn (A := A) hh rs (cd ++ [y]) (nw ++ app) S_ e1 (N + 20) (by
              have hS1 : CS K S_ c p r ad ((cd ++ x :: rs ++ nw ++ app).set cd.length y) (((cd.filter liveB).length : Int) + (rs.length + 1) + nw.length + app.length - (if stay.isNone then 1 else 0)) e1 pl := hS1
              rw [hcr] at hS1
              rw [hfy, List.length_append, List.length_append]
              rw [show ((((cd.filter liveB).length + stay.toList.length : Nat) : Int) + (rs.length : Int) + ((nw.length + app.length : Nat) : Int)) = (((cd.filter liveB).length : Int) + (rs.length + 1) + nw.length + app.length - (if stay.isNone then 1 else 0)) by omega]
              exact hS1) hok.1 (by omega) (fun z hz => by
              rw [hfy] at hz
              rcases List.mem_append.mp hz with q | q
              · exact (hcd z q).mono (by omega)
              · exact hok.2.1 z (by simpa using q)) (fun z hz => (hrs' z hz).mono (by omega)) (fun z hz => by
              rcases List.mem_append.mp hz with q | q
              · exact (hnw z q).mono (by omega)
              · exact hok.2.2 z q) (by
              have h6 : 0 ≤ ((cd.filter liveB).length : Int) + (rs.length + 1) + nw.length + app.length - (if stay.isNone then 1 else 0) ∧ ((cd.filter liveB).length : Int) + (rs.length + 1) + nw.length + app.length - (if stay.isNone then 1 else 0) ≤ 60 := h6
              rw [hfy, List.length_append, List.length_append]
              omega) ⟨by rw [List.length_append]; simp; omega, hA60.2⟩
            rw [hfy, List.length_append, show ((cd.length + [y].length : Nat) : Int) = (cd.length : Int) + 1 by simp] at hz
            refine I_iinc dX2_takeTurn_62 rfl (by decide) rfl ?_
            refine T_goto (tgt := 13) dX2_takeTurn_65 (by decide) ?_
            refine T.forget 4 ?_
            exact P.weaken hz (fun r' K' S' q => ⟨q.1, q.2.1, hO1.tr q.2.2.1, by
              have q4 := q.2.2.2
              rw [show N + 20 + 20 * (rs.length : Int) = N + 20 * ((x :: rs).length : Int) by omega] at q4
              exact q4⟩)
    · have hT : turnM pl h (cd.filter liveB) (x :: rs) nw e = turnM pl h (cd.filter liveB ++ [x]) rs nw e := by rw [turnM, if_neg hdue]
      rw [hT]
      have hfx : (cd ++ [x]).filter liveB = cd.filter liveB ++ [x] := by rw [List.filter_append]; simp [hxk.live]
      have hz := l_turn (A := A) hh rs (cd ++ [x]) nw S e N (by
        rw [hfx, List.length_append, show cd ++ [x] ++ rs ++ nw = cd ++ x :: rs ++ nw by simp]
        rw [show ((((cd.filter liveB).length + [x].length : Nat) : Int) + (rs.length : Int) + (nw.length : Int)) = (((cd.filter liveB).length : Int) + ((x :: rs).length : Int) + (nw.length : Int)) by rw [hrI]; simp; omega]
        exact hS) hE (by omega) (fun z hz => by
        rw [hfx] at hz
        rcases List.mem_append.mp hz with q | q
        · exact hcd z q
        · rw [List.mem_singleton.mp q]; exact hxk) hrs' hnw (by rw [hfx, List.length_append]; simp; omega) ⟨by rw [List.length_append]; simp; omega, hA60.2⟩
      rw [hfx, List.length_append, show ((cd.length + [x].length : Nat) : Int) = (cd.length : Int) + 1 by simp] at hz
      refine T_iload_n dX2_takeTurn_13 rfl ?_
      refine T_iload_n dX2_takeTurn_14 rfl ?_
      refine I_icmp_ge (tgt := 68) dX2_takeTurn_15 (by decide) ⟨by omega, by omega⟩ ⟨by omega, by omega⟩ (fun h15 => ?_) (fun h15 => ?_)
      · omega
      · refine T_aload_n dX2_takeTurn_18 rfl rfl ?_
        refine P_getr dX2_takeTurn_19 fX2_15 (by assumption) rfl ?_
        refine P_getr dX2_takeTurn_22 fX2_29 (by assumption) rfl ?_
        refine P_getr dX2_takeTurn_25 fX2_85 (by assumption) rfl ?_
        refine T_iload_n dX2_takeTurn_28 rfl ?_
        refine P_aald dX2_takeTurn_29 (by assumption) (by decide) ⟨by omega, by omega⟩ (by decide) (hR.2.2.1.2.2.1 _ (by omega) (by omega)) ?_
        refine T_astore dX2_takeTurn_30 (by decide) rfl ?_
        refine T_aload dX2_takeTurn_32 rfl rfl ?_
        refine P_geti dX2_takeTurn_34 fX2_89 (by assumption) rfl ?_
        rw [f0]
        refine T_iload_n dX2_takeTurn_37 rfl ?_
        refine I_icmp_ne (tgt := 62) dX2_takeTurn_38 (by decide) ⟨by omega, by omega⟩ hh (fun h38 => ?_) (fun h38 => ?_)
        · refine I_iinc dX2_takeTurn_62 rfl (by decide) rfl ?_
          refine T_goto (tgt := 13) dX2_takeTurn_65 (by decide) ?_
          refine T.forget 4 ?_
          exact P.weaken hz (fun r' K' S' q => ⟨q.1, q.2.1, q.2.2.1, q.2.2.2.1, q.2.2.2.2.1.mono (by omega) hN, fun z hz => (q.2.2.2.2.2.1 z hz).mono (by omega), q.2.2.2.2.2.2⟩)
        · refine T_aload dX2_takeTurn_41 rfl rfl ?_
          refine P_geti dX2_takeTurn_43 fX2_94 (by assumption) rfl ?_
          rw [f6]
          refine T_aload_n dX2_takeTurn_46 rfl rfl ?_
          refine P_getr dX2_takeTurn_47 fX2_15 (by assumption) rfl ?_
          refine P_geti dX2_takeTurn_50 fX2_47 (by assumption) rfl ?_
          rw [hcl]
          refine I_icmp_gt (tgt := 62) dX2_takeTurn_53 (by decide) ⟨by omega, by omega⟩ ⟨by omega, by omega⟩ (fun h53 => ?_) (fun h53 => ?_)
          · refine I_iinc dX2_takeTurn_62 rfl (by decide) rfl ?_
            refine T_goto (tgt := 13) dX2_takeTurn_65 (by decide) ?_
            refine T.forget 4 ?_
            exact P.weaken hz (fun r' K' S' q => ⟨q.1, q.2.1, q.2.2.1, q.2.2.2.1, q.2.2.2.2.1.mono (by omega) hN, fun z hz => (q.2.2.2.2.2.1 z hz).mono (by omega), q.2.2.2.2.2.2⟩)
          · exact absurd ⟨h38, by omega⟩ hdue
end Turn
