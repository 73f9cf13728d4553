/-! the reference: ticks -/
def hmOk (pl : PL) (cl : Int) (res : EN × Option Row × List Row) : Prop := (∀ z, res.2.1 = some z → MkOk pl z) ∧ ∀ y ∈ res.2.2, MkOk pl y ∧ y 6 = cl + 1
theorem MkOk.c {pl : PL} {x z : Row} (h : MkOk pl x) (e : z 7 = x 7) : MkOk pl z := by
  unfold MkOk
  rw [e]
  exact h
theorem MkOk.z {pl : PL} {z : Row} (e : z 7 = 0) : MkOk pl z := by
  unfold MkOk
  rw [e]
  exact fun a _ _ h => absurd h (bit_0 a)
theorem bounceM_mk (pl : PL) (e e0 : EN) (x : Row) (h : eCl e = eCl e0) : hmOk pl (eCl e0) ((bounceM e x).1, none, (bounceM e x).2) := by
  refine ⟨fun z h => (by cases h), fun y hy => ?_⟩
  unfold bounceM at hy
  by_cases h2 : x 2 = -4
  · rw [if_pos h2] at hy
    cases hy
  · rw [if_neg h2] at hy
    rw [List.mem_singleton.mp hy]
    exact ⟨MkOk.z rfl, by show eCl e + 1 = _; rw [h]⟩
theorem handleM_mk {pl : PL} {e : EN} {n : Int} {x : Row} (h3 : 0 ≤ x 3 ∧ x 3 < 32) (hm : MkOk pl x) : hmOk pl (eCl e) (handleM pl e n x) := by
  unfold handleM
  by_cases h8 : x 5 = 8 ∨ pRc pl (x 3 / 8) = 0
  · rw [if_pos h8]
    exact bounceM_mk pl e e x rfl
  · rw [if_neg h8]
    by_cases hl : lastM pl (x 0) (x 3 / 8)
    · rw [if_pos hl]
      by_cases k1 : pKd pl (x 3) = 1
      · rw [if_pos k1]
        exact ⟨fun z h => (by cases h), fun y hy => (by cases hy)⟩
      · rw [if_neg k1]
        by_cases k2 : pKd pl (x 3) = 2
        · rw [if_pos k2]
          refine ⟨fun z h => ?_, fun y hy => (by cases hy)⟩
          injection h with h
          rw [← h]
          exact hm.c rfl
        · rw [if_neg k2]
          by_cases k3 : pKd pl (x 3) = 3 ∧ x 2 ≠ -4
          · rw [if_pos k3]
            unfold openM
            split
            · refine ⟨fun z h => ?_, fun y hy => (by cases hy)⟩
              injection h with h
              rw [← h]
              exact hm.c rfl
            · refine ⟨fun z h => (by cases h), fun y hy => ?_⟩
              obtain ⟨a, -, rfl⟩ := List.mem_map.mp hy
              refine ⟨fun b u v hb => ?_, rfl⟩
              have hb : bitM (markM (x 7) (x 3)) b := hb
              rcases (bit_mark h3 ⟨u, v⟩).mp hb with z | z
              · exact hm b u v z
              · rw [z]; exact k3.1
          · rw [if_neg k3]
            exact bounceM_mk pl e e x rfl
    · rw [if_neg hl, travelM_eq]
      have hcl := askM_cl pl x (asksM pl (x 0) (x 3 / 8)) e
      generalize askM pl e x (asksM pl (x 0) (x 3 / 8)) = q at hcl
      obtain ⟨e1, o⟩ := q
      cases o with
      | some o =>
        refine ⟨fun z h => (by cases h), fun y hy => ?_⟩
        rw [List.mem_singleton.mp hy]
        exact ⟨hm.c rfl, rfl⟩
      | none =>
        show hmOk pl (eCl e) (if x 4 + 1 = 5 then ((bounceM e1 x).1, none, (bounceM e1 x).2) else (logI e1 6 x (x 0), some (rset (rset x 4 (x 4 + 1)) 6 (eCl e + 2 ^ (x 4).toNat)), []))
        split
        · exact bounceM_mk pl e1 e x hcl
        · refine ⟨fun z h => ?_, fun y hy => (by cases hy)⟩
          injection h with h
          rw [← h]
          exact hm.c rfl
theorem handleM_up {pl : PL} {e : EN} {x : Row} {n : Nat} (hn : 1 ≤ n) (hd : x 6 ≤ eCl e) : eUp (handleM pl e n x).1 = eUp e ∧ eCl (handleM pl e n x).1 = eCl e := by
  have h := turnM_up pl (x 0) [x] (List.replicate (n - 1) x) [] e
  rw [turnM, if_pos ⟨rfl, hd⟩, turnM] at h
  rw [show (((List.replicate (n - 1) x).length : Int) + (([] : List Row).length + 1) + ([] : List Row).length) = (n : Int) by simp; omega] at h
  exact h
section RF9
variable {G : GT} {K : List SH} {pl : PL}
/-- what of the items a turn keeps -/
def TnB (pl : PL) (N : Int) (its : List Row) : Prop := ∀ x ∈ its, okRow N pl x ∧ MkOk pl x
theorem TnB.mono {N N' : Int} {its : List Row} (h : TnB pl N its) (hN : N ≤ N') : TnB pl N' its := fun x hx => ⟨(h x hx).1.mono hN, (h x hx).2⟩
theorem resI_mid {dn rs nw app : List Row} {x : Row} {e' : EN} {o : Option Row} : resI (dn ++ x :: rs ++ nw) dn.length (e', o, app) = (dn ++ o.toList) ++ rs ++ (nw ++ app) := by
  unfold resI
  cases o with
  | none =>
    show (dn ++ x :: rs ++ nw).eraseIdx dn.length ++ app = dn ++ [] ++ rs ++ (nw ++ app)
    rw [List.append_assoc, List.eraseIdx_append_of_length_le (Nat.le_refl _), Nat.sub_self, List.append_nil]
    simp
  | some z =>
    show (dn ++ x :: rs ++ nw).set dn.length z ++ app = dn ++ [z] ++ rs ++ (nw ++ app)
    rw [List.append_assoc, List.set_append_right _ _ (Nat.le_refl _), Nat.sub_self]
    simp
theorem l_turnN {S0 : SV} {h : Int} {E : EN} {I : List Row} {NF : Int} {Q : Option Value → List SH → SV → Prop} (hh : (0 ≤ h ∧ h < 5) ∧ h < pHs pl) (hk : ∀ S', RS K S' pl E I → EnB NF E → TnB pl NF I → Wo S0 S' → P G 6 0 0 mX11_ticks 109 [some (.ref 453), some (IV h), none, none] [] K S' Q) {S : SV} (hW : Wo S0 S) (hR : RS K S pl E I) (hE : EnB NF E) (hB : TnB pl NF I) (hu : eUp E h = 1) : ∀ (nw dn : List Row), dn ++ nw = I → (∀ y ∈ nw, eCl E < y 6) → ∀ (x3 : Option Value), (x3 = none ∨ ∃ z, x3 = some (IV z)) → P G 6 0 0 mX11_ticks 24 [some (.ref 453), some (IV h), some (IV dn.length), x3] [] K S Q := by
  have m0 := hR.1.1
  have m1 := hR.1.2.1
  have e4 := hR.n4
  have h60 := hR.n60
  have e2 : aI S 454 2 = eCl E := hR.2.2.2.2.1.1
  have hup : aI S 454 (16 + 2 * h + 1) = 1 := (hR.2.2.2.2.2.2.2.1 h hh.1.1 hh.1.2 (by rw [hR.2.2.2.1.1.1]; exact hh.2)).trans hu
  have hec := hE.1
  have hNN := hE.2.2.2.2.2.2
  have hb5 := hR.2.2.1.1
  intro nw
  induction nw with
  | nil =>
    intro dn hI hnd x3 hx3
    have hlen : I.length = dn.length := by rw [← hI]; simp
    rw [hlen] at e4
    have w := hk S hR hE hB hW
    refine T_iload_n dX11_ticks_24 rfl ?_
    refine T_aload_n dX11_ticks_25 rfl rfl ?_
    refine P_getr dX11_ticks_26 fX11_7 (by assumption) rfl ?_
    refine I_iconst dX11_ticks_29 ?_
    refine P_iald dX11_ticks_30 (by assumption) ⟨by omega, by omega⟩ (by first | decide | omega) ?_
    rw [e4]
    refine I_icmp_ge (tgt := 109) dX11_ticks_31 (by decide) ⟨by omega, by omega⟩ ⟨by omega, by omega⟩ (fun h31 => ?_) (fun h31 => ?_)
    · exact T.forget 2 (T.forget 3 w)
    · omega
  | cons y ys ih =>
    intro dn hI hnd x3 hx3
    have hn2 : noL2 [some (.ref 453), some (IV h), some (IV dn.length), x3] = true := by rcases hx3 with rfl | ⟨z, rfl⟩ <;> rfl
    have hi : I[dn.length]? = some y := by rw [← hI]; simp
    have hy := hnd y List.mem_cons_self
    obtain ⟨y0, y1, y2, y3, y4, y5, y6, y7⟩ := (hB y (by rw [← hI]; simp)).1.1
    have hlen : (I.length : Int) = dn.length + 1 + ys.length := by rw [← hI]; simp; omega
    rw [hlen] at e4
    have w := ih (dn ++ [y]) (by rw [← hI]; simp) (fun z hz => hnd z (List.mem_cons_of_mem _ hz)) (some (IV 0)) (Or.inr ⟨_, rfl⟩)
    rw [show (((dn ++ [y]).length : Nat) : Int) = dn.length + 1 by simp] at w
    refine T_iload_n dX11_ticks_24 rfl ?_
    refine T_aload_n dX11_ticks_25 rfl rfl ?_
    refine P_getr dX11_ticks_26 fX11_7 (by assumption) rfl ?_
    refine I_iconst dX11_ticks_29 ?_
    refine P_iald dX11_ticks_30 (by assumption) ⟨by omega, by omega⟩ (by first | decide | omega) ?_
    rw [e4]
    refine I_icmp_ge (tgt := 109) dX11_ticks_31 (by decide) ⟨by omega, by omega⟩ ⟨by omega, by omega⟩ (fun h31 => ?_) (fun h31 => ?_)
    · omega
    · refine T_aload_n dX11_ticks_34 rfl rfl ?_
      refine P_getr dX11_ticks_35 fX11_7 (by assumption) rfl ?_
      refine I_bipush dX11_ticks_38 (by decide) ?_
      refine I_iconst dX11_ticks_40 ?_
      refine T_iload_n dX11_ticks_41 rfl ?_
      refine I_imul dX11_ticks_42 ?_
      refine I_iadd dX11_ticks_43 ?_
      refine I_iconst dX11_ticks_44 ?_
      refine I_iadd dX11_ticks_45 ?_
      refine P_iald dX11_ticks_46 (by assumption) ⟨by omega, by omega⟩ (by first | decide | omega) ?_
      rw [hup]
      refine I_iconst dX11_ticks_47 ?_
      refine I_icmp_ne (tgt := 109) dX11_ticks_48 (by decide) ⟨by omega, by omega⟩ ⟨by omega, by omega⟩ (fun h48 => ?_) (fun h48 => ?_)
      · exact absurd rfl h48
      · refine T_aload_n dX11_ticks_51 rfl rfl ?_
        refine T_iload_n dX11_ticks_52 rfl ?_
        refine I_iconst dX11_ticks_53 ?_
        refine Q_callV dX11_ticks_54 kX11_ofItem lX11_164 (by assumption) rfl (p_of0 hR hi) rfl rfl (Nat.le_of_ble_eq_true rfl) (Nat.le_of_ble_eq_true rfl) (by decide) (by decide) ?_
        refine T_iload_n dX11_ticks_57 rfl ?_
        refine I_icmp_ne (tgt := 81) dX11_ticks_58 (by decide) ⟨by omega, by omega⟩ ⟨by omega, by omega⟩ (fun h58 => ?_) (fun h58 => ?_)
        · refine I_iconst dX11_ticks_81 ?_
          refine T_istore_n dX11_ticks_82 (by decide) hn2 ?_
          refine T_iload_n dX11_ticks_83 rfl ?_
          refine T_iload_n dX11_ticks_84 rfl ?_
          refine I_if_eq (tgt := 96) dX11_ticks_85 (by decide) ⟨by omega, by omega⟩ (fun h85 => ?_) (fun h85 => ?_)
          · refine I_iconst dX11_ticks_96 ?_
            refine T_goto (tgt := 101) dX11_ticks_97 (by decide) ?_
            refine Q_callS dX11_ticks_101 kX11_flag lX11_104 (p_flag (by omega)) rfl rfl (Nat.le_of_ble_eq_true rfl) (Nat.le_of_ble_eq_true rfl) (by decide) (by decide) ?_
            refine I_iadd dX11_ticks_104 ?_
            refine T_istore_n dX11_ticks_105 (by decide) rfl ?_
            refine T_goto (tgt := 24) dX11_ticks_106 (by decide) ?_
            exact w
          · exact absurd rfl h85
        · refine T_aload_n dX11_ticks_61 rfl rfl ?_
          refine T_iload_n dX11_ticks_62 rfl ?_
          refine I_bipush dX11_ticks_63 (by decide) ?_
          refine Q_callV dX11_ticks_65 kX11_ofItem lX11_164 (by assumption) rfl (p_of6 hR hi) rfl rfl (Nat.le_of_ble_eq_true rfl) (Nat.le_of_ble_eq_true rfl) (by decide) (by decide) ?_
          refine T_aload_n dX11_ticks_68 rfl rfl ?_
          refine P_getr dX11_ticks_69 fX11_7 (by assumption) rfl ?_
          refine I_iconst dX11_ticks_72 ?_
          refine P_iald dX11_ticks_73 (by assumption) ⟨by omega, by omega⟩ (by first | decide | omega) ?_
          rw [e2]
          refine I_icmp_gt (tgt := 81) dX11_ticks_74 (by decide) ⟨by omega, by omega⟩ ⟨by omega, by omega⟩ (fun h74 => ?_) (fun h74 => ?_)
          · refine I_iconst dX11_ticks_81 ?_
            refine T_istore_n dX11_ticks_82 (by decide) hn2 ?_
            refine T_iload_n dX11_ticks_83 rfl ?_
            refine T_iload_n dX11_ticks_84 rfl ?_
            refine I_if_eq (tgt := 96) dX11_ticks_85 (by decide) ⟨by omega, by omega⟩ (fun h85 => ?_) (fun h85 => ?_)
            · refine I_iconst dX11_ticks_96 ?_
              refine T_goto (tgt := 101) dX11_ticks_97 (by decide) ?_
              refine Q_callS dX11_ticks_101 kX11_flag lX11_104 (p_flag (by omega)) rfl rfl (Nat.le_of_ble_eq_true rfl) (Nat.le_of_ble_eq_true rfl) (by decide) (by decide) ?_
              refine I_iadd dX11_ticks_104 ?_
              refine T_istore_n dX11_ticks_105 (by decide) rfl ?_
              refine T_goto (tgt := 24) dX11_ticks_106 (by decide) ?_
              exact w
            · exact absurd rfl h85
          · omega
theorem l_turnR {S0 : SV} {h : Int} {E : EN} {I : List Row} {NF : Int} {Q : Option Value → List SH → SV → Prop} (hh : (0 ≤ h ∧ h < 5) ∧ h < pHs pl) (hk : ∀ S', RS K S' pl E I → EnB NF E → TnB pl NF I → Wo S0 S' → P G 6 0 0 mX11_ticks 109 [some (.ref 453), some (IV h), none, none] [] K S' Q) : ∀ (rs dn nw : List Row) (S : SV) (e : EN) (N : Int), turnM pl h dn rs nw e = (E, I) → Wo S0 S → RS K S pl e (dn ++ rs ++ nw) → EnB N e → N + 20 * rs.length ≤ NF → NF ≤ 1000000000 → TnB pl N (dn ++ rs ++ nw) → (∀ y ∈ nw, eCl e < y 6) → eUp e h = 1 → ∀ (x3 : Option Value), (x3 = none ∨ ∃ z, x3 = some (IV z)) → P G 6 0 0 mX11_ticks 24 [some (.ref 453), some (IV h), some (IV dn.length), x3] [] K S Q := by
  intro rs
  induction rs with
  | nil =>
    intro dn nw S e N hT hW hR hE hN hM hB hnd hu x3 hx3
    rw [turnM] at hT
    injection hT with hT1 hT2
    subst hT1
    rw [List.append_nil, hT2] at hR hB
    have hN0 : N ≤ NF := by simp at hN; omega
    exact l_turnN hh hk hW hR (hE.mono hN0 hM) (hB.mono hN0) hu nw dn hT2 hnd x3 hx3
  | cons x rs ih =>
    intro dn nw S e N hT hW hR hE hN hM hB hnd hu x3 hx3
    have m0 := hR.1.1
    have m1 := hR.1.2.1
    have e4 := hR.n4
    have h60 := hR.n60
    have e2 : aI S 454 2 = eCl e := hR.2.2.2.2.1.1
    have hup : aI S 454 (16 + 2 * h + 1) = 1 := (hR.2.2.2.2.2.2.2.1 h hh.1.1 hh.1.2 (by rw [hR.2.2.2.1.1.1]; exact hh.2)).trans hu
    have hn2 : noL2 [some (.ref 453), some (IV h), some (IV dn.length), x3] = true := by rcases hx3 with rfl | ⟨z, rfl⟩ <;> rfl
    have hec := hE.1
    have hNN := hE.2.2.2.2.2.2
    have hi : (dn ++ x :: rs ++ nw)[dn.length]? = some x := by simp
    have hxb := (hB x (by simp)).1
    have hxm := (hB x (by simp)).2
    obtain ⟨⟨x0, x1, x2, x3', x4, x5, x6, x7⟩, hx4⟩ := id hxb
    have hb5 := hR.2.2.1.1
    have hlen : ((dn ++ x :: rs ++ nw).length : Int) = dn.length + (rs.length + 1) + nw.length := by simp; omega
    have e4' := e4
    rw [hlen] at e4'
    have hNs : N + 20 + 20 * (rs.length : Int) ≤ NF := by
      rw [show (((x :: rs).length : Nat) : Int) = rs.length + 1 by simp] at hN
      omega
    by_cases hd : x 0 = h ∧ x 6 ≤ eCl e
    · rw [turnM, if_pos hd, ← hlen] at hT
      have hlp : 1 ≤ (dn ++ x :: rs ++ nw).length := by simp; omega
      have hho := handleM_ok (n := ((dn ++ x :: rs ++ nw).length : Int)) hR.2.2.1 hE hxb (by omega)
      have hmk := handleM_mk (e := e) (n := ((dn ++ x :: rs ++ nw).length : Int)) x3' hxm
      have hup2 := handleM_up (pl := pl) (e := e) (x := x) hlp hd.2
      have hH := p_R_handled (G := G) hR hi hxb.1 hx4 hE hxm
      generalize handleM pl e ((dn ++ x :: rs ++ nw).length : Int) x = res at hT hho hmk hup2 hH
      obtain ⟨e', o, app⟩ := res
      have hmid := resI_mid (dn := dn) (rs := rs) (nw := nw) (app := app) (x := x) (e' := e') (o := o)
      have hBn : TnB pl (N + 20) ((dn ++ o.toList) ++ rs ++ (nw ++ app)) := by
        intro z hz
        simp only [List.mem_append] at hz
        rcases hz with ((hz | hz) | hz) | (hz | hz)
        · exact (hB.mono (N' := N + 20) (by omega)) z (by simp [hz])
        · have hzo : o = some z := by
            cases o with
            | none => simp at hz
            | some y => simp at hz; rw [hz]
          exact ⟨hho.2.1 z hzo, hmk.1 z hzo⟩
        · exact (hB.mono (N' := N + 20) (by omega)) z (by simp [hz])
        · exact (hB.mono (N' := N + 20) (by omega)) z (by simp [hz])
        · exact ⟨hho.2.2 z hz, (hmk.2 z hz).1⟩
      have hnd' : ∀ y ∈ nw ++ app, eCl e' < y 6 := fun y hy => by
        have hc : eCl e' = eCl e := hup2.2
        rw [hc]
        rcases List.mem_append.mp hy with z | z
        · exact hnd y z
        · have := (hmk.2 y z).2
          omega
      have w : ∀ S1, Wo S0 S1 → RS K S1 pl e' ((dn ++ o.toList) ++ rs ++ (nw ++ app)) → P G 6 0 0 mX11_ticks 24 [some (.ref 453), some (IV h), some (IV (dn ++ o.toList).length), some (IV 1)] [] K S1 Q := fun S1 hW1 hR1 => ih (dn ++ o.toList) (nw ++ app) S1 e' (N + 20) hT hW1 hR1 hho.1 hNs hM hBn hnd' (by have hc : eUp e' = eUp e := hup2.1; rw [hc]; exact hu) (some (IV 1)) (Or.inr ⟨_, rfl⟩)
      cases o with
      | none =>
        have w : ∀ S1, Wo S0 S1 → RS K S1 pl e' ((dn ++ none.toList) ++ rs ++ (nw ++ app)) → P G 6 0 0 mX11_ticks 24 [some (.ref 453), some (IV h), some (IV dn.length), some (IV 1)] [] K S1 Q := fun S1 a b => by
          have q := w S1 a b
          rw [show dn ++ (none : Option Row).toList = dn from List.append_nil dn] at q
          exact q
        refine T_iload_n dX11_ticks_24 rfl ?_
        refine T_aload_n dX11_ticks_25 rfl rfl ?_
        refine P_getr dX11_ticks_26 fX11_7 (by assumption) rfl ?_
        refine I_iconst dX11_ticks_29 ?_
        refine P_iald dX11_ticks_30 (by assumption) ⟨by omega, by omega⟩ (by first | decide | omega) ?_
        rw [e4']
        refine I_icmp_ge (tgt := 109) dX11_ticks_31 (by decide) ⟨by omega, by omega⟩ ⟨by omega, by omega⟩ (fun h31 => ?_) (fun h31 => ?_)
        · omega
        · refine T_aload_n dX11_ticks_34 rfl rfl ?_
          refine P_getr dX11_ticks_35 fX11_7 (by assumption) rfl ?_
          refine I_bipush dX11_ticks_38 (by decide) ?_
          refine I_iconst dX11_ticks_40 ?_
          refine T_iload_n dX11_ticks_41 rfl ?_
          refine I_imul dX11_ticks_42 ?_
          refine I_iadd dX11_ticks_43 ?_
          refine I_iconst dX11_ticks_44 ?_
          refine I_iadd dX11_ticks_45 ?_
          refine P_iald dX11_ticks_46 (by assumption) ⟨by omega, by omega⟩ (by first | decide | omega) ?_
          rw [hup]
          refine I_iconst dX11_ticks_47 ?_
          refine I_icmp_ne (tgt := 109) dX11_ticks_48 (by decide) ⟨by omega, by omega⟩ ⟨by omega, by omega⟩ (fun h48 => ?_) (fun h48 => ?_)
          · exact absurd rfl h48
          · refine T_aload_n dX11_ticks_51 rfl rfl ?_
            refine T_iload_n dX11_ticks_52 rfl ?_
            refine I_iconst dX11_ticks_53 ?_
            refine Q_callV dX11_ticks_54 kX11_ofItem lX11_164 (by assumption) rfl (p_of0 hR hi) rfl rfl (Nat.le_of_ble_eq_true rfl) (Nat.le_of_ble_eq_true rfl) (by decide) (by decide) ?_
            refine T_iload_n dX11_ticks_57 rfl ?_
            refine I_icmp_ne (tgt := 81) dX11_ticks_58 (by decide) ⟨by omega, by omega⟩ ⟨by omega, by omega⟩ (fun h58 => ?_) (fun h58 => ?_)
            · exact absurd hd.1 h58
            · refine T_aload_n dX11_ticks_61 rfl rfl ?_
              refine T_iload_n dX11_ticks_62 rfl ?_
              refine I_bipush dX11_ticks_63 (by decide) ?_
              refine Q_callV dX11_ticks_65 kX11_ofItem lX11_164 (by assumption) rfl (p_of6 hR hi) rfl rfl (Nat.le_of_ble_eq_true rfl) (Nat.le_of_ble_eq_true rfl) (by decide) (by decide) ?_
              refine T_aload_n dX11_ticks_68 rfl rfl ?_
              refine P_getr dX11_ticks_69 fX11_7 (by assumption) rfl ?_
              refine I_iconst dX11_ticks_72 ?_
              refine P_iald dX11_ticks_73 (by assumption) ⟨by omega, by omega⟩ (by first | decide | omega) ?_
              rw [e2]
              refine I_icmp_gt (tgt := 81) dX11_ticks_74 (by decide) ⟨by omega, by omega⟩ ⟨by omega, by omega⟩ (fun h74 => ?_) (fun h74 => ?_)
              · omega
              · refine I_iconst dX11_ticks_77 ?_
                refine T_goto (tgt := 82) dX11_ticks_78 (by decide) ?_
                refine T_istore_n dX11_ticks_82 (by decide) hn2 ?_
                refine T_iload_n dX11_ticks_83 rfl ?_
                refine T_iload_n dX11_ticks_84 rfl ?_
                refine I_if_eq (tgt := 96) dX11_ticks_85 (by decide) ⟨by omega, by omega⟩ (fun h85 => ?_) (fun h85 => ?_)
                · cases h85
                · refine T_aload_n dX11_ticks_88 rfl rfl ?_
                  refine T_iload_n dX11_ticks_89 rfl ?_
                  refine R_callV dX11_ticks_90 kX11_isHandled lX11_268 (by assumption) rfl hH rfl rfl (Nat.le_of_ble_eq_true rfl) (Nat.le_of_ble_eq_true rfl) (by decide) (by decide) (fun r_ K_ S_ q_ => ?_)
                  obtain ⟨rfl, hKe, hq, hw1⟩ := q_
                  have hKe := hKe.symm
                  subst hKe
                  rw [hmid] at hq
                  have w := w S_ (hW.tr hw1) hq
                  show T G 6 0 0 mX11_ticks 93 _ (IV 0 :: _) _ _
                  refine I_if_eq (tgt := 100) dX11_ticks_93 (by decide) ⟨by omega, by omega⟩ (fun h93 => ?_) (fun h93 => ?_)
                  · refine I_iconst dX11_ticks_100 ?_
                    refine Q_callS dX11_ticks_101 kX11_flag lX11_104 (p_flag (by omega)) rfl rfl (Nat.le_of_ble_eq_true rfl) (Nat.le_of_ble_eq_true rfl) (by decide) (by decide) ?_
                    refine I_iadd dX11_ticks_104 ?_
                    rw [Int.add_zero]
                    refine T_istore_n dX11_ticks_105 (by decide) rfl ?_
                    refine T_goto (tgt := 24) dX11_ticks_106 (by decide) ?_
                    exact w
                  · exact absurd rfl h93
      | some z =>
        have w : ∀ S1, Wo S0 S1 → RS K S1 pl e' ((dn ++ (some z).toList) ++ rs ++ (nw ++ app)) → P G 6 0 0 mX11_ticks 24 [some (.ref 453), some (IV h), some (IV (dn.length + 1)), some (IV 1)] [] K S1 Q := fun S1 a b => by
          have q := w S1 a b
          rw [show (((dn ++ (some z : Option Row).toList).length : Nat) : Int) = dn.length + 1 by simp] at q
          exact q
        refine T_iload_n dX11_ticks_24 rfl ?_
        refine T_aload_n dX11_ticks_25 rfl rfl ?_
        refine P_getr dX11_ticks_26 fX11_7 (by assumption) rfl ?_
        refine I_iconst dX11_ticks_29 ?_
        refine P_iald dX11_ticks_30 (by assumption) ⟨by omega, by omega⟩ (by first | decide | omega) ?_
        rw [e4']
        refine I_icmp_ge (tgt := 109) dX11_ticks_31 (by decide) ⟨by omega, by omega⟩ ⟨by omega, by omega⟩ (fun h31 => ?_) (fun h31 => ?_)
        · omega
        · refine T_aload_n dX11_ticks_34 rfl rfl ?_
          refine P_getr dX11_ticks_35 fX11_7 (by assumption) rfl ?_
          refine I_bipush dX11_ticks_38 (by decide) ?_
          refine I_iconst dX11_ticks_40 ?_
          refine T_iload_n dX11_ticks_41 rfl ?_
          refine I_imul dX11_ticks_42 ?_
          refine I_iadd dX11_ticks_43 ?_
          refine I_iconst dX11_ticks_44 ?_
          refine I_iadd dX11_ticks_45 ?_
          refine P_iald dX11_ticks_46 (by assumption) ⟨by omega, by omega⟩ (by first | decide | omega) ?_
          rw [hup]
          refine I_iconst dX11_ticks_47 ?_
          refine I_icmp_ne (tgt := 109) dX11_ticks_48 (by decide) ⟨by omega, by omega⟩ ⟨by omega, by omega⟩ (fun h48 => ?_) (fun h48 => ?_)
          · exact absurd rfl h48
          · refine T_aload_n dX11_ticks_51 rfl rfl ?_
            refine T_iload_n dX11_ticks_52 rfl ?_
            refine I_iconst dX11_ticks_53 ?_
            refine Q_callV dX11_ticks_54 kX11_ofItem lX11_164 (by assumption) rfl (p_of0 hR hi) rfl rfl (Nat.le_of_ble_eq_true rfl) (Nat.le_of_ble_eq_true rfl) (by decide) (by decide) ?_
            refine T_iload_n dX11_ticks_57 rfl ?_
            refine I_icmp_ne (tgt := 81) dX11_ticks_58 (by decide) ⟨by omega, by omega⟩ ⟨by omega, by omega⟩ (fun h58 => ?_) (fun h58 => ?_)
            · exact absurd hd.1 h58
            · refine T_aload_n dX11_ticks_61 rfl rfl ?_
              refine T_iload_n dX11_ticks_62 rfl ?_
              refine I_bipush dX11_ticks_63 (by decide) ?_
              refine Q_callV dX11_ticks_65 kX11_ofItem lX11_164 (by assumption) rfl (p_of6 hR hi) rfl rfl (Nat.le_of_ble_eq_true rfl) (Nat.le_of_ble_eq_true rfl) (by decide) (by decide) ?_
              refine T_aload_n dX11_ticks_68 rfl rfl ?_
              refine P_getr dX11_ticks_69 fX11_7 (by assumption) rfl ?_
              refine I_iconst dX11_ticks_72 ?_
              refine P_iald dX11_ticks_73 (by assumption) ⟨by omega, by omega⟩ (by first | decide | omega) ?_
              rw [e2]
              refine I_icmp_gt (tgt := 81) dX11_ticks_74 (by decide) ⟨by omega, by omega⟩ ⟨by omega, by omega⟩ (fun h74 => ?_) (fun h74 => ?_)
              · omega
              · refine I_iconst dX11_ticks_77 ?_
                refine T_goto (tgt := 82) dX11_ticks_78 (by decide) ?_
                refine T_istore_n dX11_ticks_82 (by decide) hn2 ?_
                refine T_iload_n dX11_ticks_83 rfl ?_
                refine T_iload_n dX11_ticks_84 rfl ?_
                refine I_if_eq (tgt := 96) dX11_ticks_85 (by decide) ⟨by omega, by omega⟩ (fun h85 => ?_) (fun h85 => ?_)
                · cases h85
                · refine T_aload_n dX11_ticks_88 rfl rfl ?_
                  refine T_iload_n dX11_ticks_89 rfl ?_
                  refine R_callV dX11_ticks_90 kX11_isHandled lX11_268 (by assumption) rfl hH rfl rfl (Nat.le_of_ble_eq_true rfl) (Nat.le_of_ble_eq_true rfl) (by decide) (by decide) (fun r_ K_ S_ q_ => ?_)
                  obtain ⟨rfl, hKe, hq, hw1⟩ := q_
                  have hKe := hKe.symm
                  subst hKe
                  rw [hmid] at hq
                  have w := w S_ (hW.tr hw1) hq
                  show T G 6 0 0 mX11_ticks 93 _ (IV 1 :: _) _ _
                  refine I_if_eq (tgt := 100) dX11_ticks_93 (by decide) ⟨by omega, by omega⟩ (fun h93 => ?_) (fun h93 => ?_)
                  · cases h93
                  · refine I_iconst dX11_ticks_96 ?_
                    refine T_goto (tgt := 101) dX11_ticks_97 (by decide) ?_
                    refine Q_callS dX11_ticks_101 kX11_flag lX11_104 (p_flag (by omega)) rfl rfl (Nat.le_of_ble_eq_true rfl) (Nat.le_of_ble_eq_true rfl) (by decide) (by decide) ?_
                    refine I_iadd dX11_ticks_104 ?_
                    refine T_istore_n dX11_ticks_105 (by decide) rfl ?_
                    refine T_goto (tgt := 24) dX11_ticks_106 (by decide) ?_
                    exact w
    · rw [turnM, if_neg hd] at hT
      have hsh : dn ++ [x] ++ rs ++ nw = dn ++ x :: rs ++ nw := by simp
      have w := ih (dn ++ [x]) nw S e N hT hW (by rw [hsh]; exact hR) hE (by omega) hM (by rw [hsh]; exact hB) hnd hu (some (IV 0)) (Or.inr ⟨_, rfl⟩)
      rw [show (((dn ++ [x]).length : Nat) : Int) = dn.length + 1 by simp] at w
      refine T_iload_n dX11_ticks_24 rfl ?_
      refine T_aload_n dX11_ticks_25 rfl rfl ?_
      refine P_getr dX11_ticks_26 fX11_7 (by assumption) rfl ?_
      refine I_iconst dX11_ticks_29 ?_
      refine P_iald dX11_ticks_30 (by assumption) ⟨by omega, by omega⟩ (by first | decide | omega) ?_
      rw [e4']
      refine I_icmp_ge (tgt := 109) dX11_ticks_31 (by decide) ⟨by omega, by omega⟩ ⟨by omega, by omega⟩ (fun h31 => ?_) (fun h31 => ?_)
      · omega
      · refine T_aload_n dX11_ticks_34 rfl rfl ?_
        refine P_getr dX11_ticks_35 fX11_7 (by assumption) rfl ?_
        refine I_bipush dX11_ticks_38 (by decide) ?_
        refine I_iconst dX11_ticks_40 ?_
        refine T_iload_n dX11_ticks_41 rfl ?_
        refine I_imul dX11_ticks_42 ?_
        refine I_iadd dX11_ticks_43 ?_
        refine I_iconst dX11_ticks_44 ?_
        refine I_iadd dX11_ticks_45 ?_
        refine P_iald dX11_ticks_46 (by assumption) ⟨by omega, by omega⟩ (by first | decide | omega) ?_
        rw [hup]
        refine I_iconst dX11_ticks_47 ?_
        refine I_icmp_ne (tgt := 109) dX11_ticks_48 (by decide) ⟨by omega, by omega⟩ ⟨by omega, by omega⟩ (fun h48 => ?_) (fun h48 => ?_)
        · exact absurd rfl h48
        · refine T_aload_n dX11_ticks_51 rfl rfl ?_
          refine T_iload_n dX11_ticks_52 rfl ?_
          refine I_iconst dX11_ticks_53 ?_
          refine Q_callV dX11_ticks_54 kX11_ofItem lX11_164 (by assumption) rfl (p_of0 hR hi) rfl rfl (Nat.le_of_ble_eq_true rfl) (Nat.le_of_ble_eq_true rfl) (by decide) (by decide) ?_
          refine T_iload_n dX11_ticks_57 rfl ?_
          refine I_icmp_ne (tgt := 81) dX11_ticks_58 (by decide) ⟨by omega, by omega⟩ ⟨by omega, by omega⟩ (fun h58 => ?_) (fun h58 => ?_)
          · refine I_iconst dX11_ticks_81 ?_
            refine T_istore_n dX11_ticks_82 (by decide) hn2 ?_
            refine T_iload_n dX11_ticks_83 rfl ?_
            refine T_iload_n dX11_ticks_84 rfl ?_
            refine I_if_eq (tgt := 96) dX11_ticks_85 (by decide) ⟨by omega, by omega⟩ (fun h85 => ?_) (fun h85 => ?_)
            · refine I_iconst dX11_ticks_96 ?_
              refine T_goto (tgt := 101) dX11_ticks_97 (by decide) ?_
              refine Q_callS dX11_ticks_101 kX11_flag lX11_104 (p_flag (by omega)) rfl rfl (Nat.le_of_ble_eq_true rfl) (Nat.le_of_ble_eq_true rfl) (by decide) (by decide) ?_
              refine I_iadd dX11_ticks_104 ?_
              refine T_istore_n dX11_ticks_105 (by decide) rfl ?_
              refine T_goto (tgt := 24) dX11_ticks_106 (by decide) ?_
              exact w
            · exact absurd rfl h85
          · refine T_aload_n dX11_ticks_61 rfl rfl ?_
            refine T_iload_n dX11_ticks_62 rfl ?_
            refine I_bipush dX11_ticks_63 (by decide) ?_
            refine Q_callV dX11_ticks_65 kX11_ofItem lX11_164 (by assumption) rfl (p_of6 hR hi) rfl rfl (Nat.le_of_ble_eq_true rfl) (Nat.le_of_ble_eq_true rfl) (by decide) (by decide) ?_
            refine T_aload_n dX11_ticks_68 rfl rfl ?_
            refine P_getr dX11_ticks_69 fX11_7 (by assumption) rfl ?_
            refine I_iconst dX11_ticks_72 ?_
            refine P_iald dX11_ticks_73 (by assumption) ⟨by omega, by omega⟩ (by first | decide | omega) ?_
            rw [e2]
            refine I_icmp_gt (tgt := 81) dX11_ticks_74 (by decide) ⟨by omega, by omega⟩ ⟨by omega, by omega⟩ (fun h74 => ?_) (fun h74 => ?_)
            · refine I_iconst dX11_ticks_81 ?_
              refine T_istore_n dX11_ticks_82 (by decide) hn2 ?_
              refine T_iload_n dX11_ticks_83 rfl ?_
              refine T_iload_n dX11_ticks_84 rfl ?_
              refine I_if_eq (tgt := 96) dX11_ticks_85 (by decide) ⟨by omega, by omega⟩ (fun h85 => ?_) (fun h85 => ?_)
              · refine I_iconst dX11_ticks_96 ?_
                refine T_goto (tgt := 101) dX11_ticks_97 (by decide) ?_
                refine Q_callS dX11_ticks_101 kX11_flag lX11_104 (p_flag (by omega)) rfl rfl (Nat.le_of_ble_eq_true rfl) (Nat.le_of_ble_eq_true rfl) (by decide) (by decide) ?_
                refine I_iadd dX11_ticks_104 ?_
                refine T_istore_n dX11_ticks_105 (by decide) rfl ?_
                refine T_goto (tgt := 24) dX11_ticks_106 (by decide) ?_
                exact w
              · exact absurd rfl h85
            · exact absurd ⟨by omega, by omega⟩ hd
end RF9
