/-! the reference: an item is handled -/
noncomputable def arrM (p : PL) (e : EN) (n : Int) (r : Row) : EN × Option Row × List Row := if pKd p (r 3) = 1 then (giveM e r, none, []) else if pKd p (r 3) = 2 then ((aliasM p e r).1, some (aliasM p e r).2, []) else if pKd p (r 3) = 3 ∧ r 2 ≠ -4 then openM p e n r else ((bounceM e r).1, none, (bounceM e r).2)
def trvM (cl : Int) (r : Row) (q : EN × Option Int) : EN × Option Row × List Row := match q with
  | (e1, some o) => (logI e1 1 r o, none, [row8 o (r 1) (r 2) (r 3) 0 (r 5 + 1) (cl + 1) (r 7)])
  | (e1, none) => if r 4 + 1 = 5 then ((bounceM e1 r).1, none, (bounceM e1 r).2) else (logI e1 6 r (r 0), some (rset (rset r 4 (r 4 + 1)) 6 (cl + 2 ^ (r 4).toNat)), [])
theorem travelM_eq (p : PL) (e : EN) (r : Row) : travelM p e r = trvM (eCl e) r (askM p e r (asksM p (r 0) (r 3 / 8))) := by
  unfold travelM trvM
  rfl
section RF7
variable {G : GT} {K : List SH} {S : SV} {pl : PL} {e : EN} {its : List Row} {N : Int} {i : Nat} {x : Row}
theorem resI_n {e' : EN} {app : List Row} : resI its i (e', none, app) = its.eraseIdx i ++ app := rfl
theorem resI_s {e' : EN} {z : Row} {app : List Row} : resI its i (e', some z, app) = its.set i z ++ app := rfl
theorem HDQ.bounce {S0 S' : SV} {rv : Option Value} {K' : List SH} (hW : Wo S0 S) (q : RSQ K S pl (bounceM e x).1 (its.eraseIdx i ++ (bounceM e x).2) rv K' S') : K' = K ∧ HDQ K S0 pl its i ((bounceM e x).1, none, (bounceM e x).2) (some (IV 0)) K S' := ⟨q.2.1, rfl, rfl, q.2.2.1, hW.tr q.2.2.2.o⟩
theorem l_arr92 {S0 : SV} {t : Int} (hW : Wo S0 S) (hR : RS K S pl e its) (hi : its[i]? = some x) (l2 : R32 (eCl e + 1)) : P G 3 0 0 mX11_arrives 92 [some (.ref 453), some (IV i), some (IV t)] [] K S (fun rv K' S' => rv = some (IV 1) ∧ K' = K ∧ RS K S' pl e (its.set i (rset x 6 (eCl e + 1))) ∧ Wo S0 S') := by
  have m0 := hR.1.1
  have m1 := hR.1.2.1
  have hlt := (List.getElem?_eq_some_iff.mp hi).1
  have h60 := hR.n60
  have e2 : aI S 454 2 = eCl e := hR.2.2.2.2.1.1
  have hs := hR.setI hi (k := 6) (v := eCl e + 1) (by omega) l2
  refine T_aload_n dX11_arrives_92 rfl rfl ?_
  refine T_iload_n dX11_arrives_93 rfl ?_
  refine I_bipush dX11_arrives_94 (by decide) ?_
  refine T_aload_n dX11_arrives_96 rfl rfl ?_
  refine P_getr dX11_arrives_97 fX11_7 (by assumption) rfl ?_
  refine I_iconst dX11_arrives_100 ?_
  refine P_iald dX11_arrives_101 (by assumption) ⟨by omega, by omega⟩ (by first | decide | omega) ?_
  rw [e2]
  refine I_iconst dX11_arrives_102 ?_
  refine I_iadd dX11_arrives_103 ?_
  refine Q_callV dX11_arrives_104 kX11_lays lX11_206 (by assumption) rfl (p_R_lays hR.1 ⟨by omega, by omega⟩ ⟨by omega, by omega⟩) rfl rfl (Nat.le_of_ble_eq_true rfl) (Nat.le_of_ble_eq_true rfl) (by decide) (by decide) ?_
  refine I_iconst dX11_arrives_107 ?_
  exact I_zreturn dX11_arrives_108 rfl (by decide) ⟨_, _, rfl, rfl, rfl, hs, hW.tr (Wo.sA (Or.inl rfl))⟩
theorem p_R_arrives (hR : RS K S pl e its) (hi : its[i]? = some x) (hx : RowB N pl x) (hx8 : x 5 ≤ 7) (hE : EnB N e) (hm : MkOk pl x) : P G 3 0 0 mX11_arrives 0 (LE mX11_arrives [.ref 453, IV i]) [] K S (HDQ K S pl its i (arrM pl e its.length x)) := by
  have m0 := hR.1.1
  have m1 := hR.1.2.1
  have hP := hR.2.2.1
  obtain ⟨x0, x1, x2, x3, x4, x5, x6, x7⟩ := id hx
  have hb5 := hP.1
  have hlt := (List.getElem?_eq_some_iff.mp hi).1
  have h60 := hR.n60
  obtain ⟨⟨k0, k1⟩, hlc, hl2, -, hld⟩ := hP.2.2.2.2.2 (x 3) x3.1 x3.2
  unfold arrM
  rcases (show pKd pl (x 3) = 0 ∨ pKd pl (x 3) = 1 ∨ pKd pl (x 3) = 2 ∨ pKd pl (x 3) = 3 by omega) with hk | hk | hk | hk
  · rw [if_neg (by omega), if_neg (by omega), if_neg (by omega)]
    rw [show LE mX11_arrives [.ref 453, IV i] = [some (.ref 453), some (IV i), none] from rfl]
    refine T_aload_n dX11_arrives_0 rfl rfl ?_
    refine T_iload_n dX11_arrives_1 rfl ?_
    refine I_iconst dX11_arrives_2 ?_
    refine Q_callV dX11_arrives_3 kX11_ofItem lX11_164 (by assumption) rfl (p_of3 hR hi) rfl rfl (Nat.le_of_ble_eq_true rfl) (Nat.le_of_ble_eq_true rfl) (by decide) (by decide) ?_
    refine T_istore_n dX11_arrives_6 (by decide) rfl ?_
    refine T_aload_n dX11_arrives_7 rfl rfl ?_
    refine T_iload_n dX11_arrives_8 rfl ?_
    refine Q_callV dX11_arrives_9 kX11_kindOf lX11_156 (by assumption) rfl (p_R_kindOf hR x3) rfl rfl (Nat.le_of_ble_eq_true rfl) (Nat.le_of_ble_eq_true rfl) (by decide) (by decide) ?_
    rw [hk]
    refine I_tblOut (tgt := 133) dX11_arrives_12 (by decide) (Or.inl (by decide)) (by decide) ?_
    refine T_aload_n dX11_arrives_133 rfl rfl ?_
    refine T_iload_n dX11_arrives_134 rfl ?_
    refine R_callV dX11_arrives_135 kX11_bounces lX11_252 (by assumption) rfl (p_R_bounces hR hi hx hE) rfl rfl (Nat.le_of_ble_eq_true rfl) (Nat.le_of_ble_eq_true rfl) (by decide) (by decide) (fun r_ K_ S_ q_ => ?_)
    obtain ⟨hKe, hq⟩ := HDQ.bounce Wo.rf q_
    obtain ⟨rfl, -, -⟩ := q_
    have hKe := hKe.symm
    subst hKe
    refine I_iconst dX11_arrives_138 ?_
    exact I_zreturn dX11_arrives_139 rfl (by decide) ⟨_, _, rfl, hq⟩
  · rw [if_pos hk]
    rw [show LE mX11_arrives [.ref 453, IV i] = [some (.ref 453), some (IV i), none] from rfl]
    refine T_aload_n dX11_arrives_0 rfl rfl ?_
    refine T_iload_n dX11_arrives_1 rfl ?_
    refine I_iconst dX11_arrives_2 ?_
    refine Q_callV dX11_arrives_3 kX11_ofItem lX11_164 (by assumption) rfl (p_of3 hR hi) rfl rfl (Nat.le_of_ble_eq_true rfl) (Nat.le_of_ble_eq_true rfl) (by decide) (by decide) ?_
    refine T_istore_n dX11_arrives_6 (by decide) rfl ?_
    refine T_aload_n dX11_arrives_7 rfl rfl ?_
    refine T_iload_n dX11_arrives_8 rfl ?_
    refine Q_callV dX11_arrives_9 kX11_kindOf lX11_156 (by assumption) rfl (p_R_kindOf hR x3) rfl rfl (Nat.le_of_ble_eq_true rfl) (Nat.le_of_ble_eq_true rfl) (by decide) (by decide) ?_
    rw [hk]
    refine I_tblIn (tgt := 40) dX11_arrives_12 (by decide) (by decide) (by decide) rfl (by decide) ?_
    refine T_aload_n dX11_arrives_40 rfl rfl ?_
    refine T_iload_n dX11_arrives_41 rfl ?_
    refine R_callV dX11_arrives_42 kX11_gives lX11_246 (by assumption) rfl (p_R_gives hR hi hx hE) rfl rfl (Nat.le_of_ble_eq_true rfl) (Nat.le_of_ble_eq_true rfl) (by decide) (by decide) (fun r_ K_ S_ q_ => ?_)
    obtain ⟨rfl, hKe, hq, hw1⟩ := q_
    have hKe := hKe.symm
    subst hKe
    refine I_iconst dX11_arrives_45 ?_
    exact I_zreturn dX11_arrives_46 rfl (by decide) ⟨_, _, rfl, rfl, rfl, by rw [resI_n, List.append_nil]; exact hq, hw1.o⟩
  · rw [if_neg (by omega), if_pos hk]
    have h1 := hl2 hk
    have hld0 := hld 0 (by omega) (by omega)
    obtain ⟨l1, l2, l3, l4, l5⟩ := hE.lg (w := 4) ⟨by omega, by omega⟩
    rw [show LE mX11_arrives [.ref 453, IV i] = [some (.ref 453), some (IV i), none] from rfl]
    refine T_aload_n dX11_arrives_0 rfl rfl ?_
    refine T_iload_n dX11_arrives_1 rfl ?_
    refine I_iconst dX11_arrives_2 ?_
    refine Q_callV dX11_arrives_3 kX11_ofItem lX11_164 (by assumption) rfl (p_of3 hR hi) rfl rfl (Nat.le_of_ble_eq_true rfl) (Nat.le_of_ble_eq_true rfl) (by decide) (by decide) ?_
    refine T_istore_n dX11_arrives_6 (by decide) rfl ?_
    refine T_aload_n dX11_arrives_7 rfl rfl ?_
    refine T_iload_n dX11_arrives_8 rfl ?_
    refine Q_callV dX11_arrives_9 kX11_kindOf lX11_156 (by assumption) rfl (p_R_kindOf hR x3) rfl rfl (Nat.le_of_ble_eq_true rfl) (Nat.le_of_ble_eq_true rfl) (by decide) (by decide) ?_
    rw [hk]
    refine I_tblIn (tgt := 47) dX11_arrives_12 (by decide) (by decide) (by decide) rfl (by decide) ?_
    refine T_aload_n dX11_arrives_47 rfl rfl ?_
    refine I_iconst dX11_arrives_48 ?_
    refine T_iload_n dX11_arrives_49 rfl ?_
    refine T_aload_n dX11_arrives_50 rfl rfl ?_
    refine T_iload_n dX11_arrives_51 rfl ?_
    refine I_iconst dX11_arrives_52 ?_
    refine Q_callV dX11_arrives_53 kX11_ofItem lX11_164 (by assumption) rfl (p_of0 hR hi) rfl rfl (Nat.le_of_ble_eq_true rfl) (Nat.le_of_ble_eq_true rfl) (by decide) (by decide) ?_
    refine R_callV dX11_arrives_56 kX11_logsItem lX11_234 (by assumption) rfl (p_R_logsItem hR hi ⟨by omega, by omega⟩ ⟨by omega, by omega⟩ l1 l3) rfl rfl (Nat.le_of_ble_eq_true rfl) (Nat.le_of_ble_eq_true rfl) (by decide) (by decide) (fun r_ K_ S_ q_ => ?_)
    obtain ⟨rfl, hKe, hq, hw1⟩ := q_
    have hKe := hKe.symm
    subst hKe
    have hs1 := hq.setI hi (k := 3) (v := pLd pl (x 3) 0) (by omega) ⟨by omega, by omega⟩
    have hi1 : (its.set i (rset x 3 (pLd pl (x 3) 0)))[i]? = some (rset x 3 (pLd pl (x 3) 0)) := List.getElem?_set_self hlt
    have hs2 := hs1.setI hi1 (k := 5) (v := x 5 + 1) (by omega) ⟨by omega, by omega⟩
    rw [List.set_set] at hs2
    have hi2 : (its.set i (rset (rset x 3 (pLd pl (x 3) 0)) 5 (x 5 + 1)))[i]? = some (rset (rset x 3 (pLd pl (x 3) 0)) 5 (x 5 + 1)) := List.getElem?_set_self hlt
    have hs3 := hs2.setI hi2 (k := 4) (v := 0) (by omega) (by decide)
    rw [List.set_set] at hs3
    have hi3 : (its.set i (rset (rset (rset x 3 (pLd pl (x 3) 0)) 5 (x 5 + 1)) 4 0))[i]? = some (rset (rset (rset x 3 (pLd pl (x 3) 0)) 5 (x 5 + 1)) 4 0) := List.getElem?_set_self hlt
    have hs3 := hs3
    refine T_aload_n dX11_arrives_59 rfl rfl ?_
    refine T_iload_n dX11_arrives_60 rfl ?_
    refine I_iconst dX11_arrives_61 ?_
    refine T_aload_n dX11_arrives_62 rfl rfl ?_
    refine T_iload_n dX11_arrives_63 rfl ?_
    refine I_iconst dX11_arrives_64 ?_
    refine Q_callV dX11_arrives_65 kX11_target lX11_203 (by assumption) rfl (p_R_target hq x3 ⟨by omega, by omega⟩) rfl rfl (Nat.le_of_ble_eq_true rfl) (Nat.le_of_ble_eq_true rfl) (by decide) (by decide) ?_
    refine Q_callV dX11_arrives_68 kX11_lays lX11_206 (by assumption) rfl (p_R_lays hR.1 ⟨by omega, by omega⟩ ⟨by omega, by omega⟩) rfl rfl (Nat.le_of_ble_eq_true rfl) (Nat.le_of_ble_eq_true rfl) (by decide) (by decide) ?_
    refine T_aload_n dX11_arrives_71 rfl rfl ?_
    refine T_iload_n dX11_arrives_72 rfl ?_
    refine I_iconst dX11_arrives_73 ?_
    refine T_aload_n dX11_arrives_74 rfl rfl ?_
    refine T_iload_n dX11_arrives_75 rfl ?_
    refine I_iconst dX11_arrives_76 ?_
    refine Q_callV dX11_arrives_77 kX11_ofItem lX11_164 (by assumption) rfl (p_of5 hs1 hi1) rfl rfl (Nat.le_of_ble_eq_true rfl) (Nat.le_of_ble_eq_true rfl) (by decide) (by decide) ?_
    refine I_iconst dX11_arrives_80 ?_
    refine I_iadd dX11_arrives_81 ?_
    refine Q_callV dX11_arrives_82 kX11_lays lX11_206 (by assumption) rfl (p_R_lays hR.1 ⟨by omega, by omega⟩ ⟨by omega, by omega⟩) rfl rfl (Nat.le_of_ble_eq_true rfl) (Nat.le_of_ble_eq_true rfl) (by decide) (by decide) ?_
    refine T_aload_n dX11_arrives_85 rfl rfl ?_
    refine T_iload_n dX11_arrives_86 rfl ?_
    refine I_iconst dX11_arrives_87 ?_
    refine I_iconst dX11_arrives_88 ?_
    refine Q_callV dX11_arrives_89 kX11_lays lX11_206 (by assumption) rfl (p_R_lays hR.1 ⟨by omega, by omega⟩ ⟨by omega, by omega⟩) rfl rfl (Nat.le_of_ble_eq_true rfl) (Nat.le_of_ble_eq_true rfl) (by decide) (by decide) ?_
    have hW9 : Wo S (sA (sA (sA S_ 454 (803 + 8 * (i : Int) + 3) (pLd pl (x 3) 0)) 454 (803 + 8 * (i : Int) + 5) (x 5 + 1)) 454 (803 + 8 * (i : Int) + 4) 0) := hw1.o.tr (((Wo.sA (Or.inl rfl)).tr (Wo.sA (Or.inl rfl))).tr (Wo.sA (Or.inl rfl)))
    refine P.weaken (l_arr92 (t := x 3) hW9 hs3 hi3 l2) (fun r' K' S' q => ⟨q.1, q.2.1, ?_, q.2.2.2⟩)
    have q3 := q.2.2.1
    rw [List.set_set] at q3
    rw [resI_s, List.append_nil]
    exact q3
  · by_cases h2 : x 2 = -4
    · rw [if_neg (by omega), if_neg (by omega), if_neg (fun z => z.2 h2)]
      rw [show LE mX11_arrives [.ref 453, IV i] = [some (.ref 453), some (IV i), none] from rfl]
      refine T_aload_n dX11_arrives_0 rfl rfl ?_
      refine T_iload_n dX11_arrives_1 rfl ?_
      refine I_iconst dX11_arrives_2 ?_
      refine Q_callV dX11_arrives_3 kX11_ofItem lX11_164 (by assumption) rfl (p_of3 hR hi) rfl rfl (Nat.le_of_ble_eq_true rfl) (Nat.le_of_ble_eq_true rfl) (by decide) (by decide) ?_
      refine T_istore_n dX11_arrives_6 (by decide) rfl ?_
      refine T_aload_n dX11_arrives_7 rfl rfl ?_
      refine T_iload_n dX11_arrives_8 rfl ?_
      refine Q_callV dX11_arrives_9 kX11_kindOf lX11_156 (by assumption) rfl (p_R_kindOf hR x3) rfl rfl (Nat.le_of_ble_eq_true rfl) (Nat.le_of_ble_eq_true rfl) (by decide) (by decide) ?_
      rw [hk]
      refine I_tblIn (tgt := 109) dX11_arrives_12 (by decide) (by decide) (by decide) rfl (by decide) ?_
      refine T_aload_n dX11_arrives_109 rfl rfl ?_
      refine T_iload_n dX11_arrives_110 rfl ?_
      refine I_iconst dX11_arrives_111 ?_
      refine Q_callV dX11_arrives_112 kX11_ofItem lX11_164 (by assumption) rfl (p_of2 hR hi) rfl rfl (Nat.le_of_ble_eq_true rfl) (Nat.le_of_ble_eq_true rfl) (by decide) (by decide) ?_
      refine I_bipush dX11_arrives_115 (by decide) ?_
      refine I_icmp_eq (tgt := 126) dX11_arrives_117 (by decide) ⟨by omega, by omega⟩ ⟨by omega, by omega⟩ (fun h117 => ?_) (fun h117 => ?_)
      · refine T_aload_n dX11_arrives_126 rfl rfl ?_
        refine T_iload_n dX11_arrives_127 rfl ?_
        refine R_callV dX11_arrives_128 kX11_bounces lX11_252 (by assumption) rfl (p_R_bounces hR hi hx hE) rfl rfl (Nat.le_of_ble_eq_true rfl) (Nat.le_of_ble_eq_true rfl) (by decide) (by decide) (fun r_ K_ S_ q_ => ?_)
        obtain ⟨hKe, hq⟩ := HDQ.bounce Wo.rf q_
        obtain ⟨rfl, -, -⟩ := q_
        have hKe := hKe.symm
        subst hKe
        refine I_iconst dX11_arrives_131 ?_
        exact I_zreturn dX11_arrives_132 rfl (by decide) ⟨_, _, rfl, hq⟩
      · omega
    · rw [if_neg (by omega), if_neg (by omega), if_pos ⟨hk, h2⟩]
      rw [show LE mX11_arrives [.ref 453, IV i] = [some (.ref 453), some (IV i), none] from rfl]
      refine T_aload_n dX11_arrives_0 rfl rfl ?_
      refine T_iload_n dX11_arrives_1 rfl ?_
      refine I_iconst dX11_arrives_2 ?_
      refine Q_callV dX11_arrives_3 kX11_ofItem lX11_164 (by assumption) rfl (p_of3 hR hi) rfl rfl (Nat.le_of_ble_eq_true rfl) (Nat.le_of_ble_eq_true rfl) (by decide) (by decide) ?_
      refine T_istore_n dX11_arrives_6 (by decide) rfl ?_
      refine T_aload_n dX11_arrives_7 rfl rfl ?_
      refine T_iload_n dX11_arrives_8 rfl ?_
      refine Q_callV dX11_arrives_9 kX11_kindOf lX11_156 (by assumption) rfl (p_R_kindOf hR x3) rfl rfl (Nat.le_of_ble_eq_true rfl) (Nat.le_of_ble_eq_true rfl) (by decide) (by decide) ?_
      rw [hk]
      refine I_tblIn (tgt := 109) dX11_arrives_12 (by decide) (by decide) (by decide) rfl (by decide) ?_
      refine T_aload_n dX11_arrives_109 rfl rfl ?_
      refine T_iload_n dX11_arrives_110 rfl ?_
      refine I_iconst dX11_arrives_111 ?_
      refine Q_callV dX11_arrives_112 kX11_ofItem lX11_164 (by assumption) rfl (p_of2 hR hi) rfl rfl (Nat.le_of_ble_eq_true rfl) (Nat.le_of_ble_eq_true rfl) (by decide) (by decide) ?_
      refine I_bipush dX11_arrives_115 (by decide) ?_
      refine I_icmp_eq (tgt := 126) dX11_arrives_117 (by decide) ⟨by omega, by omega⟩ ⟨by omega, by omega⟩ (fun h117 => ?_) (fun h117 => ?_)
      · omega
      · refine T_aload_n dX11_arrives_120 rfl rfl ?_
        refine T_iload_n dX11_arrives_121 rfl ?_
        refine R_callV dX11_arrives_122 kX11_opens lX11_249 (by assumption) rfl (p_R_opens hR hi hx hx8 hE hm hk) rfl rfl (Nat.le_of_ble_eq_true rfl) (Nat.le_of_ble_eq_true rfl) (by decide) (by decide) (fun r_ K_ S_ q_ => ?_)
        obtain ⟨rfl, hKe, hq⟩ := q_
        have hKe := hKe.symm
        subst hKe
        exact I_zreturn dX11_arrives_125 rfl (by split <;> decide) ⟨_, _, rfl, rfl, rfl, hq⟩
end RF7
