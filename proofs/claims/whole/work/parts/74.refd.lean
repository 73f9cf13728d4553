/-! the reference: draw; what only looks -/
theorem got_shr (s : Int) : (iv s >>> (iv 16 &&& 31)) &&& iv 32767 = iv (gotM s) := by
  rw [gotM_eq, iv_of]
  apply Int32.toBitVec_inj.mp
  apply BitVec.eq_of_getLsbD_eq
  intro i hi
  show (((iv s) >>> (iv 16 &&& 31)).toBitVec &&& (iv 32767).toBitVec).getLsbD i = ((ush (iv s) (iv 16)).toBitVec &&& (iv 32767).toBitVec).getLsbD i
  rw [BitVec.getLsbD_and, BitVec.getLsbD_and]
  by_cases h15 : i < 15
  · congr 1
    have e1 : ((iv s) >>> (iv 16 &&& 31)).toBitVec = (iv s).toBitVec.sshiftRight 16 := by
      rw [Int32.toBitVec_shiftRight]
      rfl
    have e2 : (ush (iv s) (iv 16)).toBitVec = (iv s).toBitVec >>> 16 := rfl
    rw [e1, e2, BitVec.getLsbD_sshiftRight, BitVec.getLsbD_ushiftRight]
    rw [if_pos (by omega)]
    simp
    omega
  · have e3 : (iv 32767).toBitVec.getLsbD i = false := by
      obtain ⟨n, rfl⟩ : ∃ n : Fin 32, i = n.val := ⟨⟨i, hi⟩, rfl⟩
      have : ∀ n : Fin 32, ¬ n.val < 15 → (iv 32767).toBitVec.getLsbD n.val = false := by decide
      exact this n h15
    rw [e3, Bool.and_false, Bool.and_false]
theorem sdM_R (s : Int) : R32 (sdM s) := by rw [sdM_eq]; exact toInt_R32 _
theorem RS.sFm {K : List SH} {S : SV} {pl : PL} {e : EN} {its : List Row} {a k : Nat} {v : Int} (h : RS K S pl e its) (hv : R32 v) : RS K (sF S a k v) pl e its := ⟨h.1, h.2.1.sF hv, h.2.2.1, h.2.2.2.1, h.2.2.2.2⟩
theorem RR.sFm {K : List SH} {S : SV} {M : MS} {k : Nat} {v : Int} (h : RR K S M) (hv : R32 v) (h6 : k ≠ 6) (h11 : k ≠ 11) : RR K (sF S 453 k v) M := by
  obtain ⟨h1, h2, h3, h4, h5, h6'⟩ := h
  exact ⟨h1.sFm hv, ⟨by rw [fI_sF, if_neg (fun z => h6 z.2.symm)]; exact h2.1, h2.2⟩, by rw [fI_sF, if_neg (fun z => h11 z.2.symm)]; exact h3, h4, h5, h6'⟩
theorem sendM_rnd {pl : PL} {y : RND} {x f t N : Int} (h : RndOk N pl y) (hN : N + 2 ≤ 1000000000) : RndOk (N + 2) pl (sendM pl y x f t).2 := by
  have hm := h.mono (by omega : N ≤ N + 2) hN
  obtain ⟨hE, hok, h60⟩ := h
  have hle := hE.2.1
  have hec := hE.1
  by_cases hq : letB pl x f t
  · by_cases hfu : 60 ≤ (y.2.length : Int)
    · rw [sendM_full hq hfu]; exact hm
    · rw [sendM_ok hq hfu]
      have hE1 : EnB (N + 1) (eLeS y.1 (eLe y.1 + 1)) := by
        obtain ⟨g1, g2, g3, g4, g5, g6, g7⟩ := hE.mono (by omega : N ≤ N + 1) (by omega)
        exact ⟨g1, ⟨by show 0 ≤ eLe y.1 + 1; omega, by show eLe y.1 + 1 < N + 1; omega⟩, g3, g4, g5, g6, g7⟩
      have hE2 := hE1.log (by omega) 0 (eLe y.1) x t
      rw [show N + 1 + 1 = N + 2 by omega] at hE2
      refine ⟨hE2, fun r hr => ?_, by show (y.2 ++ [row8 x (eLe y.1) f t 0 0 (eCl y.1 + 1) 0]).length ≤ 60; simp; omega⟩
      rcases List.mem_append.mp hr with z | z
      · exact (hok r z).mono (by omega)
      · rw [List.mem_singleton.mp z]
        obtain ⟨q1, q2, q3⟩ := hq
        exact ⟨⟨q1, ⟨hle.1, by show eLe y.1 < N + 2; omega⟩, Or.inr q2, q3, ⟨by show (0 : Int) ≤ 0; omega, by show (0 : Int) ≤ 5; omega⟩, ⟨by show (0 : Int) ≤ 0; omega, by show (0 : Int) ≤ 8; omega⟩, ⟨by show 0 ≤ eCl y.1 + 1; omega, by show eCl y.1 + 1 < N + 2; omega⟩, (by decide : R32 0)⟩, by show (0 : Int) ≤ 4; omega⟩
  · rw [sendM_bad hq]; exact hm
section RG4
variable {G : GT} {K : List SH} {N : Int}
theorem p_R_gets {S : SV} {s : Int} (hM : MoAt K) (hs : fI S 453 18 = s) : P G 0 0 0 mX11_gets 0 (LE mX11_gets [.ref 453]) [] K S (Ret K (some (IV (gotM (sdM s)))) (sF S 453 18 (sdM s))) := by
  have m0 := hM.1
  have e1 : fI (sF S 453 18 (sdM s)) 453 18 = sdM s := by rw [fI_sF, if_pos ⟨rfl, rfl⟩]
  rw [show LE mX11_gets [.ref 453] = [some (.ref 453)] from rfl]
  refine T_aload_n dX11_gets_0 rfl rfl ?_
  refine T_aload_n dX11_gets_1 rfl rfl ?_
  refine P_geti dX11_gets_2 fX11_286 (by assumption) rfl ?_
  rw [hs]
  refine T_ldcw dX11_gets_5 qX11_289 ?_
  refine T_imul dX11_gets_8 ?_
  refine I_sipush dX11_gets_9 (by decide) ?_
  refine T_iadd dX11_gets_12 ?_
  rw [show iv s * (1103515245 : Int32) + iv 12345 = iv (sdM s) by rw [sdM_eq, iv_of]]
  refine P_puti dX11_gets_13 fX11_286 (by assumption) rfl rfl ?_
  refine T_aload_n dX11_gets_16 rfl rfl ?_
  refine P_geti dX11_gets_17 fX11_286 (by assumption) rfl ?_
  rw [e1]
  refine I_bipush dX11_gets_20 (by decide) ?_
  refine T_ishr dX11_gets_22 ?_
  refine I_sipush dX11_gets_23 (by decide) ?_
  refine T_iand dX11_gets_26 ?_
  rw [got_shr]
  exact I_ireturn dX11_gets_27 rfl ⟨_, _, rfl, rfl, rfl, rfl⟩
theorem l_R_draw {n s0 : Int} (hn : n ≤ 10) (m : Nat) : ∀ (i k s : Int) (S : SV) (M : MS) (N : Int), 0 ≤ i → n - i = m → (0 ≤ k ∧ k ≤ i) → 1 ≤ pHs (mPl M) → RR K S M → fI S 453 18 = s → RndOk N (mPl M) (mNw M) → N + 2 * m ≤ 1000000000 → P G 3 0 0 mX11_draw 36 [some (.ref 453), some (IV s0), some (IV n), some (IV k), some (IV i), none, none] [] K S (RQ K S (drawL (mPl M) m s k (mNw M)).1 (mNwS M (drawL (mPl M) m s k (mNw M)).2)) := by
  induction m with
  | zero =>
    intro i k s S M N h0 hm hk hp h hs hr hN
    refine T_iload dX11_draw_36 rfl ?_
    refine T_iload_n dX11_draw_38 rfl ?_
    refine I_icmp_ge (tgt := 99) dX11_draw_39 (by decide) ⟨by omega, by omega⟩ ⟨by omega, by omega⟩ (fun h39 => ?_) (fun h39 => ?_)
    · refine T_iload_n dX11_draw_99 rfl ?_
      exact I_ireturn dX11_draw_100 rfl ⟨_, _, rfl, RQ.here h⟩
    · omega
  | succ m ih =>
    intro i k s S M N h0 hm hk hp h hs hr hN
    have hM := h.1.1
    have m0 := hM.1
    have m1 := hM.2.1
    have hb5 := h.1.2.2.1.1
    have hcast : ((m + 1 : Nat) : Int) = m + 1 := by omega
    have g1 := gotM_b (sdM s)
    have g2 := gotM_b (sdM (sdM s))
    have g3 := gotM_b (sdM (sdM (sdM s)))
    have hv : drawL (mPl M) (m + 1) s k (mNw M) = drawL (mPl M) m (sdM (sdM (sdM s))) (k + if 0 ≤ (sendM (mPl M) (mNw M) (gotM (sdM s) % pHs (mPl M)) (gotM (sdM (sdM s)) % 32) (gotM (sdM (sdM (sdM s))) % 32)).1 then 1 else 0) (sendM (mPl M) (mNw M) (gotM (sdM s) % pHs (mPl M)) (gotM (sdM (sdM s)) % 32) (gotM (sdM (sdM (sdM s))) % 32)).2 := rfl
    rw [hv]
    have h1 := h.sFm (k := 18) (sdM_R s) (by omega) (by omega)
    have h2 := h1.sFm (k := 18) (sdM_R (sdM s)) (by omega) (by omega)
    have h3 := h2.sFm (k := 18) (sdM_R (sdM (sdM s))) (by omega) (by omega)
    have c1 := p_R_gets (G := G) hM hs
    have c2 := p_R_gets (G := G) (S := sF S 453 18 (sdM s)) (s := sdM s) hM (by rw [fI_sF, if_pos ⟨rfl, rfl⟩])
    have c3 := p_R_gets (G := G) (S := sF (sF S 453 18 (sdM s)) 453 18 (sdM (sdM s))) (s := sdM (sdM s)) hM (by rw [fI_sF, if_pos ⟨rfl, rfl⟩])
    have e0 : aI (sF S 453 18 (sdM s)) 454 0 = pHs (mPl M) := h.1.2.2.2.1.1.1
    have e18 : fI (sF (sF (sF S 453 18 (sdM s)) 453 18 (sdM (sdM s))) 453 18 (sdM (sdM (sdM s)))) 453 18 = sdM (sdM (sdM s)) := by rw [fI_sF, if_pos ⟨rfl, rfl⟩]
    have hO : Outs S (sF (sF (sF S 453 18 (sdM s)) 453 18 (sdM (sdM s))) 453 18 (sdM (sdM (sdM s)))) 453 466 := fun a b w => ((Same.sF (by omega)).tr (Same.sF (by omega))).tr (Same.sF (by omega))
    have m1' : 0 ≤ gotM (sdM s) % pHs (mPl M) ∧ gotM (sdM s) % pHs (mPl M) < pHs (mPl M) := ⟨Int.emod_nonneg _ (by omega), Int.emod_lt_of_pos _ (by omega)⟩
    have m2' : 0 ≤ gotM (sdM (sdM s)) % 32 ∧ gotM (sdM (sdM s)) % 32 < 32 := ⟨by omega, by omega⟩
    have m3' : 0 ≤ gotM (sdM (sdM (sdM s))) % 32 ∧ gotM (sdM (sdM (sdM s))) % 32 < 32 := ⟨by omega, by omega⟩
    generalize sF (sF (sF S 453 18 (sdM s)) 453 18 (sdM (sdM s))) 453 18 (sdM (sdM (sdM s))) = S3 at h3 e18 hO c3
    have hrk : RndOk (N + 2) (mPl M) (sendM (mPl M) (mNw M) (gotM (sdM s) % pHs (mPl M)) (gotM (sdM (sdM s)) % 32) (gotM (sdM (sdM (sdM s))) % 32)).2 := sendM_rnd hr (by omega)
    have hT := p_R_sends (G := G) (x := gotM (sdM s) % pHs (mPl M)) (f := gotM (sdM (sdM s)) % 32) (t := gotM (sdM (sdM (sdM s))) % 32) h3.1 hr.1 ⟨by omega, by omega⟩ ⟨by omega, by omega⟩ ⟨by omega, by omega⟩
    have hT : P G 2 0 0 mX11_send 0 (LE mX11_send [.ref 453, IV (gotM (sdM s) % pHs (mPl M)), IV (gotM (sdM (sdM s)) % 32), IV (gotM (sdM (sdM (sdM s))) % 32)]) [] K S3 (SDQ K S3 (mPl M) (sendM (mPl M) (mNw M) (gotM (sdM s) % pHs (mPl M)) (gotM (sdM (sdM s)) % 32) (gotM (sdM (sdM (sdM s))) % 32))) := hT
    have hmk := sendM_mk (pl := mPl M) (y := mNw M) (x := gotM (sdM s) % pHs (mPl M)) (f := gotM (sdM (sdM s)) % 32) (t := gotM (sdM (sdM (sdM s))) % 32) h.2.2.2.1
    have hsr : (sendM (mPl M) (mNw M) (gotM (sdM s) % pHs (mPl M)) (gotM (sdM (sdM s)) % 32) (gotM (sdM (sdM (sdM s))) % 32)).1 = -3 ∨ (sendM (mPl M) (mNw M) (gotM (sdM s) % pHs (mPl M)) (gotM (sdM (sdM s)) % 32) (gotM (sdM (sdM (sdM s))) % 32)).1 = eLe (mE M) := by
      have q : letB (mPl M) (gotM (sdM s) % pHs (mPl M)) (gotM (sdM (sdM s)) % 32) (gotM (sdM (sdM (sdM s))) % 32) := ⟨m1', m2', m3'⟩
      by_cases l : 60 ≤ ((mNw M).2.length : Int)
      · rw [sendM_full q l]; exact Or.inl rfl
      · rw [sendM_ok q l]; exact Or.inr rfl
    have hle : 0 ≤ eLe (mE M) ∧ eLe (mE M) < N := hr.1.2.1
    have hNN := hr.1.2.2.2.2.2.2
    generalize sendM (mPl M) (mNw M) (gotM (sdM s) % pHs (mPl M)) (gotM (sdM (sdM s)) % 32) (gotM (sdM (sdM (sdM s))) % 32) = res at hT hsr hmk hrk ⊢
    refine T_iload dX11_draw_36 rfl ?_
    refine T_iload_n dX11_draw_38 rfl ?_
    refine I_icmp_ge (tgt := 99) dX11_draw_39 (by decide) ⟨by omega, by omega⟩ ⟨by omega, by omega⟩ (fun h39 => ?_) (fun h39 => ?_)
    · omega
    · refine T_aload_n dX11_draw_42 rfl rfl ?_
      refine Q_callV dX11_draw_43 kX11_gets lX11_292 (by assumption) rfl c1 rfl rfl (Nat.le_of_ble_eq_true rfl) (Nat.le_of_ble_eq_true rfl) (by decide) (by decide) ?_
      refine T_aload_n dX11_draw_46 rfl rfl ?_
      refine P_getr dX11_draw_47 fX11_7 (by assumption) rfl ?_
      refine I_iconst dX11_draw_50 ?_
      refine P_iald dX11_draw_51 (by assumption) ⟨by omega, by omega⟩ (by first | decide | omega) ?_
      rw [e0]
      refine I_irem dX11_draw_52 ⟨by omega, by omega⟩ ⟨by omega, by omega⟩ ?_
      refine T_istore dX11_draw_53 (by decide) rfl ?_
      refine T_aload_n dX11_draw_55 rfl rfl ?_
      refine Q_callV dX11_draw_56 kX11_gets lX11_292 (by assumption) rfl c2 rfl rfl (Nat.le_of_ble_eq_true rfl) (Nat.le_of_ble_eq_true rfl) (by decide) (by decide) ?_
      refine I_bipush dX11_draw_59 (by decide) ?_
      refine I_irem dX11_draw_61 ⟨by omega, by omega⟩ ⟨by omega, by omega⟩ ?_
      refine T_istore dX11_draw_62 (by decide) rfl ?_
      refine T_iload_n dX11_draw_64 rfl ?_
      refine T_aload_n dX11_draw_65 rfl rfl ?_
      refine T_iload dX11_draw_66 rfl ?_
      refine T_iload dX11_draw_68 rfl ?_
      refine T_aload_n dX11_draw_70 rfl rfl ?_
      refine Q_callV dX11_draw_71 kX11_gets lX11_292 (by assumption) rfl c3 rfl rfl (Nat.le_of_ble_eq_true rfl) (Nat.le_of_ble_eq_true rfl) (by decide) (by decide) ?_
      refine I_bipush dX11_draw_74 (by decide) ?_
      refine I_irem dX11_draw_76 ⟨by omega, by omega⟩ ⟨by omega, by omega⟩ ?_
      refine R_callV dX11_draw_77 kX11_send lX11_295 (by assumption) rfl hT rfl rfl (Nat.le_of_ble_eq_true rfl) (Nat.le_of_ble_eq_true rfl) (by decide) (by decide) (fun r_ K_ S_ q_ => ?_)
      obtain ⟨rfl, hKe, hq, hw1⟩ := q_
      have hKe := hKe.symm
      subst hKe
      have hW := h3.now (x := res.2) hw1.o hq hmk
      have e18' : fI S_ 453 18 = sdM (sdM (sdM s)) := (hw1.o.f (by omega) 18).trans e18
      refine I_if_lt (tgt := 87) dX11_draw_80 (by decide) ⟨by omega, by omega⟩ (fun h80 => ?_) (fun h80 => ?_)
      · have z := ih (i + 1) (k + if 0 ≤ res.1 then 1 else 0) (sdM (sdM (sdM s))) S_ (mNwS M res.2) (N + 2) (by omega) (by omega) (by rw [if_neg (by omega)]; omega) hp hW e18' hrk (by omega)
        rw [if_neg (show ¬ 0 ≤ res.1 by omega)] at z ⊢
        refine I_iconst dX11_draw_87 ?_
        refine Q_callS dX11_draw_88 kX11_flag lX11_104 (p_flag (by omega)) rfl rfl (Nat.le_of_ble_eq_true rfl) (Nat.le_of_ble_eq_true rfl) (by decide) (by decide) ?_
        refine I_iadd dX11_draw_91 ?_
        refine T_istore_n dX11_draw_92 (by decide) rfl ?_
        refine I_iinc dX11_draw_93 rfl (by decide) rfl ?_
        refine T_goto (tgt := 36) dX11_draw_96 (by decide) ?_
        refine T.forget 5 (T.forget 6 ?_)
        exact P.weaken z (fun r' K' S' q => ⟨q.1, q.2.1, q.2.2.1, (hO.tr hw1.o.outs).tr q.2.2.2⟩)
      · have z := ih (i + 1) (k + if 0 ≤ res.1 then 1 else 0) (sdM (sdM (sdM s))) S_ (mNwS M res.2) (N + 2) (by omega) (by omega) (by rw [if_pos (by omega)]; omega) hp hW e18' hrk (by omega)
        rw [if_pos (show 0 ≤ res.1 by omega)] at z ⊢
        refine I_iconst dX11_draw_83 ?_
        refine T_goto (tgt := 88) dX11_draw_84 (by decide) ?_
        refine Q_callS dX11_draw_88 kX11_flag lX11_104 (p_flag (by omega)) rfl rfl (Nat.le_of_ble_eq_true rfl) (Nat.le_of_ble_eq_true rfl) (by decide) (by decide) ?_
        refine I_iadd dX11_draw_91 ?_
        refine T_istore_n dX11_draw_92 (by decide) rfl ?_
        refine I_iinc dX11_draw_93 rfl (by decide) rfl ?_
        refine T_goto (tgt := 36) dX11_draw_96 (by decide) ?_
        refine T.forget 5 (T.forget 6 ?_)
        exact P.weaken z (fun r' K' S' q => ⟨q.1, q.2.1, q.2.2.1, (hO.tr hw1.o.outs).tr q.2.2.2⟩)
theorem p_R_draw {S : SV} {M : MS} {s n : Int} (h : RR K S M) (hp : PU M N) (hs : R32 s) (hn : R32 n) (hN : N + 400000 ≤ 1000000000) : P G 3 0 0 mX11_draw 0 (LE mX11_draw [.ref 453, IV s, IV n]) [] K S (RQ K S (drawQ M s n).1 (drawQ M s n).2) := by
  have m0 := h.1.1.1
  have m1 := h.1.1.2.1
  have e0 : aI S 454 0 = pHs (mPl M) := h.1.2.2.2.1.1.1
  have hb5 := h.1.2.2.1.1
  by_cases hb : 1 ≤ n ∧ n ≤ 10
  · by_cases hq : pHs (mPl M) < 1
    · have hv : drawQ M s n = (-2, M) := by unfold drawQ; rw [if_pos hb, if_pos hq]
      rw [hv]
      rw [show LE mX11_draw [.ref 453, IV s, IV n] = [some (.ref 453), some (IV s), some (IV n), none, none, none, none] from rfl]
      refine T_iload_n dX11_draw_0 rfl ?_
      refine I_i2l dX11_draw_1 hn ?_
      refine I_lconst dX11_draw_2 ?_
      refine I_ldc2 (n := 10) dX11_draw_3 qX11_290 rfl ?_
      refine Q_callS dX11_draw_6 kX11_in lX11_52 (p_in (lo := 1) ⟨by omega, by omega⟩ (by decide) (by decide)) rfl rfl (Nat.le_of_ble_eq_true rfl) (Nat.le_of_ble_eq_true rfl) (by decide) (by decide) ?_
      rw [b2p_t (show inB n 1 10 from hb)]
      refine I_if_ne (tgt := 14) dX11_draw_9 (by decide) ⟨by omega, by omega⟩ (fun h9 => ?_) (fun h9 => ?_)
      · refine T_aload_n dX11_draw_14 rfl rfl ?_
        refine P_getr dX11_draw_15 fX11_7 (by assumption) rfl ?_
        refine I_iconst dX11_draw_18 ?_
        refine P_iald dX11_draw_19 (by assumption) ⟨by omega, by omega⟩ (by first | decide | omega) ?_
        rw [e0]
        refine I_if_ne (tgt := 26) dX11_draw_20 (by decide) ⟨by omega, by omega⟩ (fun h20 => ?_) (fun h20 => ?_)
        · omega
        · refine I_bipush dX11_draw_23 (by decide) ?_
          exact I_ireturn dX11_draw_25 rfl ⟨_, _, rfl, RQ.here h⟩
      · cases h9
    · have hv : drawQ M s n = ((drawL (mPl M) n.toNat s 0 (mNw M)).1, mNwS M (drawL (mPl M) n.toNat s 0 (mNw M)).2) := by unfold drawQ; rw [if_pos hb, if_neg hq]
      rw [hv]
      have z := l_R_draw (G := G) (n := n) (s0 := s) hb.2 n.toNat 0 0 s (sF S 453 18 s) M N (by omega) (by omega) (by omega) (by omega) (h.sFm hs (by omega) (by omega)) (by rw [fI_sF, if_pos ⟨rfl, rfl⟩]) hp.1 (by omega)
      rw [show LE mX11_draw [.ref 453, IV s, IV n] = [some (.ref 453), some (IV s), some (IV n), none, none, none, none] from rfl]
      refine T_iload_n dX11_draw_0 rfl ?_
      refine I_i2l dX11_draw_1 hn ?_
      refine I_lconst dX11_draw_2 ?_
      refine I_ldc2 (n := 10) dX11_draw_3 qX11_290 rfl ?_
      refine Q_callS dX11_draw_6 kX11_in lX11_52 (p_in (lo := 1) ⟨by omega, by omega⟩ (by decide) (by decide)) rfl rfl (Nat.le_of_ble_eq_true rfl) (Nat.le_of_ble_eq_true rfl) (by decide) (by decide) ?_
      rw [b2p_t (show inB n 1 10 from hb)]
      refine I_if_ne (tgt := 14) dX11_draw_9 (by decide) ⟨by omega, by omega⟩ (fun h9 => ?_) (fun h9 => ?_)
      · refine T_aload_n dX11_draw_14 rfl rfl ?_
        refine P_getr dX11_draw_15 fX11_7 (by assumption) rfl ?_
        refine I_iconst dX11_draw_18 ?_
        refine P_iald dX11_draw_19 (by assumption) ⟨by omega, by omega⟩ (by first | decide | omega) ?_
        rw [e0]
        refine I_if_ne (tgt := 26) dX11_draw_20 (by decide) ⟨by omega, by omega⟩ (fun h20 => ?_) (fun h20 => ?_)
        · refine T_aload_n dX11_draw_26 rfl rfl ?_
          refine T_iload_n dX11_draw_27 rfl ?_
          refine P_puti dX11_draw_28 fX11_286 (by assumption) rfl rfl ?_
          refine I_iconst dX11_draw_31 ?_
          refine T_istore_n dX11_draw_32 (by decide) rfl ?_
          refine I_iconst dX11_draw_33 ?_
          refine T_istore dX11_draw_34 (by decide) rfl ?_
          exact P.weaken z (fun r' K' S' q => ⟨q.1, q.2.1, q.2.2.1, Outs.tr (fun a b w => Same.sF (by omega)) q.2.2.2⟩)
        · omega
      · cases h9
  · have hv : drawQ M s n = (-1, M) := if_neg hb
    rw [hv]
    rw [show LE mX11_draw [.ref 453, IV s, IV n] = [some (.ref 453), some (IV s), some (IV n), none, none, none, none] from rfl]
    refine T_iload_n dX11_draw_0 rfl ?_
    refine I_i2l dX11_draw_1 hn ?_
    refine I_lconst dX11_draw_2 ?_
    refine I_ldc2 (n := 10) dX11_draw_3 qX11_290 rfl ?_
    refine Q_callS dX11_draw_6 kX11_in lX11_52 (p_in (lo := 1) ⟨by omega, by omega⟩ (by decide) (by decide)) rfl rfl (Nat.le_of_ble_eq_true rfl) (Nat.le_of_ble_eq_true rfl) (by decide) (by decide) ?_
    rw [b2p_f (show ¬ inB n 1 10 from hb)]
    refine I_if_ne (tgt := 14) dX11_draw_9 (by decide) ⟨by omega, by omega⟩ (fun h9 => ?_) (fun h9 => ?_)
    · exact absurd rfl h9
    · refine I_iconst dX11_draw_12 ?_
      exact I_ireturn dX11_draw_13 rfl ⟨_, _, rfl, RQ.here h⟩
end RG4
