/-! Mail.closeGaps: those that went leave their rows -/
def liveB (x : Row) : Bool := decide (x 0 ≠ -1)
theorem MailR.swap {S : SV} {o : Nat} {ad : Int → Nat} {cr cr' : List Row} {liv : Int} (h : MailR S o ad cr liv) (hA : AdOk o ad) (hl : cr.length ≤ 120) {n i : Nat} (hn : n < cr.length) (hi : i < cr.length) (hlen : cr'.length = cr.length) (hc : ∀ t : Nat, cr'[t]? = if t = n then cr[i]? else if t = i then cr[n]? else cr[t]?) : AdOk o (fun t => if t = (n : Int) then ad i else if t = (i : Int) then ad n else ad t) ∧ MailR (sR (sR S (o + 1) i (some (ad n))) (o + 1) n (some (ad i))) o (fun t => if t = (n : Int) then ad i else if t = (i : Int) then ad n else ad t) cr' liv := by
  obtain ⟨h1, h2, h3, h4⟩ := h
  refine ⟨⟨fun t q1 q2 => ?_, fun t u q1 q2 q3 q4 he => ?_⟩, ?_, h2, fun t q1 q2 => ?_, fun t x ht k hk => ?_⟩
  · show o + 2 ≤ (if t = (n : Int) then ad i else if t = (i : Int) then ad n else ad t) ∧ (if t = (n : Int) then ad i else if t = (i : Int) then ad n else ad t) < o + 122
    split
    · exact hA.1 i (by omega) (by omega)
    · split
      · exact hA.1 n (by omega) (by omega)
      · exact hA.1 t q1 q2
  · have hj := hA.2
    have he : (if t = (n : Int) then ad i else if t = (i : Int) then ad n else ad t) = (if u = (n : Int) then ad i else if u = (i : Int) then ad n else ad u) := he
    by_cases a1 : t = (n : Int)
    · rw [if_pos a1] at he
      by_cases b1 : u = (n : Int)
      · omega
      · rw [if_neg b1] at he
        by_cases b2 : u = (i : Int)
        · rw [if_pos b2] at he
          have := hj i n (by omega) (by omega) (by omega) (by omega) he
          omega
        · rw [if_neg b2] at he
          have := hj i u (by omega) (by omega) q3 q4 he
          omega
    · rw [if_neg a1] at he
      by_cases a2 : t = (i : Int)
      · rw [if_pos a2] at he
        by_cases b1 : u = (n : Int)
        · rw [if_pos b1] at he
          have := hj n i (by omega) (by omega) (by omega) (by omega) he
          omega
        · rw [if_neg b1] at he
          by_cases b2 : u = (i : Int)
          · omega
          · rw [if_neg b2] at he
            have := hj n u (by omega) (by omega) q3 q4 he
            omega
      · rw [if_neg a2] at he
        by_cases b1 : u = (n : Int)
        · rw [if_pos b1] at he
          have := hj t i q1 q2 (by omega) (by omega) he
          omega
        · rw [if_neg b1] at he
          by_cases b2 : u = (i : Int)
          · rw [if_pos b2] at he
            have := hj t n q1 q2 (by omega) (by omega) he
            omega
          · rw [if_neg b2] at he
            exact hj t u q1 q2 q3 q4 he
  · rw [hlen]; exact h1
  · show rI (sR (sR S (o + 1) i (some (ad n))) (o + 1) n (some (ad i))) (o + 1) t = some (if t = (n : Int) then ad i else if t = (i : Int) then ad n else ad t)
    rw [rI_sR, rI_sR]
    by_cases a1 : t = (n : Int)
    · rw [if_pos ⟨rfl, a1⟩, if_pos a1]
    · rw [if_neg (fun z => a1 z.2), if_neg a1]
      by_cases a2 : t = (i : Int)
      · rw [if_pos ⟨rfl, a2⟩, if_pos a2]
      · rw [if_neg (fun z => a2 z.2), if_neg a2]
        exact h3 t q1 q2
  · rw [hc] at ht
    show fI S (if (t : Int) = (n : Int) then ad i else if (t : Int) = (i : Int) then ad n else ad t) k = x k
    by_cases a1 : t = n
    · rw [if_pos a1] at ht
      rw [if_pos (by omega)]
      exact h4 i x ht k hk
    · rw [if_neg a1] at ht
      rw [if_neg (by omega)]
      by_cases a2 : t = i
      · rw [if_pos a2] at ht
        rw [if_pos (by omega)]
        exact h4 n x ht k hk
      · rw [if_neg a2] at ht
        rw [if_neg (by omega)]
        exact h4 t x ht k hk
section Gaps
variable {G : GT} {K : List SH} {o : Nat} {cr : List Row} {liv : Int}
def GQ (K : List SH) (S : SV) (o : Nat) (cr : List Row) (liv : Int) : Option Value → List SH → SV → Prop := fun rv K' S' => rv = none ∧ K' = K ∧ (∃ ad', AdOk o ad' ∧ MailR S' o ad' (cr.filter liveB) liv) ∧ Outs S S' o (o + 2) ∧ AllR S'
theorem l_closeGaps (hM : MailAt K o) (hl : cr.length ≤ 120) (i : Nat) (hi : i ≤ cr.length) (S : SV) (ad : Int → Nat) (gl : List Row) (x3 : Option Value) (h3 : x3 = none ∨ ∃ q, x3 = some (.ref q)) (hA : AdOk o ad) (hr : AllR S) (hg : ∀ y ∈ gl, y 0 = -1) (hgl : ((cr.take i).filter liveB).length + gl.length = i) (h : MailR S o ad ((cr.take i).filter liveB ++ gl ++ cr.drop i) liv) : P G 0 0 0 mX4_closeGaps 4 [some (.ref o), some (IV ((cr.take i).filter liveB).length), some (IV i), x3] [] K S (GQ K S o cr liv) := by
  induction hm : cr.length - i using Nat.strongRecOn generalizing i S ad gl x3 with
  | _ w ih =>
    obtain ⟨k0, k1, k2⟩ := id hM
    have hno : noL2 [some (.ref o), some (IV ((cr.take i).filter liveB).length), some (IV i), x3] = true := by
      rcases h3 with rfl | ⟨q, rfl⟩ <;> rfl
    have hlen : ((cr.take i).filter liveB ++ gl ++ cr.drop i).length = cr.length := by rw [List.length_append, List.length_append, List.length_drop]; omega
    have hu : fI S o 1 = cr.length := by rw [h.1, hlen]
    have hip : ((i : Int) + 1) = ((i + 1 : Nat) : Int) := by omega
    by_cases hlt : i < cr.length
    · have hdr : cr.drop i = cr[i] :: cr.drop (i + 1) := List.drop_eq_getElem_cons hlt
      have htk : cr.take (i + 1) = cr.take i ++ [cr[i]] := List.take_succ_eq_append_getElem hlt
      have hget : ((cr.take i).filter liveB ++ gl ++ cr.drop i)[i]? = some cr[i] := by
        rw [List.getElem?_append_right (by rw [List.length_append]; omega), List.length_append, hgl, Nat.sub_self, hdr]; rfl
      have hq := hA.1 i (by omega) (by omega)
      have kq := k2 (ad i) hq.1 hq.2
      unfold ItemAt at kq
      have hat : fI S (ad i) 0 = cr[i] 0 := h.2.2.2 i _ hget 0 (by omega)
      have hatR : R32 (cr[i] 0) := by rw [← hat]; exact hr.1 _ _
      by_cases hgone : cr[i] 0 = -1
      · have hf : (cr.take (i + 1)).filter liveB = (cr.take i).filter liveB := by rw [htk, List.filter_append]; simp [liveB, hgone]
        have z := ih _ (by omega) (i + 1) (by omega) S ad (gl ++ [cr[i]]) (some (.ref (ad i))) (Or.inr ⟨_, rfl⟩) hA hr (fun y hy => by
          rcases List.mem_append.mp hy with q | q
          · exact hg y q
          · rw [List.mem_singleton.mp q]; exact hgone) (by rw [hf, List.length_append]; simp; omega) (by
          rw [hf]
          rw [hdr] at h
          have e : (cr.take i).filter liveB ++ (gl ++ [cr[i]]) ++ cr.drop (i + 1) = (cr.take i).filter liveB ++ gl ++ cr[i] :: cr.drop (i + 1) := by simp
          rw [e]; exact h) rfl
        rw [hf, ← hip] at z
        refine T_iload_n dX4_closeGaps_4 rfl ?_
        refine T_aload_n dX4_closeGaps_5 rfl rfl ?_
        refine P_geti dX4_closeGaps_6 fX4_18 (by assumption) rfl ?_
        rw [hu]
        refine I_icmp_ge (tgt := 55) dX4_closeGaps_9 (by decide) ⟨by omega, by omega⟩ ⟨by omega, by omega⟩ (fun h9 => ?_) (fun h9 => ?_)
        · omega
        · refine T_aload_n dX4_closeGaps_12 rfl rfl ?_
          refine P_getr dX4_closeGaps_13 fX4_11 (by assumption) rfl ?_
          refine T_iload_n dX4_closeGaps_16 rfl ?_
          refine P_aald dX4_closeGaps_17 (by assumption) (by decide) ⟨by omega, by omega⟩ (by decide) (h.2.2.1 i (by omega) (by omega)) ?_
          refine T_astore_n dX4_closeGaps_18 (by decide) hno ?_
          refine T_aload_n dX4_closeGaps_19 rfl rfl ?_
          refine P_geti dX4_closeGaps_20 fX4_29 (by assumption) rfl ?_
          rw [hat]
          refine I_iconst dX4_closeGaps_23 ?_
          refine I_icmp_eq (tgt := 49) dX4_closeGaps_24 (by decide) hatR ⟨by omega, by omega⟩ (fun h24 => ?_) (fun h24 => ?_)
          · refine I_iinc dX4_closeGaps_49 rfl (by decide) rfl ?_
            refine T_goto (tgt := 4) dX4_closeGaps_52 (by decide) ?_
            exact z
          · exact absurd hgone h24
      · have hf : (cr.take (i + 1)).filter liveB = (cr.take i).filter liveB ++ [cr[i]] := by rw [htk, List.filter_append]; simp [liveB, hgone]
        have hnl : ((cr.take i).filter liveB).length ≤ i := by omega
        have hq2 := hA.1 ((cr.take i).filter liveB).length (by omega) (by omega)
        have kq2 := k2 (ad ((cr.take i).filter liveB).length) hq2.1 hq2.2
        unfold ItemAt at kq2
        obtain ⟨gl', hg', hgl', hsw⟩ : ∃ gl' : List Row, (∀ y ∈ gl', y 0 = -1) ∧ gl'.length = gl.length ∧ ∀ t : Nat, ((cr.take i).filter liveB ++ [cr[i]] ++ gl' ++ cr.drop (i + 1))[t]? = if t = ((cr.take i).filter liveB).length then ((cr.take i).filter liveB ++ gl ++ cr.drop i)[i]? else if t = i then ((cr.take i).filter liveB ++ gl ++ cr.drop i)[((cr.take i).filter liveB).length]? else ((cr.take i).filter liveB ++ gl ++ cr.drop i)[t]? := by
          rw [hget, hdr]
          generalize (cr.take i).filter liveB = A at hgl hnl
          generalize cr[i] = y0
          generalize cr.drop (i + 1) = rest
          cases gl with
          | nil =>
            refine ⟨[], fun y hy => (by cases hy), rfl, fun t => ?_⟩
            have hAi : A.length = i := by simpa using hgl
            simp only [List.append_nil]
            by_cases e1 : t = A.length
            · rw [if_pos e1, e1, List.append_assoc, List.getElem?_append_right (Nat.le_refl _), Nat.sub_self]; rfl
            · rw [if_neg e1, if_neg (by omega)]
              simp
          | cons g0 gs =>
            refine ⟨gs ++ [g0], fun y hy => ?_, by simp, fun t => ?_⟩
            · rcases List.mem_append.mp hy with q | q
              · exact hg y (List.mem_cons_of_mem _ q)
              · rw [List.mem_singleton.mp q]; exact hg g0 List.mem_cons_self
            · have hgs : A.length + (gs.length + 1) = i := hgl
              have e0 : A ++ [y0] ++ (gs ++ [g0]) ++ rest = ((A ++ g0 :: gs ++ y0 :: rest).set A.length y0).set i g0 := by
                have e1 : (A ++ g0 :: gs ++ y0 :: rest).set A.length y0 = A ++ (y0 :: gs ++ y0 :: rest) := by
                  rw [List.append_assoc, List.set_append_right _ _ (Nat.le_refl _), Nat.sub_self]; rfl
                have e2 : (y0 :: gs ++ y0 :: rest).set (gs.length + 1) g0 = y0 :: (gs ++ g0 :: rest) := by
                  rw [List.cons_append, List.set_cons_succ, List.set_append_right _ _ (Nat.le_refl _), Nat.sub_self]; rfl
                rw [e1, List.set_append_right _ _ (by omega), show i - A.length = gs.length + 1 by omega, e2]
                simp
              have hl1 : A.length < (A ++ g0 :: gs ++ y0 :: rest).length := by simp
              have hl2 : i < (A ++ g0 :: gs ++ y0 :: rest).length := by simp; omega
              have hgA : (A ++ g0 :: gs ++ y0 :: rest)[A.length]? = some g0 := by
                rw [List.append_assoc, List.getElem?_append_right (Nat.le_refl _), Nat.sub_self]; rfl
              rw [e0, List.getElem?_set, List.getElem?_set, List.length_set]
              by_cases e1 : t = A.length
              · rw [if_pos e1, if_neg (by omega), if_pos e1.symm, if_pos hl1]
              · rw [if_neg e1]
                by_cases e2 : t = i
                · rw [if_pos e2.symm, if_pos hl2, if_pos e2, hgA]
                · rw [if_neg (by omega), if_neg (by omega), if_neg e2]
        have hl2 : ((cr.take i).filter liveB ++ [cr[i]] ++ gl' ++ cr.drop (i + 1)).length = ((cr.take i).filter liveB ++ gl ++ cr.drop i).length := by
          rw [hlen, List.length_append, List.length_append, List.length_append, List.length_drop, hgl']; simp; omega
        obtain ⟨hA2, hM2⟩ := h.swap hA (by omega) (n := ((cr.take i).filter liveB).length) (i := i) (by omega) (by omega) hl2 hsw
        have z := ih _ (by omega) (i + 1) (by omega) _ _ gl' (some (.ref (ad i))) (Or.inr ⟨_, rfl⟩) hA2 (hr.sR.sR) hg' (by rw [hf, List.length_append, hgl']; simp; omega) (by rw [hf]; exact hM2) rfl
        rw [hf, ← hip, List.length_append, show ((((cr.take i).filter liveB).length + [cr[i]].length : Nat) : Int) = (((cr.take i).filter liveB).length : Int) + 1 by simp] at z
        refine T_iload_n dX4_closeGaps_4 rfl ?_
        refine T_aload_n dX4_closeGaps_5 rfl rfl ?_
        refine P_geti dX4_closeGaps_6 fX4_18 (by assumption) rfl ?_
        rw [hu]
        refine I_icmp_ge (tgt := 55) dX4_closeGaps_9 (by decide) ⟨by omega, by omega⟩ ⟨by omega, by omega⟩ (fun h9 => ?_) (fun h9 => ?_)
        · omega
        · refine T_aload_n dX4_closeGaps_12 rfl rfl ?_
          refine P_getr dX4_closeGaps_13 fX4_11 (by assumption) rfl ?_
          refine T_iload_n dX4_closeGaps_16 rfl ?_
          refine P_aald dX4_closeGaps_17 (by assumption) (by decide) ⟨by omega, by omega⟩ (by decide) (h.2.2.1 i (by omega) (by omega)) ?_
          refine T_astore_n dX4_closeGaps_18 (by decide) hno ?_
          refine T_aload_n dX4_closeGaps_19 rfl rfl ?_
          refine P_geti dX4_closeGaps_20 fX4_29 (by assumption) rfl ?_
          rw [hat]
          refine I_iconst dX4_closeGaps_23 ?_
          refine I_icmp_eq (tgt := 49) dX4_closeGaps_24 (by decide) hatR ⟨by omega, by omega⟩ (fun h24 => ?_) (fun h24 => ?_)
          · exact absurd h24 hgone
          · refine T_aload_n dX4_closeGaps_27 rfl rfl ?_
            refine P_getr dX4_closeGaps_28 fX4_11 (by assumption) rfl ?_
            refine T_iload_n dX4_closeGaps_31 rfl ?_
            refine T_aload_n dX4_closeGaps_32 rfl rfl ?_
            refine P_getr dX4_closeGaps_33 fX4_11 (by assumption) rfl ?_
            refine T_iload_n dX4_closeGaps_36 rfl ?_
            refine P_aald dX4_closeGaps_37 (by assumption) (by decide) ⟨by omega, by omega⟩ (by decide) (h.2.2.1 _ (by omega) (by omega)) ?_
            refine P_aast dX4_closeGaps_38 (by assumption) (by decide) rfl kq2 rfl ⟨by omega, by omega⟩ (by decide) ?_
            refine T_aload_n dX4_closeGaps_39 rfl rfl ?_
            refine P_getr dX4_closeGaps_40 fX4_11 (by assumption) rfl ?_
            refine T_iload_n dX4_closeGaps_43 rfl ?_
            refine T_aload_n dX4_closeGaps_44 rfl rfl ?_
            refine P_aast dX4_closeGaps_45 (by assumption) (by decide) rfl kq rfl ⟨by omega, by omega⟩ (by decide) ?_
            refine I_iinc dX4_closeGaps_46 rfl (by decide) rfl ?_
            refine I_iinc dX4_closeGaps_49 rfl (by decide) rfl ?_
            refine T_goto (tgt := 4) dX4_closeGaps_52 (by decide) ?_
            exact P.weaken z (fun r' K' S' q => ⟨q.1, q.2.1, q.2.2.1, fun a b hab => ((Same.sR (by omega)).tr (Same.sR (by omega))).tr (q.2.2.2.1 a b hab), q.2.2.2.2⟩)
    · have hie : i = cr.length := by omega
      rw [hie, List.take_length, List.drop_length, List.append_nil] at h
      have hgl2 := hgl
      rw [hie, List.take_length] at hgl2
      refine T_iload_n dX4_closeGaps_4 rfl ?_
      refine T_aload_n dX4_closeGaps_5 rfl rfl ?_
      refine P_geti dX4_closeGaps_6 fX4_18 (by assumption) rfl ?_
      rw [hu]
      refine I_icmp_ge (tgt := 55) dX4_closeGaps_9 (by decide) ⟨by omega, by omega⟩ ⟨by omega, by omega⟩ (fun h9 => ?_) (fun h9 => ?_)
      · refine T_aload_n dX4_closeGaps_55 rfl rfl ?_
        refine T_iload_n dX4_closeGaps_56 rfl ?_
        refine P_puti dX4_closeGaps_57 fX4_18 (by assumption) rfl rfl ?_
        exact T_return dX4_closeGaps_60 rfl ⟨_, _, rfl, rfl, rfl, ⟨ad, hA, by
          rw [hie, List.take_length]
          obtain ⟨m1, m2, m3, m4⟩ := h
          refine ⟨by rw [fI_sF, if_pos ⟨rfl, rfl⟩], by rw [fI_sF, if_neg (by omega)]; exact m2, m3, fun t x ht k hk => ?_⟩
          have htl := (List.getElem?_eq_some_iff.mp ht).1
          have hq := hA.1 t (by omega) (by omega)
          rw [fI_sF, if_neg (by omega)]
          exact m4 t x (by rw [List.getElem?_append_left htl]; exact ht) k hk⟩, fun a b hab => Same.sF (by omega), hr.sF ⟨by omega, by omega⟩⟩
      · omega
theorem p_closeGaps {S : SV} {ad : Int → Nat} (hM : MailAt K o) (hl : cr.length ≤ 120) (hA : AdOk o ad) (hr : AllR S) (h : MailR S o ad cr liv) : P G 0 0 0 mX4_closeGaps 0 (LE mX4_closeGaps [.ref o]) [] K S (GQ K S o cr liv) := by
  rw [show LE mX4_closeGaps [.ref o] = [some (.ref o), none, none, none] from rfl]
  refine I_iconst dX4_closeGaps_0 ?_
  refine T_istore_n dX4_closeGaps_1 (by decide) rfl ?_
  refine I_iconst dX4_closeGaps_2 ?_
  refine T_istore_n dX4_closeGaps_3 (by decide) rfl ?_
  exact l_closeGaps hM hl 0 (by omega) S ad [] none (Or.inl rfl) hA hr (fun y hy => (by cases hy)) rfl (by simpa using h)
end Gaps
