/-! the heap grows by a sheet -/
theorem gK {K X : List SH} {i : Nat} {x : SH} (h : K[i]? = some x) : (K ++ X)[i]? = some x := by
  have hl : i < K.length := (List.getElem?_eq_some_iff.mp h).1
  rw [List.getElem?_append_left hl]
  exact h
theorem gKl {K : List SH} {i : Nat} {x : SH} (h : K[i]? = some x) : i < K.length := (List.getElem?_eq_some_iff.mp h).1
theorem PlanAt.app {K : List SH} {p : Nat} (h : PlanAt K p) (X : List SH) : PlanAt (K ++ X) p := ⟨gK h.1, gK h.2.1, gK h.2.2.1, gK h.2.2.2.1, gK h.2.2.2.2.1, gK h.2.2.2.2.2.1, gK h.2.2.2.2.2.2.1, gK h.2.2.2.2.2.2.2.1, gK h.2.2.2.2.2.2.2.2.1, gK h.2.2.2.2.2.2.2.2.2⟩
theorem TapeAt.app {K : List SH} {t : Nat} (h : TapeAt K t) (X : List SH) : TapeAt (K ++ X) t := ⟨gK h.1, gK h.2.1, PlanAt.app h.2.2 X⟩
theorem MailAt.app {K : List SH} {o : Nat} (h : MailAt K o) (X : List SH) : MailAt (K ++ X) o := ⟨gK h.1, gK h.2.1, fun q a b => gK (h.2.2 q a b)⟩
theorem BoxesAt.app {K : List SH} {o : Nat} (h : BoxesAt K o) (X : List SH) : BoxesAt (K ++ X) o := ⟨gK h.1, gK h.2.1, gK h.2.2.1, gK h.2.2.2⟩
theorem BookAt.app {K : List SH} {o : Nat} (h : BookAt K o) (X : List SH) : BookAt (K ++ X) o := ⟨gK h.1, gK h.2.1, gK h.2.2⟩
theorem StrAt.app {K : List SH} {o : Nat} (h : StrAt K o) (X : List SH) : StrAt (K ++ X) o := ⟨gK h.1, gK h.2⟩
theorem RoundAt.app {K : List SH} {r : Nat} (h : RoundAt K r) (X : List SH) : RoundAt (K ++ X) r := ⟨gK h.1, gK h.2.1, MailAt.app h.2.2.1 X, BoxesAt.app h.2.2.2.1 X, BookAt.app h.2.2.2.2.1 X, gK h.2.2.2.2.2.1, StrAt.app h.2.2.2.2.2.2.1 X, StrAt.app h.2.2.2.2.2.2.2.1 X, StrAt.app h.2.2.2.2.2.2.2.2.1 X, StrAt.app h.2.2.2.2.2.2.2.2.2.1 X, StrAt.app h.2.2.2.2.2.2.2.2.2.2 X⟩
theorem CarAt.app {K : List SH} {c p r : Nat} (h : CarAt K c p r) (X : List SH) : CarAt (K ++ X) c p r := gK h
theorem WSh.app {K : List SH}  (h : WSh K ) (X : List SH) : WSh (K ++ X)  := ⟨gK h.1, TapeAt.app h.2.1 X, PlanAt.app h.2.2.1 X, RoundAt.app h.2.2.2.1 X, CarAt.app h.2.2.2.2.1 X, gK h.2.2.2.2.2.1, gK h.2.2.2.2.2.2.1, gK h.2.2.2.2.2.2.2.1, RoundAt.app h.2.2.2.2.2.2.2.2.1 X, RoundAt.app h.2.2.2.2.2.2.2.2.2 X⟩
theorem MoAt.app {K : List SH}  (h : MoAt K ) (X : List SH) : MoAt (K ++ X)  := ⟨gK h.1, gK h.2.1, gK h.2.2.1, gK h.2.2.2.1, gK h.2.2.2.2.1, gK h.2.2.2.2.2.1, gK h.2.2.2.2.2.2.1, gK h.2.2.2.2.2.2.2.1, gK h.2.2.2.2.2.2.2.2.1, gK h.2.2.2.2.2.2.2.2.2.1, gK h.2.2.2.2.2.2.2.2.2.2.1, gK h.2.2.2.2.2.2.2.2.2.2.2.1, gK h.2.2.2.2.2.2.2.2.2.2.2.2⟩
theorem SheetAt.app {K : List SH} {o nb ni : Nat} (h : SheetAt K o nb ni) (X : List SH) : SheetAt (K ++ X) o nb ni := ⟨gK h.1, gK h.2.1, gK h.2.2.1, h.2.2.2.1, h.2.2.2.2⟩
theorem CT.app {K : List SH} {S : SV} {c p r : Nat} {its : List Row} {e : EN} {pl : PL} {N : Int} (h : CT K S c p r its e pl N) (X : List SH) : CT (K ++ X) S c p r its e pl N := by
  obtain ⟨⟨ad, ⟨c1, c2, c3, c4⟩, c5⟩, h2⟩ := h
  exact ⟨⟨ad, ⟨c1.app X, c2.app X, c3.app X, c4⟩, c5⟩, h2⟩
theorem ShR.app {K : List SH} {S : SV} {sh : Int → Option SHT} (h : ShR K S sh) (X : List SH) : ShR (K ++ X) S sh := ⟨fun k a b => (h.1 k a b).imp id (fun ⟨q, o, nb, ni, g1, g2, g3, g4⟩ => ⟨q, o, nb, ni, g1, g2, g3.app X, g4⟩), h.2⟩
theorem WR.app {K : List SH} {S : SV} {M : MS} {N : Int} (h : WR K S M N) (X : List SH) : WR (K ++ X) S M N := ⟨h.1.app X, h.2.1, h.2.2.1, h.2.2.2.1.app X, h.2.2.2.2.1, h.2.2.2.2.2.app X⟩
theorem RR.app {K : List SH} {S : SV} {M : MS} (h : RR K S M) (X : List SH) : RR (K ++ X) S M := ⟨⟨h.1.1.app X, h.1.2⟩, h.2⟩
theorem mkC_eq {S S' : SV} {a : Nat} (hf : ∀ k, fI S' a k = fI S a k) (ha : ∀ i, aI S' a i = aI S a i) (hr : ∀ i, rI S' a i = rI S a i) (x : SH) : mkC S' a x = mkC S a x := by
  have e : mkF S' a = mkF S a := funext (fun q => by
    obtain ⟨o, k⟩ := q
    cases o with
    | none => show IV (fI S' a k) = IV (fI S a k); rw [hf]
    | some r => rfl)
  cases x with
  | inl y =>
    obtain ⟨t, n⟩ := y
    show (if t < 3 then _ else _) = (if t < 3 then _ else _)
    simp only [ha, hr]
  | inr y =>
    obtain ⟨ci, fds⟩ := y
    show Sum.inr (ci, fds.zipIdx.map (mkF S' a)) = Sum.inr (ci, fds.zipIdx.map (mkF S a))
    rw [e]
def shX (L nb ni : Nat) : List SH := [.inr (7, [none, none, some (L + 1), some (L + 2)]), .inl (1, nb), .inl (0, ni)]
def shS (S : SV) (L : Nat) (lane n : Int) : SV := (fun a k => if a = L then (if k = 0 then lane else n) else S.1 a k, fun a i => if a = L + 1 ∨ a = L + 2 then 0 else S.2.1 a i, S.2.2)
def shE (L : Nat) (lane n : Int) (nb ni : Nat) : List va_E := [.inr (7, [IV lane, IV n, .ref (L + 1), .ref (L + 2)]), z0E 1 nb, z0E 0 ni]
theorem shS_f (S : SV) (L : Nat) (lane n : Int) (a k : Nat) : fI (shS S L lane n) a k = if a = L then (if k = 0 then lane else n) else fI S a k := rfl
theorem shS_a (S : SV) (L : Nat) (lane n : Int) (a : Nat) (i : Int) : aI (shS S L lane n) a i = if a = L + 1 ∨ a = L + 2 then 0 else aI S a i := rfl
theorem shS_r (S : SV) (L : Nat) (lane n : Int) (a : Nat) (i : Int) : rI (shS S L lane n) a i = rI S a i := rfl
theorem shS_outs (S : SV) (L : Nat) (lane n : Int) : Outs S (shS S L lane n) L (L + 3) := fun x y h a p q => ⟨fun k => by rw [shS_f, if_neg (by omega)], fun i => by rw [shS_a, if_neg (by omega)], fun i => rfl⟩
theorem hp_sheet {K : List SH} {S : SV} {L nb ni : Nat} {lane n : Int} (h : K.length = L) : HP K S ++ shE L lane n nb ni = HP (K ++ shX L nb ni) (shS S L lane n) := by
  refine List.ext_getElem? (fun i => ?_)
  rw [HP_get]
  by_cases h1 : i < L
  · rw [List.getElem?_append_left (by rw [HP_len]; omega), HP_get, List.getElem?_append_left (by omega)]
    have e : mkC (shS S L lane n) i = mkC S i := funext (mkC_eq (fun k => by rw [shS_f, if_neg (by omega)]) (fun k => by rw [shS_a, if_neg (by omega)]) (fun k => rfl))
    rw [e]
  · rw [List.getElem?_append_right (by rw [HP_len]; omega), HP_len, List.getElem?_append_right (by omega), h]
    obtain ⟨j, rfl⟩ : ∃ j, i = L + j := ⟨i - L, by omega⟩
    rw [Nat.add_sub_cancel_left]
    rcases (show j = 0 ∨ j = 1 ∨ j = 2 ∨ 3 ≤ j by omega) with rfl | rfl | rfl | h3
    · show some (Sum.inr (7, [IV lane, IV n, .ref (L + 1), .ref (L + 2)])) = some (Sum.inr (7, [IV (fI (shS S L lane n) (L + 0) 0), IV (fI (shS S L lane n) (L + 0) 1), .ref (L + 1), .ref (L + 2)]))
      simp [shS_f]
    · have e : (fun i : Nat => iv (aI (shS S L lane n) (L + 1) (i : Nat))) = fun _ => 0 := funext (fun i => by rw [shS_a, if_pos (Or.inl rfl)]; rfl)
      show some (z0E 1 nb) = some (Sum.inl (1, nb, .inl (fun i : Nat => iv (aI (shS S L lane n) (L + 1) (i : Nat)))))
      rw [e]
      rfl
    · have e : (fun i : Nat => iv (aI (shS S L lane n) (L + 2) (i : Nat))) = fun _ => 0 := funext (fun i => by rw [shS_a, if_pos (Or.inr rfl)]; rfl)
      show some (z0E 0 ni) = some (Sum.inl (0, ni, .inl (fun i : Nat => iv (aI (shS S L lane n) (L + 2) (i : Nat)))))
      rw [e]
      rfl
    · rw [List.getElem?_eq_none (by simp [shE]; omega), List.getElem?_eq_none (by simp [shX]; omega)]
      rfl
theorem shS_all {S : SV} {L : Nat} {lane n : Int} (h : AllR S) (hl : R32 lane) (hn : R32 n) : AllR (shS S L lane n) := ⟨fun a k => by
  rw [shS_f]
  split
  · split
    · exact hl
    · exact hn
  · exact h.1 a k, fun a i => by
  rw [shS_a]
  split
  · exact ⟨by omega, by omega⟩
  · exact h.2 a i⟩
theorem WR.grow {K : List SH} {S : SV} {M : MS} {N : Int} {L nb ni : Nat} {lane n : Int} (h : WR K S M N) (hL : K.length = L) (h466 : 466 ≤ L) (hl : R32 lane) (hn : R32 n) : WR (K ++ shX L nb ni) (shS S L lane n) M N := by
  have hO := shS_outs S L lane n
  have hr := shS_all (L := L) h.allR hl hn
  obtain ⟨g1, ⟨g2, g3⟩, ⟨g4, g5⟩, g6, g7, g8⟩ := h
  refine ⟨g1.app _, ⟨g2.outs hO hr (by omega), (hO.f (by omega) 8).trans g3⟩, ⟨g4.same (hO _ _ (by omega)), g5⟩, (g6.outs hO hr (by omega) (by omega)).app _, g7.outs hO (by omega), fun k a b => ?_, fun k k' o o' a b c d e f g => g8.2 k k' o o' a b c d e f g⟩
  rcases g8.1 k a b with ⟨z1, z2⟩ | ⟨q, o, nb', ni', z1, z2, z3, z4, z5⟩
  · exact Or.inl ⟨z1, z2⟩
  · have := gKl z3.2.2.1
    exact Or.inr ⟨q, o, nb', ni', z1, z2, z3.app _, z4, z5.same (hO _ _ (by omega))⟩
theorem shX_at {K : List SH} {L nb ni : Nat} (hL : K.length = L) (h1 : nb ≤ 40) (h2 : ni ≤ 40) : SheetAt (K ++ shX L nb ni) L nb ni := by
  refine ⟨?_, ?_, ?_, h1, h2⟩
  · rw [List.getElem?_append_right (by omega), hL, Nat.sub_self]; rfl
  · rw [List.getElem?_append_right (by omega), hL, Nat.add_sub_cancel_left]; rfl
  · rw [List.getElem?_append_right (by omega), hL, Nat.add_sub_cancel_left]; rfl
