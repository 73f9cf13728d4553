/-! The class's cells and the mathematical state -/
def AdOk (o : Nat) (ad : Int → Nat) : Prop := (∀ i : Int, 0 ≤ i → i < 120 → o + 2 ≤ ad i ∧ ad i < o + 122) ∧ ∀ i j : Int, 0 ≤ i → i < 120 → 0 ≤ j → j < 120 → ad i = ad j → i = j
def MailR (S : SV) (o : Nat) (ad : Int → Nat) (cr : List Row) (liv : Int) : Prop := fI S o 1 = cr.length ∧ fI S o 2 = liv ∧ (∀ i : Int, 0 ≤ i → i < 120 → rI S (o + 1) i = some (ad i)) ∧ ∀ (i : Nat) (r : Row), cr[i]? = some r → ∀ k, k < 8 → fI S (ad i) k = r k
def BoxR (S : SV) (o : Nat) (g f : Int → Int) (w : Int → List Int) : Prop := ∀ a : Int, 0 ≤ a → a < 32 → aI S (o + 1) a = g a ∧ (g a ≠ 0 → aI S (o + 2) a = f a) ∧ ((w a).length : Int) = (if g a < 8 then g a else 8) ∧ 0 ≤ g a ∧ ∀ (t : Nat) (x : Int), (w a)[t]? = some x → aI S (o + 3) (a * 8 + (g a - (w a).length + t) % 8) = x
def BookR (S : SV) (o : Nat) (ty : Int → Int) (lg : List Row) : Prop := (∀ k : Int, 0 ≤ k → k < 9 → aI S (o + 1) k = ty k) ∧ fI S o 3 = lg.length ∧ lg.length ≤ 60 ∧ (0 ≤ fI S o 2 ∧ fI S o 2 < 60) ∧ ∀ (i : Nat) (r : Row), lg[i]? = some r → ∀ k : Nat, k < 5 → aI S (o + 2) ((fI S o 2 + i) % 60 * 5 + k) = r k
def StrR (S : SV) (o : Nat) (l : List Row) : Prop := fI S o 1 = l.length ∧ l.length ≤ 8 ∧ ∀ (i : Nat) (r : Row), l[i]? = some r → ∀ k : Nat, k < 5 → aI S (o + 1) (i * 5 + k) = r k
/-- values are the same from lo to hi -/
def Same (S S' : SV) (lo hi : Nat) : Prop := ∀ a, lo ≤ a → a < hi → (∀ k, fI S' a k = fI S a k) ∧ (∀ i, aI S' a i = aI S a i) ∧ ∀ i, rI S' a i = rI S a i
theorem Same.rf {S : SV} {lo hi : Nat} : Same S S lo hi := fun _ _ _ => ⟨fun _ => rfl, fun _ => rfl, fun _ => rfl⟩
theorem Same.tr {S S1 S2 : SV} {lo hi : Nat} (h : Same S S1 lo hi) (h2 : Same S1 S2 lo hi) : Same S S2 lo hi := fun a q1 q2 => ⟨fun k => ((h2 a q1 q2).1 k).trans ((h a q1 q2).1 k), fun k => ((h2 a q1 q2).2.1 k).trans ((h a q1 q2).2.1 k), fun k => ((h2 a q1 q2).2.2 k).trans ((h a q1 q2).2.2 k)⟩
theorem Same.sub {S S' : SV} {lo hi lo' hi' : Nat} (h : Same S S' lo hi) (h1 : lo ≤ lo') (h2 : hi' ≤ hi) : Same S S' lo' hi' := fun a q1 q2 => h a (by omega) (by omega)
theorem Same.sF {S : SV} {a k : Nat} {v : Int} {lo hi : Nat} (h : a < lo ∨ hi ≤ a) : Same S (sF S a k v) lo hi := fun b q1 q2 => ⟨fun k' => by rw [fI_sF, if_neg (by omega)], fun _ => rfl, fun _ => rfl⟩
theorem Same.sA {S : SV} {a : Nat} {k v : Int} {lo hi : Nat} (h : a < lo ∨ hi ≤ a) : Same S (sA S a k v) lo hi := fun b q1 q2 => ⟨fun _ => rfl, fun k' => by rw [aI_sA, if_neg (by omega)], fun _ => rfl⟩
theorem Same.sR {S : SV} {a : Nat} {k : Int} {v : Option Nat} {lo hi : Nat} (h : a < lo ∨ hi ≤ a) : Same S (sR S a k v) lo hi := fun b q1 q2 => ⟨fun _ => rfl, fun _ => rfl, fun k' => by rw [rI_sR, if_neg (by omega)]⟩
theorem Same.sC {S : SV} {a b : Nat} {x y n : Int} {lo hi : Nat} (h : a < lo ∨ hi ≤ a) : Same S (sC S a b x y n) lo hi := fun c q1 q2 => ⟨fun _ => rfl, fun k' => by rw [aI_sC, if_neg (by omega)], fun _ => rfl⟩
theorem Same.sFill {S : SV} {a : Nat} {v n : Int} {lo hi : Nat} (h : a < lo ∨ hi ≤ a) : Same S (sFill S a v n) lo hi := fun c q1 q2 => ⟨fun _ => rfl, fun k' => by rw [aI_sFill, if_neg (by omega)], fun _ => rfl⟩
-- the relations go over where the cells are the same
theorem MailR.same {S S' : SV} {o : Nat} {ad : Int → Nat} {cr : List Row} {liv : Int} (h : MailR S o ad cr liv) (hA : AdOk o ad) (hl : cr.length ≤ 120) (hs : Same S S' o (o + 122)) : MailR S' o ad cr liv := by
  obtain ⟨h1, h2, h3, h4⟩ := h
  refine ⟨((hs o (by omega) (by omega)).1 1).trans h1, ((hs o (by omega) (by omega)).1 2).trans h2, fun i q1 q2 => ((hs (o + 1) (by omega) (by omega)).2.2 i).trans (h3 i q1 q2), fun i r hi k hk => ?_⟩
  have hlt := (List.getElem?_eq_some_iff.mp hi).1
  have hq := hA.1 i (by omega) (by omega)
  exact ((hs (ad i) (by omega) (by omega)).1 k).trans (h4 i r hi k hk)
theorem BoxR.same {S S' : SV} {o : Nat} {g f : Int → Int} {w : Int → List Int} (h : BoxR S o g f w) (hs : Same S S' o (o + 4)) : BoxR S' o g f w := by
  intro a q1 q2
  obtain ⟨h1, h2, h3, h4, h5⟩ := h a q1 q2
  exact ⟨((hs _ (by omega) (by omega)).2.1 a).trans h1, fun z => ((hs _ (by omega) (by omega)).2.1 a).trans (h2 z), h3, h4, fun t x ht => ((hs _ (by omega) (by omega)).2.1 _).trans (h5 t x ht)⟩
theorem BookR.same {S S' : SV} {o : Nat} {ty : Int → Int} {lg : List Row} (h : BookR S o ty lg) (hs : Same S S' o (o + 3)) : BookR S' o ty lg := by
  obtain ⟨h1, h2, h3, h4, h5⟩ := h
  have e2 := (hs o (by omega) (by omega)).1 2
  refine ⟨fun k q1 q2 => ((hs _ (by omega) (by omega)).2.1 k).trans (h1 k q1 q2), ((hs o (by omega) (by omega)).1 3).trans h2, h3, by rw [e2]; exact h4, fun i r hi k hk => ?_⟩
  rw [e2]
  exact ((hs _ (by omega) (by omega)).2.1 _).trans (h5 i r hi k hk)
theorem StrR.same {S S' : SV} {o : Nat} {l : List Row} (h : StrR S o l) (hs : Same S S' o (o + 2)) : StrR S' o l := ⟨((hs o (by omega) (by omega)).1 1).trans h.1, h.2.1, fun i r hi k hk => ((hs _ (by omega) (by omega)).2.1 _).trans (h.2.2 i r hi k hk)⟩
-- a round at r
def RoundAt (K : List SH) (r : Nat) : Prop := K[r]? = some (.inr (6, [none, none, none, some (r + 1), some (r + 2), some (r + 124), some (r + 128), some (r + 131)])) ∧ K[r + 1]? = some (.inl (0, 5)) ∧ MailAt K (r + 2) ∧ BoxesAt K (r + 124) ∧ BookAt K (r + 128) ∧ K[r + 131]? = some (.inl (6, 5)) ∧ StrAt K (r + 132) ∧ StrAt K (r + 134) ∧ StrAt K (r + 136) ∧ StrAt K (r + 138) ∧ StrAt K (r + 140)
/-- the place of the strangers of house h -/
def sgAt (r : Nat) (h : Int) : Nat := r + 132 + 2 * h.toNat
theorem RoundAt.sg {K : List SH} {r : Nat} (h : RoundAt K r) {x : Int} (h0 : 0 ≤ x) (h5 : x < 5) : StrAt K (sgAt r x) := by
  obtain ⟨-, -, -, -, -, -, a0, a1, a2, a3, a4⟩ := h
  rcases (show x = 0 ∨ x = 1 ∨ x = 2 ∨ x = 3 ∨ x = 4 by omega) with rfl | rfl | rfl | rfl | rfl
  · exact a0
  · exact a1
  · exact a2
  · exact a3
  · exact a4
def RoundR (S : SV) (r : Nat) (ad : Int → Nat) (cr : List Row) (liv : Int) (e : EN) : Prop := (fI S r 0 = eCl e ∧ fI S r 1 = eLe e ∧ fI S r 2 = eOl e) ∧ (∀ h : Int, 0 ≤ h → h < 5 → aI S (r + 1) h = eUp e h) ∧ MailR S (r + 2) ad cr liv ∧ BoxR S (r + 124) (eGv e) (eBf e) (eWn e) ∧ BookR S (r + 128) (eTy e) (eLg e) ∧ (∀ h : Int, 0 ≤ h → h < 5 → rI S (r + 131) h = some (sgAt r h)) ∧ ∀ h : Int, 0 ≤ h → h < 5 → StrR S (sgAt r h) (eSg e h)
theorem RoundR.same {S S' : SV} {r : Nat} {ad : Int → Nat} {cr : List Row} {liv : Int} {e : EN} (h : RoundR S r ad cr liv e) (hA : AdOk (r + 2) ad) (hl : cr.length ≤ 120) (hs : Same S S' r (r + 142)) : RoundR S' r ad cr liv e := by
  obtain ⟨⟨h1, h2, h3⟩, h4, h5, h6, h7, h8, h9⟩ := h
  have q := hs r (by omega) (by omega)
  refine ⟨⟨(q.1 0).trans h1, (q.1 1).trans h2, (q.1 2).trans h3⟩, fun x a b => ((hs (r + 1) (by omega) (by omega)).2.1 x).trans (h4 x a b), h5.same hA hl (hs.sub (by omega) (by omega)), h6.same (hs.sub (by omega) (by omega)), h7.same (hs.sub (by omega) (by omega)), fun x a b => ((hs (r + 131) (by omega) (by omega)).2.2 x).trans (h8 x a b), fun x a b => (h9 x a b).same (hs.sub (by unfold sgAt; omega) (by unfold sgAt; omega))⟩
