/-! the heap of the two constructors as shapes and values -/
def fdOf : Value → Option Nat
  | .ref a => some a
  | _ => none
def shOf : va_E → SH
  | .inl (t, n, _) => .inl (t, n)
  | .inr (ci, vs) => .inr (ci, vs.map fdOf)
def rfE : Option va_E → Int → Option Nat
  | some (.inl (_, _, .inr (.inr (.inr (.inr f))))), i => f i.toNat
  | _, _ => none
def S00 (E : List va_E) : SV := (fun _ _ => 0, fun _ _ => 0, fun a i => rfE E[a]? i)
def regE (x : va_E) : Prop := (∃ ci vs, x = .inr (ci, vs) ∧ ∀ v ∈ vs, v = IV 0 ∨ ∃ a, v = .ref a) ∨ (∃ t n, x = z0E t n ∧ t < 3) ∨ ∃ t n f, x = q0E t n f ∧ 3 ≤ t
theorem reg_fs {E : List va_E} {a : Nat} : ∀ (vs : List Value) (m : Nat), (∀ v ∈ vs, v = IV 0 ∨ ∃ a, v = .ref a) → ((vs.map fdOf).zipIdx m).map (mkF (S00 E) a) = vs
  | [], _, _ => rfl
  | v :: vs, m, h => by
    rw [List.map_cons, List.zipIdx_cons, List.map_cons, reg_fs vs (m + 1) (fun w hw => h w (List.mem_cons_of_mem _ hw))]
    rcases h v List.mem_cons_self with rfl | ⟨b, rfl⟩
    · rfl
    · rfl
theorem hp_of (E : List va_E) (h : ∀ x ∈ E, regE x) : HP (E.map shOf) (S00 E) = E := by
  refine List.ext_getElem? (fun i => ?_)
  rw [HP_get, List.getElem?_map]
  cases e : E[i]? with
  | none => rfl
  | some x =>
    show some (mkC (S00 E) i (shOf x)) = some x
    rcases h x (List.mem_of_getElem? e) with ⟨ci, vs, rfl, hv⟩ | ⟨t, n, rfl, ht⟩ | ⟨t, n, f, rfl, ht⟩
    · show some (Sum.inr (ci, ((vs.map fdOf).zipIdx).map (mkF (S00 E) i))) = _
      rw [reg_fs vs 0 hv]
    · show some (if t < 3 then _ else _) = _
      rw [if_pos ht]
      rfl
    · show some (if t < 3 then _ else _) = _
      rw [if_neg (by omega)]
      have q : (fun j : Nat => rI (S00 E) i (j : Nat)) = f := funext (fun j => by
        show rfE E[i]? (j : Nat) = f j
        rw [e]
        show f (Int.toNat (j : Nat)) = f j
        rw [Int.toNat_natCast])
      rw [q]
      rfl
def bModel (L : Nat) : List va_E := [.inr (11, [.ref (L + 1), .ref (L + 2), .ref (L + 3), .ref (L + 4), .ref (L + 5), .ref (L + 6), IV 0, IV 0, IV 0, IV 0, IV 0, IV 0, IV 0, IV 0, IV 0, .ref (L + 7), .ref (L + 8), .ref (L + 9), IV 0, .ref (L + 10), .ref (L + 11), .ref (L + 12)]), z0E 0 1583, z0E 0 246, z0E 0 3166, z0E 2 2, z0E 0 1583, z0E 0 200, z0E 2 32, z0E 0 8, z0E 2 4, z0E 0 4, z0E 0 4, z0E 0 160]
def E0 : List va_E := bWary 0 ++ bModel 453
def K0 : List SH := E0.map shOf
theorem rgz {t n : Nat} (h : t < 3) : regE (z0E t n) := Or.inr (Or.inl ⟨t, n, rfl, h⟩)
theorem rgq {t n : Nat} {f : Nat → Option Nat} (h : 3 ≤ t) : regE (q0E t n f) := Or.inr (Or.inr ⟨t, n, f, rfl, h⟩)
theorem rgo {ci : Nat} {vs : List Value} (h : ∀ v ∈ vs, v = IV 0 ∨ ∃ a, v = .ref a) : regE (.inr (ci, vs)) := Or.inl ⟨ci, vs, rfl, h⟩
def AR (E : List va_E) : Prop := ∀ x ∈ E, regE x
theorem AR.nil : AR [] := fun _ h => by cases h
theorem AR.cons {x : va_E} {l : List va_E} (h : regE x) (k : AR l) : AR (x :: l) := fun y hy => by
  rcases List.mem_cons.mp hy with rfl | z
  · exact h
  · exact k y z
theorem AR.app {l m : List va_E} (h : AR l) (k : AR m) : AR (l ++ m) := fun y hy => (List.mem_append.mp hy).elim (h y) (k y)
theorem AR.rep {x : va_E} (n : Nat) (h : regE x) : AR (List.replicate n x) := fun y hy => (List.mem_replicate.mp hy).2 ▸ h
def vR (v : Value) : Prop := v = IV 0 ∨ ∃ a, v = .ref a
theorem vr0 : vR (IV 0) := Or.inl rfl
theorem vrr (a : Nat) : vR (.ref a) := Or.inr ⟨a, rfl⟩
theorem vsn : ∀ v ∈ ([] : List Value), vR v := fun _ h => by cases h
theorem vsc {x : Value} {l : List Value} (h : vR x) (k : ∀ v ∈ l, vR v) : ∀ v ∈ x :: l, vR v := fun y hy => by
  rcases List.mem_cons.mp hy with rfl | z
  · exact h
  · exact k y z
theorem rgItem : regE itE := rgo (vsc vr0 (vsc vr0 (vsc vr0 (vsc vr0 (vsc vr0 (vsc vr0 (vsc vr0 (vsc vr0 vsn))))))))
theorem arMail (L : Nat) : AR (bMail L) := by
  unfold bMail
  repeat' first | exact AR.nil | exact rgz (by decide) | exact rgq (by decide) | exact vsn | exact vr0 | exact vrr _ | exact AR.rep _ rgItem | refine rgo (vsc ?_ ?_) | refine vsc ?_ ?_ | refine AR.cons ?_ ?_ | refine AR.app ?_ ?_
theorem arBoxes (L : Nat) : AR (bBoxes L) := by
  unfold bBoxes
  repeat' first | exact AR.nil | exact rgz (by decide) | exact rgq (by decide) | exact vsn | exact vr0 | exact vrr _ | refine rgo (vsc ?_ ?_) | refine vsc ?_ ?_ | refine AR.cons ?_ ?_ | refine AR.app ?_ ?_
theorem arBook (L : Nat) : AR (bBook L) := by
  unfold bBook
  repeat' first | exact AR.nil | exact rgz (by decide) | exact rgq (by decide) | exact vsn | exact vr0 | exact vrr _ | refine rgo (vsc ?_ ?_) | refine vsc ?_ ?_ | refine AR.cons ?_ ?_ | refine AR.app ?_ ?_
theorem arStr (L : Nat) : AR (bStr L) := by
  unfold bStr
  repeat' first | exact AR.nil | exact rgz (by decide) | exact rgq (by decide) | exact vsn | exact vr0 | exact vrr _ | refine rgo (vsc ?_ ?_) | refine vsc ?_ ?_ | refine AR.cons ?_ ?_ | refine AR.app ?_ ?_
theorem arPlan (L : Nat) : AR (bPlan L) := by
  unfold bPlan
  repeat' first | exact AR.nil | exact rgz (by decide) | exact rgq (by decide) | exact vsn | exact vr0 | exact vrr _ | refine rgo (vsc ?_ ?_) | refine vsc ?_ ?_ | refine AR.cons ?_ ?_ | refine AR.app ?_ ?_
theorem arTape (L : Nat) : AR (bTape L) := by
  unfold bTape
  repeat' first | exact AR.nil | exact rgz (by decide) | exact rgq (by decide) | exact vsn | exact vr0 | exact vrr _ | exact arPlan _ | refine rgo (vsc ?_ ?_) | refine vsc ?_ ?_ | refine AR.cons ?_ ?_ | refine AR.app ?_ ?_
theorem arPre (L : Nat) : AR (preR L) := by
  unfold preR
  repeat' first | exact AR.nil | exact rgz (by decide) | exact rgq (by decide) | exact vsn | exact vr0 | exact vrr _ | exact arMail _ | exact arBoxes _ | exact arBook _ | refine rgo (vsc ?_ ?_) | refine vsc ?_ ?_ | refine AR.cons ?_ ?_ | refine AR.app ?_ ?_
theorem arStrs (L : Nat) : ∀ i, AR (strs L i)
  | 0 => AR.nil
  | i + 1 => AR.app (arStrs L i) (arStr _)
theorem arRound (L : Nat) : AR (bRound L) := AR.cons (rgo (vsc vr0 (vsc vr0 (vsc vr0 (vsc (vrr _) (vsc (vrr _) (vsc (vrr _) (vsc (vrr _) (vsc (vrr _) vsn))))))))) (AR.app (arPre L) (AR.cons (rgq (by decide)) (arStrs L 5)))
theorem arRds (L : Nat) : ∀ i, AR (rds L i)
  | 0 => AR.nil
  | i + 1 => AR.app (arRds L i) (arRound _)
theorem arPreW (L : Nat) : AR (preW L) := by
  unfold preW
  repeat' first | exact AR.nil | exact rgz (by decide) | exact rgq (by decide) | exact vsn | exact vr0 | exact vrr _ | exact arTape _ | exact arPlan _ | exact arRound _ | refine rgo (vsc ?_ ?_) | refine vsc ?_ ?_ | refine AR.cons ?_ ?_ | refine AR.app ?_ ?_
theorem arMid (L i : Nat) : AR (midW L i) := AR.app (arPreW L) (AR.cons (rgq (by decide)) (AR.app (AR.cons (rgz (by decide)) (AR.cons (rgq (by decide)) AR.nil)) (arRds L i)))
theorem arWary (L : Nat) : AR (bWary L) := by
  unfold bWary whO
  repeat' first | exact AR.nil | exact rgz (by decide) | exact rgq (by decide) | exact vsn | exact vr0 | exact vrr _ | exact arMid _ _ | refine rgo (vsc ?_ ?_) | refine vsc ?_ ?_ | refine AR.cons ?_ ?_ | refine AR.app ?_ ?_
theorem arModel (L : Nat) : AR (bModel L) := by
  unfold bModel
  repeat' first | exact AR.nil | exact rgz (by decide) | exact rgq (by decide) | exact vsn | exact vr0 | exact vrr _ | refine rgo (vsc ?_ ?_) | refine vsc ?_ ?_ | refine AR.cons ?_ ?_ | refine AR.app ?_ ?_
theorem arE0 : AR E0 := AR.app (arWary 0) (arModel 453)
theorem hp0 : HP K0 (S00 E0) = E0 := hp_of E0 arE0
theorem bWary_l (L : Nat) : (bWary L).length = 453 := by simp [bWary, midW, preW_l, rds_l]
theorem mo0 : MoAt K0 := by
  unfold MoAt
  and_intros <;> decide +kernel
theorem ml0 {K : List SH} {o : Nat} (h1 : K[o]? = some (.inr (4, [some (o + 1), none, none]))) (h2 : K[o + 1]? = some (.inl (3, 120))) (h : ∀ k, k < 120 → K[o + 2 + k]? = some (.inr (3, [none, none, none, none, none, none, none, none]))) : MailAt K o := ⟨h1, h2, fun q a b => by
  have w := h (q - (o + 2)) (by omega)
  rw [show o + 2 + (q - (o + 2)) = q by omega] at w
  exact w⟩
theorem rd0 {K : List SH} {r : Nat} (h1 : K[r]? = some (.inr (6, [none, none, none, some (r + 1), some (r + 2), some (r + 124), some (r + 128), some (r + 131)])) ∧ K[r + 1]? = some (.inl (0, 5))) (h2 : K[r + 2]? = some (.inr (4, [some (r + 2 + 1), none, none])) ∧ K[r + 2 + 1]? = some (.inl (3, 120)) ∧ ∀ k, k < 120 → K[r + 2 + 2 + k]? = some (.inr (3, [none, none, none, none, none, none, none, none]))) (h3 : BoxesAt K (r + 124)) (h4 : BookAt K (r + 128)) (h5 : K[r + 131]? = some (.inl (6, 5))) (h6 : StrAt K (r + 132) ∧ StrAt K (r + 134) ∧ StrAt K (r + 136) ∧ StrAt K (r + 138) ∧ StrAt K (r + 140)) : RoundAt K r := ⟨h1.1, h1.2, ml0 h2.1 h2.2.1 h2.2.2, h3, h4, h5, h6⟩
theorem al0 {K : List SH} {o : Nat} (h : (List.range 120).all (fun k => decide (K[o + k]? = some (.inr (3, [none, none, none, none, none, none, none, none])))) = true) : ∀ k, k < 120 → K[o + k]? = some (.inr (3, [none, none, none, none, none, none, none, none])) := fun k hk => of_decide_eq_true (List.all_eq_true.mp h k (List.mem_range.mpr hk))
theorem rd23 : RoundAt K0 23 := rd0 (by and_intros <;> decide +kernel) ⟨by decide +kernel, by decide +kernel, al0 (by decide +kernel)⟩ (by unfold BoxesAt; and_intros <;> decide +kernel) (by unfold BookAt; and_intros <;> decide +kernel) (by and_intros <;> decide +kernel) (by unfold StrAt; and_intros <;> decide +kernel)
theorem rd169 : RoundAt K0 169 := rd0 (by and_intros <;> decide +kernel) ⟨by decide +kernel, by decide +kernel, al0 (by decide +kernel)⟩ (by unfold BoxesAt; and_intros <;> decide +kernel) (by unfold BookAt; and_intros <;> decide +kernel) (by and_intros <;> decide +kernel) (by unfold StrAt; and_intros <;> decide +kernel)
theorem rd311 : RoundAt K0 311 := rd0 (by and_intros <;> decide +kernel) ⟨by decide +kernel, by decide +kernel, al0 (by decide +kernel)⟩ (by unfold BoxesAt; and_intros <;> decide +kernel) (by unfold BookAt; and_intros <;> decide +kernel) (by and_intros <;> decide +kernel) (by unfold StrAt; and_intros <;> decide +kernel)
theorem wsh0 : WSh K0 := ⟨by decide +kernel, by unfold TapeAt PlanAt; (and_intros <;> decide +kernel), by unfold PlanAt; (and_intros <;> decide +kernel), rd23, by unfold CarAt; (and_intros <;> decide +kernel), by decide +kernel, by decide +kernel, by decide +kernel, rd169, rd311⟩
