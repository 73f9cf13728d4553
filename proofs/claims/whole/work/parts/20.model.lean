/-! The mathematical state: rows, a plan, a round -/
abbrev Row : Type := Nat → Int
def rset (r : Row) (k : Nat) (v : Int) : Row := fun k' => if k' = k then v else r k'
def row8 (a b c d e f g h : Int) : Row := fun k => match k with
  | 0 => a
  | 1 => b
  | 2 => c
  | 3 => d
  | 4 => e
  | 5 => f
  | 6 => g
  | _ => h
def row5 (a b c d e : Int) : Row := fun k => match k with
  | 0 => a
  | 1 => b
  | 2 => c
  | 3 => d
  | _ => e
-- plan: houses, domains, wary, receivers of a domain: how many, house, preference; kind of an address, leads: how many, where to
abbrev PL : Type := Int × Int × (Int → Int) × (Int → Int) × (Int → Int → Int) × (Int → Int → Int) × (Int → Int) × (Int → Int) × (Int → Int → Int)
def pHs (p : PL) : Int := p.1
def pDm (p : PL) : Int := p.2.1
def pWa (p : PL) : Int → Int := p.2.2.1
def pRc (p : PL) : Int → Int := p.2.2.2.1
def pRh (p : PL) : Int → Int → Int := p.2.2.2.2.1
def pRp (p : PL) : Int → Int → Int := p.2.2.2.2.2.1
def pKd (p : PL) : Int → Int := p.2.2.2.2.2.2.1
def pLc (p : PL) : Int → Int := p.2.2.2.2.2.2.2.1
def pLd (p : PL) : Int → Int → Int := p.2.2.2.2.2.2.2.2
def rhAt (p : PL) (h d : Int) (i : Int) : Prop := pRh p d i = h
/-- the place of a house among a domain's receivers; -4 -/
noncomputable def placeM (p : PL) (h d : Int) : Int := fndF (rhAt p h d) (pRc p d).toNat 0
noncomputable def prefM (p : PL) (h d : Int) : Int := if placeM p h d = -4 then -4 else pRp p d (placeM p h d)
def lastM (p : PL) (h d : Int) : Prop := prefM p h d ≠ -4 ∧ ∀ i, 0 ≤ i → i < pRc p d → prefM p h d ≤ pRp p d i
/-- the houses that are asked, in order -/
noncomputable def asksM (p : PL) (h d : Int) : List Int := (List.range (if prefM p h d = -4 then 10 else (prefM p h d).toNat)).flatMap (fun pr : Nat => ((List.range (pHs p).toNat).map (fun t : Nat => (t : Int))).filter (fun t => @decide (prefM p t d = (pr : Int)) (Classical.propDecidable _)))
def PlOk (p : PL) : Prop := (0 ≤ pHs p ∧ pHs p ≤ 5) ∧ (0 ≤ pDm p ∧ pDm p ≤ 4) ∧ (∀ d, 0 ≤ d → d < 4 → 0 ≤ pRc p d ∧ pRc p d ≤ 3 ∧ (pDm p ≤ d → pRc p d = 0)) ∧ (∀ d i, 0 ≤ d → d < 4 → 0 ≤ i → i < pRc p d → (0 ≤ pRh p d i ∧ pRh p d i < pHs p) ∧ (0 ≤ pRp p d i ∧ pRp p d i ≤ 9) ∧ ∀ i', 0 ≤ i' → i' < pRc p d → pRh p d i = pRh p d i' → i = i') ∧ (∀ h, 0 ≤ h → h < pHs p → pWa p h = 0 ∨ pWa p h = 1) ∧ (∀ a, 0 ≤ a → a < 32 → (0 ≤ pKd p a ∧ pKd p a ≤ 3) ∧ (0 ≤ pLc p a ∧ pLc p a ≤ 4) ∧ (pKd p a = 2 → 1 ≤ pLc p a) ∧ (pKd p a ≠ 0 → a < 8 * pDm p) ∧ ∀ i, 0 ≤ i → i < pLc p a → 0 ≤ pLd p a i ∧ pLd p a i < 32)
-- what comes of ANEW, but the items: clock, letters, ofLists; up; boxes: how many given, from, the latest 8; how often each deed; the log; strangers of each house
abbrev EN : Type := Int × Int × Int × (Int → Int) × (Int → Int) × (Int → Int) × (Int → List Int) × (Int → Int) × List Row × (Int → List Row)
def eCl (e : EN) : Int := e.1
def eLe (e : EN) : Int := e.2.1
def eOl (e : EN) : Int := e.2.2.1
def eUp (e : EN) : Int → Int := e.2.2.2.1
def eGv (e : EN) : Int → Int := e.2.2.2.2.1
def eBf (e : EN) : Int → Int := e.2.2.2.2.2.1
def eWn (e : EN) : Int → List Int := e.2.2.2.2.2.2.1
def eTy (e : EN) : Int → Int := e.2.2.2.2.2.2.2.1
def eLg (e : EN) : List Row := e.2.2.2.2.2.2.2.2.1
def eSg (e : EN) : Int → List Row := e.2.2.2.2.2.2.2.2.2
def fset {α : Type} (f : Int → α) (k : Int) (v : α) : Int → α := fun k' => if k' = k then v else f k'
def eClS (e : EN) (v : Int) : EN := (v, e.2)
def eLeS (e : EN) (v : Int) : EN := (e.1, v, e.2.2)
def eOlS (e : EN) (v : Int) : EN := (e.1, e.2.1, v, e.2.2.2)
def eUpS (e : EN) (v : Int → Int) : EN := (e.1, e.2.1, e.2.2.1, v, e.2.2.2.2)
def eBxS (e : EN) (g f : Int → Int) (w : Int → List Int) : EN := (e.1, e.2.1, e.2.2.1, e.2.2.2.1, g, f, w, e.2.2.2.2.2.2.2)
def eLgS (e : EN) (t : Int → Int) (l : List Row) : EN := (e.1, e.2.1, e.2.2.1, e.2.2.2.1, e.2.2.2.2.1, e.2.2.2.2.2.1, e.2.2.2.2.2.2.1, t, l, e.2.2.2.2.2.2.2.2.2)
def eSgS (e : EN) (s : Int → List Row) : EN := (e.1, e.2.1, e.2.2.1, e.2.2.2.1, e.2.2.2.2.1, e.2.2.2.2.2.1, e.2.2.2.2.2.2.1, e.2.2.2.2.2.2.2.1, e.2.2.2.2.2.2.2.2.1, s)
/-- at most n of them: the first goes where one too many comes -/
def pushN {α : Type} (n : Nat) (l : List α) (x : α) : List α := if l.length < n then l ++ [x] else l.drop 1 ++ [x]
def logM (e : EN) (deed letter house to_ : Int) : EN := eLgS e (fset (eTy e) deed (eTy e deed + 1)) (pushN 60 (eLg e) (row5 deed (eCl e) letter house to_))
def logI (e : EN) (deed : Int) (r : Row) (house : Int) : EN := logM e deed (r 1) house (r 3)
def bounceM (e : EN) (r : Row) : EN × List Row := if r 2 = -4 then (logI e 8 r (r 0), []) else (eLeS (logI e 7 r (r 0)) (eLe e + 1), [row8 (r 0) (eLe e) (-4) (r 2) 0 0 (eCl e + 1) 0])
noncomputable def giveM (e : EN) (r : Row) : EN := @ite EN (r 1 ∈ eWn e (r 3)) (Classical.propDecidable _) (logI e 3 r (r 0)) (logI (eBxS e (fset (eGv e) (r 3) (eGv e (r 3) + 1)) (fset (eBf e) (r 3) (r 2)) (fset (eWn e) (r 3) (pushN 8 (eWn e (r 3)) (r 1)))) 2 r (r 0))
def aliasM (p : PL) (e : EN) (r : Row) : EN × Row := (logI e 4 r (r 0), rset (rset (rset (rset r 3 (pLd p (r 3) 0)) 5 (r 5 + 1)) 4 0) 6 (eCl e + 1))
/-- bit a of an int -/
def bitM (m a : Int) : Prop := (iv m).toBitVec.getLsbD a.toNat = true
def markM (m a : Int) : Int := (iv m ||| (1 <<< (iv a &&& 31))).toInt
noncomputable def freeM (p : PL) (m l : Int) : List Int := ((List.range (pLc p l).toNat).map (fun t : Nat => pLd p l (t : Int))).filter (fun a => @decide (¬ bitM m a) (Classical.propDecidable _))
noncomputable def openM (p : PL) (e : EN) (n : Int) (r : Row) : EN × Option Row × List Row :=
  if 60 < n - 1 + (freeM p (markM (r 7) (r 3)) (r 3)).length then (e, some (rset r 6 (eCl e + 1)), [])
  else (eOlS (logI e 5 r (r 0)) (eOl e + (freeM p (markM (r 7) (r 3)) (r 3)).length), none, (freeM p (markM (r 7) (r 3)) (r 3)).map (fun a => row8 (r 0) (r 1) (r 2) a 0 (r 5 + 1) (eCl e + 1) (markM (r 7) (r 3))))
def strIs (w f t : Int) (x : Row) : Bool := decide (x 0 = w ∧ x 1 = f ∧ x 2 = t)
def letsM (l : List Row) (w f t c : Int) : List Row × Bool := match l.findIdx? (strIs w f t) with
  | none => (pushN 8 l (row5 w f t c 0), false)
  | some i => if (l.getD i (fun _ => 0)) 4 = 1 ∨ 3 ≤ c - (l.getD i (fun _ => 0)) 3 ∧ c - (l.getD i (fun _ => 0)) 3 ≤ 20 then (l.set i (rset (l.getD i (fun _ => 0)) 4 1), true) else if 20 < c - (l.getD i (fun _ => 0)) 3 then (l.eraseIdx i ++ [row5 w f t c 0], false) else (l, false)
/-- those that are asked, one behind another: what the strangers are then, and who takes it -/
def askM (p : PL) (e : EN) (r : Row) : List Int → EN × Option Int
  | [] => (e, none)
  | o :: os => if eUp e o = 1 then (if pWa p o = 0 then (e, some o) else if (letsM (eSg e o) (r 0) (r 2) (r 3) (eCl e)).2 then (eSgS e (fset (eSg e) o (letsM (eSg e o) (r 0) (r 2) (r 3) (eCl e)).1), some o) else askM p (eSgS e (fset (eSg e) o (letsM (eSg e o) (r 0) (r 2) (r 3) (eCl e)).1)) r os) else askM p e r os
noncomputable def travelM (p : PL) (e : EN) (r : Row) : EN × Option Row × List Row := match askM p e r (asksM p (r 0) (r 3 / 8)) with
  | (e1, some o) => (logI e1 1 r o, none, [row8 o (r 1) (r 2) (r 3) 0 (r 5 + 1) (eCl e + 1) (r 7)])
  | (e1, none) => if r 4 + 1 = 5 then ((bounceM e1 r).1, none, (bounceM e1 r).2) else (logI e1 6 r (r 0), some (rset (rset r 4 (r 4 + 1)) 6 (eCl e + 2 ^ (r 4).toNat)), [])
/-- an item is handled: what comes of it, whether it stays, what comes behind all -/
noncomputable def handleM (p : PL) (e : EN) (n : Int) (r : Row) : EN × Option Row × List Row :=
  if r 5 = 8 ∨ pRc p (r 3 / 8) = 0 then ((bounceM e r).1, none, (bounceM e r).2)
  else @ite _ (lastM p (r 0) (r 3 / 8)) (Classical.propDecidable _) (if pKd p (r 3) = 1 then (giveM e r, none, []) else if pKd p (r 3) = 2 then ((aliasM p e r).1, some (aliasM p e r).2, []) else if pKd p (r 3) = 3 ∧ r 2 ≠ -4 then openM p e n r else ((bounceM e r).1, none, (bounceM e r).2)) (travelM p e r)
/-- a turn of house h: done, those that are left, those that came -/
noncomputable def turnM (p : PL) (h : Int) : List Row → List Row → List Row → EN → EN × List Row
  | dn, [], nw, e => (e, dn ++ nw)
  | dn, r :: rs, nw, e => if r 0 = h ∧ r 6 ≤ eCl e then turnM p h (dn ++ (handleM p e (dn.length + (rs.length + 1) + nw.length) r).2.1.toList) rs (nw ++ (handleM p e (dn.length + (rs.length + 1) + nw.length) r).2.2) (handleM p e (dn.length + (rs.length + 1) + nw.length) r).1 else turnM p h (dn ++ [r]) rs nw e
noncomputable def housesM (p : PL) : Nat → Int → EN × List Row → EN × List Row
  | 0, _, x => x
  | m + 1, h, x => housesM p m (h + 1) (if eUp x.1 h = 1 then turnM p h [] x.2 [] x.1 else x)
noncomputable def tickM (p : PL) (x : EN × List Row) : EN × List Row := housesM p (pHs p).toNat 0 (eClS x.1 (eCl x.1 + 1), x.2)
