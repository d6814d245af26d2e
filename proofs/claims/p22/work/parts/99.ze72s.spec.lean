/-! THE WALKING, in itself: THE PARK as the reference's row holds it -/
abbrev PK : Type := Nat → Int32
abbrev TQ : Type := Sg × List Lnq
noncomputable def uPk (P : PK) (i : Nat) (x : Int32) : PK := fun j => if j = i then x else P j
noncomputable def cX (f : Nat) (c : Int32) : Nat := 522 + 7 * c.toInt.toNat + f
noncomputable def cE (P : PK) (f : Nat) (c : Int32) : Int32 := P (cX f c)
noncomputable def bdQ (q : TQ) : Int32 := tvS q.2 2 40
noncomputable def mdQ (q : TQ) : Int32 := tvS q.2 3 50
noncomputable def dyQ (q : TQ) : Int32 := tvS q.2 4 10
noncomputable def siQ (q : TQ) : Int32 := tvS q.2 7 3
noncomputable def cmpV (v s n : Int32) : Bool := if s = 60 then decide (v < n) else if s = 61 then decide (v = n) else decide (n < v)
/-- what a step asks of a CELL -/
noncomputable def trP (g : TQ) (P : PK) (c : Int32) (k : Cdq) : Bool :=
  if k.1 = 0 then decide (cE P 0 c = 0) else if k.1 = 1 then decide (cE P 0 c = 1) else if k.1 = 2 then decide (cE P 0 c = 2) else if k.1 = 3 then decide (cE P 0 c = 4) else if k.1 = 4 then decide (cE P 0 c = 5) else if k.1 = 5 then decide (cE P 1 c = 1)
  else if k.1 = 6 then decide (bdQ g ≤ cE P 3 c ∧ mdQ g ≤ cE P 4 c) else if k.1 = 7 then decide (bdQ g ≤ cE P 3 c)
  else cmpV (if k.1 = 8 then cE P 3 c else if k.1 = 9 then cE P 4 c else if k.1 = 10 then cE P 2 c else cE P 5 c) k.2.1 k.2.2
noncomputable def segC (q : TQ) (l : Lnq) : List Cdq := (q.1.2.2.drop l.2.2.2.1).take (l.2.2.2.2 - l.2.2.2.1)
noncomputable def hldP (g : TQ) (P : PK) (q : TQ) (l : Lnq) (c : Int32) : Bool := if l.2.2.2.1 = l.2.2.2.2 then true else (evC (trP g P c) (segC q l) []).headD true
/-- the NUMBER of the first line of a kind that holds -/
noncomputable def fstL (g : TQ) (P : PK) (k c d : Int32) : List Lnq → Int32
  | [] => d
  | l :: r => if l.1 = k ∧ hldP g P g l c = true then l.2.2.1 else fstL g P k c d r
noncomputable def nevL (g : TQ) (P : PK) (q : TQ) (c : Int32) : List Lnq → Bool
  | [] => false
  | l :: r => if l.1 = 6 ∧ hldP g P q l c = true then true else nevL g P q c r
noncomputable def absI (x : Int32) : Int32 := if x < 0 then -x else x
noncomputable def acrP (P : PK) (a b : Int32) : Int32 := absI ((a - a / P 0 * P 0) - (b - b / P 0 * P 0))
noncomputable def aloP (P : PK) (a b : Int32) : Int32 := absI (a / P 0 - b / P 0)
noncomputable def dstP (P : PK) (c goal : Int32) : Int32 := if aloP P c goal < acrP P c goal then 10 * acrP P c goal + 4 * aloP P c goal else 10 * aloP P c goal + 4 * acrP P c goal
noncomputable def besP (P : PK) (c d : Int32) : Int32 := besI (P 0) (P 1) c d
def grnP (P : PK) (c : Int32) : Prop := cE P 0 c = 0 ∨ cE P 0 c = 2
def opnP (P : PK) (c : Int32) : Prop := cE P 0 c ≠ 3 ∧ cE P 0 c ≠ 6
noncomputable def grnB (P : PK) (c : Int32) : Bool := decide (cE P 0 c = 0) || decide (cE P 0 c = 2)
noncomputable def opnB (P : PK) (c : Int32) : Bool := !decide (cE P 0 c = 3) && !decide (cE P 0 c = 6)
noncomputable def wrnB (g : TQ) (P : PK) (c : Int32) : Bool := decide (bdQ g ≤ cE P 3 c)
noncomputable def seeP (g : TQ) (P : PK) (d : Int32) : Nat → Int32 → Int32 → Int32
  | 0, _, n => n
  | k + 1, v, n => if v < 0 ∨ opnB P v = false then n else seeP g P d k (besP P v d) (n + (if wrnB g P v = true then 1 else 0))
/-- how many of the first k WALKERS are on a CELL -/
noncomputable def crdP (P : PK) (c : Int32) : Nat → Int32
  | 0 => 0
  | k + 1 => crdP P c k + (if P (158 + 6 * k) = c then 1 else 0)
/-- a walker: here, goal, way of the last step, where from; alone -/
abbrev WC : Type := Int32 × Int32 × Int32 × Int32 × Bool
noncomputable def meaQ (g : TQ) (P : PK) (q : TQ) (w : WC) (c d m : Int32) : Int32 :=
  if m = 0 then (if grnB P c = true ∧ ¬ bdQ g ≤ cE P 3 c then (bdQ g - cE P 3 c) / 10 else 0)
  else if m = 1 then cE P 4 c / 10
  else if m = 2 then absI (cE P 2 c - cE P 2 w.1)
  else if m = 3 then (if w.2.2.2.2 = true then 0 else crdP P c (P 157).toInt.toNat)
  else if m = 4 then (if 0 ≤ w.2.2.1 ∧ ¬ w.2.2.1 = d then 1 else 0)
  else if m = 5 then (if c = w.2.2.2.1 then 1 else 0)
  else seeP g P d (siQ q).toInt.toNat c 0
noncomputable def weiL (g : TQ) (P : PK) (q : TQ) (w : WC) (c d : Int32) : List Lnq → Int32 → Int32
  | [], v => v
  | l :: r, v => weiL g P q w c d r (if l.1 = 5 ∧ hldP g P q l c = true then (v + (if l.2.1 = 6 then -(l.2.2.1 * meaQ g P q w c d l.2.1) else l.2.2.1 * meaQ g P q w c d l.2.1)) else v)
noncomputable def weiP (g : TQ) (P : PK) (q : TQ) (w : WC) (c d : Int32) : Int32 := weiL g P q w c d q.2 (dstP P c w.2.1)
/-- the way to the goal, if it is beside: k ways left, d the next -/
noncomputable def toP (P : PK) (here goal : Int32) : Nat → Int32 → Int32
  | 0, _ => -1
  | k + 1, d => if besP P here d = goal then d else toP P here goal k (d + 1)
noncomputable def badB (g : TQ) (P : PK) (q : TQ) (c : Int32) : Bool := decide (c < 0) || (!opnB P c || nevL g P q c q.2)
noncomputable def bstP (g : TQ) (P : PK) (q : TQ) (w : WC) : Nat → Int32 → Int32 → Int32 → Int32
  | 0, _, b, _ => b
  | k + 1, d, b, le => if badB g P q (besP P w.1 d) = true ∨ (0 ≤ b ∧ le ≤ weiP g P q w (besP P w.1 d) d) then bstP g P q w k (d + 1) b le else bstP g P q w k (d + 1) d (weiP g P q w (besP P w.1 d) d)
noncomputable def choP (g : TQ) (P : PK) (q : TQ) (w : WC) : Int32 := if toP P w.1 w.2.1 8 0 < 0 then bstP g P q w 8 0 (-1) 0 else toP P w.1 w.2.1 8 0
/-- a step on a CELL; the second: on which CELLS steps came, the latest first -/
abbrev PS : Type := PK × List Int32
noncomputable def weaP (g : TQ) (P : PK) (c : Int32) : PK := if grnB P c = true then uPk P (cX 3 c) (if 999 < cE P 3 c + fstL g P 0 c 5 g.2 then 999 else cE P 3 c + fstL g P 0 c 5 g.2) else P
noncomputable def trdP (g : TQ) (P : PK) (c : Int32) : PK := uPk (uPk (weaP g P c) (cX 5 c) (cE (weaP g P c) 5 c + 1)) (cX 6 c) (cE (uPk (weaP g P c) (cX 5 c) (cE (weaP g P c) 5 c + 1)) 6 c + 1)
noncomputable def wxP (P : PK) (k : Nat) : Nat := 13 + 6 * (P (158 + 6 * k + 1)).toInt.toNat
noncomputable def golP (P : PK) (k : Nat) : Int32 := P (3 + (P (wxP P k + 1)).toInt.toNat)
noncomputable def wcP (P : PK) (k : Nat) : WC := (P (158 + 6 * k), golP P k, P (158 + 6 * k + 3), P (158 + 6 * k + 4), false)
noncomputable def hbP (P : PK) (k : Nat) : Nat := 1 + (P (wxP P k + 2)).toInt.toNat
/-- the texts: the LAW, and behind it the HABITS -/
abbrev TS : Type := Nat → TQ
noncomputable def dirP (T : TS) (P : PK) (k : Nat) : Int32 := choP (T 0) P (T (hbP P k)) (wcP P k)
noncomputable def movP (P : PK) (k : Nat) (d : Int32) : PK := uPk (uPk (uPk P (158 + 6 * k + 3) d) (158 + 6 * k + 4) (P (158 + 6 * k))) (158 + 6 * k) (besP P (P (158 + 6 * k)) d)
/-- the k-th WALKER's step; then whether it stays one -/
noncomputable def ageP (P : PK) (k : Nat) : PK := uPk P (158 + 6 * k + 2) (P (158 + 6 * k + 2) + 1)
noncomputable def stpP (T : TS) (p : PS) (k : Nat) : PS := if dirP T p.1 k < 0 then (ageP p.1 k, p.2) else (trdP (T 0) (movP (ageP p.1 k) k (dirP T p.1 k)) (besP p.1 (p.1 (158 + 6 * k)) (dirP T p.1 k)), besP p.1 (p.1 (158 + 6 * k)) (dirP T p.1 k) :: p.2)
noncomputable def goeP (T : TS) (p : PS) (k : Nat) : PS × Bool :=
  if (stpP T p k).1 (158 + 6 * k) = golP p.1 k then ((uPk (stpP T p k).1 519 ((stpP T p k).1 519 + 1), (stpP T p k).2), false)
  else if (stpP T p k).1 (158 + 6 * k + 2) < 200 then (stpP T p k, true)
  else ((uPk (stpP T p k).1 520 ((stpP T p k).1 520 + 1), (stpP T p k).2), false)
noncomputable def leaP (P : PK) (k : Nat) : PK := fun j =>
  if j = 157 then P 157 - 1
  else if 158 + 6 * k ≤ j ∧ j < 158 + 6 * (P 157 - 1).toInt.toNat then P (j + 6)
  else if 158 + 6 * (P 157 - 1).toInt.toNat ≤ j ∧ j < 158 + 6 * (P 157 - 1).toInt.toNat + 6 then 0 else P j
noncomputable def wlkP (T : TS) : Nat → Nat → PS → PS
  | 0, _, p => p
  | n + 1, k, p => if (goeP T p k).2 = true then wlkP T n (k + 1) (goeP T p k).1 else wlkP T n k (leaP (goeP T p k).1.1 k, (goeP T p k).1.2)
noncomputable def remI (x y : Int32) : Int32 := x - x / y * y
noncomputable def dueB (P : PK) (k : Nat) : Bool := !decide (P (13 + 6 * k + 5) = 0) && (!decide (P 518 < P (13 + 6 * k + 4)) && decide (remI (P 518 - P (13 + 6 * k + 4)) (P (13 + 6 * k + 3)) = 0))
noncomputable def newP (P : PK) (k : Nat) : PK :=
  uPk (uPk (uPk (uPk (uPk (uPk P (158 + 6 * (P 157).toInt.toNat) (P (3 + (P (13 + 6 * k)).toInt.toNat))) (158 + 6 * (P 157).toInt.toNat + 1) (nI k)) (158 + 6 * (P 157).toInt.toNat + 2) 0) (158 + 6 * (P 157).toInt.toNat + 3) (-1)) (158 + 6 * (P 157).toInt.toNat + 4) (-1)) 157 (P 157 + 1)
noncomputable def begP : Nat → Nat → PK → PK
  | 0, _, P => P
  | n + 1, k, P => if dueB P k = true then (if P 157 = 60 then begP n (k + 1) (uPk P 521 (P 521 + 1)) else begP n (k + 1) (newP P k)) else begP n (k + 1) P
noncomputable def bg0P (P : PK) : PK := begP (P 12).toInt.toNat 0 P
noncomputable def tckP (T : TS) (p : PS) : PS := (fun r : PS => ((uPk r.1 518 (r.1 518 + 1), r.2) : PS)) (wlkP T (bg0P p.1 157).toInt.toNat 0 (bg0P p.1, p.2))
noncomputable def tksP (T : TS) : Nat → PS → PS
  | 0, p => p
  | n + 1, p => tksP T n (tckP T p)
/-- a WEEK ends -/
noncomputable def clsP (P : PK) : Nat := (P 0).toInt.toNat * (P 1).toInt.toNat
noncomputable def max0 (x : Int32) : Int32 := if x < 0 then 0 else x
noncomputable def wk1P (g : TQ) (P : PK) (c : Int32) : PK := uPk (uPk P (cX 3 c) (max0 (cE P 3 c - fstL g P 1 c 10 g.2))) (cX 4 c) (max0 (cE P 4 c - dyQ g))
noncomputable def wkaP (g : TQ) : Nat → Int32 → PK → PK
  | 0, _, P => P
  | n + 1, c, P => wkaP g n (c + 1) (wk1P g P c)
noncomputable def zerP (f : Nat) : Nat → Int32 → PK → PK
  | 0, _, P => P
  | n + 1, c, P => zerP f n (c + 1) (uPk P (cX f c) 0)
noncomputable def wekP (g : TQ) (P : PK) : PK := zerP 5 (clsP P) 0 (wkaP g (clsP P) 0 P)
noncomputable def netP (g : TQ) (P : PK) : Nat → Int32 → Int32 → Int32
  | 0, _, n => n
  | k + 1, c, n => netP g P k (c + 1) (n + (if wrnB g P c = true then 1 else 0))
noncomputable def nwP (g : TQ) (P : PK) : Int32 := netP g P (clsP P) 0 0
noncomputable def wksP (T : TS) (t : Nat) (P : PK) : PK := wekP (T 0) (tksP T t (P, [])).1
