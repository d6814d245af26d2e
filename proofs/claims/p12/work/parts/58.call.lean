/-! THE CHECKER, 9: calls: contracts, the library's own, and what is walked in line -/
/-- types of arguments: an interval; 3 g a reference to group g; 3 a + 1 the cell a; 3 c + 2 a value of kind c (as in AV) -/
abbrev TA : Type := Iv ⊕ Nat
/-- a field: of a cell or of an argument; class, field, type -/
abbrev HT : Type := (Nat ⊕ Nat) × Nat × Nat × TA
/-- an element of a row: its cell, its place (sum of answer 0, arguments 1 .., fields behind, and a number), interval -/
abbrev EL : Type := Nat × List (Nat × Int) × Int × Iv
/-- one way to come back: answer, intervals of arguments, fields, flags, elements -/
abbrev FP : Type := Nat × List (List (Nat × Int) × Int)
abbrev CS : Type := Option TA × List (Nat × Iv) × List HT × List FP × List EL
/-- a contract: method, frames, arguments, fields and flags ahead, what may change, the ways to come back -/
abbrev CN : Type := Nat × Nat × List TA × List HT × List FP × Md × List CS
section CALL
variable (aT : List Nat) (gT : List CT) (gU : List (Option Nat)) (dep : Nat → Md) (FL : Nat → List Int → Mem → Prop)
def taOK (t : TA) (w : Value) : Prop := match t with
  | .inl (lo, hi) => ∃ x : Int32, w = .int x ∧ lo ≤ x.toInt ∧ x.toInt ≤ hi
  | .inr n => match n % 3 with
    | 0 => ∃ a, w = .ref a ∧ gNth aT a = some (n / 3)
    | 1 => w = .ref (n / 3)
    | _ => avOK [] [] (.inr (.inr (n / 3))) w
def kyOK (ws : List Value) (k : Nat ⊕ Nat) (a : Nat) : Prop := match k with
  | .inl b => a = b
  | .inr i => gNth ws i = some (.ref a)
def htOK (ws : List Value) (M : Mem) (h : HT) : Prop := ∃ a vs w, kyOK ws h.1 a ∧ gNth M a = some (.inr (h.2.1, vs)) ∧ gNth vs h.2.2.1 = some w ∧ taOK aT h.2.2.2 w
noncomputable def kyA (as : List AV) (k : Nat ⊕ Nat) : Option RS := match k with
  | .inl a => some (.inl a)
  | .inr i => match gNth as i with
    | some (.inr (.inl R)) => some R
    | _ => none
def rsOK (t : Option TA) (v : Option Value) : Prop := match t, v with
  | none, none => True
  | some t, some w => taOK aT t w
  | _, _ => False
noncomputable def sfV (vs : List Value) : List (Nat × Int) → Option Int
  | [] => some 0
  | (n, c) :: r => match gNth vs n, sfV vs r with
    | some (.int x), some y => some (c * x.toInt + y)
    | _, _ => none
def fldV (ws : List Value) (M : Mem) (h : HT) (w : Value) : Prop := ∃ a vs, kyOK ws h.1 a ∧ gNth M a = some (.inr (h.2.1, vs)) ∧ gNth vs h.2.2.1 = some w ∧ taOK aT h.2.2.2 w
def elOK (vs : List Value) (M : Mem) (e : EL) : Prop := ∃ (i : Nat) (y : Int) (t : Nat) (l : List Int32) (x : Int32), sfV vs e.2.1 = some y ∧ y + e.2.2.1 = (i : Int) ∧ gNth M e.1 = some (.inl (t, .inl l)) ∧ gNth l i = some x ∧ e.2.2.2.1 ≤ x.toInt ∧ x.toInt ≤ e.2.2.2.2
def flOK (vs : List Value) (M : Mem) (f : FP) : Prop := ∃ ys, Two (fun (p : List (Nat × Int) × Int) (y : Int) => ∃ z, sfV vs p.1 = some z ∧ y = z + p.2) f.2 ys ∧ FL f.1 ys M
def csOK (ws : List Value) (v : Option Value) (M : Mem) (s : CS) : Prop := rsOK aT s.1 v ∧ (∀ q ∈ s.2.1, ∃ x : Int32, gNth ws q.1 = some (.int x) ∧ q.2.1 ≤ x.toInt ∧ x.toInt ≤ q.2.2) ∧ ∃ hv, Two (fldV aT ws M) s.2.2.1 hv ∧ (∀ f ∈ s.2.2.2.1, flOK FL (v.getD .null :: (ws ++ hv)) M f) ∧ ∀ e ∈ s.2.2.2.2, elOK (v.getD .null :: (ws ++ hv)) M e
/-- of the method 205: what it does to the place 157 of the row 635 -/
def dlOK (id : Nat) (M M' : Mem) : Prop := id = 205 → ∀ (t : Nat) (l : List Int32) (x : Int32), gNth M 635 = some (.inl (t, .inl l)) → gNth l 157 = some x → ∃ (l' : List Int32) (x' : Int32), gNth M' 635 = some (.inl (t, .inl l')) ∧ gNth l' 157 = some x' ∧ x'.toInt = x.toInt - 1
def cnOK (c : CN) : Prop := ∀ (d : Nat) (M : Mem) (ws : List Value) (q : MR), c.2.1 ≤ d → gNth mRs c.1 = some q → Two (taOK aT) c.2.2.1 ws → (∃ hv, Two (fldV aT ws M) c.2.2.2.1 hv ∧ ∀ f ∈ c.2.2.2.2.1, flOK FL (.null :: (ws ++ hv)) M f) → TM aT gT M → ∃ v M', Ev none d c.1 0 (gPad q.2.2.2.1 (gArgs ws)) [] M v M' 0 0 ∧ TM aT gT M' ∧ Frm aT c.2.2.2.2.2.1 M M' ∧ ∃ s ∈ c.2.2.2.2.2.2, csOK aT FL ws v M' s ∧ dlOK c.1 M M'
/-- does a value fit an argument's type -/
noncomputable def taM (g : List Iv) (gr : List Nat) (fs : List Lin) (t : TA) (v : AV) : Bool := match t, v with
  | .inl (lo, hi), .inl L => inR g fs L lo hi
  | .inr n, .inr (.inl R) => match n % 3 with
    | 0 => match rsG aT gr R with
      | some g2 => Nat.beq g2 (n / 3)
      | none => false
    | 1 => rsEq R (.inl (n / 3))
    | _ => false
  | .inr n, .inr (.inr c) => match n % 3 with
    | 2 => Nat.beq c (n / 3)
    | _ => false
  | _, _ => false
noncomputable def taMs (g : List Iv) (gr : List Nat) (fs : List Lin) : List TA → List AV → Bool
  | [], [] => true
  | t :: ts, v :: vs => taM aT g gr fs t v && taMs g gr fs ts vs
  | _, _ => false
/-- a new value of a type -/
noncomputable def taN (t : TA) (g : List Iv) (gr : List Nat) (k : AV → List Iv → List Nat → Bool) : Bool := match t with
  | .inl p => k (.inl (liS g.length)) (g ++ [p]) gr
  | .inr n => match n % 3 with
    | 0 => nwR gU (n / 3) gr (fun R gr => k (.inr (.inl R)) g gr)
    | 1 => k (.inr (.inl (.inl (n / 3)))) g gr
    | _ => k (.inr (.inr (n / 3))) g gr
/-- fields that a contract wants -/
noncomputable def htA (as : List AV) (hs : List HT) (vs : List AV) (hp : List HE) (g : List Iv) (gr : List Nat) (fs : List Lin) (k : List AV → List HE → List Iv → List Nat → Bool) : Bool := match hs with
  | [] => k vs hp g gr
  | (a, ci, f, t) :: r => match kyA as a with
    | some R => rdF aT gT gU R ci f hp g gr (fun v hp g gr => cond (taM aT g gr fs t v) (htA as r (vs ++ [v]) hp g gr fs k) false)
    | none => false
/-- .. and gives -/
noncomputable def htN (as : List AV) (hs : List HT) (vs : List AV) (hp : List HE) (g : List Iv) (gr : List Nat) (k : List AV → List HE → List Iv → List Nat → Bool) : Bool := match hs with
  | [] => k vs hp g gr
  | (a, _, f, t) :: r => match kyA as a with
    | some R => taN gU t g gr (fun v g gr => htN as r (vs ++ [v]) ((R, .inl f, v) :: hp) g gr k)
    | none => false
noncomputable def sfA (vs : List AV) : List (Nat × Int) → Option Lin
  | [] => some ([], 0)
  | (n, c) :: r => match gNth vs n, sfA vs r with
    | some (.inl L), some M => some (liAdd (liMul c L) M)
    | _, _ => none
/-- elements become known -/
noncomputable def elN (vs : List AV) (es : List EL) (hp : List HE) (g : List Iv) (k : List HE → List Iv → Bool) : Bool := match es with
  | [] => k hp g
  | (a, q, c, p) :: r => match sfA vs q with
    | some L => fLin (liAdc L c) (fun L => elN vs r ((.inl a, .inr L, .inl (liS g.length)) :: hp) (g ++ [p]) k)
    | none => false
/-- arguments are narrowed -/
noncomputable def agN (as : List AV) (qs : List (Nat × Iv)) (g : List Iv) (fs : List Lin) (k : List Iv → List Lin → Bool) : Bool := match qs with
  | [] => k g fs
  | (i, p) :: r => match gNth as i with
    | some (.inl L) => addFs g fs [liAdc L (-p.1), liSub (liC p.2) L] (fun g fs => agN as r g fs k)
    | _ => false
def isZ (L : Lin) : Bool := match L with
  | ([], .ofNat 0) => true
  | _ => false
/-- an element that is known -/
noncomputable def hpE : List HE → Nat → Lin → Option AV
  | [], _, _ => none
  | (R, q, v) :: r, a, L => match q with
    | .inr L2 => cond (rsEq R (.inl a) && isZ (liSub L2 L)) (some v) (hpE r a L)
    | .inl _ => hpE r a L
noncomputable def elA (vs : List AV) (g : List Iv) (fs : List Lin) (hp : List HE) : List EL → Bool
  | [] => true
  | (a, q, c, p) :: r => (match sfA vs q with
    | some L => (match hpE hp a (liAdc L c) with
      | some (.inl V) => inR g fs V p.1 p.2
      | _ => false)
    | none => false) && elA vs g fs hp r
noncomputable def agA (as : List AV) (g : List Iv) (fs : List Lin) : List (Nat × Iv) → Bool
  | [] => true
  | (i, p) :: r => (match gNth as i with
    | some (.inl L) => inR g fs L p.1 p.2
    | _ => false) && agA as g fs r
noncomputable def hpC (gr : List Nat) (cm : Md) (hp : List HE) : List HE := hp.filter (fun e => match e.2.1 with
  | .inl f => !(cm.any (fun q => Nat.beq q.2 f && clsIs aT gT gr e.1 q.1))
  | .inr _ => !(cm.any (fun q => Nat.ble 1000 q.1 && grIs aT gr e.1 (q.1 - 1000))))
noncomputable def flC (cm : Md) (fl : List FG) : List FG := fl.filter (fun x => !(cm.any (fun q => mdIn (dep x.1) q.1 q.2)))
noncomputable def lsZ : List Lin → List Lin → Bool
  | [], [] => true
  | L :: Ls, M :: Ms => isZ (liSub L M) && lsZ Ls Ms
  | _, _ => false
/-- a flag that stands -/
noncomputable def fgM (fl : List FG) (f : FG) : Bool := fl.any (fun e => Nat.beq e.1 f.1 && lsZ e.2 f.2)
/-- flags that follow: a line below lineMany; someone walks -/
noncomputable def ghA (fl : List FG) (hp : List HE) (g : List Iv) (fs : List Lin) (f : FG) : Bool := cond (Nat.beq f.1 22) (match f.2 with
  | [X] => fgM fl (24, []) && hp.any (fun e => rsEq e.1 (.inl 639) && (match e.2.1, e.2.2 with
    | .inr T, .inl V => (nn g fs (liSub X (liMul 16 T)) && nn g fs (liAdc (liSub (liAdd (liMul 16 T) V) X) (-1))) && nn g fs (liSub (liC 6) T)
    | _, _ => false))
  | _ => false) (cond (Nat.beq f.1 26) (match f.2 with
  | [] => hp.any (fun e => rsEq e.1 (.inl 635) && (match e.2.1, e.2.2 with
    | .inr L, .inl V => zz g fs (liAdc L (-157)) && nn g fs (liAdc V (-1))
    | _, _ => false))
  | _ => false) false)
noncomputable def fgF (vs : List AV) : List (List (Nat × Int) × Int) → Option (List Lin)
  | [] => some []
  | (q, c) :: r => match sfA vs q, fgF vs r with
    | some L, some Ls => some (liAdc L c :: Ls)
    | _, _ => none
noncomputable def fgN (vs : List AV) : List FP → Option (List FG)
  | [] => some []
  | (x, ps) :: r => match fgF vs ps, fgN vs r with
    | some Ls, some F => some ((x, Ls) :: F)
    | _, _ => none
/-- two flags that can't both stand: x and x + 1, x even from 20 on -/
noncomputable def ctA (fl : List FG) : Bool := fl.any (fun e => Nat.ble 20 e.1 && (Nat.beq (e.1 % 2) 0 && fl.any (fun f => Nat.beq f.1 (e.1 + 1) && lsZ e.2 f.2)))
noncomputable def fFG {β : Type} (l : List FG) : (List FG → β) → β := List.rec (motive := fun _ => (List FG → β) → β) (fun k => k []) (fun f _ ih k => fLs f.2 (fun Ls => ih (fun r => k ((f.1, Ls) :: r)))) l
theorem fFG_eq {β : Type} (l : List FG) : ∀ k : List FG → β, fFG l k = k l := by
  induction l with
  | nil => intro k; rfl
  | cons f r ih =>
    intro k
    show fLs f.2 (fun Ls => fFG r (fun r => k ((f.1, Ls) :: r))) = _
    rw [fLs_eq, ih]
/-- flags and elements behind a call -/
noncomputable def fgE (src : List AV) (F : List FP) (es : List EL) (hp : List HE) (fl : List FG) (g : List Iv) (k : List HE → List FG → List Iv → Bool) : Bool := match fgN src F with
  | some G => fFG G (fun G => ctA (G ++ fl) || elN src es hp g (fun hp g => k hp (G ++ fl) g))
  | none => false
/-- a flag that tells a function's value, twice: two equal values -/
noncomputable def fnL (n0 : Nat) (K R : Lin) : List FG → List Lin
  | [] => []
  | (n, Ls) :: r => (match Ls with
    | [K2, R2] => cond (Nat.beq n n0 && isZ (liSub K K2)) [liSub R R2, liSub R2 R] []
    | _ => []) ++ fnL n0 K R r
noncomputable def fnA (fl : List FG) : List Lin := match fl with
  | (n, [K, R]) :: r => cond (Nat.beq n 62 || Nat.beq n 66) (fnL n K R r) []
  | _ => []
/-- one way to come back -/
noncomputable def csN (as rest : List AV) (hp : List HE) (fl : List FG) (g : List Iv) (gr : List Nat) (fs : List Lin) (k : List AV → List HE → List FG → List Iv → List Nat → List Lin → Bool) (s : CS) : Bool := agN as s.2.1 g fs (fun g fs => htN gU as s.2.2.1 [] hp g gr (fun vs hp g gr => match s.1 with
    | none => fgE (.inr (.inr 0) :: (as ++ vs)) s.2.2.2.1 s.2.2.2.2 hp fl g (fun hp fl g => k rest hp fl g gr (fnA fl ++ fs))
    | some t => taN gU t g gr (fun v g gr => fgE (v :: (as ++ vs)) s.2.2.2.1 s.2.2.2.2 hp fl g (fun hp fl g => k (v :: rest) hp fl g gr (fnA fl ++ fs)))))
noncomputable def dlN (id : Nat) (hp hp2 : List HE) : List HE := cond (Nat.beq id 205) (match hpE hp 635 (liC 157) with
  | some (.inl V) => (.inl 635, .inr (liC 157), .inl (liAdc V (-1))) :: hp2
  | _ => hp2) hp2
/-- a call by its contract -/
noncomputable def cnA (c : CN) (md : Md) (D : Nat) (as : List AV) (rest : List AV) (hp : List HE) (fl : List FG) (g : List Iv) (gr : List Nat) (fs : List Lin) (k : List AV → List HE → List FG → List Iv → List Nat → List Lin → Bool) : Bool :=
  (Nat.ble c.2.1 D && (taMs aT g gr fs c.2.2.1 as && mdSub c.2.2.2.2.2.1 md)) && htA aT gT gU as c.2.2.2.1 [] hp g gr fs (fun vs hp g gr => match fgN (.inr (.inr 0) :: (as ++ vs)) c.2.2.2.2.1 with
    | some F => F.all (fun f => fgM fl f || ghA fl hp g fs f) && gSp (dlN c.1 hp (hpC aT gT gr c.2.2.2.2.2.1 hp)) (fun hp => gSp (flC dep c.2.2.2.2.2.1 fl) (fun fl => c.2.2.2.2.2.2.all (csN gU as rest hp fl g gr fs k)))
    | none => false)
variable {aT gT gU dep FL}
theorem taM_V {ρ : List Int} {π gr : List Nat} {g : List Iv} {fs : List Lin} (hg : gOK ρ g) (hf : fOK ρ fs) (hp : prOK aT π gr) {t : TA} {v : AV} {w : Value} (h : taM aT g gr fs t v = true) (hv : avOK ρ π v w) : taOK aT t w := by
  unfold taM at h
  split at h
  · obtain ⟨x, rfl, hx⟩ := hv
    exact ⟨x, rfl, inR_V hg hf h hx⟩
  · rename_i n R
    obtain ⟨a, ha, rfl⟩ := hv
    unfold taOK
    dsimp only
    split at h
    · rename_i e
      split at h
      · rename_i g2 e2
        cases Nat.eq_of_beq_eq_true h
        obtain ⟨a2, ha2, hg2⟩ := rsG_V hp e2
        cases ha.symm.trans ha2
        exact ⟨a, rfl, hg2⟩
      · cases h
    · rename_i e
      cases rsEq_V h
      cases ha
      rfl
    · cases h
  · rename_i n c
    unfold taOK
    dsimp only
    split at h
    · rename_i e
      rw [e]
      cases Nat.eq_of_beq_eq_true h
      show avOK [] [] (.inr (.inr (n / 3))) w
      generalize n / 3 = c at *
      match c, hv with
      | 0, hv => exact hv
      | 1, hv => exact hv
      | 2, hv => exact hv
      | c + 3, hv => exact hv
    · cases h
  · cases h
theorem taMs_V {ρ : List Int} {π gr : List Nat} {g : List Iv} {fs : List Lin} (hg : gOK ρ g) (hf : fOK ρ fs) (hp : prOK aT π gr) : ∀ {ts : List TA} {vs : List AV} {ws : List Value}, taMs aT g gr fs ts vs = true → Two (avOK ρ π) vs ws → Two (taOK aT) ts ws
  | [], [], [], _, _ => trivial
  | t :: ts, v :: vs, w :: ws, h, h2 => by
    have h : (taM aT g gr fs t v && taMs aT g gr fs ts vs) = true := h
    rw [Bool.and_eq_true] at h
    exact ⟨taM_V hg hf hp h.1 h2.1, taMs_V hg hf hp h.2 h2.2⟩
  | [], _ :: _, _, h, _ => by cases h
  | _ :: _, [], _, h, _ => by cases h
  | [], [], _ :: _, _, h2 => h2.elim
  | _ :: _, _ :: _, [], _, h2 => h2.elim
theorem taN_V (hU : uOK aT gU) {ρ : List Int} {π gr : List Nat} {g : List Iv} (hg : gOK ρ g) (hp : prOK aT π gr) {t : TA} {w : Value} (ht : taOK aT t w) {k : AV → List Iv → List Nat → Bool} (h : taN gU t g gr k = true) : ∃ v g' gr' ρ' π', Pre ρ ρ' ∧ Pre π π' ∧ gOK ρ' g' ∧ prOK aT π' gr' ∧ avOK ρ' π' v w ∧ k v g' gr' = true := by
  unfold taN at h
  split at h
  · rename_i p
    obtain ⟨x, rfl, h1, h2⟩ := ht
    exact ⟨_, _, _, ρ ++ [x.toInt], π, Pre.one _ _, Pre.refl _, hg.push h1 h2, hp, av_i (push_S hg _), h⟩
  · rename_i n
    unfold taOK at ht
    dsimp only at ht
    split at h
    · rename_i e
      rw [e] at ht
      obtain ⟨a, rfl, ha⟩ := ht
      obtain ⟨R, gr', π', p1, p2, p3, h⟩ := nwR_V hU hp ha h
      exact ⟨_, _, _, ρ, π', Pre.refl _, p1, hg, p2, av_r p3, h⟩
    · rename_i e
      rw [e] at ht
      exact ⟨_, _, _, ρ, π, Pre.refl _, Pre.refl _, hg, hp, by rw [ht]; exact av_r (R := .inl (n / 3)) rfl, h⟩
    · rename_i e0 e1
      have e2 : n % 3 = 2 := by
        have := Nat.mod_lt n (show 0 < 3 by decide)
        have h0 : n % 3 ≠ 0 := e0
        have h1 : n % 3 ≠ 1 := e1
        omega
      rw [e2] at ht
      have ht : avOK [] [] (.inr (.inr (n / 3))) w := ht
      exact ⟨_, _, _, ρ, π, Pre.refl _, Pre.refl _, hg, hp, ht.mono ⟨ρ, rfl⟩ ⟨π, rfl⟩, h⟩
variable {ρ : List Int} {π : List Nat} {hp : List HE} {fl : List FG} {g : List Iv} {gr : List Nat} {fs : List Lin} {M M' : Mem}
theorem lsZ_V {ρ : List Int} : ∀ (Ls Ms : List Lin) {xs ys : List Int}, lsZ Ls Ms = true → Two (fun L v => liV ρ L = some v) Ls xs → Two (fun L v => liV ρ L = some v) Ms ys → xs = ys := by
  intro Ls
  induction Ls with
  | nil =>
    intro Ms xs ys h h1 h2
    cases Ms with
    | cons _ _ => cases h
    | nil =>
      cases xs with
      | cons _ _ => exact h1.elim
      | nil =>
        cases ys with
        | cons _ _ => exact h2.elim
        | nil => rfl
  | cons L Ls ih =>
    intro Ms xs ys h h1 h2
    cases Ms with
    | nil => cases h
    | cons M Ms =>
      obtain ⟨h3, h4⟩ := and_t h
      cases xs with
      | nil => exact h1.elim
      | cons x xs =>
        cases ys with
        | nil => exact h2.elim
        | cons y ys =>
          have e := ih Ms h4 h1.2 h2.2
          subst e
          have hz := liSub_V (ρ := ρ) h1.1 h2.1
          have : x - y = 0 := by
            unfold isZ at h3
            split at h3
            · rename_i e2
              rw [e2] at hz
              have e3 : liV ρ ([], Int.ofNat 0) = some 0 := rfl
              rw [e3] at hz
              exact (Option.some.inj hz).symm
            · cases h3
          have e4 : x = y := by omega
          rw [e4]
theorem fgM_V {ρ : List Int} {M : Mem} {fl : List FG} (hfl : ∀ x ∈ fl, fgOK FL ρ M x) {f : FG} {ys : List Int} (h : fgM fl f = true) (hy : Two (fun L v => liV ρ L = some v) f.2 ys) : FL f.1 ys M := by
  obtain ⟨e, he, h2⟩ := List.any_eq_true.mp h
  obtain ⟨h3, h4⟩ := and_t h2
  obtain ⟨xs, i1, i2⟩ := hfl e he
  rw [lsZ_V _ _ h4 i1 hy, Nat.eq_of_beq_eq_true h3] at i2
  exact i2
def cfOK (FL : Nat → List Int → Mem → Prop) : Prop := (∀ x vs M, 20 ≤ x → x % 2 = 0 → FL x vs M → FL (x + 1) vs M → False) ∧ (∀ M t l (i : Nat) (v : Int32) (x : Int), FL 24 [] M → gNth M 639 = some (.inl (t, .inl l)) → gNth l i = some v → i ≤ 6 → 16 * (i : Int) ≤ x → x < 16 * (i : Int) + v.toInt → FL 22 [x] M) ∧ (∀ M t l (v : Int32), gNth M 635 = some (.inl (t, .inl l)) → gNth l 157 = some v → 1 ≤ v.toInt → FL 26 [] M) ∧ ∀ x M k r r2, x = 62 ∨ x = 66 → FL x [k, r] M → FL x [k, r2] M → r = r2
theorem ctA_V (hct : cfOK FL) {ρ : List Int} {M : Mem} {fl : List FG} (hfl : ∀ x ∈ fl, fgOK FL ρ M x) (h : ctA fl = true) : False := by
  obtain ⟨e, he, h2⟩ := List.any_eq_true.mp h
  obtain ⟨h3, h4⟩ := and_t h2
  obtain ⟨h4, h5⟩ := and_t h4
  obtain ⟨f, hf, h6⟩ := List.any_eq_true.mp h5
  obtain ⟨h7, h8⟩ := and_t h6
  obtain ⟨xs, i1, i2⟩ := hfl e he
  obtain ⟨ys, j1, j2⟩ := hfl f hf
  rw [← lsZ_V _ _ h8 i1 j1, Nat.eq_of_beq_eq_true h7] at j2
  exact hct.1 e.1 xs M (Nat.le_of_ble_eq_true h3) (Nat.eq_of_beq_eq_true h4) i2 j2
theorem ghA_V (hct : cfOK FL) (hW : Wd aT gT FL ρ π hp fl g gr fs M) {f : FG} {ys : List Int} (h : ghA fl hp g fs f = true) (hy : Two (fun L v => liV ρ L = some v) f.2 ys) : FL f.1 ys M := by
  obtain ⟨n, Ls⟩ := f
  unfold ghA at h
  dsimp only at h hy ⊢
  cases h1 : Nat.beq n 22 with
  | true =>
    rw [h1] at h
    cases Nat.eq_of_beq_eq_true h1
    rcases Ls with _ | ⟨X, _ | ⟨X2, Ls⟩⟩
    · cases h
    · obtain ⟨h2, h3⟩ := and_t h
      rcases ys with _ | ⟨x, _ | ⟨x2, ys⟩⟩
      · exact hy.elim
      · obtain ⟨hy, _⟩ := hy
        have h24 := fgM_V (f := (24, [])) (ys := []) hW.2.1 h2 trivial
        obtain ⟨e, he, h3⟩ := List.any_eq_true.mp h3
        obtain ⟨h4, h5⟩ := and_t h3
        have e1 := rsEq_V h4
        obtain ⟨R, q, v⟩ := e
        cases e1
        obtain ⟨a, ha, h6⟩ := hW.1 _ he
        cases ha
        rcases q with q | T
        · cases h5
        · rcases v with V | v
          · obtain ⟨h7, h8⟩ := and_t h5
            obtain ⟨h9, h10⟩ := and_t h7
            obtain ⟨t, l, j, y, q1, q2, q3, q4⟩ := h6
            obtain ⟨y2, q5, q6⟩ := q4
            cases q5
            have k1 := nn_V hW.2.2.1 hW.2.2.2.2.1 h9 (liSub_V hy (liMul_V 16 q2))
            have k2 := nn_V hW.2.2.1 hW.2.2.2.2.1 h10 (liAdc_V (-1) (liSub_V (liAdd_V (liMul_V 16 q2) q6) hy))
            have k3 := nn_V hW.2.2.1 hW.2.2.2.2.1 h8 (liSub_V (liC_V 6) q2)
            exact hct.2.1 M t l j y x h24 q1 q3 (by omega) (by omega) (by omega)
          · cases h5
      · exact hy.2.elim
    · cases h
  | false =>
    rw [h1] at h
    cases h2 : Nat.beq n 26 with
    | true =>
      rw [h2] at h
      cases Nat.eq_of_beq_eq_true h2
      rcases Ls with _ | ⟨X, Ls⟩
      · rcases ys with _ | ⟨x, ys⟩
        · have h : hp.any (fun e => rsEq e.1 (.inl 635) && (match e.2.1, e.2.2 with
            | .inr L, .inl V => zz g fs (liAdc L (-157)) && nn g fs (liAdc V (-1))
            | _, _ => false)) = true := h
          obtain ⟨e, he, h3⟩ := List.any_eq_true.mp h
          obtain ⟨h4, h5⟩ := and_t h3
          have e1 := rsEq_V h4
          obtain ⟨R, q, v⟩ := e
          cases e1
          obtain ⟨a, ha, h6⟩ := hW.1 _ he
          cases ha
          rcases q with q | T
          · cases h5
          · rcases v with V | v
            · obtain ⟨h7, h8⟩ := and_t h5
              obtain ⟨t, l, j, y, q1, q2, q3, q4⟩ := h6
              obtain ⟨y2, q5, q6⟩ := q4
              cases q5
              have k1 := zz_V hW.2.2.1 hW.2.2.2.2.1 h7 (liAdc_V (-157) q2)
              have k2 := nn_V hW.2.2.1 hW.2.2.2.2.1 h8 (liAdc_V (-1) q6)
              have : j = 157 := by omega
              rw [this] at q3
              exact hct.2.2.1 M t l y q1 q3 (by omega)
            · cases h5
        · exact hy.elim
      · cases h
    | false =>
      rw [h2] at h
      cases h
theorem Wd.ints {ρ' : List Int} {g' : List Iv} (hW : Wd aT gT FL ρ π hp fl g gr fs M) (h : Pre ρ ρ') (hg : gOK ρ' g') : Wd aT gT FL ρ' π hp fl g' gr fs M :=
  ⟨fun e he => (hW.1 e he).mono h (Pre.refl _), fun x hx => (hW.2.1 x hx).mono h, hg, hW.2.2.2.1, h.fOK hW.2.2.2.2.1, hW.2.2.2.2.2⟩
theorem Two.one {α β : Type} {P : α → β → Prop} {a : α} {b : β} (h : P a b) : Two P [a] [b] := Two.mk h trivial
theorem kyA_V {as : List AV} {ws : List Value} {ρ : List Int} {π : List Nat} (ha : Two (avOK ρ π) as ws) {k : Nat ⊕ Nat} {R : RS} (h : kyA as k = some R) {a : Nat} (hR : rsV π R = some a) : kyOK ws k a := by
  rcases k with b | i
  · cases h
    cases hR
    rfl
  · unfold kyA at h
    dsimp only at h
    split at h
    · rename_i R2 e
      cases h
      obtain ⟨w, hw, b, hb, rfl⟩ := ha.at e
      cases hR.symm.trans hb
      exact hw
    · cases h
theorem kyA_W {as : List AV} {ws : List Value} {ρ : List Int} {π : List Nat} (ha : Two (avOK ρ π) as ws) {k : Nat ⊕ Nat} {R : RS} (h : kyA as k = some R) {a : Nat} (hk : kyOK ws k a) : rsV π R = some a := by
  rcases k with b | i
  · cases h
    cases hk
    rfl
  · unfold kyA at h
    dsimp only at h
    split at h
    · rename_i R2 e
      cases h
      obtain ⟨w, hw, b, hb, rfl⟩ := ha.at e
      have hk : gNth ws i = some (.ref a) := hk
      cases hk.symm.trans hw
      exact hb
    · cases h
theorem htA_V (hU : uOK aT gU) {as : List AV} {ws : List Value} : ∀ (hs : List HT) {ρ : List Int} {π : List Nat} {hp : List HE} {g : List Iv} {gr : List Nat} {vs : List AV} {hv : List Value}, Two (avOK ρ π) as ws → Two (avOK ρ π) vs hv → Wd aT gT FL ρ π hp fl g gr fs M → ∀ {k : List AV → List HE → List Iv → List Nat → Bool}, htA aT gT gU as hs vs hp g gr fs k = true → ∃ hv2 vs' hp' g' gr' ρ' π', Two (fldV aT ws M) hs hv2 ∧ Pre ρ ρ' ∧ Pre π π' ∧ Two (avOK ρ' π') vs' (hv ++ hv2) ∧ Wd aT gT FL ρ' π' hp' fl g' gr' fs M ∧ k vs' hp' g' gr' = true := by
  intro hs
  induction hs with
  | nil => intro ρ π hp g gr vs hv ha hv9 hW k h; exact ⟨[], vs, hp, g, gr, ρ, π, trivial, Pre.refl _, Pre.refl _, by rw [List.append_nil]; exact hv9, hW, h⟩
  | cons q r ih =>
    intro ρ π hp g gr vs hv ha hv9 hW k h
    obtain ⟨a, ci, f, t⟩ := q
    unfold htA at h
    split at h
    · rename_i R eR
      obtain ⟨a2, vs2, w, v, hp', g', gr', ρ', π', q1, q2, q3, q4, q5, q6, q7, h⟩ := rdF_V hU hW h
      have hq9 := cond_t (α := Nat) h
      clear h
      obtain ⟨h1, h⟩ := hq9
      obtain ⟨hv2, vs', hp2, g2, gr2, ρ2, π2, j0, j1, j2, j3, j4, j5⟩ := ih (Two.mono (fun _ _ q => avOK.mono q4 q5 q) ha) ((Two.mono (fun _ _ q => avOK.mono q4 q5 q) hv9).app (Two.one q6)) q7 h
      rw [List.append_assoc] at j3
      exact ⟨w :: hv2, vs', hp2, g2, gr2, ρ2, π2, Two.mk ⟨a2, vs2, kyA_V ha eR q1, q2, q3, taM_V q7.2.2.1 q7.2.2.2.2.1 q7.2.2.2.1 h1 q6⟩ j0, q4.trans j1, q5.trans j2, j3, j4, j5⟩
    · cases h
theorem htN_V (hU : uOK aT gU) {as : List AV} {ws : List Value} : ∀ (hs : List HT) {ρ : List Int} {π : List Nat} {hp : List HE} {g : List Iv} {gr : List Nat} {vs : List AV} {hv hv2 : List Value}, Two (avOK ρ π) as ws → Two (avOK ρ π) vs hv → Wd aT gT FL ρ π hp fl g gr fs M → Two (fldV aT ws M) hs hv2 → ∀ {k : List AV → List HE → List Iv → List Nat → Bool}, htN gU as hs vs hp g gr k = true → ∃ vs' hp' g' gr' ρ' π', Pre ρ ρ' ∧ Pre π π' ∧ Two (avOK ρ' π') vs' (hv ++ hv2) ∧ Wd aT gT FL ρ' π' hp' fl g' gr' fs M ∧ k vs' hp' g' gr' = true := by
  intro hs
  induction hs with
  | nil =>
    intro ρ π hp g gr vs hv hv2 ha hv9 hW hh k h
    cases hv2 with
    | cons _ _ => exact hh.elim
    | nil => exact ⟨vs, hp, g, gr, ρ, π, Pre.refl _, Pre.refl _, by rw [List.append_nil]; exact hv9, hW, h⟩
  | cons q r ih =>
    intro ρ π hp g gr vs hv hv2 ha hv9 hW hh k h
    cases hv2 with
    | nil => exact hh.elim
    | cons w hv2 =>
      obtain ⟨⟨a2, vs2, q0, q1, q2, q3⟩, hh⟩ := hh
      obtain ⟨a, ci, f, t⟩ := q
      unfold htN at h
      split at h
      · rename_i R eR
        obtain ⟨v, g', gr', ρ', π', p1, p2, p3, p4, p5, h⟩ := taN_V hU hW.2.2.1 hW.2.2.2.1 q3 h
        have hW2 : Wd aT gT FL ρ' π' ((R, .inl f, v) :: hp) fl g' gr' fs M := ((hW.ints p1 p3).refs p2 p4).know (he_f (rsV.mono p2 (kyA_W ha eR q0)) q1 q2 p5)
        obtain ⟨vs', hp2, g2, gr2, ρ2, π2, j1, j2, j3, j4, j5⟩ := ih (Two.mono (fun _ _ q => avOK.mono p1 p2 q) ha) ((Two.mono (fun _ _ q => avOK.mono p1 p2 q) hv9).app (Two.one p5)) hW2 hh h
        rw [List.append_assoc] at j3
        exact ⟨vs', hp2, g2, gr2, ρ2, π2, p1.trans j1, p2.trans j2, j3, j4, j5⟩
      · cases h
theorem sfA_V {vs : List AV} {ws : List Value} {ρ : List Int} {π : List Nat} (h : Two (avOK ρ π) vs ws) : ∀ (q : List (Nat × Int)) {L : Lin}, sfA vs q = some L → ∃ y, liV ρ L = some y ∧ sfV ws q = some y := by
  intro q
  induction q with
  | nil => intro L hL; cases hL; exact ⟨0, rfl, rfl⟩
  | cons p r ih =>
    intro L hL
    obtain ⟨n, c⟩ := p
    unfold sfA at hL
    split at hL
    · rename_i L1 M1 e1 e2
      cases hL
      obtain ⟨y, i1, i2⟩ := ih e2
      obtain ⟨w, hw, x, rfl, hx⟩ := h.at e1
      refine ⟨c * x.toInt + y, liAdd_V (liMul_V c hx) i1, ?_⟩
      unfold sfV
      rw [hw, i2]
    · cases hL
theorem elN_V {vs : List AV} {ws : List Value} : ∀ (es : List EL) {ρ : List Int} {hp : List HE} {g : List Iv}, Two (avOK ρ π) vs ws → Wd aT gT FL ρ π hp fl g gr fs M → (∀ e ∈ es, elOK ws M e) → ∀ {k : List HE → List Iv → Bool}, elN vs es hp g k = true → ∃ hp' g' ρ', Pre ρ ρ' ∧ Wd aT gT FL ρ' π hp' fl g' gr fs M ∧ k hp' g' = true := by
  intro es
  induction es with
  | nil => intro ρ hp g hv hW _ k h; exact ⟨hp, g, ρ, Pre.refl _, hW, h⟩
  | cons e r ih =>
    intro ρ hp g hv hW he k h
    obtain ⟨i, y, t, l, x, i1, i2, i3, i4, i5, i6⟩ := he e List.mem_cons_self
    obtain ⟨a, q, c, p⟩ := e
    unfold elN at h
    split at h
    · rename_i L eL
      rw [fLin_eq] at h
      obtain ⟨y2, j1, j2⟩ := sfA_V hv q eL
      have i1 : sfV ws q = some y := i1
      cases i1.symm.trans j2
      have hW2 := (hW.push (x := x.toInt) (lo := p.1) (hi := p.2) i5 i6).know (he_a (R := .inl a) rfl i3 ((Pre.one ρ x.toInt).liV (by rw [liAdc_V c j1]; exact congrArg some i2)) i4 (av_i (push_S hW.2.2.1 x.toInt)))
      obtain ⟨hp', g', ρ', k1, k2, k3⟩ := ih (st_mono (Pre.one _ _) hv) hW2 (fun e he2 => he e (List.mem_cons_of_mem _ he2)) h
      exact ⟨hp', g', ρ', (Pre.one _ _).trans k1, k2, k3⟩
    · cases h
theorem agN_V {as : List AV} {ws : List Value} : ∀ (qs : List (Nat × Iv)) {g : List Iv} {fs : List Lin}, gOK ρ g → fOK ρ fs → Two (avOK ρ π) as ws → (∀ q ∈ qs, ∃ x : Int32, gNth ws q.1 = some (.int x) ∧ q.2.1 ≤ x.toInt ∧ x.toInt ≤ q.2.2) → ∀ {k : List Iv → List Lin → Bool}, agN as qs g fs k = true → ∃ g' fs', gOK ρ g' ∧ fOK ρ fs' ∧ k g' fs' = true := by
  intro qs
  induction qs with
  | nil => intro g fs hg hf _ _ k h; exact ⟨g, fs, hg, hf, h⟩
  | cons q r ih =>
    intro g fs hg hf ha hq k h
    obtain ⟨x, q1, q2, q3⟩ := hq q List.mem_cons_self
    obtain ⟨i, p⟩ := q
    unfold agN at h
    split at h
    · rename_i L e
      obtain ⟨w, hw, y, rfl, hy⟩ := ha.at e
      have q1 : gNth ws i = some (.int x) := q1
      cases hw.symm.trans q1
      have q2 : p.1 ≤ x.toInt := q2
      have q3 : x.toInt ≤ p.2 := q3
      obtain ⟨g', fs', hg', hf', h⟩ := addFs_V _ hg hf (two_V (liAdc_V (-p.1) hy) (by omega) (liSub_V (liC_V p.2) hy) (by omega)) h
      exact ih hg' hf' ha (fun q hm => hq q (List.mem_cons_of_mem _ hm)) h
    · cases h
theorem isZ_V {L : Lin} {x : Int} (h : isZ L = true) (hx : liV ρ L = some x) : x = 0 := by
  unfold isZ at h
  split at h
  · have : liV ρ ([], Int.ofNat 0) = some 0 := rfl
    rw [this] at hx
    exact (Option.some.inj hx).symm
  · cases h
theorem hpE_V : ∀ {hp : List HE} {a : Nat} {L : Lin} {v : AV}, hpE hp a L = some v → ∃ L2, ((.inl a, .inr L2, v) : HE) ∈ hp ∧ isZ (liSub L2 L) = true
  | [], _, _, _, h => by cases h
  | (R, .inl f, v1) :: r, a, L, v, h => by
    have h : hpE r a L = some v := h
    obtain ⟨L2, h1, h2⟩ := hpE_V h
    exact ⟨L2, List.mem_cons_of_mem _ h1, h2⟩
  | (R, .inr L1, v1) :: r, a, L, v, h => by
    have h : cond (rsEq R (.inl a) && isZ (liSub L1 L)) (some v1) (hpE r a L) = some v := h
    cases hb : rsEq R (.inl a) && isZ (liSub L1 L) with
    | true =>
      rw [hb] at h
      cases h
      obtain ⟨h1, h2⟩ := and_t hb
      cases rsEq_V h1
      exact ⟨L1, List.mem_cons_self, h2⟩
    | false =>
      rw [hb] at h
      obtain ⟨L2, h1, h2⟩ := hpE_V h
      exact ⟨L2, List.mem_cons_of_mem _ h1, h2⟩
theorem elA_V {vs : List AV} {ws : List Value} (hv : Two (avOK ρ π) vs ws) (hW : Wd aT gT FL ρ π hp fl g gr fs M) : ∀ (es : List EL), elA vs g fs hp es = true → ∀ e ∈ es, elOK ws M e := by
  intro es
  induction es with
  | nil => intro _ e he; cases he
  | cons e r ih =>
    intro h e2 he
    obtain ⟨h1, h2⟩ := and_t h
    rcases List.mem_cons.mp he with rfl | he
    · obtain ⟨a, q, c, p⟩ := e2
      dsimp only at h1
      split at h1
      · rename_i L eL
        split at h1
        · rename_i V eV
          obtain ⟨L2, m1, m2⟩ := hpE_V eV
          obtain ⟨a2, ha2, t, l, i, x, k1, k2, k3, k4⟩ := hW.1 _ m1
          cases ha2
          obtain ⟨z, hz, hz2⟩ := k4
          cases hz
          obtain ⟨y, j1, j2⟩ := sfA_V hv q eL
          have hd := isZ_V m2 (liSub_V k2 (liAdc_V c j1))
          have hb := inR_V hW.2.2.1 hW.2.2.2.2.1 h1 hz2
          exact ⟨i, y, t, l, x, j2, (show y + c = (i : Int) by omega), k1, k3, hb.1, hb.2⟩
        · cases h1
      · cases h1
    · exact ih h2 e2 he
theorem agA_V {as : List AV} {ws : List Value} (hg : gOK ρ g) (hf : fOK ρ fs) (ha : Two (avOK ρ π) as ws) : ∀ (qs : List (Nat × Iv)), agA as g fs qs = true → ∀ q ∈ qs, ∃ x : Int32, gNth ws q.1 = some (.int x) ∧ q.2.1 ≤ x.toInt ∧ x.toInt ≤ q.2.2 := by
  intro qs
  induction qs with
  | nil => intro _ q hq; cases hq
  | cons q r ih =>
    intro h q2 hq
    obtain ⟨h1, h2⟩ := and_t h
    rcases List.mem_cons.mp hq with rfl | hq
    · obtain ⟨i, p⟩ := q2
      dsimp only at h1
      split at h1
      · rename_i L e
        obtain ⟨w, hw, y, rfl, hy⟩ := ha.at e
        have hb := inR_V hg hf h1 hy
        exact ⟨y, hw, hb.1, hb.2⟩
      · cases h1
    · exact ih h2 q2 hq
theorem Wd.frm (hd : depOK aT dep FL) {cm : Md} (hW : Wd aT gT FL ρ π hp fl g gr fs M) (hT : TM aT gT M') (hF : Frm aT cm M M') : Wd aT gT FL ρ π (hpC aT gT gr cm hp) (flC dep cm fl) g gr fs M' := by
  refine ⟨fun e he => ?_, fun x hx => ?_, hW.2.2.1, hW.2.2.2.1, hW.2.2.2.2.1, hT⟩
  · obtain ⟨h1, h2⟩ := List.mem_filter.mp he
    obtain ⟨R, q, v⟩ := e
    obtain ⟨a, ha, h3⟩ := hW.1 _ h1
    refine ⟨a, ha, ?_⟩
    rcases q with f | L
    · obtain ⟨c, vs, w, q1, q2, q3⟩ := h3
      obtain ⟨vs', e1, -, e2⟩ := hF.2.1 a c vs q1
      have q2 : gNth vs f = some w := q2
      refine ⟨c, vs', w, e1, ?_, q3⟩
      show gNth vs' f = some w
      rw [e2 f, q2]
      intro hm
      have h2 : (!(cm.any (fun q => Nat.beq q.2 f && clsIs aT gT gr R q.1))) = true := h2
      have h4 : cm.any (fun q => Nat.beq q.2 f && clsIs aT gT gr R q.1) = true := by
        refine List.any_eq_true.mpr ⟨_, hm, ?_⟩
        rw [Bool.and_eq_true]
        refine ⟨Nat.beq_refl _, ?_⟩
        unfold clsIs
        split
        · rename_i g2 e5
          obtain ⟨a3, ha3, hg3⟩ := rsG_V hW.2.2.2.1 e5
          cases ha3.symm.trans ha
          split
          · rename_i c2 fts e6
            obtain ⟨e7, he7, vs7, e8, -, -⟩ := hW.2.2.2.2.2.at hg3 e6
            subst e8
            cases he7.symm.trans q1
            exact Nat.beq_refl _
          · rfl
        · rfl
      rw [h4] at h2
      cases h2
    · obtain ⟨t, l, i, x, q1, q2⟩ := h3
      obtain ⟨x', e1, e2⟩ := hF.2.2 a t _ q1
      have : x' = .inl l := by
        refine e2 (fun g2 hg2 hm => ?_)
        have h2 : (!(cm.any (fun q => Nat.ble 1000 q.1 && grIs aT gr R (q.1 - 1000)))) = true := h2
        have h4 : cm.any (fun q => Nat.ble 1000 q.1 && grIs aT gr R (q.1 - 1000)) = true := by
          refine List.any_eq_true.mpr ⟨_, hm, ?_⟩
          rw [Bool.and_eq_true]
          refine ⟨Nat.ble_eq_true_of_le (Nat.le_add_right _ _), ?_⟩
          unfold grIs
          split
          · rename_i g3 e5
            obtain ⟨a3, ha3, hg3⟩ := rsG_V hW.2.2.2.1 e5
            cases ha3.symm.trans ha
            cases hg3.symm.trans hg2
            show Nat.beq g2 (1000 + g2 - 1000) = true
            rw [Nat.add_sub_cancel_left]
            exact Nat.beq_refl _
          · rfl
        rw [h4] at h2
        cases h2
      subst this
      exact ⟨t, l, i, x, e1, q2⟩
  · obtain ⟨h1, h2⟩ := List.mem_filter.mp hx
    obtain ⟨vs, i1, i2⟩ := hW.2.1 x h1
    refine ⟨vs, i1, hd.1 x.1 vs cm M M' hF (fun q hq hm => ?_) i2⟩
    have h4 : cm.any (fun q => mdIn (dep x.1) q.1 q.2) = true := List.any_eq_true.mpr ⟨q, hq, mdIn_iff.mpr hm⟩
    rw [h4] at h2
    cases h2
theorem fgF_V {vs : List AV} {ws : List Value} {ρ : List Int} {π : List Nat} (h : Two (avOK ρ π) vs ws) : ∀ (ps : List (List (Nat × Int) × Int)) {Ls : List Lin}, fgF vs ps = some Ls → ∃ ys, Two (fun (p : List (Nat × Int) × Int) (y : Int) => ∃ z, sfV ws p.1 = some z ∧ y = z + p.2) ps ys ∧ Two (fun L v => liV ρ L = some v) Ls ys := by
  intro ps
  induction ps with
  | nil => intro Ls hL; cases hL; exact ⟨[], trivial, trivial⟩
  | cons p r ih =>
    intro Ls hL
    obtain ⟨q, c⟩ := p
    unfold fgF at hL
    split at hL
    · rename_i L Ms e1 e2
      cases hL
      obtain ⟨ys, i1, i2⟩ := ih e2
      obtain ⟨y, j1, j2⟩ := sfA_V h q e1
      exact ⟨(y + c) :: ys, Two.mk ⟨y, j2, rfl⟩ i1, Two.mk (liAdc_V c j1) i2⟩
    · cases hL
/-- the forms of flags, where what is told of the values holds -/
theorem two_det {vs : List Value} : ∀ (ps : List (List (Nat × Int) × Int)) {xs ys : List Int}, Two (fun (p : List (Nat × Int) × Int) (y : Int) => ∃ z, sfV vs p.1 = some z ∧ y = z + p.2) ps xs → Two (fun (p : List (Nat × Int) × Int) (y : Int) => ∃ z, sfV vs p.1 = some z ∧ y = z + p.2) ps ys → xs = ys := by
  intro ps
  induction ps with
  | nil =>
    intro xs ys h1 h2
    cases xs with
    | cons _ _ => exact h1.elim
    | nil =>
      cases ys with
      | cons _ _ => exact h2.elim
      | nil => rfl
  | cons p ps ih =>
    intro xs ys h1 h2
    cases xs with
    | nil => exact h1.elim
    | cons x xs =>
      cases ys with
      | nil => exact h2.elim
      | cons y ys =>
        obtain ⟨⟨z, e1, rfl⟩, h1⟩ := h1
        obtain ⟨⟨z2, e2, rfl⟩, h2⟩ := h2
        cases e1.symm.trans e2
        rw [ih h1 h2]
theorem fgN_V {vs : List AV} {ws : List Value} (h : Two (avOK ρ π) vs ws) : ∀ (F : List FP) {G : List FG}, fgN vs F = some G → (∀ f ∈ F, flOK FL ws M f) → ∀ x ∈ G, fgOK FL ρ M x := by
  intro F
  induction F with
  | nil => intro G hG _ x hx; cases hG; cases hx
  | cons f r ih =>
    intro G hG hF x hx
    obtain ⟨n, ps⟩ := f
    unfold fgN at hG
    split at hG
    · rename_i Ls F2 e1 e2
      cases hG
      rcases List.mem_cons.mp hx with rfl | hx
      · obtain ⟨ys, i1, i2⟩ := fgF_V h ps e1
        obtain ⟨ys2, j1, j2⟩ := hF (n, ps) List.mem_cons_self
        cases two_det ps i1 j1
        exact ⟨ys, i2, j2⟩
      · exact ih e2 (fun f hf => hF f (List.mem_cons_of_mem _ hf)) x hx
    · cases hG
theorem fgN_W (hct : cfOK FL) {vs : List AV} {ws : List Value} (h : Two (avOK ρ π) vs ws) (hW : Wd aT gT FL ρ π hp fl g gr fs M) : ∀ (F : List FP) {G : List FG}, fgN vs F = some G → G.all (fun f => fgM fl f || ghA fl hp g fs f) = true → ∀ f ∈ F, flOK FL ws M f := by
  intro F
  induction F with
  | nil => intro G _ _ f hf; cases hf
  | cons f r ih =>
    intro G hG hA f2 hf
    obtain ⟨n, ps⟩ := f
    unfold fgN at hG
    split at hG
    · rename_i Ls F2 e1 e2
      cases hG
      obtain ⟨h1, h2⟩ := and_t (show ((fgM fl (n, Ls) || ghA fl hp g fs (n, Ls)) && F2.all (fun f => fgM fl f || ghA fl hp g fs f)) = true from hA)
      rcases List.mem_cons.mp hf with rfl | hf
      · obtain ⟨ys, i1, i2⟩ := fgF_V h ps e1
        rw [Bool.or_eq_true] at h1
        rcases h1 with h1 | h1
        · exact ⟨ys, i1, fgM_V (f := (n, Ls)) hW.2.1 h1 i2⟩
        · exact ⟨ys, i1, ghA_V (f := (n, Ls)) hct hW h1 i2⟩
      · exact ih e2 h2 f2 hf
    · cases hG
theorem fgE_V (hct : cfOK FL) {src : List AV} {ws : List Value} {F : List FP} {es : List EL} (hv : Two (avOK ρ π) src ws) (hW : Wd aT gT FL ρ π hp fl g gr fs M) (hF : ∀ f ∈ F, flOK FL ws M f) (he : ∀ e ∈ es, elOK ws M e) {k : List HE → List FG → List Iv → Bool} (h : fgE src F es hp fl g k = true) : ∃ hp' fl' g' ρ', Pre ρ ρ' ∧ Wd aT gT FL ρ' π hp' fl' g' gr fs M ∧ k hp' fl' g' = true := by
  unfold fgE at h
  split at h
  · rename_i G eG
    rw [fFG_eq] at h
    have hG := fgN_V (FL := FL) (M := M) hv F eG hF
    have hfl2 : ∀ x ∈ G ++ fl, fgOK FL ρ M x := fun x hx => by
      rcases List.mem_append.mp hx with hx | hx
      · exact hG x hx
      · exact hW.2.1 x hx
    rw [Bool.or_eq_true] at h
    rcases h with h | h
    · exact (ctA_V hct hfl2 h).elim
    · obtain ⟨hp', g', ρ', q1, q2, q3⟩ := elN_V es hv (⟨hW.1, hfl2, hW.2.2⟩ : Wd aT gT FL ρ π hp (G ++ fl) g gr fs M) he h
      exact ⟨hp', _, g', ρ', q1, q2, q3⟩
  · cases h
theorem fld_ht {ws : List Value} {h : HT} {w : Value} (q : fldV aT ws M h w) : htOK aT ws M h := by
  obtain ⟨a, vs, h1, h2, h3, h4⟩ := q
  exact ⟨a, vs, w, h1, h2, h3, h4⟩
theorem fld_all {ws : List Value} : ∀ (hs : List HT) {hv : List Value}, Two (fldV aT ws M) hs hv → ∀ h ∈ hs, htOK aT ws M h := by
  intro hs
  induction hs with
  | nil => intro hv _ h hh; cases hh
  | cons h hs ih =>
    intro hv h2 x hx
    cases hv with
    | nil => exact h2.elim
    | cons w hv =>
      rcases List.mem_cons.mp hx with rfl | hx
      · exact fld_ht h2.1
      · exact ih h2.2 x hx
theorem all_fld {ws : List Value} : ∀ (hs : List HT), (∀ h ∈ hs, htOK aT ws M h) → ∃ hv, Two (fldV aT ws M) hs hv := by
  intro hs
  induction hs with
  | nil => intro _; exact ⟨[], trivial⟩
  | cons h hs ih =>
    intro hh
    obtain ⟨hv, i1⟩ := ih (fun x hx => hh x (List.mem_cons_of_mem _ hx))
    obtain ⟨a, vs, w, j1, j2, j3, j4⟩ := hh h List.mem_cons_self
    exact ⟨w :: hv, Two.mk ⟨a, vs, j1, j2, j3, j4⟩ i1⟩
theorem fnL_V (hct : cfOK FL) {n0 : Nat} (hn0 : n0 = 62 ∨ n0 = 66) {K R : Lin} {x r : Int} (hK : liV ρ K = some x) (hR : liV ρ R = some r) (hF : FL n0 [x, r] M) : ∀ (fl : List FG), (∀ e ∈ fl, fgOK FL ρ M e) → fOK ρ (fnL n0 K R fl) := by
  intro fl
  induction fl with
  | nil => intro _ L hL; cases hL
  | cons e fl ih =>
    intro hfl L hL
    obtain ⟨n, Ls⟩ := e
    rcases List.mem_append.mp hL with hL | hL
    · rcases Ls with _ | ⟨K2, _ | ⟨R2, _ | ⟨K3, Ls⟩⟩⟩
      · cases hL
      · cases hL
      · have hL : L ∈ cond (Nat.beq n n0 && isZ (liSub K K2)) [liSub R R2, liSub R2 R] [] := hL
        cases hc : Nat.beq n n0 && isZ (liSub K K2) with
        | false => rw [hc] at hL; cases hL
        | true =>
          have hL2 : L ∈ [liSub R R2, liSub R2 R] := by rw [hc] at hL; exact hL
          rw [Bool.and_eq_true] at hc
          cases Nat.eq_of_beq_eq_true hc.1
          obtain ⟨ys, i1, i2⟩ := hfl _ List.mem_cons_self
          rcases ys with _ | ⟨x2, _ | ⟨r2, _ | ⟨x3, ys⟩⟩⟩
          · exact i1.elim
          · exact i1.2.elim
          · have hz := isZ_V hc.2 (liSub_V hK i1.1)
            have ex : x2 = x := by omega
            subst ex
            have er := hct.2.2.2 _ M x2 r r2 hn0 hF i2
            subst er
            rcases List.mem_cons.mp hL2 with rfl | hL
            · exact ⟨_, liSub_V hR i1.2.1, by omega⟩
            · cases List.mem_singleton.mp hL
              exact ⟨_, liSub_V i1.2.1 hR, by omega⟩
          · exact i1.2.2.elim
      · cases hL
    · exact ih (fun e he => hfl e (List.mem_cons_of_mem _ he)) L hL
theorem fnA_V (hct : cfOK FL) (hW : Wd aT gT FL ρ π hp fl g gr fs M) : Wd aT gT FL ρ π hp fl g gr (fnA fl ++ fs) M := by
  refine ⟨hW.1, hW.2.1, hW.2.2.1, hW.2.2.2.1, ?_, hW.2.2.2.2.2⟩
  intro L hL
  rcases List.mem_append.mp hL with hL | hL
  · rcases fl with _ | ⟨⟨n, Ls⟩, r⟩
    · cases hL
    rcases Ls with _ | ⟨K, _ | ⟨R, _ | ⟨K3, Ls⟩⟩⟩
    · cases hL
    · cases hL
    · have hL : L ∈ cond (Nat.beq n 62 || Nat.beq n 66) (fnL n K R r) [] := hL
      cases hc : Nat.beq n 62 || Nat.beq n 66 with
      | false => rw [hc] at hL; cases hL
      | true =>
        have hL2 : L ∈ fnL n K R r := by rw [hc] at hL; exact hL
        obtain ⟨ys, i1, i2⟩ := hW.2.1 _ List.mem_cons_self
        rcases ys with _ | ⟨x2, _ | ⟨r2, _ | ⟨x3, ys⟩⟩⟩
        · exact i1.elim
        · exact i1.2.elim
        · exact fnL_V hct (or_beq hc) i1.1 i1.2.1 i2 r (fun e he => hW.2.1 e (List.mem_cons_of_mem _ he)) L hL2
        · exact i1.2.2.elim
    · cases hL
  · exact hW.2.2.2.2.1 L hL
theorem csN_V (hU : uOK aT gU) (hct : cfOK FL) {as rest : List AV} {ws cr : List Value} {v : Option Value} {s : CS} (ha : Two (avOK ρ π) as ws) (hr : Two (avOK ρ π) rest cr) (hW : Wd aT gT FL ρ π hp fl g gr fs M) (hs : csOK aT FL ws v M s) {k : List AV → List HE → List FG → List Iv → List Nat → List Lin → Bool} (h : csN gU as rest hp fl g gr fs k s = true) : ∃ st' hp' fl' g' gr' fs' ρ' π', Pre ρ ρ' ∧ Pre π π' ∧ Two (avOK ρ' π') st' (v.toList ++ cr) ∧ Wd aT gT FL ρ' π' hp' fl' g' gr' fs' M ∧ k st' hp' fl' g' gr' fs' = true := by
  obtain ⟨res, qs, hs2, f2, es⟩ := s
  obtain ⟨c1, c2, hv, c4, c3, c5⟩ := hs
  unfold csN at h
  obtain ⟨g1, fs1, hg1, hf1, h⟩ := agN_V (π := π) qs hW.2.2.1 hW.2.2.2.2.1 ha c2 h
  have hW1 : Wd aT gT FL ρ π hp fl g1 gr fs1 M := ⟨hW.1, hW.2.1, hg1, hW.2.2.2.1, hf1, hW.2.2.2.2.2⟩
  obtain ⟨vs', hp2, g2, gr2, ρ2, π2, p1, p2, p3, hW2, h⟩ := htN_V hU (vs := []) (hv := []) hs2 ha (show Two (avOK ρ π) ([] : List AV) ([] : List Value) from trivial) hW1 c4 h
  have ha2 := (Two.mono (fun _ _ q => avOK.mono p1 p2 q) ha).app p3
  have hr2 : Two (avOK ρ2 π2) rest cr := Two.mono (fun _ _ q => avOK.mono p1 p2 q) hr
  cases res with
  | none =>
    cases v with
    | some w => exact c1.elim
    | none =>
      obtain ⟨hp3, fl3, g3, ρ3, q1, q2, q3⟩ := fgE_V hct (ws := .null :: (ws ++ hv)) (Two.mk (show avOK ρ2 π2 (.inr (.inr 0)) .null from rfl) ha2) hW2 c3 c5 h
      exact ⟨_, _, _, _, _, _, ρ3, π2, p1.trans q1, p2, st_mono q1 hr2, fnA_V hct q2, q3⟩
  | some t =>
    cases v with
    | none => exact c1.elim
    | some w =>
      obtain ⟨v5, g5, gr5, ρ5, π5, p5, p6, p7, p8, p9, h⟩ := taN_V hU hW2.2.2.1 hW2.2.2.2.1 c1 h
      obtain ⟨hp3, fl3, g3, ρ3, q1, q2, q3⟩ := fgE_V hct (ws := w :: (ws ++ hv)) (Two.mk p9 (Two.mono (fun _ _ q => avOK.mono p5 p6 q) ha2)) ((hW2.ints p5 p7).refs p6 p8) c3 c5 h
      exact ⟨_, _, _, _, _, _, ρ3, π5, (p1.trans p5).trans q1, p2.trans p6, Two.mk (p9.mono q1 (Pre.refl _)) (Two.mono (fun _ _ q => avOK.mono (p5.trans q1) p6 q) hr2), fnA_V hct q2, q3⟩
theorem dlN_V {id : Nat} {hp2 : List HE} (hW : Wd aT gT FL ρ π hp fl g gr fs M) {fl2 : List FG} (hW2 : Wd aT gT FL ρ π hp2 fl2 g gr fs M') (hd : dlOK id M M') : Wd aT gT FL ρ π (dlN id hp hp2) fl2 g gr fs M' := by
  unfold dlN
  cases h1 : Nat.beq id 205 with
  | false => exact hW2
  | true =>
    have hd := hd (Nat.eq_of_beq_eq_true h1)
    cases h2 : hpE hp 635 (liC 157) with
    | none => exact hW2
    | some v =>
      rcases v with V | v
      · obtain ⟨L2, m1, m2⟩ := hpE_V h2
        obtain ⟨a2, ha2, t, l, i, x, k1, k2, k3, k4⟩ := hW.1 _ m1
        cases ha2
        obtain ⟨z, hz, hz2⟩ := k4
        cases hz
        have hz0 := isZ_V m2 (liSub_V k2 (liC_V 157))
        have hi : i = 157 := by omega
        subst hi
        obtain ⟨l', x', e1, e2, e3⟩ := hd t l x k1 k3
        refine hW2.know ⟨635, rfl, t, l', 157, x', e1, liC_V _, e2, x', rfl, ?_⟩
        rw [liAdc_V (-1) hz2, e3]
        rfl
      · exact hW2
theorem cnA_V (hU : uOK aT gU) (hd : depOK aT dep FL) (hct : cfOK FL) {c : CN} {md : Md} {D d : Nat} {as rest : List AV} {ws cr : List Value} (hC : cnOK aT gT FL c) (hD : D ≤ d) {q : MR} (hq : gNth mRs c.1 = some q) (hW : Wd aT gT FL ρ π hp fl g gr fs M) (ha : Two (avOK ρ π) as ws) (hr : Two (avOK ρ π) rest cr) {k : List AV → List HE → List FG → List Iv → List Nat → List Lin → Bool} (h : cnA aT gT gU dep c md D as rest hp fl g gr fs k = true) : ∃ v M', Ev none d c.1 0 (gPad q.2.2.2.1 (gArgs ws)) [] M v M' 0 0 ∧ Frm aT md M M' ∧ ∃ st' hp' fl' g' gr' fs' ρ' π', Pre ρ ρ' ∧ Pre π π' ∧ Two (avOK ρ' π') st' (v.toList ++ cr) ∧ Wd aT gT FL ρ' π' hp' fl' g' gr' fs' M' ∧ k st' hp' fl' g' gr' fs' = true := by
  obtain ⟨id, D2, ts, hs, f1, cm, cs⟩ := c
  unfold cnA at h
  obtain ⟨h1, h⟩ := and_t h
  obtain ⟨h1, h2⟩ := and_t h1
  obtain ⟨h2, h4⟩ := and_t h2
  obtain ⟨hv2, vs', hp1, g1, gr1, ρ1, π1, i1, p1, p2, i2, hW1, h⟩ := htA_V hU (vs := []) (hv := []) hs ha (show Two (avOK ρ π) ([] : List AV) ([] : List Value) from trivial) hW h
  split at h
  · rename_i F eF
    obtain ⟨h3, h⟩ := and_t h
    have ha1 := Two.mono (fun _ _ q => avOK.mono p1 p2 q) ha
    have hpre := fgN_W hct (FL := FL) (M := M) (ws := .null :: (ws ++ hv2)) (Two.mk (show avOK ρ1 π1 (.inr (.inr 0)) .null from rfl) (ha1.app i2)) hW1 f1 eF h3
    obtain ⟨v, M', e1, e2, e3, s, hs2, e4, e5⟩ := hC d M ws q (Nat.le_trans (Nat.le_of_ble_eq_true h1) hD) hq (taMs_V hW.2.2.1 hW.2.2.2.2.1 hW.2.2.2.1 h2 ha) ⟨hv2, i1, hpre⟩ hW.2.2.2.2.2
    refine ⟨v, M', e1, e3.more (mdSub_mem h4), ?_⟩
    rw [gSp_eq, gSp_eq] at h
    have h := List.all_eq_true.mp h s hs2
    have hW2 := dlN_V hW1 (hW1.frm hd e2 e3) e5
    obtain ⟨st', hp', fl', g', gr', fs', ρ', π', q1, q2, q3, q4, q5⟩ := csN_V hU hct ha1 (Two.mono (fun _ _ q => avOK.mono p1 p2 q) hr) hW2 e4 h
    exact ⟨st', hp', fl', g', gr', fs', ρ', π', p1.trans q1, p2.trans q2, q3, q4, q5⟩
  · cases h
end CALL
/-! THE CHECKER, 10: the library's own calls -/
noncomputable def avCat : AV → Nat
  | .inr (.inr 1) => 2
  | _ => 1
noncomputable def roomA (st : List AV) : Bool := Nat.ble ((st.map avCat).sum) 8
theorem cat1 {w : Value} (h : gC1 w = true) : w.category = 1 := Nat.eq_of_beq_eq_true h
theorem avCat_V {ρ : List Int} {π : List Nat} {v : AV} {w : Value} (h : avOK ρ π v w) : w.category = avCat v := by
  rcases v with L | R | n
  · obtain ⟨x, rfl, -⟩ := h; rfl
  · obtain ⟨a, -, rfl⟩ := h; rfl
  · match n, h with
    | 0, h => exact cat1 h
    | 1, h => obtain ⟨x, rfl⟩ := h; rfl
    | 2, h => cases h; rfl
    | n + 3, h => cases h; rfl
theorem roomA_V {ρ : List Int} {π : List Nat} {st : List AV} {cst : List Value} (hs : Two (avOK ρ π) st cst) (h : roomA st = true) : gRoom cst = true := by
  have e : ∀ {st : List AV} {cst : List Value}, Two (avOK ρ π) st cst → cst.map Value.category = st.map avCat := by
    intro st
    induction st with
    | nil =>
      intro cst hs
      cases cst with
      | nil => rfl
      | cons _ _ => exact hs.elim
    | cons v r ih =>
      intro cst hs
      obtain ⟨w, cr, rfl, hw, hr⟩ := two_c hs
      rw [List.map_cons, List.map_cons, avCat_V hw, ih hr]
  unfold gRoom
  rw [e hs]
  exact h
section NAT
variable (aT : List Nat) (gT : List CT) (gU : List (Option Nat)) (dep : Nat → Md) (FL : Nat → List Int → Mem → Prop) (md : Md)
noncomputable def sgIn (sg : List SG) (q : Iv → Bool) : Bool := sg.all (fun s => s.2.2.2.all q)
noncomputable def natA (id : Nat) (st : List AV) (hp : List HE) (fl : List FG) (g : List Iv) (gr : List Nat) (fs : List Lin) (k : List AV → List HE → List FG → List Iv → List Lin → Bool) : Bool := match id with
  | 1001 => match st with
    | .inl L :: r => match liI g L with
      | some (a, b) => cond (iLe 0 a) (k (.inl L :: r) hp fl g fs) (cond (iLe (-2147483647) a) (fI (iMax (-a) b) (fun m => k (.inl (liS g.length) :: r) hp fl (g ++ [(0, m)]) fs)) (k (.inl (liS g.length) :: r) hp fl (g ++ [ivF]) fs))
      | none => false
    | _ => false
  | 1002 => match st with
    | .inl Ly :: .inl Lx :: r => match liI g Ly, liI g Lx with
      | some (a, b), some (c, d) => fI (iMax a c) (fun lo => fI (iMax b d) (fun hi => fLs [liSub (liS g.length) Ly, liSub (liS g.length) Lx] (fun F => k (.inl (liS g.length) :: r) hp fl (g ++ [(lo, hi)]) (F ++ fs))))
      | _, _ => false
    | _ => false
  | 1003 => match st with
    | .inl Ly :: .inl Lx :: r => match liI g Ly, liI g Lx with
      | some (a, b), some (c, d) => fI (iMin a c) (fun lo => fI (iMin b d) (fun hi => fLs [liSub Ly (liS g.length), liSub Lx (liS g.length)] (fun F => k (.inl (liS g.length) :: r) hp fl (g ++ [(lo, hi)]) (F ++ fs))))
      | _, _ => false
    | _ => false
  | 1004 => match st with
    | .inl V :: .inr (.inl R) :: r => match arG aT gT gr R with
      | some (grp, 1, n, .inl sg) => cond (Nat.ble n 60000 && (mdIn md (1000 + grp) 0 && sgIn sg (fun p => inR g fs V p.1 p.2))) (gSp (hpA aT gr grp hp) (fun hp => gSp (flD dep (1000 + grp) 0 fl) (fun fl => k r hp fl g fs))) false
      | _ => false
    | _ => false
  | 1005 => match st with
    | .inl Ln9 :: .inl Ld :: .inr (.inl Rb) :: .inl Ls :: .inr (.inl Ra) :: r => match arG aT gT gr Ra, arG aT gT gr Rb with
      | some (_, 1, n, .inl sa), some (grp, 1, m, .inl sb) => cond ((inR g fs Ls 0 n && (inR g fs Ld 0 m && (inR g fs Ln9 0 (iMin n m) && (inR g fs (liAdd Ls Ln9) 0 n && inR g fs (liAdd Ld Ln9) 0 m)))) && (mdIn md (1000 + grp) 0 && sgIn sa (fun p => sgAll sb p.1 p.2))) (gSp (hpA aT gr grp hp) (fun hp => gSp (flD dep (1000 + grp) 0 fl) (fun fl => k r hp fl g fs))) false
      | _, _ => false
    | _ => false
  | _ => false
def NatR (ρ : List Int) (π : List Nat) (gr : List Nat) (M : Mem) (k : List AV → List HE → List FG → List Iv → List Lin → Bool) (o : Option (List Value × Mem)) : Prop := ∃ cst M' st' hp' fl' g' fs' ρ', o = some (cst, M') ∧ Pre ρ ρ' ∧ Two (avOK ρ' π) st' cst ∧ Wd aT gT FL ρ' π hp' fl' g' gr fs' M' ∧ Frm aT md M M' ∧ k st' hp' fl' g' fs' = true
variable {aT gT gU dep FL md}
variable {ρ : List Int} {π : List Nat} {hp : List HE} {fl : List FG} {g : List Iv} {gr : List Nat} {fs : List Lin} {M : Mem}
theorem Wd.facts {fs' : List Lin} (hW : Wd aT gT FL ρ π hp fl g gr fs M) (h : fOK ρ fs') : Wd aT gT FL ρ π hp fl g gr (fs' ++ fs) M := ⟨hW.1, hW.2.1, hW.2.2.1, hW.2.2.2.1, fun F hF => by
  rcases List.mem_append.mp hF with hF | hF
  · exact h F hF
  · exact hW.2.2.2.2.1 F hF, hW.2.2.2.2.2⟩
theorem sg_at {sg : List SG} {i : Nat} {p : Iv} {q : Iv → Bool} (h : sgIn sg q = true) (hp : sgAt sg i = some p) : q p = true := by
  induction sg with
  | nil => cases hp
  | cons s r ih =>
    obtain ⟨s1, s2, w, l⟩ := s
    have h : (l.all q && sgIn r q) = true := h
    rw [Bool.and_eq_true] at h
    have hp : cond (Nat.ble s1 i && Nat.blt i s2) (gNth l ((i - s1) % w)) (sgAt r i) = some p := hp
    cases hb : Nat.ble s1 i && Nat.blt i s2 with
    | true =>
      rw [hb] at hp
      exact List.all_eq_true.mp h.1 p (gNth_mem _ _ _ hp)
    | false =>
      rw [hb] at hp
      exact ih h.2 hp
theorem clp_of {x : Int32} {a b : Int} (h : a ≤ x.toInt ∧ x.toInt ≤ b) (h0 : 0 ≤ a) : decide (x < 0) = false ∧ (x.toNatClampNeg : Int) = x.toInt := by
  obtain ⟨j, hj, rfl, e⟩ := nI_nn (show 0 ≤ x.toInt by omega)
  exact ⟨decide_eq_false (nI_pos hj), by rw [nI_clamp hj, e]⟩
theorem cp_nth (f g : List Int32) (sp dp n : Nat) (h4 : sp + n ≤ f.length) (h5 : dp + n ≤ g.length) {j : Nat} {x : Int32} (h : gNth (g.take dp ++ ((f.drop sp).take n ++ g.drop (dp + n))) j = some x) : gNth g j = some x ∨ (∃ i, gNth f i = some x ∧ j < g.length) := by
  rw [nth_eq] at h
  by_cases c1 : j < dp
  · left
    rw [List.getElem?_append_left (by rw [List.length_take]; omega), List.getElem?_take, if_pos c1] at h
    rw [nth_eq]
    exact h
  · have l1 : (g.take dp).length = dp := by rw [List.length_take]; omega
    rw [List.getElem?_append_right (by omega), l1] at h
    have l2 : ((f.drop sp).take n).length = n := by rw [List.length_take, List.length_drop]; omega
    by_cases c2 : j - dp < n
    · right
      rw [List.getElem?_append_left (by omega), List.getElem?_take, if_pos c2, List.getElem?_drop] at h
      exact ⟨_, by rw [nth_eq]; exact h, by omega⟩
    · left
      rw [List.getElem?_append_right (by omega), l2, List.getElem?_drop] at h
      have : dp + n + (j - dp - n) = j := by omega
      rw [this] at h
      rw [nth_eq]
      exact h
set_option maxHeartbeats 4000000 in
theorem natA_V (hd : depOK aT dep FL) (hW : Wd aT gT FL ρ π hp fl g gr fs M) {id : Nat} {st : List AV} {cst : List Value} {k : List AV → List HE → List FG → List Iv → List Lin → Bool} (hs : Two (avOK ρ π) st cst) (h : natA aT gT dep md id st hp fl g gr fs k = true) : NatR aT gT FL md ρ π gr M k (gNat id cst M) := by
  unfold natA at h
  split at h
  · split at h
    · rename_i L r
      obtain ⟨x, cr, rfl, hx, hr⟩ := two_i hs
      have e0 := i0_toInt
      split at h
      · rename_i a b e1
        have hb := liI_V hW.2.2.1 e1 hx
        have e2 : gNat 1001 (.int x :: cr) M = some (.int (if 0 ≤ x then x else 0 - x) :: cr, M) := rfl
        rw [e2]
        cases h0 : iLe 0 a with
        | true =>
          rw [h0] at h
          have h0 := iLe_iff.mp h0
          have hx0 : 0 ≤ x := Int32.le_iff_toInt_le.mpr (by omega)
          rw [if_pos hx0]
          exact ⟨_, M, _, _, _, _, _, ρ, rfl, Pre.refl _, Two.mk (av_i hx) hr, hW, Frm.refl _, h⟩
        | false =>
          rw [h0] at h
          have fin : ∀ z : Int32, ∀ lo hi : Int, lo ≤ z.toInt → z.toInt ≤ hi → k (.inl (liS g.length) :: r) hp fl (g ++ [(lo, hi)]) fs = true → NatR aT gT FL md ρ π gr M k (some (.int z :: cr, M)) := by
            intro z lo hi h1 h2 h
            exact ⟨_, M, _, _, _, _, _, ρ ++ [z.toInt], rfl, Pre.one _ _, Two.mk (av_i (push_S hW.2.2.1 _)) (st_mono (Pre.one _ _) hr), hW.push h1 h2, Frm.refl _, h⟩
          cases h1 : iLe (-2147483647) a with
          | true =>
            rw [h1] at h
            rw [cond_ff, cond_tt, fI_eq] at h
            have h1 := iLe_iff.mp h1
            have hm := @le_iMax (-a) b
            refine fin _ 0 (iMax (-a) b) ?_ ?_ h
            · by_cases hx0 : 0 ≤ x
              · rw [if_pos hx0]
                have := Int32.le_iff_toInt_le.mp hx0
                omega
              · rw [if_neg hx0]
                have h9 : ¬ 0 ≤ x.toInt := fun q => hx0 (Int32.le_iff_toInt_le.mpr (by omega))
                rw [i32_sub (by omega) (by omega)]
                omega
            · by_cases hx0 : 0 ≤ x
              · rw [if_pos hx0]
                omega
              · rw [if_neg hx0]
                have h9 : ¬ 0 ≤ x.toInt := fun q => hx0 (Int32.le_iff_toInt_le.mpr (by omega))
                rw [i32_sub (by omega) (by omega)]
                omega
          | false =>
            rw [h1, cond_ff, cond_ff] at h
            exact fin _ _ _ (i32_lt _).1 (i32_lt _).2 h
      · cases h
    · cases h
  · split at h
    · rename_i Ly Lx r
      obtain ⟨y, cr, rfl, hy, hr⟩ := two_i hs
      have hq := two_i hr
      clear hr
      obtain ⟨x, cr, rfl, hx, hr⟩ := hq
      split at h
      · rename_i a b c d e1 e2
        rw [fI_eq, fI_eq, fLs_eq] at h
        have h1 := liI_V hW.2.2.1 e1 hy
        have h2 := liI_V hW.2.2.1 e2 hx
        have e3 : gNat 1002 (.int y :: .int x :: cr) M = some (.int (if x < y then y else x) :: cr, M) := rfl
        rw [e3]
        have hz : ((if x < y then y else x).toInt = y.toInt ∧ x.toInt ≤ y.toInt) ∨ ((if x < y then y else x).toInt = x.toInt ∧ y.toInt ≤ x.toInt) := by
          by_cases q : x < y
          · rw [if_pos q]
            have := Int32.lt_iff_toInt_lt.mp q
            exact Or.inl ⟨rfl, by omega⟩
          · rw [if_neg q]
            have : ¬ x.toInt < y.toInt := fun z => q (Int32.lt_iff_toInt_lt.mpr z)
            exact Or.inr ⟨rfl, by omega⟩
        generalize (if x < y then y else x) = z at hz ⊢
        have m1 := @iMax_or a c
        have m2 := @le_iMax b d
        have hS := push_S hW.2.2.1 z.toInt
        refine ⟨_, M, _, _, _, _, _, ρ ++ [z.toInt], rfl, Pre.one _ _, Two.mk (av_i hS) (st_mono (Pre.one _ _) hr), (hW.push ?_ ?_).facts (two_V (liSub_V hS ((Pre.one _ _).liV hy)) ?_ (liSub_V hS ((Pre.one _ _).liV hx)) ?_), Frm.refl _, h⟩ <;> omega
      · cases h
    · cases h
  · split at h
    · rename_i Ly Lx r
      obtain ⟨y, cr, rfl, hy, hr⟩ := two_i hs
      have hq := two_i hr
      clear hr
      obtain ⟨x, cr, rfl, hx, hr⟩ := hq
      split at h
      · rename_i a b c d e1 e2
        rw [fI_eq, fI_eq, fLs_eq] at h
        have h1 := liI_V hW.2.2.1 e1 hy
        have h2 := liI_V hW.2.2.1 e2 hx
        have e3 : gNat 1003 (.int y :: .int x :: cr) M = some (.int (if y < x then y else x) :: cr, M) := rfl
        rw [e3]
        have hz : ((if y < x then y else x).toInt = y.toInt ∧ y.toInt ≤ x.toInt) ∨ ((if y < x then y else x).toInt = x.toInt ∧ x.toInt ≤ y.toInt) := by
          by_cases q : y < x
          · rw [if_pos q]
            have := Int32.lt_iff_toInt_lt.mp q
            exact Or.inl ⟨rfl, by omega⟩
          · rw [if_neg q]
            have : ¬ y.toInt < x.toInt := fun z => q (Int32.lt_iff_toInt_lt.mpr z)
            exact Or.inr ⟨rfl, by omega⟩
        generalize (if y < x then y else x) = z at hz ⊢
        have m1 := @iMin_le a c
        have m2 := @iMin_or b d
        have hS := push_S hW.2.2.1 z.toInt
        refine ⟨_, M, _, _, _, _, _, ρ ++ [z.toInt], rfl, Pre.one _ _, Two.mk (av_i hS) (st_mono (Pre.one _ _) hr), (hW.push ?_ ?_).facts (two_V (liSub_V ((Pre.one _ _).liV hy) hS) ?_ (liSub_V ((Pre.one _ _).liV hx) hS) ?_), Frm.refl _, h⟩ <;> omega
      · cases h
    · cases h
  · split at h
    · rename_i V R r
      split at h
      · rename_i grp n sg e1
        have hq9 := cond_t (α := Nat) h
        clear h
        obtain ⟨h1, h⟩ := hq9
        rw [Bool.and_eq_true, Bool.and_eq_true] at h1
        obtain ⟨h1, h2, h3⟩ := h1
        rw [gSp_eq, gSp_eq] at h
        obtain ⟨v, cr, rfl, hv9, hr⟩ := two_i hs
        have hq := two_c hr
        clear hr
        obtain ⟨w2, cr, rfl, ⟨a, ha, rfl⟩, hr⟩ := hq
        obtain ⟨a2, e, ha2, hag, hgt, he, hc⟩ := arG_V hW.2.2.2.1 hW.2.2.2.2.2 e1
        cases ha.symm.trans ha2
        obtain ⟨l, rfl, hl, hv⟩ := ct_int (by decide) hc
        have e2 : gNat 1004 (.int v :: .ref a :: cr) M = some (cr, gPut M a (.inl (1, .inl (gRep (gLn l) v)))) := by
          show (match gNth M a with
            | some (.inl (1, .inl l)) => cond (Nat.ble (gLn l) 60000) (some (cr, gPut M a (.inl (1, .inl (gRep (gLn l) v))))) none
            | _ => none) = _
          rw [he]
          show cond (Nat.ble (gLn l) 60000) (some (cr, gPut M a (.inl (1, .inl (gRep (gLn l) v))))) none = _
          rw [ln_eq, hl, h1]
          rfl
        rw [e2]
        have hc2 : ctOK aT (.inr (1, n, .inl sg)) (.inl (1, .inl (gRep (gLn l) v))) := by
          refine ct_mk (by decide) (by rw [rep_eq, List.length_replicate, ln_eq]; exact hl) (fun j y hy => ?_)
          rw [nth_eq, rep_eq, ln_eq, List.getElem?_replicate] at hy
          split at hy
          · rename_i hj
            cases hy
            obtain ⟨z, hz⟩ := nth_some hj
            obtain ⟨p, i1, -, -⟩ := hv j z hz
            exact ⟨p, i1, inR_V hW.2.2.1 hW.2.2.2.2.1 (sg_at h3 i1) hv9⟩
          · cases hy
        exact ⟨cr, _, _, _, _, _, _, ρ, rfl, Pre.refl _, hr, hW.row hd hag hgt he hc2, Frm.row he hag (mdIn_iff.mp h2), h⟩
      · cases h
    · cases h
  · split at h
    · rename_i Ln9 Ld Rb Ls Ra r
      split at h
      · rename_i grpa n sa grp m sb e1 e2
        have hq9 := cond_t (α := Nat) h
        clear h
        obtain ⟨h1, h⟩ := hq9
        obtain ⟨i1, h2⟩ := and_t h1
        obtain ⟨h2, h3⟩ := and_t h2
        obtain ⟨i1, i2⟩ := and_t i1
        obtain ⟨i2, i3⟩ := and_t i2
        obtain ⟨i3, i4⟩ := and_t i3
        obtain ⟨i4, i5⟩ := and_t i4
        rw [gSp_eq, gSp_eq] at h
        obtain ⟨xn, cr, rfl, hn, hr⟩ := two_i hs
        have hq := two_i hr
        clear hr
        obtain ⟨xd, cr, rfl, hdp, hr⟩ := hq
        have hq := two_c hr
        clear hr
        obtain ⟨w2, cr, rfl, ⟨b, hb, rfl⟩, hr⟩ := hq
        have hq := two_i hr
        clear hr
        obtain ⟨xs, cr, rfl, hsp, hr⟩ := hq
        have hq := two_c hr
        clear hr
        obtain ⟨w3, cr, rfl, ⟨a, ha, rfl⟩, hr⟩ := hq
        obtain ⟨a2, ea, ha2, hag, hgt, hea, hca⟩ := arG_V hW.2.2.2.1 hW.2.2.2.2.2 e1
        cases ha.symm.trans ha2
        obtain ⟨la, rfl, hla, hva⟩ := ct_int (by decide) hca
        obtain ⟨b2, eb, hb2, hbg, hgtb, heb, hcb⟩ := arG_V hW.2.2.2.1 hW.2.2.2.2.2 e2
        cases hb.symm.trans hb2
        obtain ⟨lb, rfl, hlb, hvb⟩ := ct_int (by decide) hcb
        have j1 := inR_V hW.2.2.1 hW.2.2.2.2.1 i1 hsp
        have j2 := inR_V hW.2.2.1 hW.2.2.2.2.1 i2 hdp
        have j3 := inR_V hW.2.2.1 hW.2.2.2.2.1 i3 hn
        have j4 := inR_V hW.2.2.1 hW.2.2.2.2.1 i4 (liAdd_V hsp hn)
        have j5 := inR_V hW.2.2.1 hW.2.2.2.2.1 i5 (liAdd_V hdp hn)
        obtain ⟨c1, c2⟩ := clp_of j1 (by decide)
        obtain ⟨c3, c4⟩ := clp_of j2 (by decide)
        obtain ⟨c5, c6⟩ := clp_of j3 (by decide)
        have k1 : xs.toNatClampNeg + xn.toNatClampNeg ≤ la.length := by omega
        have k2 : xd.toNatClampNeg + xn.toNatClampNeg ≤ lb.length := by omega
        have e3 : gNat 1005 (.int xn :: .int xd :: .ref b :: .int xs :: .ref a :: cr) M = some (cr, gPut M b (.inl (1, .inl (lb.take xd.toNatClampNeg ++ ((la.drop xs.toNatClampNeg).take xn.toNatClampNeg ++ lb.drop (xd.toNatClampNeg + xn.toNatClampNeg)))))) := by
          show (match gNth M a, gNth M b with
            | some (.inl (1, .inl f)), some (.inl (1, .inl g)) => cond (!decide (xs < 0) && !decide (xd < 0) && !decide (xn < 0) && Nat.ble (xs.toNatClampNeg + xn.toNatClampNeg) (gLn f) && Nat.ble (xd.toNatClampNeg + xn.toNatClampNeg) (gLn g)) (some (cr, gPut M b (.inl (1, .inl (g.take xd.toNatClampNeg ++ ((f.drop xs.toNatClampNeg).take xn.toNatClampNeg ++ g.drop (xd.toNatClampNeg + xn.toNatClampNeg))))))) none
            | _, _ => none) = _
          rw [hea, heb]
          show cond (!decide (xs < 0) && !decide (xd < 0) && !decide (xn < 0) && Nat.ble (xs.toNatClampNeg + xn.toNatClampNeg) (gLn la) && Nat.ble (xd.toNatClampNeg + xn.toNatClampNeg) (gLn lb)) (some (cr, gPut M b (.inl (1, .inl (lb.take xd.toNatClampNeg ++ ((la.drop xs.toNatClampNeg).take xn.toNatClampNeg ++ lb.drop (xd.toNatClampNeg + xn.toNatClampNeg))))))) none = _
          rw [c1, c3, c5, ln_eq, ln_eq, Nat.ble_eq_true_of_le k1, Nat.ble_eq_true_of_le k2]
          rfl
        rw [e3]
        have hc2 : ctOK aT (.inr (1, m, .inl sb)) (.inl (1, .inl (lb.take xd.toNatClampNeg ++ ((la.drop xs.toNatClampNeg).take xn.toNatClampNeg ++ lb.drop (xd.toNatClampNeg + xn.toNatClampNeg))))) := by
          refine ct_mk (by decide) ?_ (fun j y hy => ?_)
          · rw [List.length_append, List.length_append, List.length_take, List.length_take, List.length_drop, List.length_drop]
            omega
          · rcases cp_nth la lb _ _ _ k1 k2 hy with q | ⟨i, q, hj⟩
            · exact hvb j y q
            · obtain ⟨p, p1, p2, p3⟩ := hva i y q
              obtain ⟨z, hz⟩ := nth_some hj
              obtain ⟨p', q1, -, -⟩ := hvb j z hz
              have := sgAll_V (sg_at (q := fun p => sgAll sb p.1 p.2) h3 p1) q1
              exact ⟨p', q1, by omega, by omega⟩
        exact ⟨cr, _, _, _, _, _, _, ρ, rfl, Pre.refl _, hr, hW.row hd hbg hgtb heb hc2, Frm.row heb hbg (mdIn_iff.mp h2), h⟩
      · cases h
    · cases h
  · cases h
end NAT
/-! THE CHECKER, 11: walking a method -/
/-- a suspended caller: method, where it goes on, its locals, its stack -/
abbrev AF : Type := Nat × Nat × List AV × List AV
abbrev CF : Type := Nat × Nat × Lo × List Value
noncomputable def lcA : List AV → List AV
  | [] => []
  | v :: r => cond (avW1 v) (v :: lcA r) (v :: .inr (.inr 0) :: lcA r)
noncomputable def padA (n : Nat) (l : List AV) : List AV := l ++ List.replicate (n - l.length) (.inr (.inr 0))
theorem avW1_eq {ρ : List Int} {π : List Nat} {v : AV} {w : Value} (h : avOK ρ π v w) : gC1 w = avW1 v := by
  cases h1 : avW1 v with
  | true => exact avW1_ok h h1
  | false =>
    rcases v with L | R | n
    · cases h1
    · cases h1
    · match n, h, h1 with
      | 0, _, h1 => cases h1
      | 1, h, _ => obtain ⟨x, rfl⟩ := h; rfl
      | 2, _, h1 => cases h1
      | n + 3, _, h1 => cases h1
theorem lcA_V {ρ : List Int} {π : List Nat} : ∀ (as : List AV) {ws : List Value}, Two (avOK ρ π) as ws → Two (loOK ρ π) (lcA as) (gArgs ws) := by
  intro as
  induction as with
  | nil =>
    intro ws h
    cases ws with
    | nil => trivial
    | cons _ _ => exact h.elim
  | cons v r ih =>
    intro ws h
    obtain ⟨w, cr, rfl, hw, hr⟩ := two_c h
    show Two (loOK ρ π) (cond (avW1 v) (v :: lcA r) (v :: .inr (.inr 0) :: lcA r)) (cond (gC1 w) (some w :: gArgs cr) (some w :: none :: gArgs cr))
    rw [avW1_eq hw]
    cases avW1 v with
    | true => exact Two.mk (lo_some hw) (ih hr)
    | false => exact Two.mk (lo_some hw) (Two.mk lo_n (ih hr))
theorem rep_two {α β : Type} {P : α → β → Prop} {a : α} {b : β} (h : P a b) : ∀ n : Nat, Two P (List.replicate n a) (List.replicate n b)
  | 0 => trivial
  | n + 1 => Two.mk h (rep_two h n)
theorem padA_V {ρ : List Int} {π : List Nat} (n : Nat) {l : List AV} {cl : Lo} (h : Two (loOK ρ π) l cl) : Two (loOK ρ π) (padA n l) (gPad n cl) := by
  unfold padA gPad
  rw [h.len]
  exact h.app (rep_two lo_n _)
theorem Two.take {α β : Type} {P : α → β → Prop} : ∀ {as : List α} {bs : List β} (n : Nat), Two P as bs → Two P (as.take n) (bs.take n)
  | [], [], n, _ => by rw [List.take_nil, List.take_nil]; trivial
  | _ :: _, _ :: _, 0, _ => trivial
  | _ :: _, _ :: _, n + 1, h => Two.mk h.1 (Two.take n h.2)
  | [], _ :: _, _, h => h.elim
  | _ :: _, [], _, h => h.elim
theorem Two.drop {α β : Type} {P : α → β → Prop} : ∀ {as : List α} {bs : List β} (n : Nat), Two P as bs → Two P (as.drop n) (bs.drop n)
  | [], [], n, _ => by rw [List.drop_nil, List.drop_nil]; trivial
  | _ :: _, _ :: _, 0, h => h
  | _ :: _, _ :: _, n + 1, h => Two.drop n h.2
  | [], _ :: _, _, h => h.elim
  | _ :: _, [], _, h => h.elim
theorem Two.rev {α β : Type} {P : α → β → Prop} : ∀ {as : List α} {bs : List β}, Two P as bs → Two P as.reverse bs.reverse
  | [], [], _ => trivial
  | _ :: _, _ :: _, h => by
    rw [List.reverse_cons, List.reverse_cons]
    exact (Two.rev h.2).app (Two.mk h.1 trivial)
  | [], _ :: _, h => h.elim
  | _ :: _, [], h => h.elim
/-- the run from here comes to its return, and so do those that wait for it; at last Q -/
def RF (Q : Option Value → Mem → Prop) : List CF → Nat → Nat → Nat → Lo → List Value → Mem → Prop
  | [], d, me, pc, ls, st, M => ∃ v M', Ev none d me pc ls st M v M' 0 0 ∧ Q v M'
  | (me1, pc1, ls1, st1) :: cf, d, me, pc, ls, st, M => ∃ v M', Ev none d me pc ls st M v M' 0 0 ∧ RF Q cf (d + 1) me1 pc1 ls1 (v.toList ++ st1) M'
theorem RF.pre {Q : Option Value → Mem → Prop} {cf : List CF} {d me pc pc' : Nat} {ls ls' : Lo} {st st' : List Value} {M M1 : Mem} (h : ∀ v M', Ev none d me pc' ls' st' M1 v M' 0 0 → Ev none d me pc ls st M v M' 0 0) (k : RF Q cf d me pc' ls' st' M1) : RF Q cf d me pc ls st M := by
  cases cf with
  | nil =>
    obtain ⟨v, M', h1, h2⟩ := k
    exact ⟨v, M', h v M' h1, h2⟩
  | cons c cf =>
    obtain ⟨me1, pc1, ls1, st1⟩ := c
    obtain ⟨v, M', h1, h2⟩ := k
    exact ⟨v, M', h v M' h1, h2⟩
theorem RF.step {Q : Option Value → Mem → Prop} {cf : List CF} {d me pc pc' : Nat} {ls ls' : Lo} {st st' : List Value} {M M1 : Mem} (h : ∀ n, go none (n + 1) d me pc ls st M = go none n d me pc' ls' st' M1) (k : RF Q cf d me pc' ls' st' M1) : RF Q cf d me pc ls st M := RF.pre (fun _ _ hv => Ev.step 1 h hv) k
theorem RF.ret {Q : Option Value → Mem → Prop} {me1 pc1 : Nat} {ls1 : Lo} {st1 : List Value} {cf : List CF} {d me pc : Nat} {ls : Lo} {st : List Value} {M : Mem} {v : Option Value} (h : ∀ n, go none (n + 1) d me pc ls st M = some (v, M, 0, 0)) (k : RF Q cf (d + 1) me1 pc1 ls1 (v.toList ++ st1) M) : RF Q ((me1, pc1, ls1, st1) :: cf) d me pc ls st M := ⟨v, M, Ev.ret h, k⟩
theorem RF.call {Q : Option Value → Mem → Prop} {cf : List CF} {d me pc id : Nat} {ls ls0 : Lo} {st rest : List Value} {M : Mem} (h : ∀ n, go none (n + 1) (d + 1) me pc ls st M = gThen (go none n d id 0 ls0 [] M) (fun v M' c s => gAdd c s (go none n (d + 1) me (pc + 3) ls (v.toList ++ rest) M'))) (k : RF Q ((me, pc + 3, ls, rest) :: cf) d id 0 ls0 [] M) : RF Q cf (d + 1) me pc ls st M := by
  obtain ⟨v, M', h1, h2⟩ := k
  cases cf with
  | nil =>
    obtain ⟨v2, M2, h3, h4⟩ := h2
    exact ⟨v2, M2, Ev.call h h1 h3, h4⟩
  | cons c cf =>
    obtain ⟨me1, pc1, ls1, st1⟩ := c
    obtain ⟨v2, M2, h3, h4⟩ := h2
    exact ⟨v2, M2, Ev.call h h1 h3, h4⟩
theorem RF.evc {Q : Option Value → Mem → Prop} {cf : List CF} {d me pc id : Nat} {ls ls0 : Lo} {st rest : List Value} {M M' : Mem} {v : Option Value} (h : ∀ n, go none (n + 1) (d + 1) me pc ls st M = gThen (go none n d id 0 ls0 [] M) (fun v M' c s => gAdd c s (go none n (d + 1) me (pc + 3) ls (v.toList ++ rest) M'))) (h1 : Ev none d id 0 ls0 [] M v M' 0 0) (k : RF Q cf (d + 1) me (pc + 3) ls (v.toList ++ rest) M') : RF Q cf (d + 1) me pc ls st M := RF.call h ⟨v, M', h1, k⟩
section EX
variable (aT : List Nat) (gT : List CT) (gU : List (Option Nat)) (dep : Nat → Md) (FL : Nat → List Int → Mem → Prop) (md : Md) (Δ : List CN) (me0 : Nat)
variable (cut : Nat → Bool) (chk : Nat → List AV → List AV → List HE → List FG → List Iv → List Nat → List Lin → Bool) (rtc : Option AV → List HE → List FG → List Iv → List Nat → List Lin → Bool)
noncomputable def cnL (id : Nat) : List CN → List CN
  | [] => []
  | c :: r => cond (Nat.beq c.1 id) (c :: cnL id r) (cnL id r)
/-- one of some contracts -/
noncomputable def cnS (D : Nat) (as : List AV) (rest : List AV) (hp : List HE) (fl : List FG) (g : List Iv) (gr : List Nat) (fs : List Lin) (k : List AV → List HE → List FG → List Iv → List Nat → List Lin → Bool) : List CN → Bool
  | [] => false
  | c :: r => cnA aT gT gU dep c md D as rest hp fl g gr fs k || cnS D as rest hp fl g gr fs k r
/-- the answer's check -/
noncomputable def retA (ret : Option FieldType) (i : Instr) (st : List AV) (g : List Iv) (fs : List Lin) : Option (Option AV) := match i with
  | .return_ => match ret, st with
    | none, [] => some none
    | _, _ => none
  | .ireturn => match ret, st with
    | some .int, [.inl L] => some (some (.inl L))
    | some .boolean, [.inl L] => cond (inR g fs L 0 1) (some (some (.inl L))) none
    | _, _ => none
  | _ => none
/-- a call: resolved, its arguments, what stays -/
noncomputable def calA (i : Instr) (o : Nat) (gr : List Nat) (st : List AV) : Option (Nat ⊕ (Nat × Nat × List AV × List AV)) := match (match i with
    | .invokestatic ix => some (ix, 0)
    | .invokevirtual ix => some (ix, 1)
    | .invokespecial ix => some (ix, 2)
    | _ => none) with
  | none => none
  | some (ix, kind) => match gOwn mRes o ix with
    | none => none
    | some (id, nest, _) => match Nat.ble 1000 id with
      | true => cond (Nat.beq kind 0 && (Nat.ble 1001 id && Nat.ble id 1005)) (some (.inl id)) none
      | false => match gNth mRs id with
        | none => none
        | some (o2, _, _, maxL, _, np, kf, _) => match kind with
          | 0 => cond (Nat.beq kf 0 && (Nat.ble np st.length && (roomA (st.drop np) && Nat.ble (lcA (st.take np).reverse).length maxL))) (some (.inr (id, maxL, (st.take np).reverse, st.drop np))) none
          | k + 1 => match st.drop np with
            | .inr (.inl R) :: r => cond ((Nat.beq kf (k + 1) && (Nat.beq nest 0 || Nat.beq k 1)) && (Nat.ble np st.length && ((match rsG aT gr R with
              | some g2 => (match gNth gT g2 with
                | some (.inl (c, _)) => Nat.beq c o2
                | _ => false)
              | none => false) && (roomA r && Nat.ble (lcA (.inr (.inl R) :: (st.take np).reverse)).length maxL)))) (some (.inr (id, maxL, .inr (.inl R) :: (st.take np).reverse, r))) none
            | _ => none
/-- n: the fuel; D: how many frames may still be taken -/
noncomputable def exe (n : Nat) : Nat → Nat → Nat → List AV → List AV → List AF → List HE → List FG → List Iv → List Nat → List Lin → Bool := Nat.rec (motive := fun _ => Nat → Nat → Nat → List AV → List AV → List AF → List HE → List FG → List Iv → List Nat → List Lin → Bool) (fun _ _ _ _ _ _ _ _ _ _ _ => false) (fun _ ex D me pc lo st fr hp fl g gr fs =>
  let nx := fun (me pc : Nat) (D : Nat) (lo st : List AV) (fr : List AF) (hp : List HE) (fl : List FG) (g : List Iv) (gr : List Nat) (fs : List Lin) => gPc pc (fun pc => match fr with
    | [] => cond (cut pc) (Nat.beq me me0 && chk pc lo st hp fl g gr fs) (ex D me pc lo st [] hp fl g gr fs)
    | f :: fr => ex D me pc lo st (f :: fr) hp fl g gr fs)
  match gNth mRs me with
  | none => false
  | some (o, _, _, _, ret, _, _, tab) => match gLook tab pc with
    | none => false
    | some (kd, i) => match kd with
      | 0 => aluA i st g fs (fun st g fs => nx me (pc + gLen i) D lo st fr hp fl g gr fs)
      | 1 => locA i lo st g fs (fun lo st g fs => nx me (pc + gLen i) D lo st fr hp fl g gr fs)
      | 2 => jmpA i pc st g fs (fun pc st g fs => nx me pc D lo st fr hp fl g gr fs)
      | 3 => getA aT gT gU dep md i o st hp fl g gr fs (fun st hp fl g gr fs => nx me (pc + gLen i) D lo st fr hp fl g gr fs)
      | 4 => getA aT gT gU dep md i o st hp fl g gr fs (fun st hp fl g gr fs => nx me (pc + gLen i) D lo st fr hp fl g gr fs)
      | 5 => false
      | 6 => match retA ret i st g fs with
        | none => false
        | some v => match fr with
          | [] => rtc v hp fl g gr fs
          | (me1, pc1, lo1, st1) :: fr => nx me1 pc1 (D + 1) lo1 (v.toList ++ st1) fr hp fl g gr fs
      | 7 => match D with
        | 0 => false
        | D + 1 => match calA aT gT i o gr st with
          | none => false
          | some (.inl id) => natA aT gT dep md id st hp fl g gr fs (fun st hp fl g fs => cond (roomA st) (nx me (pc + 3) (D + 1) lo st fr hp fl g gr fs) false)
          | some (.inr (id, maxL, as, rest)) => match cnL id Δ with
            | c :: cs => cnS aT gT gU dep md D as rest hp fl g gr fs (fun st hp fl g gr fs => nx me (pc + 3) (D + 1) lo st fr hp fl g gr fs) (c :: cs)
            | [] => gSp (padA maxL (lcA as)) (fun lo2 => gPc D (fun D => ex D id 0 lo2 [] ((me, pc + 3, lo, rest) :: fr) hp fl g gr fs))
      | _ => false) n
end EX
/-! THE CHECKER, 12: soundness of the walk -/
section GS
variable {SA : Sta} {d me pc o np kf mx : Nat} {y : MethodName} {cc : ByteArray} {ret : Option FieldType} {tab : List (Nat × Nat × Instr)} {ls ls' : Lo} {st st' : List Value} {M M' : Mem} {i : Instr}
theorem gs_0 (hrow : gNth mRs me = some (o, y, cc, mx, ret, np, kf, tab)) (hl : gLook tab pc = some (0, i)) (h : gAlu i st = some st') (n : Nat) : go SA (n + 1) d me pc ls st M = go SA n d me (pc + gLen i) ls st' M := by
  rw [go_succ]
  unfold gStep
  rw [hrow]
  dsimp only
  rw [hl]
  dsimp only
  rw [h]
  rfl
theorem gs_1 (hrow : gNth mRs me = some (o, y, cc, mx, ret, np, kf, tab)) (hl : gLook tab pc = some (1, i)) (h : gLoc i ls st = some (ls', st')) (n : Nat) : go SA (n + 1) d me pc ls st M = go SA n d me (pc + gLen i) ls' st' M := by
  rw [go_succ]
  unfold gStep
  rw [hrow]
  dsimp only
  rw [hl]
  dsimp only
  rw [h]
  rfl
theorem gs_2 {pc' : Nat} (hrow : gNth mRs me = some (o, y, cc, mx, ret, np, kf, tab)) (hl : gLook tab pc = some (2, i)) (h : gJmp i pc st = some (pc', st')) (n : Nat) : go SA (n + 1) d me pc ls st M = go SA n d me pc' ls st' M := by
  rw [go_succ]
  unfold gStep
  rw [hrow]
  dsimp only
  rw [hl]
  dsimp only
  rw [h]
  rfl
theorem gs_3 (hrow : gNth mRs me = some (o, y, cc, mx, ret, np, kf, tab)) (hl : gLook tab pc = some (3, i)) (h : gGet i SA o (Nat.beq kf 2) st M = some (st', M')) (n : Nat) : go SA (n + 1) d me pc ls st M = go SA n d me (pc + gLen i) ls st' M' := by
  rw [go_succ]
  unfold gStep
  rw [hrow]
  dsimp only
  rw [hl]
  dsimp only
  rw [h]
  rfl
theorem gs_4 (hrow : gNth mRs me = some (o, y, cc, mx, ret, np, kf, tab)) (hl : gLook tab pc = some (4, i)) (h : gGet i SA o (Nat.beq kf 2) st M = some (st', M')) (n : Nat) : go SA (n + 1) d me pc ls st M = go SA n d me (pc + gLen i) ls st' M' := by
  rw [go_succ]
  unfold gStep
  rw [hrow]
  dsimp only
  rw [hl]
  dsimp only
  rw [h]
  rfl
theorem gs_6 {v : Option Value} (hrow : gNth mRs me = some (o, y, cc, mx, ret, np, kf, tab)) (hl : gLook tab pc = some (6, i)) (h : gRet ret i st = some v) (n : Nat) : go SA (n + 1) d me pc ls st M = some (v, M, 0, 0) := by
  rw [go_succ]
  unfold gStep
  rw [hrow]
  dsimp only
  rw [hl]
  dsimp only
  rw [h]
  rfl
theorem gs_7n (hrow : gNth mRs me = some (o, y, cc, mx, ret, np, kf, tab)) (hl : gLook tab pc = some (7, i)) (h : gCal i o st M = some (.inl (st', M'))) (n : Nat) : go SA (n + 1) (d + 1) me pc ls st M = go SA n (d + 1) me (pc + 3) ls st' M' := by
  rw [go_succ]
  unfold gStep
  rw [hrow]
  dsimp only
  rw [hl]
  dsimp only
  rw [h]
  rfl
theorem gs_7c {id : Nat} {ls0 : Lo} {rest : List Value} (hrow : gNth mRs me = some (o, y, cc, mx, ret, np, kf, tab)) (hl : gLook tab pc = some (7, i)) (h : gCal i o st M = some (.inr (id, ls0, rest))) (n : Nat) : go SA (n + 1) (d + 1) me pc ls st M = gThen (go SA n d id 0 ls0 [] M) (fun v M' c s => gAdd c s (go SA n (d + 1) me (pc + 3) ls (v.toList ++ rest) M')) := by
  rw [go_succ]
  unfold gStep
  rw [hrow]
  dsimp only
  rw [hl]
  dsimp only
  rw [h]
  rfl
end GS
def afOK (ρ : List Int) (π : List Nat) (f : AF) (c : CF) : Prop := f.1 = c.1 ∧ f.2.1 = c.2.1 ∧ Two (loOK ρ π) f.2.2.1 c.2.2.1 ∧ Two (avOK ρ π) f.2.2.2 c.2.2.2
def rtOK (ρ : List Int) (π : List Nat) (v : Option AV) (w : Option Value) : Prop := match v, w with
  | none, none => True
  | some v, some w => avOK ρ π v w
  | _, _ => False
theorem fr_mono {ρ ρ' : List Int} {π π' : List Nat} (h : Pre ρ ρ') (h2 : Pre π π') {fr : List AF} {cf : List CF} (hf : Two (afOK ρ π) fr cf) : Two (afOK ρ' π') fr cf := Two.mono (fun _ _ q => ⟨q.1, q.2.1, Two.mono (fun _ _ z => loOK.mono h h2 z) q.2.2.1, Two.mono (fun _ _ z => avOK.mono h h2 z) q.2.2.2⟩) hf
theorem lo_mono {ρ ρ' : List Int} {π π' : List Nat} (h : Pre ρ ρ') (h2 : Pre π π') {lo : List AV} {cl : Lo} (hf : Two (loOK ρ π) lo cl) : Two (loOK ρ' π') lo cl := Two.mono (fun _ _ z => loOK.mono h h2 z) hf
section EXV
variable {aT : List Nat} {gT : List CT} {gU : List (Option Nat)} {dep : Nat → Md} {FL : Nat → List Int → Mem → Prop} {md : Md} {Δ : List CN} {me0 : Nat}
variable {cut : Nat → Bool} {chk : Nat → List AV → List AV → List HE → List FG → List Iv → List Nat → List Lin → Bool} {rtc : Option AV → List HE → List FG → List Iv → List Nat → List Lin → Bool}
theorem cnL_V {id : Nat} : ∀ {l : List CN} {c : CN}, c ∈ cnL id l → c ∈ l ∧ c.1 = id
  | [], c, h => by cases h
  | x :: r, c, h => by
    have h : c ∈ cond (Nat.beq x.1 id) (x :: cnL id r) (cnL id r) := h
    cases hb : Nat.beq x.1 id with
    | true =>
      rw [hb] at h
      rcases List.mem_cons.mp h with rfl | h
      · exact ⟨List.mem_cons_self, Nat.eq_of_beq_eq_true hb⟩
      · obtain ⟨h1, h2⟩ := cnL_V h
        exact ⟨List.mem_cons_of_mem _ h1, h2⟩
    | false =>
      rw [hb] at h
      obtain ⟨h1, h2⟩ := cnL_V h
      exact ⟨List.mem_cons_of_mem _ h1, h2⟩
theorem cnS_V {D : Nat} {as rest : List AV} {hp : List HE} {fl : List FG} {g : List Iv} {gr : List Nat} {fs : List Lin} {k : List AV → List HE → List FG → List Iv → List Nat → List Lin → Bool} : ∀ (l : List CN), cnS aT gT gU dep md D as rest hp fl g gr fs k l = true → ∃ c ∈ l, cnA aT gT gU dep c md D as rest hp fl g gr fs k = true
  | [], h => by cases h
  | x :: r, h => by
    have h : (cnA aT gT gU dep x md D as rest hp fl g gr fs k || cnS aT gT gU dep md D as rest hp fl g gr fs k r) = true := h
    rw [Bool.or_eq_true] at h
    rcases h with h | h
    · exact ⟨x, List.mem_cons_self, h⟩
    · obtain ⟨c, hc, h⟩ := cnS_V r h
      exact ⟨c, List.mem_cons_of_mem _ hc, h⟩
theorem retA_V {ρ : List Int} {π : List Nat} {g : List Iv} {fs : List Lin} (hg : gOK ρ g) (hf : fOK ρ fs) {ret : Option FieldType} {i : Instr} {st : List AV} {cst : List Value} {v : Option AV} (hs : Two (avOK ρ π) st cst) (h : retA ret i st g fs = some v) : ∃ w, gRet ret i cst = some w ∧ rtOK ρ π v w := by
  unfold retA at h
  split at h
  · split at h
    · cases h
      cases cst with
      | nil => exact ⟨none, rfl, trivial⟩
      | cons _ _ => exact hs.elim
    · cases h
  · split at h
    · cases h
      obtain ⟨x, cr, rfl, hx, hr⟩ := two_i hs
      cases cr with
      | nil => exact ⟨some (.int x), rfl, av_i (π := π) hx⟩
      | cons _ _ => exact hr.elim
    · obtain ⟨h1, h2⟩ := cond_inv h
      cases h2
      obtain ⟨x, cr, rfl, hx, hr⟩ := two_i hs
      cases cr with
      | nil =>
        refine ⟨some (.int x), ?_, av_i (π := π) hx⟩
        have := inR_V hg hf h1 hx
        show cond (fits .boolean (.int x)) _ none = _
        rw [fits01 this.1 this.2]
        rfl
      | cons _ _ => exact hr.elim
    · cases h
  · cases h
theorem two_drop1 {ρ : List Int} {π : List Nat} {st : List AV} {cst : List Value} (hs : Two (avOK ρ π) st cst) {np : Nat} {v : AV} {r : List AV} (h : st.drop np = v :: r) : ∃ w cr, cst.drop np = w :: cr ∧ avOK ρ π v w ∧ Two (avOK ρ π) r cr := by
  have := Two.drop np hs
  rw [h] at this
  exact two_c this
theorem calA_V {ρ : List Int} {π gr : List Nat} (hp : prOK aT π gr) {M : Mem} (hT : TM aT gT M) {i : Instr} {o : Nat} {st : List AV} {cst : List Value} (hs : Two (avOK ρ π) st cst) {x : Nat ⊕ (Nat × Nat × List AV × List AV)} (h : calA aT gT i o gr st = some x) : match x with
    | .inl id => ∀ q, gNat id cst M = some q → gRoom q.1 = true → gCal i o cst M = some (.inl q)
    | .inr (id, maxL, as, rest) => ∃ ws cr q, gNth mRs id = some q ∧ q.2.2.2.1 = maxL ∧ Two (avOK ρ π) as ws ∧ Two (avOK ρ π) rest cr ∧ gCal i o cst M = some (.inr (id, gPad maxL (gArgs ws), cr)) := by
  have main : ∀ ix kind, gCal i o cst M = gCalk o ix kind cst M → (match gOwn mRes o ix with
    | none => none
    | some (id, nest, _) => match Nat.ble 1000 id with
      | true => cond (Nat.beq kind 0 && (Nat.ble 1001 id && Nat.ble id 1005)) (some (.inl id)) none
      | false => match gNth mRs id with
        | none => none
        | some (o2, _, _, maxL, _, np, kf, _) => match kind with
          | 0 => cond (Nat.beq kf 0 && (Nat.ble np st.length && (roomA (st.drop np) && Nat.ble (lcA (st.take np).reverse).length maxL))) (some (.inr (id, maxL, (st.take np).reverse, st.drop np))) none
          | k + 1 => match st.drop np with
            | .inr (.inl R) :: r => cond ((Nat.beq kf (k + 1) && (Nat.beq nest 0 || Nat.beq k 1)) && (Nat.ble np st.length && ((match rsG aT gr R with
              | some g2 => (match gNth gT g2 with
                | some (.inl (c, _)) => Nat.beq c o2
                | _ => false)
              | none => false) && (roomA r && Nat.ble (lcA (.inr (.inl R) :: (st.take np).reverse)).length maxL)))) (some (.inr (id, maxL, .inr (.inl R) :: (st.take np).reverse, r))) none
            | _ => none) = some x → (match x with
    | .inl id => ∀ q, gNat id cst M = some q → gRoom q.1 = true → gCal i o cst M = some (.inl q)
    | .inr (id, maxL, as, rest) => ∃ ws cr q, gNth mRs id = some q ∧ q.2.2.2.1 = maxL ∧ Two (avOK ρ π) as ws ∧ Two (avOK ρ π) rest cr ∧ gCal i o cst M = some (.inr (id, gPad maxL (gArgs ws), cr))) := by
    intro ix kind e h
    rw [e]
    unfold gCalk
    split at h
    · cases h
    · rename_i id nest n9 e1
      rw [e1]
      dsimp only
      split at h
      · rename_i e2
        obtain ⟨h1, h2⟩ := cond_inv h
        cases h2
        rw [Bool.and_eq_true] at h1
        cases Nat.eq_of_beq_eq_true h1.1
        have hid : Nat.beq id 1000 = false := by
          have := Nat.le_of_ble_eq_true (and_t h1.2).1
          cases hb : Nat.beq id 1000 with
          | false => rfl
          | true => have := Nat.eq_of_beq_eq_true hb; omega
        intro q hq hroom
        rw [e2]
        dsimp only
        rw [hq]
        dsimp only
        have hid2 : Nat.ble 1006 id = false := by
          have := Nat.le_of_ble_eq_true (and_t h1.2).2
          cases hb : Nat.ble 1006 id with
          | false => rfl
          | true => have := Nat.le_of_ble_eq_true hb; omega
        rw [hid, hid2, hroom]
        rfl
      · rename_i e2
        rw [e2]
        dsimp only
        split at h
        · cases h
        · rename_i o2 y9 cc9 maxL ret9 np kf tab9 e3
          rw [e3]
          dsimp only
          have hlen := hs.len
          split at h
          · obtain ⟨h1, h2⟩ := cond_inv h
            cases h2
            obtain ⟨a1, h1⟩ := and_t h1
            obtain ⟨a2, h1⟩ := and_t h1
            obtain ⟨a3, a4⟩ := and_t h1
            have t1 := Two.rev (Two.take np hs)
            have t2 := Two.drop np hs
            refine ⟨(cst.take np).reverse, cst.drop np, (o2, y9, cc9, maxL, ret9, np, kf, tab9), e3, rfl, t1, t2, ?_⟩
            have a5 : Nat.ble (gArgs (cst.take np).reverse).length maxL = true := by
              rw [← (lcA_V _ t1).len]
              exact a4
            rw [← hlen, a1, a2, roomA_V t2 a3, a5]
            rfl
          · rename_i k
            split at h
            · rename_i R r e4
              obtain ⟨h1, h2⟩ := cond_inv h
              cases h2
              obtain ⟨a1, h1⟩ := and_t h1
              obtain ⟨a2, h1⟩ := and_t h1
              obtain ⟨a3, h1⟩ := and_t h1
              obtain ⟨a4, a5⟩ := and_t h1
              obtain ⟨w, cr, e5, ⟨a, ha, rfl⟩, hr⟩ := two_drop1 hs e4
              have t1 := Two.rev (Two.take np hs)
              have t2 : Two (avOK ρ π) (.inr (.inl R) :: (st.take np).reverse) (.ref a :: (cst.take np).reverse) := Two.mk (av_r ha) t1
              refine ⟨.ref a :: (cst.take np).reverse, cr, (o2, y9, cc9, maxL, ret9, np, kf, tab9), e3, rfl, t2, hr, ?_⟩
              have a6 : Nat.ble (gArgs (.ref a :: (cst.take np).reverse)).length maxL = true := by
                rw [← (lcA_V _ t2).len]
                exact a5
              have a7 : gRecv M (.ref a) o2 = true := by
                split at a3
                · rename_i g2 q1
                  split at a3
                  · rename_i c fts q2
                    cases Nat.eq_of_beq_eq_true a3
                    obtain ⟨a8, ha8, hg8⟩ := rsG_V hp q1
                    cases ha.symm.trans ha8
                    obtain ⟨e9, he9, vs, rfl, -, -⟩ := hT.at hg8 q2
                    show (match gNth M a with
                      | some (.inr (c, _)) => Nat.beq c o2
                      | _ => false) = true
                    rw [he9]
                    exact Nat.beq_refl _
                  · cases a3
                · cases a3
              rw [e5]
              dsimp only
              obtain ⟨b1, b2⟩ := and_t a1
              rw [← hlen, b1, b2, a2, a7, roomA_V hr a4, a6]
              rfl
            · cases h
  unfold calA at h
  cases i
  case invokestatic ix => exact main ix 0 rfl h
  case invokevirtual ix => exact main ix 1 rfl h
  case invokespecial ix => exact main ix 2 rfl h
  all_goals cases h
set_option maxHeartbeats 4000000 in
theorem exe_V (hU : uOK aT gU) (hd : depOK aT dep FL) (hct : cfOK FL) (hΔ : ∀ c ∈ Δ, cnOK aT gT FL c) {ρ0 : List Int} {π0 : List Nat} {M0 : Mem} {Q : Option Value → Mem → Prop} {d0 : Nat}
    (Hc : ∀ pc lo st hp fl g gr fs, cut pc = true → chk pc lo st hp fl g gr fs = true → ∀ ρ π cl cst M, Pre ρ0 ρ → Pre π0 π → Two (loOK ρ π) lo cl → Two (avOK ρ π) st cst → Wd aT gT FL ρ π hp fl g gr fs M → Frm aT md M0 M → RF Q [] d0 me0 pc cl cst M)
    (Hr : ∀ v hp fl g gr fs, rtc v hp fl g gr fs = true → ∀ ρ π w M, Pre ρ0 ρ → Pre π0 π → rtOK ρ π v w → Wd aT gT FL ρ π hp fl g gr fs M → Frm aT md M0 M → Q w M) :
    ∀ n D me pc lo st fr hp fl g gr fs, exe aT gT gU dep md Δ me0 cut chk rtc n D me pc lo st fr hp fl g gr fs = true → ∀ ρ π cl cst cf M d, Pre ρ0 ρ → Pre π0 π → D ≤ d → d + cf.length = d0 → Two (loOK ρ π) lo cl → Two (avOK ρ π) st cst → Two (afOK ρ π) fr cf → Wd aT gT FL ρ π hp fl g gr fs M → Frm aT md M0 M → RF Q cf d me pc cl cst M := by
  intro n
  induction n with
  | zero => intro D me pc lo st fr hp fl g gr fs h; cases h
  | succ n ih =>
    intro D me pc lo st fr hp fl g gr fs h ρ π cl cst cf M d p0 pi0 hD hd0 hl hs hf hW hF
    have nx : ∀ (me pc D : Nat) (lo st : List AV) (fr : List AF) (hp : List HE) (fl : List FG) (g : List Iv) (gr : List Nat) (fs : List Lin), gPc pc (fun pc => match fr with
      | [] => cond (cut pc) (Nat.beq me me0 && chk pc lo st hp fl g gr fs) (exe aT gT gU dep md Δ me0 cut chk rtc n D me pc lo st [] hp fl g gr fs)
      | f :: fr => exe aT gT gU dep md Δ me0 cut chk rtc n D me pc lo st (f :: fr) hp fl g gr fs) = true → ∀ ρ π cl cst cf M d, Pre ρ0 ρ → Pre π0 π → D ≤ d → d + cf.length = d0 → Two (loOK ρ π) lo cl → Two (avOK ρ π) st cst → Two (afOK ρ π) fr cf → Wd aT gT FL ρ π hp fl g gr fs M → Frm aT md M0 M → RF Q cf d me pc cl cst M := by
      intro me pc D lo st fr hp fl g gr fs h ρ π cl cst cf M d p0 pi0 hD hd0 hl hs hf hW hF
      rw [gPc_eq] at h
      cases fr with
      | nil =>
        cases cf with
        | cons _ _ => exact hf.elim
        | nil =>
          dsimp only at h
          cases hcut : cut pc with
          | false =>
            rw [hcut, cond_ff] at h
            exact ih _ _ _ _ _ _ _ _ _ _ _ h ρ π cl cst [] M d p0 pi0 hD hd0 hl hs hf hW hF
          | true =>
            rw [hcut, cond_tt] at h
            obtain ⟨h1, h2⟩ := and_t h
            cases Nat.eq_of_beq_eq_true h1
            have : d = d0 := hd0
            subst this
            exact Hc pc lo st hp fl g gr fs hcut h2 ρ π cl cst M p0 pi0 hl hs hW hF
      | cons f fr => exact ih _ _ _ _ _ _ _ _ _ _ _ h ρ π cl cst cf M d p0 pi0 hD hd0 hl hs hf hW hF
    unfold exe at h
    dsimp only at h
    split at h
    · cases h
    · rename_i o y9 cc9 mx9 ret np9 kf tab hrow
      split at h
      · cases h
      · rename_i kd i hlook
        split at h
        · obtain ⟨cst', st', g', fs', ρ', e, p1, hs', hg', hf', h⟩ := aluA_V (π := π) hW.2.2.1 hW.2.2.2.2.1 hs h
          exact RF.step (gs_0 hrow hlook e) (nx _ _ _ _ _ _ _ _ _ _ _ h ρ' π cl cst' cf M d (p0.trans p1) pi0 hD hd0 (lo_mono p1 (Pre.refl _) hl) hs' (fr_mono p1 (Pre.refl _) hf) ⟨(hW.ints p1 hg').1, (hW.ints p1 hg').2.1, hg', hW.2.2.2.1, hf', hW.2.2.2.2.2⟩ hF)
        · obtain ⟨cl', cst', lo', st', g', fs', ρ', e, p1, hl', hs', hg', hf', h⟩ := locA_V hl hs hW.2.2.1 hW.2.2.2.2.1 h
          exact RF.step (gs_1 hrow hlook e) (nx _ _ _ _ _ _ _ _ _ _ _ h ρ' π cl' cst' cf M d (p0.trans p1) pi0 hD hd0 hl' hs' (fr_mono p1 (Pre.refl _) hf) ⟨(hW.ints p1 hg').1, (hW.ints p1 hg').2.1, hg', hW.2.2.2.1, hf', hW.2.2.2.2.2⟩ hF)
        · obtain ⟨pc', cst', st', g', fs', e, hs', hg', hf', h⟩ := jmpA_V (π := π) hW.2.2.1 hW.2.2.2.2.1 hs h
          exact RF.step (gs_2 hrow hlook e) (nx _ _ _ _ _ _ _ _ _ _ _ h ρ π cl cst' cf M d p0 pi0 hD hd0 hl hs' hf ⟨hW.1, hW.2.1, hg', hW.2.2.2.1, hf', hW.2.2.2.2.2⟩ hF)
        · obtain ⟨cst', M', st', hp', fl', g', gr', fs', ρ', π', e, p1, p2, hs', hW', hF', h⟩ := getA_V (ini := Nat.beq kf 2) hU hd hW hs h
          exact RF.step (gs_3 hrow hlook e) (nx _ _ _ _ _ _ _ _ _ _ _ h ρ' π' cl cst' cf M' d (p0.trans p1) (pi0.trans p2) hD hd0 (lo_mono p1 p2 hl) hs' (fr_mono p1 p2 hf) hW' (hF.trans hF'))
        · obtain ⟨cst', M', st', hp', fl', g', gr', fs', ρ', π', e, p1, p2, hs', hW', hF', h⟩ := getA_V (ini := Nat.beq kf 2) hU hd hW hs h
          exact RF.step (gs_4 hrow hlook e) (nx _ _ _ _ _ _ _ _ _ _ _ h ρ' π' cl cst' cf M' d (p0.trans p1) (pi0.trans p2) hD hd0 (lo_mono p1 p2 hl) hs' (fr_mono p1 p2 hf) hW' (hF.trans hF'))
        · cases h
        · split at h
          · cases h
          · rename_i v hv
            obtain ⟨w, e, hrt⟩ := retA_V hW.2.2.1 hW.2.2.2.2.1 hs hv
            cases fr with
            | nil =>
              cases cf with
              | cons _ _ => exact hf.elim
              | nil => exact ⟨w, M, Ev.ret (gs_6 hrow hlook e), Hr _ _ _ _ _ _ h ρ π w M p0 pi0 hrt hW hF⟩
            | cons f fr =>
              cases cf with
              | nil => exact hf.elim
              | cons c cf =>
                obtain ⟨me1, pc1, lo1, st1⟩ := f
                obtain ⟨me2, pc2, cl1, cst1⟩ := c
                obtain ⟨⟨h1, h2, h3, h4⟩, hf2⟩ := hf
                cases h1
                cases h2
                refine RF.ret (gs_6 hrow hlook e) (nx _ _ _ _ _ _ _ _ _ _ _ h ρ π cl1 _ cf M (d + 1) p0 pi0 (Nat.succ_le_succ hD) ?_ h3 ?_ hf2 hW hF)
                · rw [List.length_cons] at hd0
                  omega
                · cases v with
                  | none =>
                    cases w with
                    | none => exact h4
                    | some _ => exact hrt.elim
                  | some v =>
                    cases w with
                    | none => exact hrt.elim
                    | some w => exact Two.mk hrt h4
        · cases D with
          | zero => cases h
          | succ D =>
            obtain ⟨d', rfl⟩ : ∃ d', d = d' + 1 := ⟨d - 1, by omega⟩
            have hD' : D ≤ d' := by omega
            dsimp only at h
            split at h
            · cases h
            · rename_i id hc
              have hc := calA_V hW.2.2.2.1 hW.2.2.2.2.2 hs hc
              obtain ⟨cst', M', st', hp', fl', g', fs', ρ', e, p1, hs', hW', hF', h⟩ := natA_V hd hW hs h
              obtain ⟨hr, h⟩ := cond_t (α := Nat) h
              exact RF.step (gs_7n hrow hlook (hc _ e (roomA_V hs' hr))) (nx _ _ _ _ _ _ _ _ _ _ _ h ρ' π cl cst' cf M' _ (p0.trans p1) pi0 hD hd0 (lo_mono p1 (Pre.refl _) hl) hs' (fr_mono p1 (Pre.refl _) hf) hW' (hF.trans hF'))
            · rename_i id maxL as rest hc
              obtain ⟨ws, cr, q, hq, hm, hws, hcr, hgc⟩ := calA_V hW.2.2.2.1 hW.2.2.2.2.2 hs hc
              subst hm
              split at h
              · rename_i c9 cs9 hcn
                obtain ⟨c, hcm, h⟩ := cnS_V _ h
                rw [← hcn] at hcm
                obtain ⟨hm, hid⟩ := cnL_V hcm
                subst hid
                obtain ⟨v, M', e1, e2, st', hp', fl', g', gr', fs', ρ', π', p1, p2, hs', hW', h⟩ := cnA_V hU hd hct (hΔ c hm) hD' hq hW hws hcr h
                exact RF.evc (gs_7c hrow hlook hgc) e1 (nx _ _ _ _ _ _ _ _ _ _ _ h ρ' π' cl _ cf M' _ (p0.trans p1) (pi0.trans p2) hD hd0 (lo_mono p1 p2 hl) hs' (fr_mono p1 p2 hf) hW' (hF.trans e2))
              · rw [gSp_eq, gPc_eq] at h
                refine RF.call (gs_7c hrow hlook hgc) (ih _ _ _ _ _ _ _ _ _ _ _ h ρ π _ [] ((me, pc + 3, cl, cr) :: cf) M d' p0 pi0 hD' ?_ (padA_V _ (lcA_V _ hws)) trivial (Two.mk ⟨rfl, rfl, hl, hcr⟩ hf) hW hF)
                rw [List.length_cons]
                omega
        · cases h
end EXV
/-! THE CHECKER, 13: places where the walk is cut; ranks; a whole method -/
/-- what is told at such a place: locals; fields (reference, class, field, value); flags; intervals; groups; facts; ranks -/
abbrev TF : Type := RS × Nat × Nat × AV
/-- an element: row, place, value -/
abbrev TE : Type := Nat × Lin × AV
/-- .. and at the end what the arguments are, and elements -/
abbrev TP : Type := List AV × List TF × List FG × List Iv × List Nat × List Lin × List Lin × List AV × List TE
noncomputable def subN (σ : List Lin) : Ln → Option Lin
  | [] => some ([], 0)
  | (s, c) :: r => match gNth σ s, subN σ r with
    | some L, some M => some (liAdd (liMul c L) M)
    | _, _ => none
noncomputable def subL (σ : List Lin) (L : Lin) : Option Lin := match subN σ L.1 with
  | some M => some (liAdc M L.2)
  | none => none
theorem subN_V {ρ ρt : List Int} {σ : List Lin} (h : Two (fun L x => liV ρ L = some x) σ ρt) : ∀ {l : Ln} {M : Lin}, subN σ l = some M → ∃ x, liV ρ M = some x ∧ lnV ρt l = some x := by
  intro l
  induction l with
  | nil => intro M hM; cases hM; exact ⟨0, rfl, rfl⟩
  | cons p r ih =>
    intro M hM
    obtain ⟨s, c⟩ := p
    unfold subN at hM
    split at hM
    · rename_i L M2 e1 e2
      cases hM
      obtain ⟨y, h1, h2⟩ := ih e2
      obtain ⟨x, hx, hx2⟩ := h.at e1
      rw [nth_eq] at hx
      exact ⟨c * x + y, liAdd_V (liMul_V c hx2) h1, lnV_mk hx h2⟩
    · cases hM
theorem subL_V {ρ ρt : List Int} {σ : List Lin} (h : Two (fun L x => liV ρ L = some x) σ ρt) {L M : Lin} (hM : subL σ L = some M) : ∃ x, liV ρ M = some x ∧ liV ρt L = some x := by
  unfold subL at hM
  split at hM
  · rename_i M2 e
    cases hM
    obtain ⟨x, h1, h2⟩ := subN_V h e
    exact ⟨x + L.2, liAdc_V _ h1, liV_mk (l := L.1) (k := L.2) h2⟩
  · cases hM
noncomputable def subR (σr : List RS) : RS → Option RS
  | .inl a => some (.inl a)
  | .inr s => gNth σr s
theorem subR_V {π πt : List Nat} {σr : List RS} (h : Two (fun R a => rsV π R = some a) σr πt) {R R2 : RS} (h2 : subR σr R = some R2) : ∃ a, rsV π R2 = some a ∧ rsV πt R = some a := by
  rcases R with a | s
  · cases h2
    exact ⟨a, rfl, rfl⟩
  · obtain ⟨a, ha, ha2⟩ := h.at h2
    exact ⟨a, ha2, ha⟩
/-- a value as the place has it -/
noncomputable def avM (σ : List Lin) (σr : List RS) (t v : AV) : Bool := match t, v with
  | .inl Lt, .inl L => match subL σ Lt with
    | some M => isZ (liSub L M)
    | none => false
  | .inr (.inl Rt), .inr (.inl R) => match subR σr Rt with
    | some R2 => rsEq R2 R
    | none => false
  | .inr (.inr 0), v => avW1 v
  | .inr (.inr c), .inr (.inr d) => Nat.beq c d
  | _, _ => false
theorem avM_V {ρ ρt : List Int} {π πt : List Nat} {σ : List Lin} {σr : List RS} (h1 : Two (fun L x => liV ρ L = some x) σ ρt) (h2 : Two (fun R a => rsV π R = some a) σr πt) {t v : AV} {w : Value} (h : avM σ σr t v = true) (hv : avOK ρ π v w) : avOK ρt πt t w := by
  unfold avM at h
  split at h
  · rename_i Lt L
    split at h
    · rename_i M e
      obtain ⟨x, rfl, hx⟩ := hv
      obtain ⟨y, hy, hy2⟩ := subL_V h1 e
      refine av_i ?_
      have hz := liSub_V hx hy
      unfold isZ at h
      split at h
      · rename_i e2
        rw [e2] at hz
        have : liV ρ ([], Int.ofNat 0) = some 0 := rfl
        rw [this] at hz
        have := Option.some.inj hz
        rw [hy2]
        congr 1
        omega
      · cases h
    · cases h
  · rename_i Rt R
    split at h
    · rename_i R2 e
      obtain ⟨a, ha, rfl⟩ := hv
      cases rsEq_V h
      obtain ⟨b, hb, hb2⟩ := subR_V h2 e
      cases ha.symm.trans hb
      exact av_r hb2
    · cases h
  · exact avW1_ok hv h
  · rename_i c d hc
    cases Nat.eq_of_beq_eq_true h
    match c, hv with
    | 0, hv => exact hv
    | 1, hv => exact hv
    | 2, hv => exact hv
    | c + 3, hv => exact hv
  · cases h
theorem loM_V {ρ ρt : List Int} {π πt : List Nat} {σ : List Lin} {σr : List RS} (h1 : Two (fun L x => liV ρ L = some x) σ ρt) (h2 : Two (fun R a => rsV π R = some a) σr πt) {t v : AV} {w : Option Value} (h : avM σ σr t v = true) (hv : loOK ρ π v w) : loOK ρt πt t w := by
  by_cases h0 : v = .inr (.inr 0)
  · subst h0
    by_cases ht : t = .inr (.inr 0)
    · subst ht
      exact hv
    · exfalso
      rcases t with L | R | c
      · cases h
      · cases h
      · cases c with
        | zero => exact ht rfl
        | succ c => cases h
  · obtain ⟨x, rfl, hx⟩ := lo_av hv h0
    exact lo_some (avM_V h1 h2 h hx)
noncomputable def avMs (σ : List Lin) (σr : List RS) : List AV → List AV → Bool
  | [], [] => true
  | t :: ts, v :: vs => avM σ σr t v && avMs σ σr ts vs
  | _, _ => false
theorem avMs_V {ρ ρt : List Int} {π πt : List Nat} {σ : List Lin} {σr : List RS} (h1 : Two (fun L x => liV ρ L = some x) σ ρt) (h2 : Two (fun R a => rsV π R = some a) σr πt) : ∀ (ts vs : List AV) {cl : Lo}, avMs σ σr ts vs = true → Two (loOK ρ π) vs cl → Two (loOK ρt πt) ts cl := by
  intro ts
  induction ts with
  | nil =>
    intro vs cl h hl
    cases vs with
    | nil =>
      cases cl with
      | nil => trivial
      | cons _ _ => exact hl.elim
    | cons _ _ => cases h
  | cons t ts ih =>
    intro vs cl h hl
    cases vs with
    | nil => cases h
    | cons v vs =>
      cases cl with
      | nil => exact hl.elim
      | cons c cl =>
        obtain ⟨h3, h4⟩ := and_t h
        exact Two.mk (loM_V h1 h2 h3 hl.1) (ih vs h4 hl.2)
/-- an unknown of the place, met for the first time -/
noncomputable def avB (t v : AV) (σ : List Lin) (σr : List RS) : List Lin × List RS := match t, v with
  | .inl ([(s, .ofNat 1)], .ofNat 0), .inl L => cond (Nat.beq s σ.length) (σ ++ [L], σr) (σ, σr)
  | .inr (.inl (.inr s)), .inr (.inl R) => cond (Nat.beq s σr.length) (σ, σr ++ [R]) (σ, σr)
  | _, _ => (σ, σr)
noncomputable def avBs : List AV → List AV → List Lin → List RS → List Lin × List RS
  | t :: ts, v :: vs, σ, σr => avBs ts vs (avB t v σ σr).1 (avB t v σ σr).2
  | _, _, σ, σr => (σ, σr)
section TPL
variable (aT : List Nat) (gT : List CT) (gU : List (Option Nat)) (dep : Nat → Md) (FL : Nat → List Int → Mem → Prop)
/-- the told fields, one by one -/
noncomputable def tfA (ts : List TF) (σ : List Lin) (σr : List RS) (hp : List HE) (g : List Iv) (gr : List Nat) (vs : List AV) (k : List Lin → List RS → List AV → List HE → List Iv → List Nat → Bool) : Bool := match ts with
  | [] => k σ σr vs hp g gr
  | (Rt, ci, f, vt) :: r => match subR σr Rt with
    | none => false
    | some R => rdF aT gT gU R ci f hp g gr (fun v hp g gr => tfA r (avB vt v σ σr).1 (avB vt v σ σr).2 hp g gr (vs ++ [v]) k)
/-- the told elements -/
noncomputable def teA (ts : List TE) (σ : List Lin) (σr : List RS) (hp : List HE) (vs : List AV) (k : List Lin → List RS → List AV → Bool) : Bool := match ts with
  | [] => k σ σr vs
  | (a, L, vt) :: r => match subL σ L with
    | none => false
    | some M => match hpE hp a M with
      | some v => teA r (avB vt v σ σr).1 (avB vt v σ σr).2 hp (vs ++ [v]) k
      | none => false
def teOK (σ : List Lin) (hp : List HE) (t : TE) (v : AV) : Prop := ∃ M, subL σ t.2.1 = some M ∧ hpE hp t.1 M = some v
/-- what was read there -/
def tfOK (σr : List RS) (ρ : List Int) (π : List Nat) (M : Mem) (t : TF) (v : AV) : Prop := ∃ R a vs w, subR σr t.1 = some R ∧ rsV π R = some a ∧ gNth M a = some (.inr (t.2.1, vs)) ∧ gNth vs t.2.2.1 = some w ∧ avOK ρ π v w
noncomputable def ivMs (g : List Iv) (fs : List Lin) : List Lin → List Iv → Bool
  | [], [] => true
  | L :: Ls, p :: ps => (match liI g L with
    | some _ => true
    | none => false) && (inR g fs L p.1 p.2 && ivMs g fs Ls ps)
  | _, _ => false
noncomputable def grMs (gr : List Nat) : List RS → List Nat → Bool
  | [], [] => true
  | R :: Rs, q :: qs => (match rsG aT gr R with
    | some g2 => Nat.beq g2 q
    | none => false) && grMs gr Rs qs
  | _, _ => false
noncomputable def fsMs (g : List Iv) (fs : List Lin) (σ : List Lin) : List Lin → Bool
  | [] => true
  | F :: r => (match subL σ F with
    | some L => nn g fs L
    | none => false) && fsMs g fs σ r
noncomputable def subLs (σ : List Lin) : List Lin → Option (List Lin)
  | [] => some []
  | L :: r => match subL σ L, subLs σ r with
    | some M, some Ms => some (M :: Ms)
    | _, _ => none
noncomputable def flM (σ : List Lin) (fl : List FG) (f : FG) : Bool := match subLs σ f.2 with
  | some Ms => fgM fl (f.1, Ms)
  | none => false
noncomputable def lxA (g : List Iv) (fs : List Lin) : List Lin → List Lin → Bool
  | n :: ns, o :: os => (nn g fs (liAdc (liSub o n) (-1)) && nn g fs n) || (nn g fs (liSub o n) && lxA g fs ns os)
  | _, _ => false
/-- the state is as the place tells; old: the ranks at the last place, if there was one; ga: the arguments -/
noncomputable def tpA (t : TP) (old : Option (List Lin)) (ga : List AV) (lo : List AV) (hp : List HE) (fl : List FG) (g : List Iv) (gr : List Nat) (fs : List Lin) : Bool :=
  tfA aT gT gU t.2.1 (avBs (t.1 ++ t.2.2.2.2.2.2.2.1) (lo ++ ga) [] []).1 (avBs (t.1 ++ t.2.2.2.2.2.2.2.1) (lo ++ ga) [] []).2 hp g gr [] (fun σ σr vs hp g gr => fLs σ (fun σ => teA t.2.2.2.2.2.2.2.2 σ σr hp [] (fun σ σr ves => fLs σ (fun σ =>
    avMs σ σr t.1 lo && (avMs σ σr t.2.2.2.2.2.2.2.1 ga && (avMs σ σr (t.2.1.map (fun q => q.2.2.2)) vs && (avMs σ σr (t.2.2.2.2.2.2.2.2.map (fun q => q.2.2)) ves && (ivMs g fs σ t.2.2.2.1 && (grMs aT gr σr t.2.2.2.2.1 && (fsMs g fs σ t.2.2.2.2.2.1 && (t.2.2.1.all (flM σ fl) && (match old with
      | none => true
      | some os => match subLs σ t.2.2.2.2.2.2.1 with
        | some ns => lxA g fs ns os
        | none => false))))))))))))
def hpT (t : TP) : List HE := t.2.1.map (fun q => ((q.1, .inl q.2.2.1, q.2.2.2) : HE)) ++ t.2.2.2.2.2.2.2.2.map (fun q => ((.inl q.1, .inr q.2.1, q.2.2) : HE))
variable {aT gT gU dep FL}
/-- ranks: lists of numbers of one length -/
def LX : List Nat → List Nat → Prop
  | a :: as, b :: bs => a < b ∨ (a ≤ b ∧ LX as bs)
  | _, _ => False
theorem lx_ind : ∀ (n : Nat) (P : List Nat → Prop), (∀ r : List Nat, r.length = n → (∀ s : List Nat, s.length = n → LX s r → P s) → P r) → ∀ r : List Nat, r.length = n → P r := by
  intro n
  induction n with
  | zero =>
    intro P h r hr
    exact h r hr (fun s hs hl => by
      cases r with
      | nil => cases s <;> exact hl.elim
      | cons _ _ => cases hr)
  | succ n ih =>
    intro P h r hr
    cases r with
    | nil => cases hr
    | cons a as =>
      have main : ∀ k : Nat, ∀ a, a < k → ∀ as : List Nat, as.length = n → P (a :: as) := by
        intro k
        induction k with
        | zero => intro a ha; exact absurd ha (Nat.not_lt_zero _)
        | succ k ihk =>
          intro a ha
          refine ih (fun as => P (a :: as)) (fun as has hin => ?_)
          refine h (a :: as) (by rw [List.length_cons, has]) (fun s hs hl => ?_)
          cases s with
          | nil => cases hs
          | cons b bs =>
            have hbs : bs.length = n := by rw [List.length_cons] at hs; omega
            rcases hl with hl | ⟨hl, hl2⟩
            · exact ihk b (by omega) bs hbs
            · rcases Nat.lt_or_eq_of_le hl with hl | rfl
              · exact ihk b (by omega) bs hbs
              · exact hin bs hbs hl2
      exact main (a + 1) a (Nat.lt_succ_self a) as (by rw [List.length_cons] at hr; omega)
def rkOK (ρ : List Int) (L : Lin) (n : Nat) : Prop := ∃ x, liV ρ L = some x ∧ x.toNat = n
theorem liI_some {ρ : List Int} {g : List Iv} (hg : gOK ρ g) : ∀ (l : Ln) {p : Iv}, lnI g l = some p → ∃ x, lnV ρ l = some x := by
  intro l
  induction l with
  | nil => intro p _; exact ⟨0, rfl⟩
  | cons q r ih =>
    intro p h
    obtain ⟨s, c⟩ := q
    unfold lnI at h
    split at h
    · rename_i lo hi a b e1 e2
      obtain ⟨x, hx, -⟩ := hg.2 s _ e1
      obtain ⟨y, hy⟩ := ih e2
      exact ⟨_, lnV_mk hx hy⟩
    · cases h
theorem ivMs_V {ρ : List Int} {g : List Iv} {fs : List Lin} (hg : gOK ρ g) (hf : fOK ρ fs) : ∀ (σ : List Lin) (ps : List Iv), ivMs g fs σ ps = true → ∃ ρt, Two (fun L x => liV ρ L = some x) σ ρt ∧ gOK ρt ps := by
  intro σ
  induction σ with
  | nil =>
    intro ps h
    cases ps with
    | nil => exact ⟨[], trivial, rfl, fun i p hp => by cases hp⟩
    | cons _ _ => cases h
  | cons L σ ih =>
    intro ps h
    cases ps with
    | nil => cases h
    | cons p ps =>
      obtain ⟨h1, h⟩ := and_t h
      obtain ⟨h2, h3⟩ := and_t h
      obtain ⟨ρt, i1, i2, i3⟩ := ih ps h3
      have : ∃ x, liV ρ L = some x := by
        split at h1
        · rename_i q e
          unfold liI at e
          split at e
          · rename_i a b e2
            obtain ⟨x, hx⟩ := liI_some hg _ e2
            exact ⟨_, liV_mk (l := L.1) (k := L.2) hx⟩
          · cases e
        · cases h1
      obtain ⟨x, hx⟩ := this
      have hb := inR_V hg hf h2 hx
      refine ⟨x :: ρt, Two.mk hx i1, by rw [List.length_cons, List.length_cons, i2], fun i q hq => ?_⟩
      cases i with
      | zero => cases hq; exact ⟨x, rfl, hb⟩
      | succ i => exact i3 i q hq
theorem grMs_V {π gr : List Nat} (hp : prOK aT π gr) : ∀ (σr : List RS) (qs : List Nat), grMs aT gr σr qs = true → ∃ πt, Two (fun R a => rsV π R = some a) σr πt ∧ prOK aT πt qs := by
  intro σr
  induction σr with
  | nil =>
    intro qs h
    cases qs with
    | nil => exact ⟨[], trivial, rfl, fun s g hg => by cases hg⟩
    | cons _ _ => cases h
  | cons R σr ih =>
    intro qs h
    cases qs with
    | nil => cases h
    | cons q qs =>
      obtain ⟨h1, h2⟩ := and_t h
      obtain ⟨πt, i1, i2, i3⟩ := ih qs h2
      split at h1
      · rename_i g2 e
        cases Nat.eq_of_beq_eq_true h1
        obtain ⟨a, ha, hag⟩ := rsG_V hp e
        refine ⟨a :: πt, Two.mk ha i1, by rw [List.length_cons, List.length_cons, i2], fun s g hg => ?_⟩
        cases s with
        | zero => cases hg; exact ⟨a, rfl, hag⟩
        | succ s => exact i3 s g hg
      · cases h1
theorem fsMs_V {ρ ρt : List Int} {g : List Iv} {fs : List Lin} (hg : gOK ρ g) (hf : fOK ρ fs) {σ : List Lin} (h1 : Two (fun L x => liV ρ L = some x) σ ρt) : ∀ (F : List Lin), fsMs g fs σ F = true → fOK ρt F := by
  intro F
  induction F with
  | nil => intro _ L hL; cases hL
  | cons L F ih =>
    intro h M hM
    obtain ⟨h2, h3⟩ := and_t h
    rcases List.mem_cons.mp hM with rfl | hM
    · split at h2
      · rename_i N e
        obtain ⟨x, hx, hx2⟩ := subL_V h1 e
        exact ⟨x, hx2, nn_V hg hf h2 hx⟩
      · cases h2
    · exact ih h3 M hM
theorem subLs_V {ρ ρt : List Int} {σ : List Lin} (h1 : Two (fun L x => liV ρ L = some x) σ ρt) : ∀ (Ls : List Lin) {Ns : List Lin}, subLs σ Ls = some Ns → ∃ r, Two (rkOK ρ) Ns r ∧ Two (rkOK ρt) Ls r := by
  intro Ls
  induction Ls with
  | nil => intro Ns h; cases h; exact ⟨[], trivial, trivial⟩
  | cons L Ls ih =>
    intro Ns h
    unfold subLs at h
    split at h
    · rename_i M Ms e1 e2
      cases h
      obtain ⟨r, i1, i2⟩ := ih e2
      obtain ⟨x, hx, hx2⟩ := subL_V h1 e1
      exact ⟨x.toNat :: r, Two.mk ⟨x, hx, rfl⟩ i1, Two.mk ⟨x, hx2, rfl⟩ i2⟩
    · cases h
theorem lxA_V {ρ : List Int} {g : List Iv} {fs : List Lin} (hg : gOK ρ g) (hf : fOK ρ fs) : ∀ (ns os : List Lin) {r s : List Nat}, lxA g fs ns os = true → Two (rkOK ρ) ns r → Two (rkOK ρ) os s → LX r s := by
  intro ns
  induction ns with
  | nil => intro os r s h; cases h
  | cons n ns ih =>
    intro os r s h hr hs
    cases os with
    | nil => cases h
    | cons o os =>
      cases r with
      | nil => exact hr.elim
      | cons a r =>
        cases s with
        | nil => exact hs.elim
        | cons b s =>
          obtain ⟨⟨x, hx, rfl⟩, hr⟩ := hr
          obtain ⟨⟨y, hy, rfl⟩, hs⟩ := hs
          have h : ((nn g fs (liAdc (liSub o n) (-1)) && nn g fs n) || (nn g fs (liSub o n) && lxA g fs ns os)) = true := h
          rw [Bool.or_eq_true] at h
          rcases h with h | h
          · obtain ⟨h1, h2⟩ := and_t h
            have h1 := nn_V hg hf h1 (liAdc_V _ (liSub_V hy hx))
            have h2 := nn_V hg hf h2 hx
            exact Or.inl (by omega)
          · obtain ⟨h1, h2⟩ := and_t h
            have h1 := nn_V hg hf h1 (liSub_V hy hx)
            exact Or.inr ⟨by omega, ih os h2 hr hs⟩
theorem subR_app {σr σr2 : List RS} (h : Pre σr σr2) {R R2 : RS} (h2 : subR σr R = some R2) : subR σr2 R = some R2 := by
  rcases R with a | s
  · exact h2
  · exact h.nth h2
theorem avB_pre (t v : AV) (σ : List Lin) (σr : List RS) : Pre σr (avB t v σ σr).2 := by
  unfold avB
  split
  · cases Nat.beq _ σ.length <;> exact Pre.refl _
  · cases Nat.beq _ σr.length with
    | true => exact Pre.one _ _
    | false => exact Pre.refl _
  · exact Pre.refl _
theorem Two.snoc {α β : Type} {P : α → β → Prop} {as : List α} {bs : List β} {a : α} {b : β} (h : Two P as bs) (h2 : P a b) : Two P (as ++ [a]) (bs ++ [b]) := h.app (Two.mk h2 trivial)
theorem tfOK.mono {σr σr' : List RS} {ρ ρ' : List Int} {π π' : List Nat} {M : Mem} {t : TF} {v : AV} (h0 : Pre σr σr') (h1 : Pre ρ ρ') (h2 : Pre π π') (h : tfOK σr ρ π M t v) : tfOK σr' ρ' π' M t v := by
  obtain ⟨R, a, vs, w, q1, q2, q3, q4, q5⟩ := h
  exact ⟨R, a, vs, w, subR_app h0 q1, rsV.mono h2 q2, q3, q4, q5.mono h1 h2⟩
theorem tfA_V (hU : uOK aT gU) {fl : List FG} {fs : List Lin} {M : Mem} : ∀ (ts : List TF) {σ : List Lin} {σr : List RS} {ρ : List Int} {π : List Nat} {hp : List HE} {g : List Iv} {gr : List Nat} {done : List TF} {vs : List AV} {k : List Lin → List RS → List AV → List HE → List Iv → List Nat → Bool}, Wd aT gT FL ρ π hp fl g gr fs M → Two (tfOK σr ρ π M) done vs → tfA aT gT gU ts σ σr hp g gr vs k = true → ∃ σ' σr' vs' hp' g' gr' ρ' π', Pre ρ ρ' ∧ Pre π π' ∧ Wd aT gT FL ρ' π' hp' fl g' gr' fs M ∧ Two (tfOK σr' ρ' π' M) (done ++ ts) vs' ∧ k σ' σr' vs' hp' g' gr' = true := by
  intro ts
  induction ts with
  | nil =>
    intro σ σr ρ π hp g gr done vs k hW hD h
    rw [List.append_nil]
    exact ⟨σ, σr, vs, hp, g, gr, ρ, π, Pre.refl _, Pre.refl _, hW, hD, h⟩
  | cons t ts ih =>
    intro σ σr ρ π hp g gr done vs k hW hD h
    obtain ⟨Rt, ci, f, vt⟩ := t
    unfold tfA at h
    split at h
    · cases h
    · rename_i R e
      obtain ⟨a, ws, w, v, hp', g', gr', ρ', π', q1, q2, q3, q4, q5, q6, q7, h⟩ := rdF_V hU hW h
      have hD2 : Two (tfOK (avB vt v σ σr).2 ρ' π' M) (done ++ [(Rt, ci, f, vt)]) (vs ++ [v]) := (Two.mono (fun _ _ q => tfOK.mono (avB_pre vt v σ σr) q4 q5 q) hD).snoc ⟨R, a, ws, w, subR_app (avB_pre vt v σ σr) e, rsV.mono q5 q1, q2, q3, q6⟩
      obtain ⟨σ2, σr2, vs2, hp2, g2, gr2, ρ2, π2, j1, j2, j3, j4, j5⟩ := ih q7 hD2 h
      rw [List.append_assoc] at j4
      exact ⟨σ2, σr2, vs2, hp2, g2, gr2, ρ2, π2, q4.trans j1, q5.trans j2, j3, j4, j5⟩
theorem tfM_V {ρ ρt : List Int} {π πt : List Nat} {σ : List Lin} {σr : List RS} {M : Mem} (h1 : Two (fun L x => liV ρ L = some x) σ ρt) (h2 : Two (fun R a => rsV π R = some a) σr πt) : ∀ (ts : List TF) {vs : List AV}, Two (tfOK σr ρ π M) ts vs → avMs σ σr (ts.map (fun q => q.2.2.2)) vs = true → ∀ e ∈ ts.map (fun q => ((q.1, .inl q.2.2.1, q.2.2.2) : HE)), heOK ρt πt M e := by
  intro ts
  induction ts with
  | nil => intro vs _ _ e he; cases he
  | cons t ts ih =>
    intro vs hD h e he
    cases vs with
    | nil => exact hD.elim
    | cons v vs =>
      obtain ⟨⟨R, a, ws, w, q1, q2, q3, q4, q5⟩, hD⟩ := hD
      obtain ⟨h3, h4⟩ := and_t h
      rcases List.mem_cons.mp he with rfl | he
      · obtain ⟨b, hb, hb2⟩ := subR_V h2 q1
        cases q2.symm.trans hb
        exact he_f hb2 q3 q4 (avM_V h1 h2 h3 q5)
      · exact ih hD h4 e he
theorem subN_app {σ σ2 : List Lin} (h : Pre σ σ2) : ∀ {l : Ln} {M : Lin}, subN σ l = some M → subN σ2 l = some M := by
  intro l
  induction l with
  | nil => intro M hM; exact hM
  | cons p r ih =>
    intro M hM
    obtain ⟨s, c⟩ := p
    unfold subN at hM ⊢
    split at hM
    · rename_i L M2 e1 e2
      rw [h.nth e1, ih e2]
      exact hM
    · cases hM
theorem subL_app {σ σ2 : List Lin} (h : Pre σ σ2) {L M : Lin} (hM : subL σ L = some M) : subL σ2 L = some M := by
  unfold subL at hM ⊢
  split at hM
  · rename_i M2 e
    rw [subN_app h e]
    exact hM
  · cases hM
theorem avB_pre1 (t v : AV) (σ : List Lin) (σr : List RS) : Pre σ (avB t v σ σr).1 := by
  unfold avB
  split
  · cases Nat.beq _ σ.length with
    | true => exact Pre.one _ _
    | false => exact Pre.refl _
  · cases Nat.beq _ σr.length <;> exact Pre.refl _
  · exact Pre.refl _
theorem teA_V {hp : List HE} : ∀ (ts : List TE) {σ : List Lin} {σr : List RS} {done : List TE} {vs : List AV} {k : List Lin → List RS → List AV → Bool}, Two (teOK σ hp) done vs → teA ts σ σr hp vs k = true → ∃ σ' σr' vs', Pre σ σ' ∧ Pre σr σr' ∧ Two (teOK σ' hp) (done ++ ts) vs' ∧ k σ' σr' vs' = true := by
  intro ts
  induction ts with
  | nil => intro σ σr done vs k hD h; rw [List.append_nil]; exact ⟨σ, σr, vs, Pre.refl _, Pre.refl _, hD, h⟩
  | cons t ts ih =>
    intro σ σr done vs k hD h
    obtain ⟨a, L, vt⟩ := t
    unfold teA at h
    split at h
    · cases h
    · rename_i M e1
      split at h
      · rename_i v e2
        have hD2 : Two (teOK (avB vt v σ σr).1 hp) (done ++ [(a, L, vt)]) (vs ++ [v]) := (Two.mono (fun t v q => by
          obtain ⟨M, i1, i2⟩ := q
          exact ⟨M, subL_app (avB_pre1 _ _ _ _) i1, i2⟩) hD).snoc ⟨M, subL_app (avB_pre1 _ _ _ _) e1, e2⟩
        obtain ⟨σ', σr', vs', j1, j2, j3, j4⟩ := ih hD2 h
        rw [List.append_assoc] at j3
        exact ⟨σ', σr', vs', (avB_pre1 _ _ _ _).trans j1, (avB_pre _ _ _ _).trans j2, j3, j4⟩
      · cases h
theorem teM_V {ρ ρt : List Int} {π πt : List Nat} {σ : List Lin} {σr : List RS} {M : Mem} {hp : List HE} (hhp : ∀ e ∈ hp, heOK ρ π M e) (h1 : Two (fun L x => liV ρ L = some x) σ ρt) (h2 : Two (fun R a => rsV π R = some a) σr πt) : ∀ (ts : List TE) {vs : List AV}, Two (teOK σ hp) ts vs → avMs σ σr (ts.map (fun q => q.2.2)) vs = true → ∀ e ∈ ts.map (fun q => ((.inl q.1, .inr q.2.1, q.2.2) : HE)), heOK ρt πt M e := by
  intro ts
  induction ts with
  | nil => intro vs _ _ e he; cases he
  | cons t ts ih =>
    intro vs hD h e he
    cases vs with
    | nil => exact hD.elim
    | cons v vs =>
      obtain ⟨⟨N, q1, q2⟩, hD⟩ := hD
      obtain ⟨h3, h4⟩ := and_t h
      rcases List.mem_cons.mp he with rfl | he
      · obtain ⟨L2, m1, m2⟩ := hpE_V q2
        obtain ⟨a2, ha2, t2, l, i, x, k1, k2, k3, k4⟩ := hhp _ m1
        obtain ⟨y, j1, j2⟩ := subL_V h1 q1
        have hd := isZ_V m2 (liSub_V k2 j1)
        have e9 : y = (i : Int) := by omega
        rw [e9] at j2
        cases ha2
        exact he_a (R := .inl t.1) rfl k1 j2 k3 (avM_V h1 h2 h3 k4)
      · exact ih hD h4 e he
theorem avMw_V {ρ ρt : List Int} {π πt : List Nat} {σ : List Lin} {σr : List RS} (h1 : Two (fun L x => liV ρ L = some x) σ ρt) (h2 : Two (fun R a => rsV π R = some a) σr πt) : ∀ (ts vs : List AV) {ws : List Value}, avMs σ σr ts vs = true → Two (avOK ρ π) vs ws → Two (avOK ρt πt) ts ws := by
  intro ts
  induction ts with
  | nil =>
    intro vs ws h hl
    cases vs with
    | nil =>
      cases ws with
      | nil => trivial
      | cons _ _ => exact hl.elim
    | cons _ _ => cases h
  | cons t ts ih =>
    intro vs ws h hl
    cases vs with
    | nil => cases h
    | cons v vs =>
      cases ws with
      | nil => exact hl.elim
      | cons c ws =>
        obtain ⟨h3, h4⟩ := and_t h
        exact Two.mk (avM_V h1 h2 h3 hl.1) (ih vs h4 hl.2)
theorem subLs_W {ρ ρt : List Int} {σ : List Lin} (h1 : Two (fun L x => liV ρ L = some x) σ ρt) : ∀ (Ls : List Lin) {Ns : List Lin}, subLs σ Ls = some Ns → ∃ ys, Two (fun L v => liV ρ L = some v) Ns ys ∧ Two (fun L v => liV ρt L = some v) Ls ys := by
  intro Ls
  induction Ls with
  | nil => intro Ns h; cases h; exact ⟨[], trivial, trivial⟩
  | cons L Ls ih =>
    intro Ns h
    unfold subLs at h
    split at h
    · rename_i M Ms e1 e2
      cases h
      obtain ⟨r, i1, i2⟩ := ih e2
      obtain ⟨x, hx, hx2⟩ := subL_V h1 e1
      exact ⟨x :: r, Two.mk hx i1, Two.mk hx2 i2⟩
    · cases h
theorem flM_V {ρ ρt : List Int} {σ : List Lin} {M : Mem} {fl : List FG} (h1 : Two (fun L x => liV ρ L = some x) σ ρt) (hfl : ∀ x ∈ fl, fgOK FL ρ M x) {f : FG} (h : flM σ fl f = true) : fgOK FL ρt M f := by
  unfold flM at h
  split at h
  · rename_i Ms e
    obtain ⟨ys, i1, i2⟩ := subLs_W h1 _ e
    exact ⟨ys, i2, fgM_V (f := (f.1, Ms)) hfl h i1⟩
  · cases h
theorem tpA_V (hU : uOK aT gU) {t : TP} {old : Option (List Lin)} {ga : List AV} {ws : List Value} {lo : List AV} {hp : List HE} {fl : List FG} {g : List Iv} {gr : List Nat} {fs : List Lin} {ρ : List Int} {π : List Nat} {cl : Lo} {M : Mem} (hga : Two (avOK ρ π) ga ws) (hl : Two (loOK ρ π) lo cl) (hW : Wd aT gT FL ρ π hp fl g gr fs M) (h : tpA aT gT gU t old ga lo hp fl g gr fs = true) : ∃ ρt πt, Two (avOK ρt πt) t.2.2.2.2.2.2.2.1 ws ∧ Two (loOK ρt πt) t.1 cl ∧ Wd aT gT FL ρt πt (hpT t) t.2.2.1 t.2.2.2.1 t.2.2.2.2.1 t.2.2.2.2.2.1 M ∧ ∀ os s, old = some os → Two (rkOK ρ) os s → ∃ r, Two (rkOK ρt) t.2.2.2.2.2.2.1 r ∧ LX r s := by
  unfold tpA at h
  obtain ⟨σ0, σr0, vs, hp', g', gr', ρ', π', p1, p2, hW', hD, h⟩ := tfA_V hU t.2.1 (done := []) (vs := []) hW (show Two (tfOK (avBs (t.1 ++ t.2.2.2.2.2.2.2.1) (lo ++ ga) [] []).2 ρ π M) ([] : List TF) ([] : List AV) from trivial) h
  rw [fLs_eq] at h
  obtain ⟨σ, σr, ves, s1, s2, hE, h⟩ := teA_V t.2.2.2.2.2.2.2.2 (done := []) (vs := []) (show Two (teOK σ0 hp') ([] : List TE) ([] : List AV) from trivial) h
  rw [fLs_eq] at h
  obtain ⟨h1, h⟩ := and_t h
  obtain ⟨h0, h⟩ := and_t h
  obtain ⟨h2, h⟩ := and_t h
  obtain ⟨h9, h⟩ := and_t h
  obtain ⟨h3, h⟩ := and_t h
  obtain ⟨h4, h⟩ := and_t h
  obtain ⟨h5, h⟩ := and_t h
  obtain ⟨h6, h⟩ := and_t h
  obtain ⟨ρt, r1, r2⟩ := ivMs_V hW'.2.2.1 hW'.2.2.2.2.1 σ _ h3
  obtain ⟨πt, t1, t2⟩ := grMs_V hW'.2.2.2.1 σr _ h4
  have hD2 : Two (tfOK σr ρ' π' M) ([] ++ t.2.1) vs := Two.mono (fun _ _ q => tfOK.mono s2 (Pre.refl _) (Pre.refl _) q) hD
  refine ⟨ρt, πt, avMw_V r1 t1 _ _ h0 (Two.mono (fun _ _ q => avOK.mono p1 p2 q) hga), avMs_V r1 t1 _ _ h1 (lo_mono p1 p2 hl), ⟨fun e he => ?_, fun x hx => flM_V r1 hW'.2.1 (List.all_eq_true.mp h6 x hx), r2, t2, fsMs_V hW'.2.2.1 hW'.2.2.2.2.1 r1 _ h5, hW'.2.2.2.2.2⟩, fun os s e hs => ?_⟩
  · rcases List.mem_append.mp he with he | he
    · exact tfM_V r1 t1 _ hD2 h2 e he
    · exact teM_V hW'.1 r1 t1 _ hE h9 e he
  · subst e
    dsimp only at h
    split at h
    · rename_i ns e
      obtain ⟨r, i1, i2⟩ := subLs_V r1 _ e
      exact ⟨r, i2, lxA_V hW'.2.2.1 hW'.2.2.2.2.1 _ _ h i1 (Two.mono (fun L n q => by obtain ⟨x, hx, e⟩ := q; exact ⟨x, p1.liV hx, e⟩) hs)⟩
    · cases h
end TPL
/-! THE CHECKER, 14: a whole method: its contract and the places where the walk is cut -/
section METH
variable (aT : List Nat) (gT : List CT) (gU : List (Option Nat)) (dep : Nat → Md) (FL : Nat → List Int → Mem → Prop) (Δ : List CN)
/-- arguments as unknowns -/
noncomputable def enA (ts : List TA) (as : List AV) (g : List Iv) (gr : List Nat) (k : List AV → List Iv → List Nat → Bool) : Bool := match ts with
  | [] => k as g gr
  | t :: ts => taN gU t g gr (fun v g gr => enA ts (as ++ [v]) g gr k)
/-- the end of the method is one of the ways that the contract tells -/
noncomputable def rsA (t : Option TA) (v : Option AV) (g : List Iv) (gr : List Nat) (fs : List Lin) : Bool := match t, v with
  | none, none => true
  | some t, some v => taM aT g gr fs t v
  | _, _ => false
noncomputable def rt1 (ga : List AV) (v : Option AV) (hp : List HE) (fl : List FG) (g : List Iv) (gr : List Nat) (fs : List Lin) (s : CS) : Bool := rsA aT s.1 v g gr fs && (agA ga g fs s.2.1 && htA aT gT gU ga s.2.2.1 [] hp g gr fs (fun vs hp g _ => (match fgN (v.getD (.inr (.inr 0)) :: (ga ++ vs)) s.2.2.2.1 with
  | some F => F.all (fun f => fgM fl f || ghA fl hp g fs f)
  | none => false) && elA (v.getD (.inr (.inr 0)) :: (ga ++ vs)) g fs hp s.2.2.2.2))
noncomputable def rtA (c : CN) (ga : List AV) (v : Option AV) (hp : List HE) (fl : List FG) (g : List Iv) (gr : List Nat) (fs : List Lin) : Bool := c.2.2.2.2.2.2.any (rt1 aT gT gU ga v hp fl g gr fs)
noncomputable def cutB (cuts : List (Nat × TP)) (pc : Nat) : Bool := match gLook cuts pc with
  | some _ => true
  | none => false
noncomputable def chkB (cuts : List (Nat × TP)) (old : Option (List Lin)) (ga : List AV) (pc : Nat) (lo st : List AV) (hp : List HE) (fl : List FG) (g : List Iv) (gr : List Nat) (fs : List Lin) : Bool := match st with
  | [] => cuts.any (fun q => Nat.beq q.1 pc && tpA aT gT gU q.2 old ga lo hp fl g gr fs)
  | _ => false
/-- n: fuel of a stretch; N: how many ranks -/
noncomputable def ccE (n : Nat) (c : CN) (cuts : List (Nat × TP)) : Bool := match gNth mRs c.1 with
  | none => false
  | some (_, _, _, maxL, _, _, _, _) => enA gU c.2.2.1 [] [] [] (fun as g gr => htN gU as c.2.2.2.1 [] [] g gr (fun vs hp g gr => match fgN (.inr (.inr 0) :: (as ++ vs)) c.2.2.2.2.1 with
    | none => false
    | some F => fFG F (fun F => gSp (padA maxL (lcA as)) (fun lo => match cutB cuts 0 with
    | true => chkB aT gT gU cuts none as 0 lo [] hp F g gr []
    | false => exe aT gT gU dep c.2.2.2.2.2.1 Δ c.1 (cutB cuts) (chkB aT gT gU cuts none as) (rtA aT gT gU c as) n c.2.1 c.1 0 lo [] [] hp F g gr []))))
noncomputable def rkIn (g : List Iv) : List Lin → Bool
  | [] => true
  | L :: r => (match liI g L with
    | some _ => true
    | none => false) && rkIn g r
theorem rkIn_V {ρ : List Int} {g : List Iv} (hg : gOK ρ g) : ∀ (Ls : List Lin), rkIn g Ls = true → ∃ r, Two (rkOK ρ) Ls r := by
  intro Ls
  induction Ls with
  | nil => intro _; exact ⟨[], trivial⟩
  | cons L Ls ih =>
    intro h
    obtain ⟨h1, h2⟩ := and_t h
    obtain ⟨r, hr⟩ := ih h2
    split at h1
    · rename_i q e
      unfold liI at e
      split at e
      · rename_i a b e2
        obtain ⟨x, hx⟩ := liI_some hg _ e2
        exact ⟨_, Two.mk ⟨_, liV_mk (l := L.1) (k := L.2) hx, rfl⟩ hr⟩
      · cases e
    · cases h1
noncomputable def ccC (n N : Nat) (c : CN) (cuts : List (Nat × TP)) (q : Nat × TP) : Bool := (Nat.beq q.2.2.2.2.2.2.2.1.length N && rkIn q.2.2.2.2.1 q.2.2.2.2.2.2.2.1) && exe aT gT gU dep c.2.2.2.2.2.1 Δ c.1 (cutB cuts) (chkB aT gT gU cuts (some q.2.2.2.2.2.2.2.1) q.2.2.2.2.2.2.2.2.1) (rtA aT gT gU c q.2.2.2.2.2.2.2.2.1) n c.2.1 c.1 q.1 q.2.1 [] [] (hpT q.2) q.2.2.2.1 q.2.2.2.2.1 q.2.2.2.2.2.1 q.2.2.2.2.2.2.1
noncomputable def ccM (n N : Nat) (c : CN) (cuts : List (Nat × TP)) : Bool := (!Nat.beq c.1 205 && ccE aT gT gU dep Δ n c cuts) && cuts.all (ccC aT gT gU dep Δ n N c cuts)
variable {aT gT gU dep FL Δ}
theorem enA_V (hU : uOK aT gU) : ∀ (ts : List TA) {as : List AV} {g : List Iv} {gr : List Nat} {ρ : List Int} {π : List Nat} {ws0 ws : List Value} {k : List AV → List Iv → List Nat → Bool}, gOK ρ g → prOK aT π gr → Two (avOK ρ π) as ws0 → Two (taOK aT) ts ws → enA gU ts as g gr k = true → ∃ as' g' gr' ρ' π', gOK ρ' g' ∧ prOK aT π' gr' ∧ Two (avOK ρ' π') as' (ws0 ++ ws) ∧ k as' g' gr' = true := by
  intro ts
  induction ts with
  | nil =>
    intro as g gr ρ π ws0 ws k hg hp ha hw h
    cases ws with
    | cons _ _ => exact hw.elim
    | nil => rw [List.append_nil]; exact ⟨as, g, gr, ρ, π, hg, hp, ha, h⟩
  | cons t ts ih =>
    intro as g gr ρ π ws0 ws k hg hp ha hw h
    cases ws with
    | nil => exact hw.elim
    | cons w ws =>
      obtain ⟨v, g', gr', ρ', π', p1, p2, p3, p4, p5, h⟩ := taN_V hU hg hp hw.1 h
      obtain ⟨as', g2, gr2, ρ2, π2, q1, q2, q3, q4⟩ := ih p3 p4 ((Two.mono (fun _ _ q => avOK.mono p1 p2 q) ha).snoc p5) hw.2 h
      rw [List.append_assoc] at q3
      exact ⟨as', g2, gr2, ρ2, π2, q1, q2, q3, q4⟩
theorem rsA_V {t : Option TA} {v : Option AV} {hp : List HE} {fl : List FG} {g : List Iv} {gr : List Nat} {fs : List Lin} {ρ : List Int} {π : List Nat} {w : Option Value} {M : Mem} (hW : Wd aT gT FL ρ π hp fl g gr fs M) (h : rsA aT t v g gr fs = true) (hr : rtOK ρ π v w) : rsOK aT t w := by
  cases t with
  | none =>
    cases v with
    | some _ => cases h
    | none =>
      cases w with
      | none => trivial
      | some _ => exact hr.elim
  | some t =>
    cases v with
    | none => cases h
    | some v =>
      cases w with
      | none => exact hr.elim
      | some w => exact taM_V hW.2.2.1 hW.2.2.2.2.1 hW.2.2.2.1 h hr
theorem rtA_V (hU : uOK aT gU) (hct : cfOK FL) {c : CN} {ga : List AV} {ws : List Value} {v : Option AV} {hp : List HE} {fl : List FG} {g : List Iv} {gr : List Nat} {fs : List Lin} {ρ : List Int} {π : List Nat} {w : Option Value} {M : Mem} (hga : Two (avOK ρ π) ga ws) (hr : rtOK ρ π v w) (hW : Wd aT gT FL ρ π hp fl g gr fs M) (h : rtA aT gT gU c ga v hp fl g gr fs = true) : ∃ s ∈ c.2.2.2.2.2.2, csOK aT FL ws w M s := by
  obtain ⟨s, hs, h⟩ := List.any_eq_true.mp h
  refine ⟨s, hs, ?_⟩
  obtain ⟨h1, h⟩ := and_t h
  obtain ⟨h2, h⟩ := and_t h
  obtain ⟨hv, vs, hp', g', gr', ρ', π', i1, p1, p2, i2, hW', h⟩ := htA_V hU (vs := []) (hv := []) s.2.2.1 hga (show Two (avOK ρ π) ([] : List AV) ([] : List Value) from trivial) hW h
  obtain ⟨h3, h⟩ := and_t h
  have ha2 : Two (avOK ρ' π') (ga ++ vs) (ws ++ hv) := (Two.mono (fun _ _ q => avOK.mono p1 p2 q) hga).app i2
  have hsrc : Two (avOK ρ' π') (v.getD (.inr (.inr 0)) :: (ga ++ vs)) (w.getD .null :: (ws ++ hv)) := by
    cases v with
    | none =>
      cases w with
      | some _ => exact hr.elim
      | none => exact Two.mk (show avOK ρ' π' (.inr (.inr 0)) .null from rfl) ha2
    | some v =>
      cases w with
      | none => exact hr.elim
      | some w => exact Two.mk (avOK.mono p1 p2 hr) ha2
  refine ⟨rsA_V hW h1 hr, agA_V hW.2.2.1 hW.2.2.2.2.1 hga _ h2, hv, i1, ?_, elA_V hsrc hW' _ h⟩
  split at h3
  · rename_i F eF
    exact fgN_W hct hsrc hW' _ eF h3
  · cases h3
/-- what stands at a cut -/
def Cnd (aT : List Nat) (gT : List CT) (FL : Nat → List Int → Mem → Prop) (md : Md) (ws : List Value) (M : Mem) (t : TP) (cl : Lo) (M' : Mem) : Prop := ∃ ρ π, Two (avOK ρ π) t.2.2.2.2.2.2.2.1 ws ∧ Two (loOK ρ π) t.1 cl ∧ Wd aT gT FL ρ π (hpT t) t.2.2.1 t.2.2.2.1 t.2.2.2.2.1 t.2.2.2.2.2.1 M' ∧ Frm aT md M M'
/-- what a contract asks of the end -/
def Fin (aT : List Nat) (gT : List CT) (FL : Nat → List Int → Mem → Prop) (c : CN) (ws : List Value) (M : Mem) (w : Option Value) (M' : Mem) : Prop := TM aT gT M' ∧ Frm aT c.2.2.2.2.2.1 M M' ∧ ∃ s ∈ c.2.2.2.2.2.2, csOK aT FL ws w M' s
theorem main_V (hU : uOK aT gU) (hd : depOK aT dep FL) (hct : cfOK FL) (hΔ : ∀ c ∈ Δ, cnOK aT gT FL c) {n N : Nat} {c : CN} {cuts A : List (Nat × TP)} {d : Nat} {M : Mem} {ws : List Value} (hD : c.2.1 ≤ d) {Q : Option Value → Mem → Prop} (hQ : ∀ w M', Fin aT gT FL c ws M w M' → Q w M') (hA : ∀ x ∈ A, ccC aT gT gU dep Δ n N c cuts x = true) (hB : ∀ x ∈ cuts, x ∈ A ∨ ∀ cl M', Cnd aT gT FL c.2.2.2.2.2.1 ws M x.2 cl M' → RF Q [] d c.1 x.1 cl [] M') : ∀ x ∈ A, ∀ cl M', Cnd aT gT FL c.2.2.2.2.2.1 ws M x.2 cl M' → RF Q [] d c.1 x.1 cl [] M' := by
  have main : ∀ r : List Nat, r.length = N → ∀ pc t, (pc, t) ∈ A → ∀ ρ π cl M', Two (avOK ρ π) t.2.2.2.2.2.2.2.1 ws → Two (loOK ρ π) t.1 cl → Wd aT gT FL ρ π (hpT t) t.2.2.1 t.2.2.2.1 t.2.2.2.2.1 t.2.2.2.2.2.1 M' → Frm aT c.2.2.2.2.2.1 M M' → Two (rkOK ρ) t.2.2.2.2.2.2.1 r → RF Q [] d c.1 pc cl [] M' := by
    refine lx_ind N _ (fun r hr ih => ?_)
    intro pc t hpt ρ π cl M' hga hl hW hF hrk
    obtain ⟨hN, hx⟩ := and_t (hA _ hpt)
    refine exe_V hU hd hct hΔ (ρ0 := ρ) (π0 := π) (M0 := M) (d0 := d) (fun pc2 lo st hp fl g gr fs hcut hchk ρ2 π2 cl2 cst2 M2 p2 pi2 hl2 hs2 hW2 hF2 => ?_) (fun v hp fl g gr fs h ρ2 π2 w M2 p2 pi2 hr2 hW2 hF2 => hQ _ _ ⟨hW2.2.2.2.2.2, hF2, rtA_V hU hct (Two.mono (fun _ _ q => avOK.mono p2 pi2 q) hga) hr2 hW2 h⟩) n c.2.1 c.1 pc t.1 [] [] (hpT t) t.2.2.1 t.2.2.2.1 t.2.2.2.2.1 t.2.2.2.2.2.1 hx ρ π cl [] [] M' d (Pre.refl _) (Pre.refl _) hD rfl hl trivial trivial hW hF
    unfold chkB at hchk
    split at hchk
    · have hq8 := List.any_eq_true.mp hchk
      clear hchk
      obtain ⟨q2, hq2, hchk⟩ := hq8
      have hq9 := and_t hchk
      clear hchk
      obtain ⟨hpc, hchk⟩ := hq9
      obtain ⟨pc3, t2⟩ := q2
      cases Nat.eq_of_beq_eq_true hpc
      cases cst2 with
      | cons _ _ => exact hs2.elim
      | nil =>
        obtain ⟨ρt, πt, i0, i1, i2, i3⟩ := tpA_V hU (Two.mono (fun _ _ q => avOK.mono p2 pi2 q) hga) hl2 hW2 hchk
        rcases hB _ hq2 with hin | hdo
        · obtain ⟨r2, j1, j2⟩ := i3 _ r rfl (Two.mono (fun L n q => by obtain ⟨x, hx, e⟩ := q; exact ⟨x, p2.liV hx, e⟩) hrk)
          have hN2 : r2.length = N := by
            obtain ⟨h3, -⟩ := and_t (hA _ hin)
            rw [← j1.len]
            exact Nat.eq_of_beq_eq_true (and_t h3).1
          exact ih r2 hN2 j2 _ t2 hin ρt πt cl2 M2 i0 i1 i2 hF2 j1
        · exact hdo cl2 M2 ⟨ρt, πt, i0, i1, i2, hF2⟩
    · cases hchk
  intro x hx cl M' hc
  obtain ⟨ρ, π, i0, i1, i2, hF2⟩ := hc
  obtain ⟨hN2, hx2⟩ := and_t (hA _ hx)
  obtain ⟨hN2, hN3⟩ := and_t hN2
  obtain ⟨r, hr⟩ := rkIn_V i2.2.2.1 _ hN3
  exact main r (by rw [← hr.len]; exact Nat.eq_of_beq_eq_true hN2) _ x.2 hx ρ π cl M' i0 i1 i2 hF2 hr
/-- from the start to the cuts -/
theorem ent_V (hU : uOK aT gU) (hd : depOK aT dep FL) (hct : cfOK FL) (hΔ : ∀ c ∈ Δ, cnOK aT gT FL c) {n : Nat} {c : CN} {cuts : List (Nat × TP)} (hE : ccE aT gT gU dep Δ n c cuts = true) {d : Nat} {M : Mem} {ws : List Value} {q : MR} (hD : c.2.1 ≤ d) (hq : gNth mRs c.1 = some q) (hws : Two (taOK aT) c.2.2.1 ws) (hpre : ∃ hv, Two (fldV aT ws M) c.2.2.2.1 hv ∧ ∀ f ∈ c.2.2.2.2.1, flOK FL (.null :: (ws ++ hv)) M f) (hT : TM aT gT M) {Q : Option Value → Mem → Prop} (hQ : ∀ w M', Fin aT gT FL c ws M w M' → Q w M') (hB : ∀ x ∈ cuts, ∀ cl M', Cnd aT gT FL c.2.2.2.2.2.1 ws M x.2 cl M' → RF Q [] d c.1 x.1 cl [] M') : RF Q [] d c.1 0 (gPad q.2.2.2.1 (gArgs ws)) [] M := by
  unfold ccE at hE
  rw [hq] at hE
  dsimp only at hE
  obtain ⟨as, g, gr, ρ, π, hg, hp, ha, hE⟩ := enA_V hU c.2.2.1 (ρ := []) (π := []) (ws0 := []) (as := []) (g := []) (gr := []) ⟨rfl, fun i p hp => by cases hp⟩ ⟨rfl, fun i p hp => by cases hp⟩ trivial hws hE
  have hW0 : Wd aT gT FL ρ π [] [] g gr [] M := ⟨fun e he => (by cases he), fun x hx => (by cases hx), hg, hp, fun L hL => (by cases hL), hT⟩
  obtain ⟨hv, hhv, hfl⟩ := hpre
  obtain ⟨vs', hp', g', gr', ρ', π', p1, p2, p3, hW9, hE⟩ := htN_V hU (vs := []) (hv := []) _ ha (show Two (avOK ρ π) ([] : List AV) ([] : List Value) from trivial) hW0 hhv hE
  have ha' : Two (avOK ρ' π') as ws := Two.mono (fun _ _ q => avOK.mono p1 p2 q) ha
  split at hE
  · cases hE
  rename_i F eF
  rw [fFG_eq, gSp_eq] at hE
  have hW : Wd aT gT FL ρ' π' hp' F g' gr' [] M := ⟨hW9.1, fgN_V (ws := .null :: (ws ++ hv)) (Two.mk (show avOK ρ' π' (.inr (.inr 0)) .null from rfl) (ha'.app p3)) _ eF hfl, hW9.2.2⟩
  have cutc : ∀ pc2 lo st hp fl g gr fs, cutB cuts pc2 = true → chkB aT gT gU cuts none as pc2 lo st hp fl g gr fs = true → ∀ ρ2 π2 cl2 cst2 M2, Pre ρ' ρ2 → Pre π' π2 → Two (loOK ρ2 π2) lo cl2 → Two (avOK ρ2 π2) st cst2 → Wd aT gT FL ρ2 π2 hp fl g gr fs M2 → Frm aT c.2.2.2.2.2.1 M M2 → RF Q [] d c.1 pc2 cl2 cst2 M2 := by
    intro pc2 lo st hp fl g gr fs _ hchk ρ2 π2 cl2 cst2 M2 q1 qi2 hl2 hs2 hW2 hF2
    unfold chkB at hchk
    split at hchk
    · have hq8 := List.any_eq_true.mp hchk
      clear hchk
      obtain ⟨q2, hq2, hchk⟩ := hq8
      have hq9 := and_t hchk
      clear hchk
      obtain ⟨hpc, hchk⟩ := hq9
      obtain ⟨pc3, t2⟩ := q2
      cases Nat.eq_of_beq_eq_true hpc
      cases cst2 with
      | cons _ _ => exact hs2.elim
      | nil =>
        obtain ⟨ρt, πt, i0, i1, i2, -⟩ := tpA_V hU (Two.mono (fun _ _ q => avOK.mono q1 qi2 q) ha') hl2 hW2 hchk
        exact hB _ hq2 cl2 M2 ⟨ρt, πt, i0, i1, i2, hF2⟩
    · cases hchk
  have hl : Two (loOK ρ' π') (padA q.2.2.2.1 (lcA as)) (gPad q.2.2.2.1 (gArgs ws)) := padA_V _ (lcA_V _ ha')
  split at hE
  · rename_i e0
    exact cutc 0 _ [] _ _ _ _ _ e0 hE ρ' π' _ [] M (Pre.refl _) (Pre.refl _) hl trivial hW (Frm.refl _)
  · exact exe_V hU hd hct hΔ (ρ0 := ρ') (π0 := π') (M0 := M) (d0 := d) cutc (fun v hp fl g gr fs h ρ2 π2 w M2 p2 pi2 hr2 hW2 hF2 => hQ _ _ ⟨hW2.2.2.2.2.2, hF2, rtA_V hU hct (Two.mono (fun _ _ q => avOK.mono p2 pi2 q) ha') hr2 hW2 h⟩) n c.2.1 c.1 0 _ [] [] _ _ _ _ _ hE ρ' π' _ [] [] M d (Pre.refl _) (Pre.refl _) hD rfl hl trivial trivial hW (Frm.refl _)
theorem fin_cn {c : CN} (h205 : (!Nat.beq c.1 205) = true) (h : ∀ (d : Nat) (M : Mem) (ws : List Value) (q : MR), c.2.1 ≤ d → gNth mRs c.1 = some q → Two (taOK aT) c.2.2.1 ws → (∃ hv, Two (fldV aT ws M) c.2.2.2.1 hv ∧ ∀ f ∈ c.2.2.2.2.1, flOK FL (.null :: (ws ++ hv)) M f) → TM aT gT M → RF (Fin aT gT FL c ws M) [] d c.1 0 (gPad q.2.2.2.1 (gArgs ws)) [] M) : cnOK aT gT FL c := by
  intro d M ws q hD hq hws hpre hT
  obtain ⟨v, M', e1, e2, e3, s, e4, e5⟩ := h d M ws q hD hq hws hpre hT
  exact ⟨v, M', e1, e2, e3, s, e4, e5, fun h => by
    rw [h] at h205
    cases h205⟩
theorem ccM_V (hU : uOK aT gU) (hd : depOK aT dep FL) (hct : cfOK FL) (hΔ : ∀ c ∈ Δ, cnOK aT gT FL c) {n N : Nat} {c : CN} {cuts : List (Nat × TP)} (h : ccM aT gT gU dep Δ n N c cuts = true) : cnOK aT gT FL c := by
  obtain ⟨hE, hC⟩ := and_t h
  obtain ⟨h205, hE⟩ := and_t hE
  exact fin_cn h205 (fun d M ws q hD hq hws hpre hT => ent_V hU hd hct hΔ hE hD hq hws hpre hT (fun _ _ h => h) (main_V hU hd hct hΔ hD (fun _ _ h => h) (fun x hx => List.all_eq_true.mp hC x hx) (fun x hx => Or.inl hx)))
/-- .. where at some cuts (G) the run is told by hand, from those behind them (B) -/
theorem ccX_V (hU : uOK aT gU) (hd : depOK aT dep FL) (hct : cfOK FL) (hΔ : ∀ c ∈ Δ, cnOK aT gT FL c) {n N : Nat} {c : CN} {A G B : List (Nat × TP)} (h : (((!Nat.beq c.1 205) && ccE aT gT gU dep Δ n c (A ++ (G ++ B))) && (A.all (ccC aT gT gU dep Δ n N c (A ++ (G ++ B))) && B.all (ccC aT gT gU dep Δ n N c B))) = true) (hG : ∀ (d : Nat) (M : Mem) (ws : List Value), c.2.1 ≤ d → (∀ x ∈ B, ∀ cl M', Cnd aT gT FL c.2.2.2.2.2.1 ws M x.2 cl M' → RF (Fin aT gT FL c ws M) [] d c.1 x.1 cl [] M') → ∀ x ∈ G, ∀ cl M', Cnd aT gT FL c.2.2.2.2.2.1 ws M x.2 cl M' → RF (Fin aT gT FL c ws M) [] d c.1 x.1 cl [] M') : cnOK aT gT FL c := by
  obtain ⟨hE, hC⟩ := and_t h
  obtain ⟨h205, hE⟩ := and_t hE
  obtain ⟨hCA, hCB⟩ := and_t hC
  refine fin_cn h205 (fun d M ws q hD hq hws hpre hT => ?_)
  have rB := main_V (A := B) (cuts := B) (M := M) (ws := ws) hU hd hct hΔ hD (Q := Fin aT gT FL c ws M) (fun _ _ h => h) (fun x hx => List.all_eq_true.mp hCB x hx) (fun x hx => Or.inl hx)
  have rG := hG d M ws hD rB
  have rGB : ∀ x ∈ G ++ B, ∀ cl M', Cnd aT gT FL c.2.2.2.2.2.1 ws M x.2 cl M' → RF (Fin aT gT FL c ws M) [] d c.1 x.1 cl [] M' := fun x hx => by
    rcases List.mem_append.mp hx with hx | hx
    · exact rG x hx
    · exact rB x hx
  have rA := main_V (A := A) (cuts := A ++ (G ++ B)) (M := M) (ws := ws) hU hd hct hΔ hD (Q := Fin aT gT FL c ws M) (fun _ _ h => h) (fun x hx => List.all_eq_true.mp hCA x hx) (fun x hx => by
    rcases List.mem_append.mp hx with hx | hx
    · exact Or.inl hx
    · exact Or.inr (rGB x hx))
  refine ent_V hU hd hct hΔ hE hD hq hws hpre hT (fun _ _ h => h) (fun x hx => ?_)
  rcases List.mem_append.mp hx with hx | hx
  · exact rA x hx
  · exact rGB x hx
end METH
/-! THE MEMORY: the group of each cell, what the groups hold -/
def sT_0 : List Nat := [0, 1, 2, 3, 4, 5, 6, 7, 8, 9, 10, 11, 12, 13, 14, 15, 16, 17, 18, 19, 20, 20, 20, 20, 20, 20, 20, 20, 20, 20, 20, 20, 20, 20, 20, 20, 20, 20, 20, 20, 20, 20, 20, 20, 21, 21, 21, 21, 21, 21, 21, 21, 21, 21, 21, 21, 21, 21, 21, 21, 21, 21, 21, 21, 21, 21, 21, 21, 21, 21, 21, 21, 21, 21, 21, 21, 21, 21, 21, 21, 21, 21, 21, 21, 21, 21, 21, 21, 21, 21, 21, 21, 21, 21, 21, 21, 21, 21, 21, 21, 21, 21, 21, 21, 22, 23, 24, 25, 26, 27, 28, 29, 30, 31, 32, 33, 34, 35, 36, 28, 29, 30, 31, 32, 33, 34, 35, 36, 37, 38, 39, 39, 39, 39, 39, 39, 39, 40, 28, 29, 30, 31, 32, 33, 34, 35, 36, 28, 29, 30, 31, 32, 33, 34, 35, 36, 28, 29, 30, 31, 32, 33, 34, 35, 36, 28, 29, 30, 31, 32]
def sT_1 : List Nat := [33, 34, 35, 36, 28, 29, 30, 31, 32, 33, 34, 35, 36, 28, 29, 30, 31, 32, 33, 34, 35, 36, 41, 42, 43, 44, 45, 43, 43, 43, 43, 43, 43, 43, 43, 43, 43, 43, 43, 43, 43, 43, 43, 43, 43, 43, 43, 43, 43, 43, 43, 43, 43, 43, 43, 43, 43, 43, 43, 46, 47, 48, 48, 48, 48, 48, 49, 50, 51, 52, 53, 54, 55, 8, 9, 10, 11, 12, 13, 14, 15, 16, 17, 18, 19, 20, 20, 20, 20, 20, 20, 20, 20, 20, 20, 20, 20, 20, 20, 20, 20, 20, 20, 20, 20, 20, 20, 20, 20, 21, 21, 21, 21, 21, 21, 21, 21, 21, 21, 21, 21, 21, 21, 21, 21, 21, 21, 21, 21, 21, 21, 21, 21, 21, 21, 21, 21, 21, 21, 21, 21, 21, 21, 21, 21, 21, 21, 21, 21, 21, 21, 21, 21, 21, 21, 21, 21, 21, 21, 21, 21, 21, 21, 21, 21, 21, 21, 21, 21, 56]
def sT_2 : List Nat := [57, 58, 58, 59, 60, 8, 9, 10, 11, 12, 13, 14, 15, 16, 17, 18, 19, 20, 20, 20, 20, 20, 20, 20, 20, 20, 20, 20, 20, 20, 20, 20, 20, 20, 20, 20, 20, 20, 20, 20, 20, 21, 21, 21, 21, 21, 21, 21, 21, 21, 21, 21, 21, 21, 21, 21, 21, 21, 21, 21, 21, 21, 21, 21, 21, 21, 21, 21, 21, 21, 21, 21, 21, 21, 21, 21, 21, 21, 21, 21, 21, 21, 21, 21, 21, 21, 21, 21, 21, 21, 21, 21, 21, 21, 21, 21, 21, 21, 21, 21, 21, 8, 9, 10, 11, 12, 13, 14, 15, 16, 17, 18, 19, 20, 20, 20, 20, 20, 20, 20, 20, 20, 20, 20, 20, 20, 20, 20, 20, 20, 20, 20, 20, 20, 20, 20, 20, 21, 21, 21, 21, 21, 21, 21, 21, 21, 21, 21, 21, 21, 21, 21, 21, 21, 21, 21, 21, 21, 21, 21, 21, 21, 21, 21, 21, 21, 21, 21, 21, 21]
def sT_3 : List Nat := [21, 21, 21, 21, 21, 21, 21, 21, 21, 21, 21, 21, 21, 21, 21, 21, 21, 21, 21, 21, 21, 21, 21, 21, 21, 21, 21, 8, 9, 10, 11, 12, 13, 14, 15, 16, 17, 18, 19, 20, 20, 20, 20, 20, 20, 20, 20, 20, 20, 20, 20, 20, 20, 20, 20, 20, 20, 20, 20, 20, 20, 20, 20, 21, 21, 21, 21, 21, 21, 21, 21, 21, 21, 21, 21, 21, 21, 21, 21, 21, 21, 21, 21, 21, 21, 21, 21, 21, 21, 21, 21, 21, 21, 21, 21, 21, 21, 21, 21, 21, 21, 21, 21, 21, 21, 21, 21, 21, 21, 21, 21, 21, 21, 21, 21, 21, 21, 21, 21, 21, 21, 21, 21, 61, 62, 63, 64, 65, 66, 67, 68, 69, 70, 71, 72, 73, 74, 75, 76, 77, 78, 79, 80, 81, 82, 83, 84, 85, 86, 87, 88, 89, 90, 91]
def sT : List Nat := sT_0 ++ (sT_1 ++ (sT_2 ++ (sT_3)))
def sG_0 : List CT := [.inl (10, [.inr 3, .inr 7, .inr 17, .inr 45, .inr 83, .inr 93, .inr 17, .inr 113, .inr 115, .inr 117, .inr 117, .inr 119, .inr 121, .inl (.negSucc 0, .ofNat 200), .inl (.negSucc 0, .ofNat 2), .inl (.negSucc 2147483647, .ofNat 2147483647)]), .inl (5, [.inr 5, .inl (.ofNat 0, .ofNat 440)]), .inr (1, 440, .inl [(0, 440, 1, [(.ofNat 0, .ofNat 255)])]), .inl (3, [.inr 3, .inr 9, .inr 11, .inr 13, .inr 15, .inl (.ofNat 0, .ofNat 401), .inl (.ofNat 0, .ofNat 400), .inl (.negSucc 2147483647, .ofNat 2147483647), .inr 58, .inl (.ofNat 0, .ofNat 1), .inl (.negSucc 2147483647, .ofNat 2147483647), .inl (.negSucc 2147483647, .ofNat 2147483647), .inl (.negSucc 2147483647, .ofNat 2147483647), .inl (.negSucc 2147483647, .ofNat 2147483647)]), .inr (1, 401, .inl [(0, 401, 1, [(.negSucc 2147483647, .ofNat 2147483647)])]), .inr (1, 401, .inl [(0, 401, 1, [(.ofNat 0, .ofNat 440)])]), .inr (1, 401, .inl [(0, 401, 1, [(.ofNat 0, .ofNat 440)])]), .inr (1, 401, .inl [(0, 401, 1, [(.negSucc 2147483647, .ofNat 2147483647)])]), .inl (1, [.inl (.ofNat 4, .ofNat 16), .inl (.ofNat 4, .ofNat 16), .inr 19, .inr 21, .inr 23, .inr 25, .inr 27, .inr 29, .inr 31, .inr 33, .inr 35, .inl (.ofNat 0, .ofNat 9), .inr 37, .inl (.ofNat 0, .ofNat 24), .inr 39, .inl (.ofNat 0, .ofNat 60), .inl (.negSucc 2147483647, .ofNat 2147483647), .inl (.negSucc 2147483647, .ofNat 2147483647), .inl (.negSucc 2147483647, .ofNat 2147483647), .inl (.negSucc 2147483647, .ofNat 2147483647)]), .inr (1, 256, .inl [(0, 256, 1, [(.negSucc 2147483647, .ofNat 2147483647)])]), .inr (1, 256, .inl [(0, 256, 1, [(.negSucc 2147483647, .ofNat 2147483647)])]), .inr (1, 256, .inl [(0, 256, 1, [(.negSucc 2147483647, .ofNat 2147483647)])]), .inr (1, 256, .inl [(0, 256, 1, [(.negSucc 2147483647, .ofNat 2147483647)])]), .inr (1, 256, .inl [(0, 256, 1, [(.negSucc 2147483647, .ofNat 2147483647)])]), .inr (1, 256, .inl [(0, 256, 1, [(.negSucc 2147483647, .ofNat 2147483647)])]), .inr (1, 256, .inl [(0, 256, 1, [(.negSucc 2147483647, .ofNat 2147483647)])]), .inr (1, 256, .inl [(0, 256, 1, [(.negSucc 2147483647, .ofNat 2147483647)])]), .inr (1, 9, .inl [(0, 9, 1, [(.ofNat 0, .ofNat 255)])]), .inr (7, 24, .inr 20), .inr (6, 60, .inr 21), .inl (9, [.inl (.ofNat 0, .ofNat 8), .inl (.ofNat 0, .ofNat 8), .inl (.ofNat 0, .ofNat 5), .inl (.negSucc 2147483647, .ofNat 2147483647), .inl (.negSucc 2147483647, .ofNat 2147483647), .inl (.ofNat 0, .ofNat 1)]), .inl (8, [.inl (.negSucc 0, .ofNat 255), .inl (.ofNat 0, .ofNat 23), .inl (.negSucc 2147483647, .ofNat 2147483647), .inl (.negSucc 2147483647, .ofNat 2147483647), .inl (.negSucc 2147483647, .ofNat 2147483647)]), .inl (7, [.inr 47, .inr 55, .inr 57, .inr 57, .inr 75, .inr 77, .inr 81, .inr 17, .inl (.ofNat 0, .ofNat 1), .inl (.negSucc 2147483647, .ofNat 2147483647), .inl (.ofNat 0, .ofNat 1), .inl (.ofNat 0, .ofNat 200)])]
def sG_1 : List CT := [.inl (0, [.inr 49, .inr 51, .inr 53, .inl (.ofNat 0, .ofNat 16), .inl (.ofNat 0, .ofNat 16)]), .inr (1, 256, .inl [(0, 256, 1, [(.negSucc 2147483647, .ofNat 2147483647)])]), .inr (1, 256, .inl [(0, 256, 1, [(.negSucc 2147483647, .ofNat 2147483647)])]), .inr (1, 2048, .inl [(0, 1024, 1, [(.negSucc 0, .ofNat 255)]), (1024, 2048, 1, [(.negSucc 0, .ofNat 255)])]), .inr (5, 6, .inr 28), .inl (6, [.inr 59, .inr 61, .inr 63, .inr 65, .inr 67, .inr 69, .inr 71, .inr 73, .inl (.ofNat 0, .ofNat 16), .inl (.ofNat 0, .ofNat 96), .inl (.negSucc 2147483647, .ofNat 2147483647), .inl (.negSucc 2147483647, .ofNat 2147483647), .inl (.negSucc 2147483647, .ofNat 2147483647), .inl (.negSucc 2147483647, .ofNat 2147483647)]), .inr (1, 16, .inl [(0, 16, 1, [(.negSucc 2147483647, .ofNat 2147483647)])]), .inr (1, 16, .inl [(0, 16, 1, [(.ofNat 0, .ofNat 6)])]), .inr (1, 16, .inl [(0, 16, 1, [(.negSucc 2147483647, .ofNat 2147483647)])]), .inr (1, 16, .inl [(0, 16, 1, [(.ofNat 0, .ofNat 96)])]), .inr (1, 16, .inl [(0, 16, 1, [(.negSucc 2147483647, .ofNat 2147483647)])]), .inr (1, 96, .inl [(0, 96, 1, [(.negSucc 2147483647, .ofNat 2147483647)])]), .inr (1, 96, .inl [(0, 96, 1, [(.negSucc 2147483647, .ofNat 2147483647)])]), .inr (1, 96, .inl [(0, 96, 1, [(.negSucc 2147483647, .ofNat 2147483647)])]), .inr (1, 1536, .inl [(0, 1536, 1, [(.negSucc 2147483647, .ofNat 2147483647)])]), .inr (8, 7, .inr 39), .inr (1, 1536, .inl [(0, 1536, 1, [(.negSucc 2147483647, .ofNat 2147483647)])]), .inl (8, [.inl (.negSucc 0, .ofNat 255), .inl (.negSucc 2147483647, .ofNat 2147483647), .inl (.negSucc 2147483647, .ofNat 2147483647), .inl (.negSucc 2147483647, .ofNat 2147483647), .inl (.negSucc 2147483647, .ofNat 2147483647)]), .inl (2, [.inr 85, .inr 87, .inr 89, .inr 91, .inr 45]), .inr (2, 84, .inl []), .inr (1, 256, .inl [(0, 256, 1, [(.negSucc 2147483647, .ofNat 2147483647)])]), .inr (1, 256, .inl [(0, 256, 1, [(.negSucc 2147483647, .ofNat 2147483647)])]), .inr (8, 32, .inr 43)]
def sG_2 : List CT := [.inl (4, [.inr 95, .inr 99, .inl (.ofNat 0, .ofNat 5), .inr 101, .inl (.negSucc 2147483647, .ofNat 2147483647), .inr 103, .inr 105, .inr 107, .inl (.ofNat 0, .ofNat 5), .inr 109, .inr 111]), .inr (8, 5, .inr 48), .inr (1, 200, .inl [(0, 200, 1, [(.ofNat 0, .ofNat 255)])]), .inr (1, 5, .inl [(0, 5, 1, [(.ofNat 0, .ofNat 200)])]), .inr (1, 256, .inl [(0, 256, 1, [(.negSucc 2147483647, .ofNat 2147483647)])]), .inr (1, 5, .inl [(0, 5, 1, [(.negSucc 2147483647, .ofNat 2147483647)])]), .inr (1, 5, .inl [(0, 5, 1, [(.negSucc 2147483647, .ofNat 2147483647)])]), .inr (1, 5, .inl [(0, 5, 1, [(.negSucc 2147483647, .ofNat 2147483647)])]), .inr (1, 5, .inl [(0, 5, 1, [(.negSucc 2147483647, .ofNat 2147483647)])]), .inr (1, 5, .inl [(0, 5, 1, [(.negSucc 2147483647, .ofNat 2147483647)])]), .inr (4, 3, .inr 8), .inr (3, 3, .inl [(0, 3, 1, [(.ofNat 0, .ofNat 1)])]), .inr (1, 201, .inl [(0, 201, 1, [(.ofNat 0, .ofNat 255)])]), .inr (1, 2, .inl [(0, 2, 1, [(.negSucc 2147483647, .ofNat 2147483647)])]), .inr (1, 6, .inl [(0, 6, 1, [(.ofNat 0, .ofNat 255)])]), .inl (11, [.inl (.negSucc 2147483647, .ofNat 2147483647), .inr 125, .inl (.ofNat 0, .ofNat 440), .inl (.ofNat 0, .ofNat 440), .inl (.ofNat 0, .ofNat 440), .inr 127, .inr 129, .inr 131, .inr 133, .inr 135, .inr 137, .inr 139, .inr 141, .inr 143, .inr 145, .inr 147, .inr 149, .inr 151, .inr 153, .inl (.ofNat 0, .ofNat 200), .inl (.ofNat 0, .ofNat 100), .inl (.ofNat 0, .ofNat 40), .inl (.negSucc 2147483647, .ofNat 2147483647), .inl (.ofNat 0, .ofNat 440), .inl (.negSucc 2147483647, .ofNat 2147483647), .inl (.negSucc 2147483647, .ofNat 2147483647), .inl (.negSucc 2147483647, .ofNat 2147483647), .inl (.negSucc 2147483647, .ofNat 2147483647), .inl (.negSucc 2147483647, .ofNat 2147483647), .inl (.negSucc 2147483647, .ofNat 2147483647), .inl (.negSucc 2147483647, .ofNat 2147483647), .inr 0, .inl (.negSucc 2147483647, .ofNat 2147483647), .inr 155, .inl (.ofNat 0, .ofNat 255), .inl (.ofNat 0, .ofNat 255), .inl (.ofNat 0, .ofNat 6), .inl (.negSucc 2147483647, .ofNat 2147483647), .inl (.negSucc 2147483647, .ofNat 2147483647), .inl (.ofNat 0, .ofNat 1), .inl (.negSucc 2147483647, .ofNat 2147483647), .inl (.negSucc 2147483647, .ofNat 2147483647), .inl (.ofNat 0, .ofNat 1), .inr 157, .inr 159, .inr 161, .inr 163, .inr 165, .inr 167, .inl (.negSucc 2147483647, .ofNat 2147483647), .inl (.negSucc 2147483647, .ofNat 2147483647), .inl (.negSucc 2147483647, .ofNat 2147483647), .inr 169, .inl (.ofNat 0, .ofNat 2), .inr 171, .inr 173, .inr 175, .inr 177, .inr 179, .inr 181, .inl (.ofNat 0, .ofNat 201), .inl (.ofNat 0, .ofNat 201), .inl (.ofNat 0, .ofNat 5)]), .inr (0, 440, .inl [(0, 440, 1, [(.negSucc 127, .ofNat 127)])]), .inr (1, 2314, .inl [(0, 2, 1, [(.ofNat 4, .ofNat 16)]), (2, 3, 1, [(.ofNat 0, .ofNat 9)]), (3, 12, 1, [(.ofNat 0, .ofNat 255)]), (12, 13, 1, [(.ofNat 0, .ofNat 24)]), (13, 157, 6, [(.ofNat 0, .ofNat 8), (.ofNat 0, .ofNat 8), (.ofNat 0, .ofNat 5), (.ofNat 0, .ofNat 200), (.negSucc 2147483647, .ofNat 2147483647), (.ofNat 0, .ofNat 1)]), (157, 158, 1, [(.ofNat 0, .ofNat 60)]), (158, 518, 6, [(.ofNat 0, .ofNat 255), (.ofNat 0, .ofNat 23), (.negSucc 2147483647, .ofNat 2147483647), (.negSucc 2147483647, .ofNat 2147483647), (.negSucc 2147483647, .ofNat 2147483647), (.negSucc 2147483647, .ofNat 2147483647)]), (518, 522, 1, [(.negSucc 2147483647, .ofNat 2147483647)]), (522, 2314, 7, [(.negSucc 2147483647, .ofNat 2147483647), (.negSucc 2147483647, .ofNat 2147483647), (.negSucc 2147483647, .ofNat 2147483647), (.negSucc 2147483647, .ofNat 2147483647), (.negSucc 2147483647, .ofNat 2147483647), (.negSucc 2147483647, .ofNat 2147483647), (.negSucc 2147483647, .ofNat 2147483647)])]), .inr (1, 6942, .inl [(0, 6942, 1, [(.negSucc 2147483647, .ofNat 2147483647)])]), .inr (1, 2314, .inl [(0, 2314, 1, [(.negSucc 2147483647, .ofNat 2147483647)])]), .inr (3, 3, .inl [(0, 3, 1, [(.ofNat 0, .ofNat 1)])]), .inr (1, 8, .inl [(0, 7, 1, [(.ofNat 0, .ofNat 16)]), (7, 8, 1, [(.ofNat 0, .ofNat 16)])]), .inr (1, 128, .inl [(0, 128, 1, [(.negSucc 2147483647, .ofNat 2147483647)])])]
def sG_3 : List CT := [.inr (1, 128, .inl [(0, 128, 1, [(.negSucc 2147483647, .ofNat 2147483647)])]), .inr (1, 128, .inl [(0, 128, 1, [(.negSucc 2147483647, .ofNat 2147483647)])]), .inr (1, 128, .inl [(0, 128, 1, [(.ofNat 0, .ofNat 200)])]), .inr (1, 128, .inl [(0, 128, 1, [(.ofNat 0, .ofNat 200)])]), .inr (1, 1600, .inl [(0, 1600, 1, [(.negSucc 2147483647, .ofNat 2147483647)])]), .inr (1, 1600, .inl [(0, 1600, 1, [(.negSucc 2147483647, .ofNat 2147483647)])]), .inr (1, 1600, .inl [(0, 1600, 1, [(.negSucc 2147483647, .ofNat 2147483647)])]), .inr (1, 100, .inl [(0, 100, 1, [(.negSucc 2147483647, .ofNat 2147483647)])]), .inr (3, 60, .inl [(0, 60, 1, [(.ofNat 0, .ofNat 1)])]), .inr (3, 256, .inl [(0, 1, 1, [(.ofNat 0, .ofNat 1)]), (1, 256, 1, [(.ofNat 0, .ofNat 1)])]), .inr (3, 256, .inl [(0, 256, 1, [(.ofNat 0, .ofNat 1)])]), .inr (3, 256, .inl [(0, 256, 1, [(.ofNat 0, .ofNat 1)])]), .inr (3, 256, .inl [(0, 256, 1, [(.ofNat 0, .ofNat 1)])]), .inr (1, 16384, .inl [(0, 16384, 1, [(.negSucc 2147483647, .ofNat 2147483647)])]), .inr (1, 256, .inl [(0, 256, 1, [(.ofNat 0, .ofNat 10000000)])]), .inr (1, 2, .inl [(0, 2, 1, [(.negSucc 2147483647, .ofNat 2147483647)])]), .inr (1, 201, .inl [(0, 201, 1, [(.ofNat 0, .ofNat 255)])]), .inr (1, 201, .inl [(0, 201, 1, [(.ofNat 0, .ofNat 255)])]), .inr (1, 1280, .inl [(0, 1280, 1, [(.negSucc 2147483647, .ofNat 2147483647)])]), .inr (1, 5, .inl [(0, 5, 1, [(.negSucc 2147483647, .ofNat 2147483647)])]), .inr (1, 5, .inl [(0, 5, 1, [(.negSucc 2147483647, .ofNat 2147483647)])]), .inr (1, 5, .inl [(0, 5, 1, [(.negSucc 2147483647, .ofNat 2147483647)])]), .inr (2, 1, .inl [])]
def sG : List CT := sG_0 ++ (sG_1 ++ (sG_2 ++ (sG_3)))
def sU : List (Option Nat) := [some 0, some 1, some 2, some 3, some 4, some 5, some 6, some 7, none, none, none, none, none, none, none, none, none, none, none, none, none, none, some 104, some 105, some 106, some 107, some 108, some 109, none, none, none, none, none, none, none, none, none, some 128, some 129, none, some 137, some 192, some 193, none, some 195, some 196, some 229, some 230, none, some 236, some 237, some 238, some 239, some 240, some 241, some 242, some 339, some 340, none, some 343, some 344, some 633, some 634, some 635, some 636, some 637, some 638, some 639, some 640, some 641, some 642, some 643, some 644, some 645, some 646, some 647, some 648, some 649, some 650, some 651, some 652, some 653, some 654, some 655, some 656, some 657, some 658, some 659, some 660, some 661, some 662, some 663]
set_option maxRecDepth 100000 in
theorem sT_len : sT.length = 664 := by decide +kernel
set_option maxRecDepth 100000 in
theorem sU_all : ((List.range 664).all (fun a => match gNth sT a with
  | some g => (match gNth sU g with
    | some (some u) => Nat.beq a u
    | _ => true)
  | none => true)) = true := by decide +kernel
theorem sU_ok : uOK sT sU := by
  intro a g u h1 h2
  have hl := gNth_lt _ _ _ h1
  rw [sT_len] at hl
  have h := List.all_eq_true.mp sU_all a (List.mem_range.mpr hl)
  rw [h1] at h
  dsimp only at h
  rw [h2] at h
  exact Nat.eq_of_beq_eq_true h
theorem nil_ok {aT : List Nat} {gT : List CT} {FL : Nat → List Int → Mem → Prop} : ∀ c ∈ ([] : List CN), cnOK aT gT FL c := fun c h => by cases h
theorem cons_ok {aT : List Nat} {gT : List CT} {FL : Nat → List Int → Mem → Prop} {c : CN} {l : List CN} (h : cnOK aT gT FL c) (h2 : ∀ x ∈ l, cnOK aT gT FL x) : ∀ x ∈ c :: l, cnOK aT gT FL x := fun x hx => by
  rcases List.mem_cons.mp hx with rfl | hx
  · exact h
  · exact h2 x hx
/-! BY HAND: the reference's beside(c, d), as a value -/
def eastI (d : Int32) : Int32 := if d - d / 4 * 4 = 0 then 0 else if d < 4 then 1 else -1
def southI (d : Int32) : Int32 := if d - d / 4 * 4 = 2 then 0 else if d < 3 then -1 else if 5 < d then -1 else 1
def besI (w h c d : Int32) : Int32 := if c - c / w * w + eastI d < 0 then -1 else if w - 1 < c - c / w * w + eastI d then -1 else if c / w + southI d < 0 then -1 else if h - 1 < c / w + southI d then -1 else w * (c / w + southI d) + (c - c / w * w + eastI d)
theorem ev_isin {d : Nat} {M : Mem} {x lo hi : Int32} : Ev none d 140 0 [some (.int x), some (.int lo), some (.int hi)] [] M (some (.int (if x < lo then 0 else if hi < x then 0 else 1))) M 0 0 := by
  refine Ev.step (pc' := if x < lo then 14 else 5) (ls' := [some (.int x), some (.int lo), some (.int hi)]) (st' := []) (M1 := M) 3 (fun n => rfl) ?_
  by_cases h1 : x < lo
  · rw [if_pos h1, if_pos h1]
    refine Ev.step (pc' := 15) (ls' := [some (.int x), some (.int lo), some (.int hi)]) (st' := [.int 0]) (M1 := M) 1 (fun n => rfl) ?_
    exact Ev.ret (fun n => rfl)
  · rw [if_neg h1, if_neg h1]
    refine Ev.step (pc' := if hi < x then 14 else 10) (ls' := [some (.int x), some (.int lo), some (.int hi)]) (st' := []) (M1 := M) 3 (fun n => rfl) ?_
    by_cases h2 : hi < x
    · rw [if_pos h2, if_pos h2]
      refine Ev.step (pc' := 15) (ls' := [some (.int x), some (.int lo), some (.int hi)]) (st' := [.int 0]) (M1 := M) 1 (fun n => rfl) ?_
      exact Ev.ret (fun n => rfl)
    · rw [if_neg h2, if_neg h2]
      refine Ev.step (pc' := 15) (ls' := [some (.int x), some (.int lo), some (.int hi)]) (st' := [.int 1]) (M1 := M) 2 (fun n => rfl) ?_
      exact Ev.ret (fun n => rfl)
theorem ev_east {e : Nat} {M : Mem} {d : Int32} : Ev none e 192 0 [some (.int d)] [] M (some (.int (eastI d))) M 0 0 := by
  refine Ev.step (pc' := if d - d / 4 * 4 = 0 then 6 else 10) (ls' := [some (.int d)]) (st' := []) (M1 := M) 4 (fun n => rfl) ?_
  unfold eastI
  by_cases h1 : d - d / 4 * 4 = 0
  · rw [if_pos h1, if_pos h1]
    refine Ev.step (pc' := 20) (ls' := [some (.int d)]) (st' := [.int 0]) (M1 := M) 2 (fun n => rfl) ?_
    exact Ev.ret (fun n => rfl)
  · rw [if_neg h1, if_neg h1]
    refine Ev.step (pc' := if (4 : Int32) ≤ d then 19 else 15) (ls' := [some (.int d)]) (st' := []) (M1 := M) 3 (fun n => rfl) ?_
    by_cases h2 : d < 4
    · have h3 : ¬ (4 : Int32) ≤ d := by rw [Int32.le_iff_toInt_le]; rw [Int32.lt_iff_toInt_lt] at h2; omega
      rw [if_neg h3, if_pos h2]
      refine Ev.step (pc' := 20) (ls' := [some (.int d)]) (st' := [.int 1]) (M1 := M) 2 (fun n => rfl) ?_
      exact Ev.ret (fun n => rfl)
    · have h3 : (4 : Int32) ≤ d := by rw [Int32.le_iff_toInt_le]; rw [Int32.lt_iff_toInt_lt] at h2; omega
      rw [if_pos h3, if_neg h2]
      refine Ev.step (pc' := 20) (ls' := [some (.int d)]) (st' := [.int (-1)]) (M1 := M) 1 (fun n => rfl) ?_
      exact Ev.ret (fun n => rfl)
theorem Ev.call0 {sc : Sta} {d me pc : Nat} {ls ls0 : Lo} {st rest : List Value} {M M1 M' : Mem} {v v1 : Option Value} {c s id : Nat} (h : ∀ n, go sc (n + 1) (d + 1) me pc ls st M = gThen (go sc n d id 0 ls0 [] M) (fun v M' c s => gAdd c s (go sc n (d + 1) me (pc + 3) ls (v.toList ++ rest) M'))) (h1 : Ev sc d id 0 ls0 [] M v1 M1 0 0) (h2 : Ev sc (d + 1) me (pc + 3) ls (v1.toList ++ rest) M1 v M' c s) : Ev sc (d + 1) me pc ls st M v M' c s := (Ev.call h h1 h2).cast (Nat.zero_add _) (Nat.zero_add _)
theorem ev_south {e : Nat} {M : Mem} {d : Int32} : Ev none (e + 1) 193 0 [some (.int d)] [] M (some (.int (southI d))) M 0 0 := by
  refine Ev.step (pc' := if d - d / 4 * 4 = 2 then 7 else 11) (ls' := [some (.int d)]) (st' := []) (M1 := M) 5 (fun n => rfl) ?_
  unfold southI
  by_cases h1 : d - d / 4 * 4 = 2
  · rw [if_pos h1, if_pos h1]
    refine Ev.step (pc' := 25) (ls' := [some (.int d)]) (st' := [.int 0]) (M1 := M) 2 (fun n => rfl) ?_
    exact Ev.ret (fun n => rfl)
  · rw [if_neg h1, if_neg h1]
    refine Ev.step (pc' := 14) (ls' := [some (.int d)]) (st' := [.int 5, .int 3, .int d]) (M1 := M) 3 (fun n => rfl) ?_
    refine Ev.call0 (ls0 := [some (.int d), some (.int 3), some (.int 5)]) (rest := []) (id := 140) (v1 := some (.int (if d < 3 then 0 else if 5 < d then 0 else 1))) (M1 := M) (fun n => rfl) ev_isin ?_
    by_cases h2 : d < 3
    · rw [if_pos h2, if_pos h2]
      refine Ev.step (pc' := 25) (ls' := [some (.int d)]) (st' := [.int (-1)]) (M1 := M) 2 (fun n => rfl) ?_
      exact Ev.ret (fun n => rfl)
    · rw [if_neg h2, if_neg h2]
      by_cases h3 : 5 < d
      · rw [if_pos h3, if_pos h3]
        refine Ev.step (pc' := 25) (ls' := [some (.int d)]) (st' := [.int (-1)]) (M1 := M) 2 (fun n => rfl) ?_
        exact Ev.ret (fun n => rfl)
      · rw [if_neg h3, if_neg h3]
        refine Ev.step (pc' := 25) (ls' := [some (.int d)]) (st' := [.int 1]) (M1 := M) 3 (fun n => rfl) ?_
        exact Ev.ret (fun n => rfl)
section BES
variable {M : Mem} {vs : List Value} {l : List Int32}
theorem gf_s {st : List Value} {ini : Bool} (hM : gNth M 633 = some (.inr (11, vs))) (hv : gNth vs 5 = some (.ref 635)) : gGet (.getfield 30) none 11 ini (.ref 633 :: st) M = some (.ref 635 :: st, M) := by
  show (match gOwn fRs 11 30, gNth M 633 with
    | some (ci, k, _), some (.inr (c, fs)) => match Nat.beq c ci, gNth fs k with
      | true, some v => some (v :: st, M)
      | _, _ => none
    | _, _ => none) = _
  rw [hM]
  show (match Nat.beq 11 11, gNth vs 5 with
    | true, some v => some (v :: st, M)
    | _, _ => none) = _
  rw [hv]
theorem ia_s {st : List Value} {ini : Bool} {j x : Int32} (hs : gNth M 635 = some (.inl (1, .inl l))) (h0 : gAt l j = some x) : gGet .iaload none 11 ini (.int j :: .ref 635 :: st) M = some (.int x :: st, M) := by
  show (match gNth M 635 with
    | some (.inl (1, .inl l)) => match gAt l j with
      | some x => some (Value.int x :: st, M)
      | none => none
    | _ => none) = _
  rw [hs]
  show (match gAt l j with
      | some x => some (Value.int x :: st, M)
      | none => none) = _
  rw [h0]
variable {w h c d : Int32} {e : Nat}
set_option maxHeartbeats 4000000 in
theorem ev_beside (hM : gNth M 633 = some (.inr (11, vs))) (hv : gNth vs 5 = some (.ref 635)) (hs : gNth M 635 = some (.inl (1, .inl l))) (h0 : gAt l 0 = some w) (h1 : gAt l 1 = some h) (hw : ¬ w = 0) : Ev none (e + 2) 194 0 [some (.ref 633), some (.int c), some (.int d), none, none] [] M (some (.int (besI w h c d))) M 0 0 := by
  refine Ev.step (pc' := 2) (ls' := [some (.ref 633), some (.int c), some (.int d), none, none]) (st' := [.ref 633, .int c]) (M1 := M) 2 (fun n => rfl) ?_
  refine Ev.step 1 (gs_3 rfl rfl (gf_s hM hv)) ?_
  refine Ev.step (pc' := 6) (ls' := [some (.ref 633), some (.int c), some (.int d), none, none]) (st' := [.int 0, .ref 635, .int c]) (M1 := M) 1 (fun n => rfl) ?_
  refine Ev.step 1 (gs_3 rfl rfl (ia_s hs h0)) ?_
  refine Ev.step 1 (gs_0 (st' := [.int (c - c / w * w)]) rfl rfl (show (if w = 0 then none else some _) = _ by rw [if_neg hw])) ?_
  refine Ev.step (pc' := 9) (ls' := [some (.ref 633), some (.int c), some (.int d), none, none]) (st' := [.int d, .int (c - c / w * w)]) (M1 := M) 1 (fun n => rfl) ?_
  refine Ev.call0 (ls0 := [some (.int d)]) (rest := [.int (c - c / w * w)]) (id := 192) (v1 := some (.int (eastI d))) (M1 := M) (fun n => rfl) ev_east ?_
  obtain ⟨x, ex⟩ : ∃ x, x = c - c / w * w + eastI d := ⟨_, rfl⟩
  obtain ⟨y, ey⟩ : ∃ y, y = c / w + southI d := ⟨_, rfl⟩
  unfold besI
  rw [← ex, ← ey]
  refine Ev.step (pc' := 16) (ls' := [some (.ref 633), some (.int c), some (.int d), some (.int x), none]) (st' := [.ref 633, .int c]) (M1 := M) 4 (fun n => by rw [ex]; rfl) ?_
  refine Ev.step 1 (gs_3 rfl rfl (gf_s hM hv)) ?_
  refine Ev.step (pc' := 20) (ls' := [some (.ref 633), some (.int c), some (.int d), some (.int x), none]) (st' := [.int 0, .ref 635, .int c]) (M1 := M) 1 (fun n => rfl) ?_
  refine Ev.step 1 (gs_3 rfl rfl (ia_s hs h0)) ?_
  refine Ev.step 1 (gs_0 (st' := [.int (c / w)]) rfl rfl (show (if w = 0 then none else some _) = _ by rw [if_neg hw])) ?_
  refine Ev.step (pc' := 23) (ls' := [some (.ref 633), some (.int c), some (.int d), some (.int x), none]) (st' := [.int d, .int (c / w)]) (M1 := M) 1 (fun n => rfl) ?_
  refine Ev.call0 (ls0 := [some (.int d)]) (rest := [.int (c / w)]) (id := 193) (v1 := some (.int (southI d))) (M1 := M) (fun n => rfl) ev_south ?_
  refine Ev.step (pc' := 32) (ls' := [some (.ref 633), some (.int c), some (.int d), some (.int x), some (.int y)]) (st' := [.ref 633, .int 0, .int x]) (M1 := M) 5 (fun n => by rw [ey]; rfl) ?_
  refine Ev.step 1 (gs_3 rfl rfl (gf_s hM hv)) ?_
  refine Ev.step (pc' := 36) (ls' := [some (.ref 633), some (.int c), some (.int d), some (.int x), some (.int y)]) (st' := [.int 0, .ref 635, .int 0, .int x]) (M1 := M) 1 (fun n => rfl) ?_
  refine Ev.step 1 (gs_3 rfl rfl (ia_s hs h0)) ?_
  refine Ev.step (pc' := 39) (ls' := [some (.ref 633), some (.int c), some (.int d), some (.int x), some (.int y)]) (st' := [.int (w - 1), .int 0, .int x]) (M1 := M) 2 (fun n => rfl) ?_
  refine Ev.call0 (ls0 := [some (.int x), some (.int 0), some (.int (w - 1))]) (rest := []) (id := 140) (v1 := some (.int (if x < 0 then 0 else if w - 1 < x then 0 else 1))) (M1 := M) (fun n => rfl) ev_isin ?_
  have out : Ev none (e + 2) 194 76 [some (.ref 633), some (.int c), some (.int d), some (.int x), some (.int y)] [] M (some (.int (-1))) M 0 0 := by
    refine Ev.step (pc' := 77) (ls' := [some (.ref 633), some (.int c), some (.int d), some (.int x), some (.int y)]) (st' := [.int (-1)]) (M1 := M) 1 (fun n => rfl) ?_
    exact Ev.ret (fun n => rfl)
  by_cases c1 : x < 0
  · rw [if_pos c1, if_pos c1]
    exact Ev.step (pc' := 76) (ls' := [some (.ref 633), some (.int c), some (.int d), some (.int x), some (.int y)]) (st' := []) (M1 := M) 1 (fun n => rfl) out
  rw [if_neg c1, if_neg c1]
  by_cases c2 : w - 1 < x
  · rw [if_pos c2, if_pos c2]
    exact Ev.step (pc' := 76) (ls' := [some (.ref 633), some (.int c), some (.int d), some (.int x), some (.int y)]) (st' := []) (M1 := M) 1 (fun n => rfl) out
  rw [if_neg c2, if_neg c2]
  refine Ev.step (pc' := 49) (ls' := [some (.ref 633), some (.int c), some (.int d), some (.int x), some (.int y)]) (st' := [.ref 633, .int 0, .int y]) (M1 := M) 4 (fun n => rfl) ?_
  refine Ev.step 1 (gs_3 rfl rfl (gf_s hM hv)) ?_
  refine Ev.step (pc' := 53) (ls' := [some (.ref 633), some (.int c), some (.int d), some (.int x), some (.int y)]) (st' := [.int 1, .ref 635, .int 0, .int y]) (M1 := M) 1 (fun n => rfl) ?_
  refine Ev.step 1 (gs_3 rfl rfl (ia_s hs h1)) ?_
  refine Ev.step (pc' := 56) (ls' := [some (.ref 633), some (.int c), some (.int d), some (.int x), some (.int y)]) (st' := [.int (h - 1), .int 0, .int y]) (M1 := M) 2 (fun n => rfl) ?_
  refine Ev.call0 (ls0 := [some (.int y), some (.int 0), some (.int (h - 1))]) (rest := []) (id := 140) (v1 := some (.int (if y < 0 then 0 else if h - 1 < y then 0 else 1))) (M1 := M) (fun n => rfl) ev_isin ?_
  by_cases c3 : y < 0
  · rw [if_pos c3, if_pos c3]
    exact Ev.step (pc' := 76) (ls' := [some (.ref 633), some (.int c), some (.int d), some (.int x), some (.int y)]) (st' := []) (M1 := M) 1 (fun n => rfl) out
  rw [if_neg c3, if_neg c3]
  by_cases c4 : h - 1 < y
  · rw [if_pos c4, if_pos c4]
    exact Ev.step (pc' := 76) (ls' := [some (.ref 633), some (.int c), some (.int d), some (.int x), some (.int y)]) (st' := []) (M1 := M) 1 (fun n => rfl) out
  rw [if_neg c4, if_neg c4]
  refine Ev.step (pc' := 63) (ls' := [some (.ref 633), some (.int c), some (.int d), some (.int x), some (.int y)]) (st' := [.ref 633]) (M1 := M) 2 (fun n => rfl) ?_
  refine Ev.step 1 (gs_3 rfl rfl (gf_s hM hv)) ?_
  refine Ev.step (pc' := 67) (ls' := [some (.ref 633), some (.int c), some (.int d), some (.int x), some (.int y)]) (st' := [.int 0, .ref 635]) (M1 := M) 1 (fun n => rfl) ?_
  refine Ev.step 1 (gs_3 rfl rfl (ia_s hs h0)) ?_
  refine Ev.step (pc' := 77) (ls' := [some (.ref 633), some (.int c), some (.int d), some (.int x), some (.int y)]) (st' := [.int (w * y + x)]) (M1 := M) 5 (fun n => rfl) ?_
  exact Ev.ret (fun n => rfl)
end BES
/-! THE FLAGS: what a fact about values and the memory means; 20 (c, d): beside(c, d) ≥ 0; 21: < 0 -/
def bsP (P : Int → Prop) (vs : List Int) (M : Mem) : Prop := ∃ (c d w h : Int32) (l : List Int32), vs = [c.toInt, d.toInt] ∧ gNth M 635 = some (.inl (1, .inl l)) ∧ gAt l 0 = some w ∧ gAt l 1 = some h ∧ P (besI w h c d).toInt
/-- the steps of a line, from place k on, with n answers on the pile -/
def okS : Nat → List Int32 → Nat → Int → Prop
  | 0, _, _, _ => True
  | m + 1, l, k, n => ∃ w, gNth l k = some w ∧ ((w = 20 ∧ 1 ≤ n ∧ okS m l (k + 1) n) ∨ (w ≠ 20 ∧ (w = 21 ∨ w = 22) ∧ 2 ≤ n ∧ okS m l (k + 1) (n - 1)) ∨ (w ≠ 20 ∧ w ≠ 21 ∧ w ≠ 22 ∧ n < 60 ∧ okS m l (k + 1) (n + 1)))
/-- a line is well formed -/
def lnP (vs : List Int) (M : Mem) : Prop := ∃ (x f t : Int32) (lf lt ls : List Int32), vs = [x.toInt] ∧ gNth M 643 = some (.inl (1, .inl lf)) ∧ gNth M 644 = some (.inl (1, .inl lt)) ∧ gNth M 645 = some (.inl (1, .inl ls)) ∧ gAt lf x = some f ∧ gAt lt x = some t ∧ (f = t ∨ ∃ m k : Nat, f.toInt + (m : Int) = t.toInt ∧ (k : Int) = 200 * (x / 16).toInt + f.toInt ∧ okS m ls k 0)
/-- every line below lineMany of each text but the last is well formed -/
def P24 (M : Mem) : Prop := ∃ lm lf lt ls : List Int32, gNth M 639 = some (.inl (1, .inl lm)) ∧ gNth M 643 = some (.inl (1, .inl lf)) ∧ gNth M 644 = some (.inl (1, .inl lt)) ∧ gNth M 645 = some (.inl (1, .inl ls)) ∧ ∀ (i : Nat) (v : Int32), gNth lm i = some v → i ≤ 6 → v.toInt ≤ 16 ∧ ∀ j : Nat, 16 * i ≤ j → (j : Int) < 16 * (i : Int) + v.toInt → ∃ f t, gNth lf j = some f ∧ gNth lt j = some t ∧ (f = t ∨ ∃ m k : Nat, f.toInt + (m : Int) = t.toInt ∧ (k : Int) = 200 * (i : Int) + f.toInt ∧ okS m ls k 0)
/-- someone walks -/
def P26 (M : Mem) : Prop := ∃ (t : Nat) (l : List Int32) (v : Int32), gNth M 635 = some (.inl (t, .inl l)) ∧ gNth l 157 = some v ∧ 1 ≤ v.toInt
/-- a wish that is has an 'every' of at least 1 -/
def evS (l : List Int32) : Prop := ∀ p : Nat, 13 ≤ p → p < 157 → (p - 13) % 6 = 3 → ∀ y, gNth l (p + 2) = some y → 1 ≤ y.toInt → ∃ e : Int32, gNth l p = some e ∧ 1 ≤ e.toInt
/-- doors are cells of the map, and unlike -/
def dsS (l : List Int32) : Prop := ∀ w h n : Int32, gNth l 0 = some w → gNth l 1 = some h → gNth l 2 = some n → n.toInt ≤ 9 ∧ ∀ i j : Nat, (i : Int) < n.toInt → (j : Int) < n.toInt → ∃ a b : Int32, gNth l (3 + i) = some a ∧ gNth l (3 + j) = some b ∧ a.toInt < w.toInt * h.toInt ∧ (i ≠ j → a ≠ b)
def P28 (M : Mem) : Prop := ∃ (t : Nat) (l : List Int32), gNth M 635 = some (.inl (t, .inl l)) ∧ evS l ∧ dsS l
noncomputable def sS : List SG := match gNth sG 63 with
  | some (.inr (_, _, .inl sg)) => sg
  | _ => []
/-- a row that may be s -/
def goodS (l : List Int32) : Prop := l.length = 2314 ∧ (∀ i y, gNth l i = some y → ∃ p : Iv, sgAt sS i = some p ∧ p.1 ≤ y.toInt ∧ y.toInt ≤ p.2) ∧ evS l ∧ dsS l
def P30 (M : Mem) : Prop := ∃ (t : Nat) (l : List Int32), gNth M 637 = some (.inl (t, .inl l)) ∧ goodS l
def P32 (M : Mem) : Prop := ∃ (t t2 : Nat) (l lb : List Int32), gNth M 636 = some (.inl (t, .inl l)) ∧ gNth M 638 = some (.inl (t2, .inl lb)) ∧ ∀ (k : Nat) (b : Int32), gNth lb k = some b → b ≠ 0 → ∃ l2, goodS l2 ∧ ∀ i : Nat, i < 2314 → gNth l (2314 * k + i) = gNth l2 i
def mB (x : Int32) : Nat := (2147483647 - x.toInt).toNat
def mI (x : Int32) : Nat := (x.toInt + 2147483648).toNat
/-- the measure of a row -/
def msP (a : Nat) (f : Int32 → Nat) (P : Nat → Prop) (M : Mem) : Prop := ∃ (t : Nat) (l : List Int32), gNth M a = some (.inl (t, .inl l)) ∧ P ((l.map f).sum)
def P62 (vs : List Int) (M : Mem) : Prop := ∃ (t : Nat) (l : List Int32) (x : Int32) (i : Nat), vs = [(i : Int), (x &&& 255).toInt] ∧ gNth M 634 = some (.inl (t, .inl l)) ∧ gNth l i = some x
def P64 (vs : List Int) (M : Mem) : Prop := ∃ (t : Nat) (l : List Int32) (x : Int32) (i : Nat), vs = [(i : Int)] ∧ gNth M 655 = some (.inl (t, .inl l)) ∧ gNth l i = some x ∧ 1 ≤ x.toInt
def prI (k : Int32) : Int32 := if k = 0 then 21 else if k = 2 then 21 else 1
def P66 (vs : List Int) (M : Mem) : Prop := ∃ (t : Nat) (l : List Int32) (k c : Int32), vs = [c.toInt, (prI k).toInt] ∧ gNth M 635 = some (.inl (t, .inl l)) ∧ gAt l (522 + 7 * c + 0) = some k
/-- a walker stands on a cell -/
def cge (M : Mem) (b : Nat) : Prop := ∃ us x, gNth M b = some (.inr (8, us)) ∧ gNth us 0 = some (.int x) ∧ 0 ≤ x.toInt
/-- unlike -/
def unl (l : List (Option Nat)) : Prop := ∀ j k b, gNth l j = some (some b) → gNth l k = some (some b) → j = k
/-- a land's walkers: its row, unlike ones, its own; those that walk stand on cells -/
def WK (a : Nat) (M : Mem) : Prop := ∃ (vl : List Value) (l : List (Option Nat)) (n : Int32), gNth M a = some (.inr (1, vl)) ∧ gNth vl 14 = some (.ref (a + 11)) ∧ gNth vl 15 = some (.int n) ∧ gNth M (a + 11) = some (.inl (6, .inr (.inr l))) ∧ unl l ∧ (∀ k b, gNth l k = some (some b) → a + 36 ≤ b ∧ b < a + 96) ∧ ∀ k, k < n.toInt.toNat → ∃ b, gNth l k = some (some b) ∧ cge M b
def P34 (M : Mem) : Prop := ∀ a, a ∈ [8, 243, 345, 441, 537] → WK a M
def FLm (m x : Nat) (vs : List Int) (M : Mem) : Prop := match x with
  | 20 => bsP (fun y => 0 ≤ y) vs M
  | 21 => bsP (fun y => y < 0) vs M
  | 22 => lnP vs M
  | 24 => P24 M
  | 26 => P26 M
  | 28 => P28 M
  | 30 => P30 M
  | 32 => P32 M
  | 40 => msP 650 mB (fun s => s < m) M
  | 42 => msP 650 mB (fun s => s ≤ m) M
  | 44 => msP 654 mI (fun s => s < m) M
  | 46 => msP 654 mI (fun s => s ≤ m) M
  | 48 => msP 655 mI (fun s => s < m) M
  | 50 => msP 655 mI (fun s => s ≤ m) M
  | 62 => P62 vs M
  | 64 => P64 vs M
  | 66 => P66 vs M
  | 34 => P34 M
  | _ => False
abbrev FL0 : Nat → List Int → Mem → Prop := FLm 0
theorem FLm_inv {m x : Nat} {vs : List Int} {M : Mem} (h : FLm m x vs M) : x = 20 ∨ x = 21 ∨ x = 22 ∨ x = 24 ∨ x = 26 ∨ x = 28 ∨ x = 30 ∨ x = 32 ∨ x = 40 ∨ x = 42 ∨ x = 44 ∨ x = 46 ∨ x = 48 ∨ x = 50 ∨ x = 62 ∨ x = 64 ∨ x = 66 ∨ x = 34 := by
  unfold FLm at h
  split at h <;> first | exact h.elim | decide
theorem fl0_20 {m : Nat} {vs : List Int} {M : Mem} (h : FLm m 20 vs M) : bsP (fun y => 0 ≤ y) vs M := h
theorem fl0_21 {m : Nat} {vs : List Int} {M : Mem} (h : FLm m 21 vs M) : bsP (fun y => y < 0) vs M := h
theorem fl0_22 {m : Nat} {vs : List Int} {M : Mem} (h : FLm m 22 vs M) : lnP vs M := h
theorem fl0_24 {m : Nat} {vs : List Int} {M : Mem} (h : FLm m 24 vs M) : P24 M := h
theorem fl0_26 {m : Nat} {vs : List Int} {M : Mem} (h : FLm m 26 vs M) : P26 M := h
theorem fl0_28 {m : Nat} {vs : List Int} {M : Mem} (h : FLm m 28 vs M) : P28 M := h
theorem fl0_30 {m : Nat} {vs : List Int} {M : Mem} (h : FLm m 30 vs M) : P30 M := h
theorem fl0_32 {m : Nat} {vs : List Int} {M : Mem} (h : FLm m 32 vs M) : P32 M := h
theorem fl0_62 {m : Nat} {vs : List Int} {M : Mem} (h : FLm m 62 vs M) : P62 vs M := h
theorem fl0_66 {m : Nat} {vs : List Int} {M : Mem} (h : FLm m 66 vs M) : P66 vs M := h
theorem fl0_34 {m : Nat} {vs : List Int} {M : Mem} (h : FLm m 34 vs M) : P34 M := h
theorem fl0_64 {m : Nat} {vs : List Int} {M : Mem} (h : FLm m 64 vs M) : P64 vs M := h
/-- the measure is asked by some flags alone -/
theorem FLm_m {m m2 x : Nat} {vs : List Int} {M : Mem} (hx : (Nat.ble 40 x && Nat.ble x 50) = false) (h : FLm m x vs M) : FLm m2 x vs M := by
  rcases FLm_inv h with rfl | rfl | rfl | rfl | rfl | rfl | rfl | rfl | rfl | rfl | rfl | rfl | rfl | rfl | rfl | rfl | rfl | rfl <;> first | exact h | exact absurd hx (by decide)
def dp0 : Nat → Md := fun x => cond (Nat.beq x 34) [(1, 14), (1, 15), (8, 0), (1019, 0)] <| cond (Nat.beq x 22) [(1071, 0), (1072, 0), (1073, 0)] (cond (Nat.beq x 24) [(1067, 0), (1071, 0), (1072, 0), (1073, 0)] (cond (Nat.beq x 30) [(1065, 0)] (cond (Nat.beq x 32) [(1064, 0), (1066, 0)] (cond (Nat.beq x 62) [(1062, 0)] (cond (Nat.beq x 64) [(1083, 0)] (cond (Nat.beq x 40 || Nat.beq x 42) [(1078, 0)] (cond (Nat.beq x 44 || Nat.beq x 46) [(1082, 0)] (cond (Nat.beq x 48 || Nat.beq x 50) [(1083, 0)] [(1063, 0)]))))))))
set_option maxRecDepth 100000 in
theorem sT_635 : gNth sT 635 = some 63 := by decide +kernel
theorem bsP.frm {P : Int → Prop} {vs : List Int} {md : Md} {M M' : Mem} (hF : Frm sT md M M') (hm : (1063, 0) ∉ md) (h : bsP P vs M) : bsP P vs M' := by
  obtain ⟨c, d, w, h2, l, e1, e2, e3, e4, e5⟩ := h
  obtain ⟨x', f1, f2⟩ := hF.2.2 _ _ _ e2
  have f3 := f2 (fun g hg => by
    rw [sT_635] at hg
    cases hg
    exact hm)
  subst f3
  exact ⟨c, d, w, h2, l, e1, f1, e3, e4, e5⟩
theorem row_frm {a g t : Nat} {y : AC} {md : Md} {M M' : Mem} (hF : Frm sT md M M') (hg : gNth sT a = some g) (hm : (1000 + g, 0) ∉ md) (h : gNth M a = some (.inl (t, y))) : gNth M' a = some (.inl (t, y)) := by
  obtain ⟨x', f1, f2⟩ := hF.2.2 _ _ _ h
  have f3 := f2 (fun g2 hg2 => by
    rw [hg] at hg2
    cases hg2
    exact hm)
  rw [← f3]
  exact f1
set_option maxRecDepth 100000 in
theorem sT_643 : gNth sT 643 = some 71 := by decide +kernel
set_option maxRecDepth 100000 in
theorem sT_644 : gNth sT 644 = some 72 := by decide +kernel
set_option maxRecDepth 100000 in
theorem sT_645 : gNth sT 645 = some 73 := by decide +kernel
set_option maxRecDepth 100000 in
theorem sT_639 : gNth sT 639 = some 67 := by decide +kernel
set_option maxRecDepth 100000 in
theorem sT_more : gNth sT 637 = some 65 ∧ gNth sT 636 = some 64 ∧ gNth sT 638 = some 66 ∧ gNth sT 634 = some 62 ∧ gNth sT 650 = some 78 ∧ gNth sT 654 = some 82 ∧ gNth sT 655 = some 83 := by refine ⟨?_, ?_, ?_, ?_, ?_, ?_, ?_⟩ <;> decide +kernel
theorem msP.frm {a g : Nat} {f : Int32 → Nat} {P : Nat → Prop} {md : Md} {M M' : Mem} (hF : Frm sT md M M') (hg : gNth sT a = some g) (hm : (1000 + g, 0) ∉ md) (h : msP a f P M) : msP a f P M' := by
  obtain ⟨t, l, e1, e2⟩ := h
  exact ⟨t, l, row_frm hF hg hm e1, e2⟩
set_option maxRecDepth 100000 in
theorem sT_wr : gNth sT (8 + 11) = some 19 ∧ gNth sT (243 + 11) = some 19 ∧ gNth sT (345 + 11) = some 19 ∧ gNth sT (441 + 11) = some 19 ∧ gNth sT (537 + 11) = some 19 := by refine ⟨?_, ?_, ?_, ?_, ?_⟩ <;> decide +kernel
theorem ld_all {a : Nat} (h : a ∈ [8, 243, 345, 441, 537]) : a = 8 ∨ a = 243 ∨ a = 345 ∨ a = 441 ∨ a = 537 := by
  simpa using h
theorem ld_row {a : Nat} (h : a ∈ [8, 243, 345, 441, 537]) : gNth sT (a + 11) = some 19 := by
  obtain ⟨h1, h2, h3, h4, h5⟩ := sT_wr
  rcases ld_all h with rfl | rfl | rfl | rfl | rfl
  · exact h1
  · exact h2
  · exact h3
  · exact h4
  · exact h5
theorem P34.frm {md : Md} {M M' : Mem} (hF : Frm sT md M M') (m1 : (1, 14) ∉ md) (m2 : (1, 15) ∉ md) (m3 : (8, 0) ∉ md) (m4 : (1019, 0) ∉ md) (h : P34 M) : P34 M' := by
  intro a ha
  obtain ⟨vl, l, n, e1, e2, e3, e4, e5, e6, e7⟩ := h a ha
  obtain ⟨vl', f1, f2, f3⟩ := hF.2.1 _ _ _ e1
  refine ⟨vl', l, n, f1, (f3 14 m1).trans e2, (f3 15 m2).trans e3, row_frm hF (ld_row ha) m4 e4, e5, e6, fun k hk => ?_⟩
  obtain ⟨b, g1, us, x, g2, g3, g4⟩ := e7 k hk
  obtain ⟨us', i1, i2, i3⟩ := hF.2.1 _ _ _ g2
  exact ⟨b, g1, us', x, i1, (i3 0 m3).trans g3, g4⟩
theorem P34.fld {x a c k : Nat} {us : List Value} {w : Value} {M : Mem} (hk : kfP x a c k w) (hM : gNth M a = some (.inr (c, us))) (h : P34 M) : P34 (gPut M a (.inr (c, gPut us k w))) := by
  intro a2 ha
  obtain ⟨vl, l, n, e1, e2, e3, e4, e5, e6, e7⟩ := h a2 ha
  have hrow : gNth (gPut M a (.inr (c, gPut us k w))) (a2 + 11) = some (.inl (6, .inr (.inr l))) := by
    rw [nth_put, if_neg (fun q => by rw [q.1, hM] at e4; cases e4)]
    exact e4
  have hl := gNth_lt _ _ _ hM
  rcases hk.2 with ⟨rfl, rfl, rfl⟩ | ⟨rfl, rfl, rfl⟩
  · refine ⟨vl, l, n, by rw [nth_put, if_neg (fun q => by rw [q.1, hM] at e1; cases e1)]; exact e1, e2, e3, hrow, e5, e6, fun k hk => ?_⟩
    obtain ⟨b, g1, us2, x2, g2, g3, g4⟩ := e7 k hk
    have hb := e6 k b g1
    refine ⟨b, g1, us2, x2, ?_, g3, g4⟩
    rw [nth_put, if_neg (fun q => by have := ld_all ha; omega)]
    exact g2
  · by_cases he : a2 = a
    · subst he
      cases e1.symm.trans hM
      refine ⟨gPut us 15 (.int 0), l, 0, by rw [nth_put, if_pos ⟨rfl, hl⟩], by rw [nth_put, if_neg (by omega)]; exact e2, by rw [nth_put, if_pos ⟨rfl, gNth_lt _ _ _ e3⟩], hrow, e5, e6, fun k hk => ?_⟩
      have : k < 0 := hk
      omega
    · refine ⟨vl, l, n, by rw [nth_put, if_neg (fun q => he q.1)]; exact e1, e2, e3, hrow, e5, e6, fun k hk => ?_⟩
      obtain ⟨b, g1, us2, x2, g2, g3, g4⟩ := e7 k hk
      refine ⟨b, g1, us2, x2, ?_, g3, g4⟩
      rw [nth_put, if_neg (fun q => by rw [q.1, hM] at g2; cases g2)]
      exact g2
theorem dp0_frm (m : Nat) (x : Nat) (vs : List Int) (md : Md) (M M' : Mem) (hF : Frm sT md M M') (hd : ∀ q ∈ md, q ∉ dp0 x) (h : FLm m x vs M) : FLm m x vs M' := by
  obtain ⟨g1, g2, g3, g4, g5, g6, g7⟩ := sT_more
  have nm : ∀ {q : Nat × Nat}, q ∈ dp0 x → q ∉ md := fun hq hm => hd _ hm hq
  rcases FLm_inv h with rfl | rfl | rfl | rfl | rfl | rfl | rfl | rfl | rfl | rfl | rfl | rfl | rfl | rfl | rfl | rfl | rfl | rfl
  · exact bsP.frm (P := fun y => 0 ≤ y) hF (nm (by decide)) h
  · exact bsP.frm (P := fun y => y < 0) hF (nm (by decide)) h
  · obtain ⟨x, f, t, lf, lt, ls, e1, e2, e3, e4, e5⟩ := fl0_22 h
    exact ⟨x, f, t, lf, lt, ls, e1, row_frm hF sT_643 (nm (by decide)) e2, row_frm hF sT_644 (nm (by decide)) e3, row_frm hF sT_645 (nm (by decide)) e4, e5⟩
  · obtain ⟨lm, lf, lt, ls, e1, e2, e3, e4, e5⟩ := fl0_24 h
    exact ⟨lm, lf, lt, ls, row_frm hF sT_639 (nm (by decide)) e1, row_frm hF sT_643 (nm (by decide)) e2, row_frm hF sT_644 (nm (by decide)) e3, row_frm hF sT_645 (nm (by decide)) e4, e5⟩
  · obtain ⟨t, l, v, e1, e2⟩ := fl0_26 h
    exact ⟨t, l, v, row_frm hF sT_635 (nm (by decide)) e1, e2⟩
  · obtain ⟨t, l, e1, e2⟩ := fl0_28 h
    exact ⟨t, l, row_frm hF sT_635 (nm (by decide)) e1, e2⟩
  · obtain ⟨t, l, e1, e2⟩ := fl0_30 h
    exact ⟨t, l, row_frm hF g1 (nm (by decide)) e1, e2⟩
  · obtain ⟨t, t2, l, lb, e1, e2, e3⟩ := fl0_32 h
    exact ⟨t, t2, l, lb, row_frm hF g2 (nm (by decide)) e1, row_frm hF g3 (nm (by decide)) e2, e3⟩
  · exact msP.frm (f := mB) (P := fun s => s < m) hF g5 (nm (by decide)) h
  · exact msP.frm (f := mB) (P := fun s => s ≤ m) hF g5 (nm (by decide)) h
  · exact msP.frm (f := mI) (P := fun s => s < m) hF g6 (nm (by decide)) h
  · exact msP.frm (f := mI) (P := fun s => s ≤ m) hF g6 (nm (by decide)) h
  · exact msP.frm (f := mI) (P := fun s => s < m) hF g7 (nm (by decide)) h
  · exact msP.frm (f := mI) (P := fun s => s ≤ m) hF g7 (nm (by decide)) h
  · obtain ⟨t, l, x, i, e1, e2, e3⟩ := fl0_62 h
    exact ⟨t, l, x, i, e1, row_frm hF g4 (nm (by decide)) e2, e3⟩
  · obtain ⟨t, l, x, i, e1, e2, e3⟩ := fl0_64 h
    exact ⟨t, l, x, i, e1, row_frm hF g7 (nm (by decide)) e2, e3⟩
  · obtain ⟨t, l, x, i, e1, e2, e3⟩ := fl0_66 h
    exact ⟨t, l, x, i, e1, row_frm hF sT_635 (nm (by decide)) e2, e3⟩
  · exact P34.frm hF (nm (by decide)) (nm (by decide)) (nm (by decide)) (nm (by decide)) (fl0_34 h)
theorem evS.put {l : List Int32} (h : evS l) {i : Nat} {v : Int32} (hi : i < 13 ∨ 157 ≤ i ∨ (13 ≤ i ∧ i < 157 ∧ (((i - 13) % 6 ≠ 3 ∧ (i - 13) % 6 ≠ 5) ∨ ((i - 13) % 6 = 3 ∧ 1 ≤ v.toInt) ∨ ((i - 13) % 6 = 5 ∧ (v.toInt ≤ 0 ∨ ∃ y : Int32, gNth l (i - 2) = some y ∧ 1 ≤ y.toInt))))) : evS (gPut l i v) := by
  intro p p1 p2 p3 y hy y1
  rw [nth_put] at hy ⊢
  by_cases e1 : p + 2 = i ∧ i < l.length
  · rw [if_pos e1] at hy
    cases hy
    rw [if_neg (by omega)]
    obtain ⟨e1, e2⟩ := e1
    subst e1
    rcases hi with hi | hi | ⟨_, _, ⟨_, hi⟩ | ⟨hi, _⟩ | ⟨_, hi | hi⟩⟩
    · omega
    · omega
    · omega
    · omega
    · omega
    · obtain ⟨y, e3, e4⟩ := hi
      exact ⟨y, e3, e4⟩
  · rw [if_neg e1] at hy
    obtain ⟨e, q1, q2⟩ := h p p1 p2 p3 y hy y1
    by_cases e2 : p = i ∧ i < l.length
    · rw [if_pos e2]
      obtain ⟨e2, e4⟩ := e2
      subst e2
      refine ⟨v, rfl, ?_⟩
      rcases hi with hi | hi | ⟨_, _, ⟨hi, _⟩ | ⟨_, hi⟩ | ⟨hi, _⟩⟩
      · omega
      · omega
      · exact absurd p3 hi
      · exact hi
      · omega
    · rw [if_neg e2]
      exact ⟨e, q1, q2⟩
theorem gAt_n {α : Type} {l : List α} {j : Nat} (hj : j < 2147483648) : gAt l (nI j) = gNth l j := by
  unfold gAt
  rw [show decide (nI j < 0) = false from decide_eq_false (nI_pos hj), nI_clamp hj]
  rfl
theorem dsS.put {l : List Int32} (h : dsS l) {i : Nat} {v : Int32} (hi : 12 ≤ i) : dsS (gPut l i v) := by
  intro w hh n h0 h1 h2
  rw [nth_put, if_neg (by omega)] at h0 h1 h2
  obtain ⟨n9, h⟩ := h w hh n h0 h1 h2
  refine ⟨n9, fun a b ha hb => ?_⟩
  obtain ⟨x, y, q1, q2, q3⟩ := h a b ha hb
  exact ⟨x, y, by rw [nth_put, if_neg (by omega)]; exact q1, by rw [nth_put, if_neg (by omega)]; exact q2, q3⟩
theorem sum_put {f : Int32 → Nat} {y v : Int32} : ∀ (l : List Int32) (i : Nat), gNth l i = some y → ((gPut l i v).map f).sum + f y = (l.map f).sum + f v := by
  intro l
  induction l with
  | nil => intro i h; cases h
  | cons x xs ih =>
    intro i h
    cases i with
    | zero =>
      have hx : x = y := Option.some.inj h
      subst hx
      show (f v :: xs.map f).sum + f x = (f x :: xs.map f).sum + f v
      rw [List.sum_cons, List.sum_cons]
      omega
    | succ i =>
      have := ih i h
      show (f x :: (gPut xs i v).map f).sum + f y = (f x :: xs.map f).sum + f v
      rw [List.sum_cons, List.sum_cons]
      omega
theorem mB_lt {x y : Int32} : (y.toInt ≤ x.toInt → mB x ≤ mB y) ∧ (y.toInt < x.toInt → mB x < mB y) := by
  have := i32_lt x
  have := i32_lt y
  unfold mB
  constructor <;> intro h <;> omega
theorem mI_lt {x y : Int32} : (x.toInt ≤ y.toInt → mI x ≤ mI y) ∧ (x.toInt < y.toInt → mI x < mI y) := by
  have := i32_lt x
  have := i32_lt y
  unfold mI
  constructor <;> intro h <;> omega
theorem msP.put {a t i : Nat} {f : Int32 → Nat} {P P2 : Nat → Prop} {M : Mem} {l : List Int32} {y v : Int32} (hM : gNth M a = some (.inl (t, .inl l))) (hy : gNth l i = some y) (hP : ∀ s s2, P s → s2 + f y = s + f v → P2 s2) (h : msP a f P M) : msP a f P2 (gPut M a (.inl (t, .inl (gPut l i v)))) := by
  obtain ⟨t2, l2, e1, e2⟩ := h
  cases e1.symm.trans hM
  exact ⟨t, _, by rw [nth_put, if_pos ⟨rfl, gNth_lt _ _ _ hM⟩], hP _ _ e2 (sum_put _ _ hy)⟩
theorem dp0_kp (m : Nat) (x : Nat) (vs : List Int) (M : Mem) (a t : Nat) (l : List Int32) (i : Nat) (v : Int32) (hk : kpP x a l i v.toInt) (hM : gNth M a = some (.inl (t, .inl l))) (h : FLm m x vs M) : FLm m x vs (gPut M a (.inl (t, .inl (gPut l i v)))) := by
  have hM2 : gNth (gPut M a (.inl (t, .inl (gPut l i v)))) a = some (.inl (t, .inl (gPut l i v))) := by
    rw [nth_put, if_pos ⟨rfl, gNth_lt _ _ _ hM⟩]
  rcases hk with ⟨rfl, hk⟩ | ⟨hk, y, hy, hv⟩ | ⟨rfl, rfl, hv⟩ | ⟨rfl, hk, y, hy, hv⟩
  · rcases hk with ⟨hx, hi⟩ | ⟨rfl, hi⟩ | ⟨rfl, hi⟩
    · have hb : ∀ {P : Int → Prop}, bsP P vs M → bsP P vs (gPut M 635 (.inl (t, .inl (gPut l i v)))) := by
        rintro P ⟨c, d, w, h2, l2, e1, e2, e3, e4, e5⟩
        cases e2.symm.trans hM
        have o0 : (0 : Int32) = nI 0 := rfl
        have o1 : (1 : Int32) = nI 1 := rfl
        rw [o0, gAt_n (by decide)] at e3
        rw [o1, gAt_n (by decide)] at e4
        refine ⟨c, d, w, h2, _, e1, hM2, ?_, ?_, e5⟩
        · rw [o0, gAt_n (by decide), nth_put, if_neg (by omega)]
          exact e3
        · rw [o1, gAt_n (by decide), nth_put, if_neg (by omega)]
          exact e4
      rcases hx with rfl | rfl
      · exact hb (fl0_20 h)
      · exact hb (fl0_21 h)
    · obtain ⟨t2, l2, y, e1, e2, e3⟩ := fl0_26 h
      cases e1.symm.trans hM
      exact ⟨t, _, y, hM2, by rw [nth_put, if_neg (fun q => hi q.1.symm)]; exact e2, e3⟩
    · obtain ⟨t2, l2, e1, e2, e3⟩ := fl0_28 h
      cases e1.symm.trans hM
      rcases hi with hi | hi | hi
      · exact ⟨t, _, hM2, e2.put (Or.inl (by omega)), e3.put (by omega)⟩
      · exact ⟨t, _, hM2, e2.put (Or.inr (Or.inl hi)), e3.put (by omega)⟩
      · exact ⟨t, _, hM2, e2.put (Or.inr (Or.inr hi)), e3.put (by have := hi.1; omega)⟩
  · rcases hk with ⟨rfl, rfl | rfl⟩ | ⟨rfl, rfl | rfl⟩
    · refine msP.put (f := mI) (P := fun s => s < m) (P2 := fun s => s < m) hM hy (fun s s2 h1 h2 => ?_) h
      have := (mI_lt (x := v) (y := y)).1 hv
      omega
    · refine msP.put (f := mI) (P := fun s => s ≤ m) (P2 := fun s => s ≤ m) hM hy (fun s s2 h1 h2 => ?_) h
      have := (mI_lt (x := v) (y := y)).1 hv
      omega
    · refine msP.put (f := mI) (P := fun s => s < m) (P2 := fun s => s < m) hM hy (fun s s2 h1 h2 => ?_) h
      have := (mI_lt (x := v) (y := y)).1 hv
      omega
    · refine msP.put (f := mI) (P := fun s => s ≤ m) (P2 := fun s => s ≤ m) hM hy (fun s s2 h1 h2 => ?_) h
      have := (mI_lt (x := v) (y := y)).1 hv
      omega
  · obtain ⟨t2, l2, x, j, e1, e2, e3, e4⟩ := fl0_64 h
    cases e2.symm.trans hM
    by_cases hj : j = i
    · subst hj
      exact ⟨t, _, v, j, e1, hM2, by rw [nth_put, if_pos ⟨rfl, gNth_lt _ _ _ e3⟩], hv⟩
    · exact ⟨t, _, x, j, e1, hM2, by rw [nth_put, if_neg (fun q => hj q.1)]; exact e3, e4⟩
  · rcases hk with rfl | rfl
    · refine msP.put (f := mB) (P := fun s => s < m) (P2 := fun s => s < m) hM hy (fun s s2 h1 h2 => ?_) h
      have := (mB_lt (x := v) (y := y)).1 hv
      omega
    · refine msP.put (f := mB) (P := fun s => s ≤ m) (P2 := fun s => s ≤ m) hM hy (fun s s2 h1 h2 => ?_) h
      have := (mB_lt (x := v) (y := y)).1 hv
      omega
theorem dp0_up (m : Nat) (x : Nat) (vs : List Int) (M : Mem) (a t : Nat) (l : List Int32) (i : Nat) (v : Int32) (hk : upP x a l i v.toInt) (hM : gNth M a = some (.inl (t, .inl l))) (h : FLm m x vs M) : FLm m (x - 2) vs (gPut M a (.inl (t, .inl (gPut l i v)))) := by
  rcases hk with ⟨⟨rfl, rfl⟩ | ⟨rfl, rfl⟩, y, hy, hv⟩ | ⟨rfl, rfl, y, hy, hv⟩
  · refine msP.put (f := mI) (P := fun s => s ≤ m) (P2 := fun s => s < m) hM hy (fun s s2 h1 h2 => ?_) h
    have := (mI_lt (x := v) (y := y)).2 hv
    omega
  · refine msP.put (f := mI) (P := fun s => s ≤ m) (P2 := fun s => s < m) hM hy (fun s s2 h1 h2 => ?_) h
    have := (mI_lt (x := v) (y := y)).2 hv
    omega
  · refine msP.put (f := mB) (P := fun s => s ≤ m) (P2 := fun s => s < m) hM hy (fun s s2 h1 h2 => ?_) h
    have := (mB_lt (x := v) (y := y)).2 hv
    omega
theorem dpm_ok (m : Nat) : depOK sT dp0 (FLm m) := by
  refine ⟨dp0_frm m, dp0_kp m, dp0_up m, fun M t l i y x h hM i1 i2 i3 hy hy1 hx => ?_, fun M t l i x h hM hx => ?_, fun x vs M a c k us w hk hM h => by obtain rfl := hk.1; exact P34.fld hk hM (fl0_34 h)⟩
  · obtain ⟨t2, l2, e1, e2, _⟩ := fl0_28 h
    cases e1.symm.trans hM
    obtain ⟨e, q1, q2⟩ := e2 i i1 i2 i3 y hy hy1
    cases q1.symm.trans hx
    exact q2
  · obtain ⟨t2, l2, x2, j, e1, e2, e3, e4⟩ := fl0_64 h
    cases e2.symm.trans hM
    have e5 : i = j := by
      have := (List.cons.inj e1).1
      omega
    subst e5
    cases e3.symm.trans hx
    exact e4
theorem dp0_ok : depOK sT dp0 FL0 := dpm_ok 0
theorem bs_no {vs : List Int} {M : Mem} (h : bsP (fun y => 0 ≤ y) vs M) (h' : bsP (fun y => y < 0) vs M) : False := by
  obtain ⟨c, d, w, h2, l, e1, e2, e3, e4, e5⟩ := h
  obtain ⟨c', d', w', h2', l', f1, f2, f3, f4, f5⟩ := h'
  rw [e1] at f1
  have g1 := (List.cons.inj f1).1
  have g2 := (List.cons.inj (List.cons.inj f1).2).1
  have g1 := Int32.toInt_inj.mp g1
  have g2 := Int32.toInt_inj.mp g2
  subst g1
  subst g2
  rw [e2] at f2
  cases f2
  rw [e3] at f3
  cases f3
  rw [e4] at f4
  cases f4
  exact Int.lt_irrefl _ (Int.lt_of_lt_of_le f5 e5)
theorem ctm_ok (m : Nat) : cfOK (FLm m) := by
  refine ⟨fun x vs M hx h2 h h' => ?_, fun M t l i v x h hM hv hi x1 x2 => ?_, fun M t l v hM hv h1 => ?_, fun x M k r r2 hx h h2 => ?_⟩
  · have e : x = 20 := by
      have e1 := FLm_inv h
      have e2 := FLm_inv h'
      omega
    subst e
    exact bs_no (fl0_20 h) (fl0_21 h')
  · obtain ⟨lm, lf, lt, ls, e1, e2, e3, e4, e5⟩ := fl0_24 h
    cases e1.symm.trans hM
    obtain ⟨v16, e5⟩ := e5 i v hv hi
    obtain ⟨j, rfl⟩ : ∃ j : Nat, x = (j : Int) := ⟨x.toNat, by omega⟩
    obtain ⟨f, tt, q1, q2, q3⟩ := e5 j (by omega) x2
    have hj : j < 2147483648 := by omega
    have o16 : (16 : Int32).toInt = 16 := rfl
    have d1 : (nI j / 16).toInt = (i : Int) := by
      have : (nI j / 16).toInt = (nI j).toInt.tdiv (16 : Int32).toInt := Int32.toInt_div_of_ne_right _ _ (by decide)
      rw [this, o16, nI_toInt hj, Int.tdiv_eq_ediv_of_nonneg (by omega)]
      omega
    refine ⟨nI j, f, tt, lf, lt, ls, by rw [nI_toInt hj], e2, e3, e4, ?_, ?_, ?_⟩
    · rw [gAt_n hj]; exact q1
    · rw [gAt_n hj]; exact q2
    · rw [d1]; exact q3
  · exact ⟨t, l, v, hM, hv, h1⟩
  · rcases hx with rfl | rfl
    rotate_left
    · obtain ⟨t, l, x, i, e1, e2, e3⟩ := fl0_66 h
      obtain ⟨t2, l2, x2, i2, f1, f2, f3⟩ := fl0_66 h2
      cases e2.symm.trans f2
      have k1 := (List.cons.inj e1).1
      have k2 := (List.cons.inj f1).1
      have e5 : i = i2 := Int32.toInt_inj.mp (by omega)
      subst e5
      cases e3.symm.trans f3
      rw [(List.cons.inj (List.cons.inj e1).2).1, (List.cons.inj (List.cons.inj f1).2).1]
    obtain ⟨t, l, x, i, e1, e2, e3⟩ := fl0_62 h
    obtain ⟨t2, l2, x2, i2, f1, f2, f3⟩ := fl0_62 h2
    cases e2.symm.trans f2
    have k1 := (List.cons.inj e1).1
    have k2 := (List.cons.inj f1).1
    have e5 : i = i2 := by omega
    subst e5
    cases e3.symm.trans f3
    rw [(List.cons.inj (List.cons.inj e1).2).1, (List.cons.inj (List.cons.inj f1).2).1]
theorem ct0_ok : cfOK FL0 := ctm_ok 0
theorem i32_z {x : Int32} : x < 0 ↔ x.toInt < 0 := by rw [Int32.lt_iff_toInt_lt]; rfl
theorem besI_in {w h c d : Int32} (w1 : 4 ≤ w.toInt) (w2 : w.toInt ≤ 16) (h1 : 4 ≤ h.toInt) (h2 : h.toInt ≤ 16) : besI w h c d = -1 ∨ (0 ≤ (besI w h c d).toInt ∧ (besI w h c d).toInt ≤ 255) := by
  unfold besI
  obtain ⟨x, ex⟩ : ∃ x, x = c - c / w * w + eastI d := ⟨_, rfl⟩
  obtain ⟨y, ey⟩ : ∃ y, y = c / w + southI d := ⟨_, rfl⟩
  rw [← ex, ← ey]
  have o1 : (1 : Int32).toInt = 1 := rfl
  have ew : (w - 1).toInt = w.toInt - 1 := i32_sub (by omega) (by omega)
  have eh : (h - 1).toInt = h.toInt - 1 := i32_sub (by omega) (by omega)
  by_cases c1 : x < 0
  · rw [if_pos c1]; exact Or.inl rfl
  rw [if_neg c1]
  by_cases c2 : w - 1 < x
  · rw [if_pos c2]; exact Or.inl rfl
  rw [if_neg c2]
  by_cases c3 : y < 0
  · rw [if_pos c3]; exact Or.inl rfl
  rw [if_neg c3]
  by_cases c4 : h - 1 < y
  · rw [if_pos c4]; exact Or.inl rfl
  rw [if_neg c4]
  rw [i32_z] at c1 c3
  rw [Int32.lt_iff_toInt_lt] at c2 c4
  refine Or.inr ?_
  have m1 : 0 ≤ w.toInt * y.toInt := Int.mul_nonneg (by omega) (by omega)
  have m2 : w.toInt * y.toInt ≤ 16 * 15 := Int.mul_le_mul w2 (by omega) (by omega) (by omega)
  have e1 : (w * y).toInt = w.toInt * y.toInt := i32_mul (by omega) (by omega)
  have e2 : (w * y + x).toInt = w.toInt * y.toInt + x.toInt := by
    rw [← e1]
    exact i32_add (by omega) (by omega)
  rw [e2]
  constructor <;> omega
theorem gAt_0 {l : List Int32} : gAt l 0 = gNth l 0 := rfl
theorem gAt_1 {l : List Int32} : gAt l 1 = gNth l 1 := rfl
set_option maxRecDepth 100000 in
theorem sT_633 : gNth sT 633 = some 61 := by decide +kernel
set_option maxRecDepth 100000 in
theorem sU_63 : gNth sU 63 = some (some 635) := by decide +kernel
set_option maxRecDepth 100000 in
theorem sG_61 : (match gNth sG 61 with
  | some (.inl (11, fs)) => (match gNth fs 5 with
    | some (.inr 127) => true
    | _ => false)
  | _ => false) = true := by decide +kernel
set_option maxRecDepth 100000 in
theorem sG_63 : (match gNth sG 63 with
  | some (.inr (1, 2314, .inl sg)) => (match sgAt sg 0, sgAt sg 1 with
    | some (a, b), some (c, d) => decide (4 ≤ a) && decide (b ≤ 16) && decide (4 ≤ c) && decide (d ≤ 16)
    | _, _ => false)
  | _ => false) = true := by decide +kernel
/-- the memory's sizes of the reference's map -/
theorem TM.s_ref {M : Mem} (hT : TM sT sG M) : ∃ vs l w h, gNth M 633 = some (.inr (11, vs)) ∧ gNth vs 5 = some (.ref 635) ∧ gNth M 635 = some (.inl (1, .inl l)) ∧ gAt l 0 = some w ∧ gAt l 1 = some h ∧ 4 ≤ w.toInt ∧ w.toInt ≤ 16 ∧ 4 ≤ h.toInt ∧ h.toInt ≤ 16 := by
  have h1 := sG_61
  have h2 := sG_63
  cases e1 : gNth sG 61 with
  | none => rw [e1] at h1; exact absurd h1 (by decide)
  | some t => ?_
  cases e2 : gNth sG 63 with
  | none => rw [e2] at h2; exact absurd h2 (by decide)
  | some t2 => ?_
  rw [e1] at h1
  rw [e2] at h2
  obtain ⟨a1, b1, c1⟩ := hT.at sT_633 e1
  obtain ⟨a2, b2, c2⟩ := hT.at sT_635 e2
  have q1 : ∃ fs, t = .inl (11, fs) ∧ gNth fs 5 = some (.inr 127) := by
    revert h1
    split
    · rename_i fs
      intro h1
      revert h1
      split
      · rename_i he
        intro _
        exact ⟨_, (Option.some.inj ‹_›), he⟩
      · intro h; cases h
    · intro h; cases h
  obtain ⟨fs, rfl, e3⟩ := q1
  have q2 : ∃ sg p q, t2 = .inr (1, 2314, .inl sg) ∧ sgAt sg 0 = some p ∧ sgAt sg 1 = some q ∧ 4 ≤ p.1 ∧ p.2 ≤ 16 ∧ 4 ≤ q.1 ∧ q.2 ≤ 16 := by
    revert h2
    split
    · rename_i sg
      intro h2
      revert h2
      split
      · rename_i he hf
        intro h2
        simp only [Bool.and_eq_true, decide_eq_true_eq] at h2
        exact ⟨_, _, _, (Option.some.inj ‹_›), he, hf, h2.1.1.1, h2.1.1.2, h2.1.2, h2.2⟩
      · intro h; cases h
    · intro h; cases h
  obtain ⟨sg, p, q, rfl, p1, p2, p3, p4, p5, p6⟩ := q2
  obtain ⟨vs, rfl, v1, v2⟩ := c1
  obtain ⟨l, rfl, l1, l2⟩ := c2
  obtain ⟨v, v3, v4⟩ := v2 5 _ e3
  have v5 : v = .ref 635 := by
    rcases v4 with ⟨a, rfl, ha⟩ | ⟨hk, _⟩
    · rw [sU_ok _ _ _ ha sU_63]
    · exact absurd hk (by decide)
  subst v5
  have n0 : 0 < l.length := by omega
  have n1 : 1 < l.length := by omega
  have z0 : gNth l 0 = some l[0] := by rw [nth_eq, List.getElem?_eq_getElem n0]
  have z1 : gNth l 1 = some l[1] := by rw [nth_eq, List.getElem?_eq_getElem n1]
  obtain ⟨r, r1, r2, r3⟩ := l2 0 _ z0
  obtain ⟨r', s1, s2, s3⟩ := l2 1 _ z1
  rw [p1] at r1
  rw [p2] at s1
  cases r1
  cases s1
  exact ⟨vs, l, l[0], l[1], b1, v3, b2, z0, z1, by omega, by omega, by omega, by omega⟩
def kX11_beside : CN := (194, 2, [.inr 1900, .inl (.ofNat 0, .ofNat 255), .inl (.negSucc 2147483647, .ofNat 2147483647)], [], [], [], [(some (.inl (.negSucc 0, .negSucc 0)), [], [], [(21, [([(2, .ofNat 1)], .ofNat 0), ([(3, .ofNat 1)], .ofNat 0)])], []), (some (.inl (.ofNat 0, .ofNat 255)), [], [], [(20, [([(2, .ofNat 1)], .ofNat 0), ([(3, .ofNat 1)], .ofNat 0)])], [])])
set_option maxRecDepth 100000 in
theorem mR_194 : (gNth mRs 194).map (fun q => q.2.2.2.1) = some 5 := by decide +kernel
theorem bes_fl {r c d : Int32} {a : Value} {M : Mem} {x : Nat} (h : FL0 x [c.toInt, d.toInt] M) : flOK FL0 (.int r :: ([a, .int c, .int d] ++ [])) M (x, [([(2, .ofNat 1)], .ofNat 0), ([(3, .ofNat 1)], .ofNat 0)]) :=
  ⟨[c.toInt, d.toInt], Two.mk ⟨1 * c.toInt + 0, rfl, by show c.toInt = 1 * c.toInt + 0 + 0; omega⟩ (Two.mk ⟨1 * d.toInt + 0, rfl, by show d.toInt = 1 * d.toInt + 0 + 0; omega⟩ trivial), h⟩
theorem kX11_beside_ok : cnOK sT sG FL0 kX11_beside := by
  intro d M ws q hd hq ha _ hT
  have hm := mR_194
  have hq' : gNth mRs 194 = some q := hq
  rw [hq'] at hm
  have hm : q.2.2.2.1 = 5 := Option.some.inj hm
  obtain ⟨vs, l, w, h, m1, m2, m3, m4, m5, w1, w2, h1, h2⟩ := hT.s_ref
  obtain ⟨e, rfl⟩ : ∃ e, d = e + 2 := ⟨d - 2, by have : 2 ≤ d := hd; omega⟩
  rcases ws with _ | ⟨a, _ | ⟨b, _ | ⟨b2, _ | ⟨b3, r⟩⟩⟩⟩
  · exact ha.elim
  · exact ha.2.elim
  · exact ha.2.2.elim
  · obtain ⟨k1, ⟨c, rfl, c1, c2⟩, ⟨dd, rfl, d1, d2⟩, _⟩ := ha
    have k1 : a = .ref 633 := k1
    subst k1
    rw [hm]
    have hw : ¬ w = 0 := by
      intro hz
      rw [hz] at w1
      exact absurd w1 (by decide)
    refine ⟨some (.int (besI w h c dd)), M, ev_beside m1 m2 m3 m4 m5 hw, hT, Frm.refl M, ?_⟩
    rcases besI_in (c := c) (d := dd) w1 w2 h1 h2 with hb | ⟨hb, hb2⟩
    · refine ⟨_, List.mem_cons_self .., ⟨⟨besI w h c dd, rfl, ?_, ?_⟩, fun q hq => (by cases hq), [], trivial, ?_, fun q hq => (by cases hq)⟩, fun h => absurd (show (194 : Nat) = 205 from h) (by decide)⟩
      · rw [hb]; decide
      · rw [hb]; decide
      · intro f hf
        cases List.mem_singleton.mp hf
        exact bes_fl (show FL0 21 [c.toInt, dd.toInt] M from ⟨c, dd, w, h, l, rfl, m3, m4, m5, by rw [hb]; decide⟩)
    · refine ⟨_, List.mem_cons_of_mem _ (List.mem_cons_self ..), ⟨⟨besI w h c dd, rfl, hb, hb2⟩, fun q hq => (by cases hq), [], trivial, ?_, fun q hq => (by cases hq)⟩, fun h => absurd (show (194 : Nat) = 205 from h) (by decide)⟩
      intro f hf
      cases List.mem_singleton.mp hf
      exact bes_fl (show FL0 20 [c.toInt, dd.toInt] M from ⟨c, dd, w, h, l, rfl, m3, m4, m5, hb⟩)
  · exact ha.2.2.2.elim
