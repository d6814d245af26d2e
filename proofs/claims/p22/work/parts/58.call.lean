/-! THE CHECKER, 9: calls: contracts, the library's own, and what is walked in line -/
/-- types of arguments: an interval; 3 g a reference to group g; 3 a + 1 the cell a; 3 c + 2 a value of kind c (as in AV) -/
abbrev TA : Type := Iv ⊕ Nat
/-- a field: of a cell or of an argument; class, field, type -/
abbrev HT : Type := (Nat ⊕ Nat) × Nat × Nat × TA
/-- an element of a row: its cell, its place (sum of answer 0, arguments 1 .., fields behind, and a number), interval -/
abbrev EL : Type := Nat × List (Nat × Int) × Int × Iv
/-- one way to come back: answer, intervals of arguments, fields, flags, elements -/
abbrev FP : Type := Nat × List (List (Nat × Int) × Int)
abbrev CS : Type := Option TA × List (Nat × Iv) × List HT × List FP × List EL
/-- a contract: method, frames, arguments, fields and flags ahead, what may change, the ways to come back -/
abbrev CN : Type := Nat × Nat × List TA × List HT × List FP × Md × List CS
section CALL
variable (aT : List Nat) (gT : List CT) (gU : List (Option Nat)) (dep : Nat → Md) (FL : Nat → List Int → Mem → Prop)
def taOK (t : TA) (w : Value) : Prop := match t with
  | .inl (lo, hi) => ∃ x : Int32, w = .int x ∧ lo ≤ x.toInt ∧ x.toInt ≤ hi
  | .inr n => match n % 3 with
    | 0 => ∃ a, w = .ref a ∧ gNth aT a = some (n / 3)
    | 1 => w = .ref (n / 3)
    | _ => avOK [] [] (.inr (.inr (n / 3))) w
def kyOK (ws : List Value) (k : Nat ⊕ Nat) (a : Nat) : Prop := match k with
  | .inl b => a = b
  | .inr i => gNth ws i = some (.ref a)
def htOK (ws : List Value) (M : Mem) (h : HT) : Prop := ∃ a vs w, kyOK ws h.1 a ∧ gNth M a = some (.inr (h.2.1, vs)) ∧ gNth vs h.2.2.1 = some w ∧ taOK aT h.2.2.2 w
noncomputable def kyA (as : List AV) (k : Nat ⊕ Nat) : Option RS := match k with
  | .inl a => some (.inl a)
  | .inr i => match gNth as i with
    | some (.inr (.inl R)) => some R
    | _ => none
def rsOK (t : Option TA) (v : Option Value) : Prop := match t, v with
  | none, none => True
  | some t, some w => taOK aT t w
  | _, _ => False
noncomputable def sfV (vs : List Value) : List (Nat × Int) → Option Int
  | [] => some 0
  | (n, c) :: r => match gNth vs n, sfV vs r with
    | some (.int x), some y => some (c * x.toInt + y)
    | _, _ => none
def fldV (ws : List Value) (M : Mem) (h : HT) (w : Value) : Prop := ∃ a vs, kyOK ws h.1 a ∧ gNth M a = some (.inr (h.2.1, vs)) ∧ gNth vs h.2.2.1 = some w ∧ taOK aT h.2.2.2 w
def elOK (vs : List Value) (M : Mem) (e : EL) : Prop := ∃ (i : Nat) (y : Int) (t : Nat) (l : List Int32) (x : Int32), sfV vs e.2.1 = some y ∧ y + e.2.2.1 = (i : Int) ∧ gNth M e.1 = some (.inl (t, .inl l)) ∧ gNth l i = some x ∧ e.2.2.2.1 ≤ x.toInt ∧ x.toInt ≤ e.2.2.2.2
def flOK (vs : List Value) (M : Mem) (f : FP) : Prop := ∃ ys, Two (fun (p : List (Nat × Int) × Int) (y : Int) => ∃ z, sfV vs p.1 = some z ∧ y = z + p.2) f.2 ys ∧ FL f.1 ys M
def csOK (ws : List Value) (v : Option Value) (M : Mem) (s : CS) : Prop := rsOK aT s.1 v ∧ (∀ q ∈ s.2.1, ∃ x : Int32, gNth ws q.1 = some (.int x) ∧ q.2.1 ≤ x.toInt ∧ x.toInt ≤ q.2.2) ∧ ∃ hv, Two (fldV aT ws M) s.2.2.1 hv ∧ (∀ f ∈ s.2.2.2.1, flOK FL (v.getD .null :: (ws ++ hv)) M f) ∧ ∀ e ∈ s.2.2.2.2, elOK (v.getD .null :: (ws ++ hv)) M e
/-- of the method 205: what it does to the place 157 of the row 635 -/
def dlOK (id : Nat) (M M' : Mem) : Prop := id = 205 → ∀ (t : Nat) (l : List Int32) (x : Int32), gNth M 635 = some (.inl (t, .inl l)) → gNth l 157 = some x → ∃ (l' : List Int32) (x' : Int32), gNth M' 635 = some (.inl (t, .inl l')) ∧ gNth l' 157 = some x' ∧ x'.toInt = x.toInt - 1
def cnOK (c : CN) : Prop := ∀ (d : Nat) (M : Mem) (ws : List Value) (q : MR), c.2.1 ≤ d → gNth mRs c.1 = some q → Two (taOK aT) c.2.2.1 ws → (∃ hv, Two (fldV aT ws M) c.2.2.2.1 hv ∧ ∀ f ∈ c.2.2.2.2.1, flOK FL (.null :: (ws ++ hv)) M f) → TM aT gT M → ∃ v M', Ev none d c.1 0 (gPad q.2.2.2.1 (gArgs ws)) [] M v M' 0 0 ∧ TM aT gT M' ∧ Frm aT c.2.2.2.2.2.1 M M' ∧ ∃ s ∈ c.2.2.2.2.2.2, csOK aT FL ws v M' s ∧ dlOK c.1 M M'
/-- does a value fit an argument's type -/
noncomputable def taM (g : List Iv) (gr : List Nat) (fs : List Lin) (t : TA) (v : AV) : Bool := match t, v with
  | .inl (lo, hi), .inl L => inR g fs L lo hi
  | .inr n, .inr (.inl R) => match n % 3 with
    | 0 => match rsG aT gr R with
      | some g2 => Nat.beq g2 (n / 3)
      | none => false
    | 1 => rsEq R (.inl (n / 3))
    | _ => false
  | .inr n, .inr (.inr c) => match n % 3 with
    | 2 => Nat.beq c (n / 3)
    | _ => false
  | _, _ => false
noncomputable def taMs (g : List Iv) (gr : List Nat) (fs : List Lin) : List TA → List AV → Bool
  | [], [] => true
  | t :: ts, v :: vs => taM aT g gr fs t v && taMs g gr fs ts vs
  | _, _ => false
/-- a new value of a type -/
noncomputable def taN (t : TA) (g : List Iv) (gr : List Nat) (k : AV → List Iv → List Nat → Bool) : Bool := match t with
  | .inl p => k (.inl (liS g.length)) (g ++ [p]) gr
  | .inr n => match n % 3 with
    | 0 => nwR gU (n / 3) gr (fun R gr => k (.inr (.inl R)) g gr)
    | 1 => k (.inr (.inl (.inl (n / 3)))) g gr
    | _ => k (.inr (.inr (n / 3))) g gr
/-- fields that a contract wants -/
noncomputable def htA (as : List AV) (hs : List HT) (vs : List AV) (hp : List HE) (g : List Iv) (gr : List Nat) (fs : List Lin) (k : List AV → List HE → List Iv → List Nat → Bool) : Bool := match hs with
  | [] => k vs hp g gr
  | (a, ci, f, t) :: r => match kyA as a with
    | some R => rdF aT gT gU R ci f hp g gr (fun v hp g gr => cond (taM aT g gr fs t v) (htA as r (vs ++ [v]) hp g gr fs k) false)
    | none => false
/-- .. and gives -/
noncomputable def htN (as : List AV) (hs : List HT) (vs : List AV) (hp : List HE) (g : List Iv) (gr : List Nat) (k : List AV → List HE → List Iv → List Nat → Bool) : Bool := match hs with
  | [] => k vs hp g gr
  | (a, _, f, t) :: r => match kyA as a with
    | some R => taN gU t g gr (fun v g gr => htN as r (vs ++ [v]) ((R, .inl f, v) :: hp) g gr k)
    | none => false
noncomputable def sfA (vs : List AV) : List (Nat × Int) → Option Lin
  | [] => some ([], 0)
  | (n, c) :: r => match gNth vs n, sfA vs r with
    | some (.inl L), some M => some (liAdd (liMul c L) M)
    | _, _ => none
/-- elements become known -/
noncomputable def elN (vs : List AV) (es : List EL) (hp : List HE) (g : List Iv) (k : List HE → List Iv → Bool) : Bool := match es with
  | [] => k hp g
  | (a, q, c, p) :: r => match sfA vs q with
    | some L => fLin (liAdc L c) (fun L => elN vs r ((.inl a, .inr L, .inl (liS g.length)) :: hp) (g ++ [p]) k)
    | none => false
/-- arguments are narrowed -/
noncomputable def agN (as : List AV) (qs : List (Nat × Iv)) (g : List Iv) (fs : List Lin) (k : List Iv → List Lin → Bool) : Bool := match qs with
  | [] => k g fs
  | (i, p) :: r => match gNth as i with
    | some (.inl L) => addFs g fs [liAdc L (-p.1), liSub (liC p.2) L] (fun g fs => agN as r g fs k)
    | _ => false
def isZ (L : Lin) : Bool := match L with
  | ([], .ofNat 0) => true
  | _ => false
/-- an element that is known -/
noncomputable def hpE : List HE → Nat → Lin → Option AV
  | [], _, _ => none
  | (R, q, v) :: r, a, L => match q with
    | .inr L2 => cond (rsEq R (.inl a) && isZ (liSub L2 L)) (some v) (hpE r a L)
    | .inl _ => hpE r a L
noncomputable def elA (vs : List AV) (g : List Iv) (fs : List Lin) (hp : List HE) : List EL → Bool
  | [] => true
  | (a, q, c, p) :: r => (match sfA vs q with
    | some L => (match hpE hp a (liAdc L c) with
      | some (.inl V) => inR g fs V p.1 p.2
      | _ => false)
    | none => false) && elA vs g fs hp r
noncomputable def agA (as : List AV) (g : List Iv) (fs : List Lin) : List (Nat × Iv) → Bool
  | [] => true
  | (i, p) :: r => (match gNth as i with
    | some (.inl L) => inR g fs L p.1 p.2
    | _ => false) && agA as g fs r
noncomputable def hpC (gr : List Nat) (cm : Md) (hp : List HE) : List HE := hp.filter (fun e => match e.2.1 with
  | .inl f => !(cm.any (fun q => Nat.beq q.2 f && clsIs aT gT gr e.1 q.1))
  | .inr _ => !(cm.any (fun q => Nat.ble 1000 q.1 && grIs aT gr e.1 (q.1 - 1000))))
noncomputable def flC (cm : Md) (fl : List FG) : List FG := fl.filter (fun x => !(cm.any (fun q => mdIn (dep x.1) q.1 q.2)))
noncomputable def lsZ : List Lin → List Lin → Bool
  | [], [] => true
  | L :: Ls, M :: Ms => isZ (liSub L M) && lsZ Ls Ms
  | _, _ => false
/-- a flag that stands -/
noncomputable def fgM (fl : List FG) (f : FG) : Bool := fl.any (fun e => Nat.beq e.1 f.1 && lsZ e.2 f.2)
/-- flags that follow: a line below lineMany; someone walks -/
noncomputable def ghA (fl : List FG) (hp : List HE) (g : List Iv) (fs : List Lin) (f : FG) : Bool := cond (Nat.beq f.1 22) (match f.2 with
  | [X] => fgM fl (24, []) && hp.any (fun e => rsEq e.1 (.inl 639) && (match e.2.1, e.2.2 with
    | .inr T, .inl V => (nn g fs (liSub X (liMul 16 T)) && nn g fs (liAdc (liSub (liAdd (liMul 16 T) V) X) (-1))) && nn g fs (liSub (liC 6) T)
    | _, _ => false))
  | _ => false) (cond (Nat.beq f.1 26) (match f.2 with
  | [] => hp.any (fun e => rsEq e.1 (.inl 635) && (match e.2.1, e.2.2 with
    | .inr L, .inl V => zz g fs (liAdc L (-157)) && nn g fs (liAdc V (-1))
    | _, _ => false))
  | _ => false) false)
noncomputable def fgF (vs : List AV) : List (List (Nat × Int) × Int) → Option (List Lin)
  | [] => some []
  | (q, c) :: r => match sfA vs q, fgF vs r with
    | some L, some Ls => some (liAdc L c :: Ls)
    | _, _ => none
noncomputable def fgN (vs : List AV) : List FP → Option (List FG)
  | [] => some []
  | (x, ps) :: r => match fgF vs ps, fgN vs r with
    | some Ls, some F => some ((x, Ls) :: F)
    | _, _ => none
/-- two flags that can't both stand: x and x + 1, x even from 20 on -/
noncomputable def ctA (fl : List FG) : Bool := fl.any (fun e => Nat.ble 20 e.1 && (Nat.beq (e.1 % 2) 0 && fl.any (fun f => Nat.beq f.1 (e.1 + 1) && lsZ e.2 f.2)))
noncomputable def fFG {β : Type} (l : List FG) : (List FG → β) → β := List.rec (motive := fun _ => (List FG → β) → β) (fun k => k []) (fun f _ ih k => fLs f.2 (fun Ls => ih (fun r => k ((f.1, Ls) :: r)))) l
theorem fFG_eq {β : Type} (l : List FG) : ∀ k : List FG → β, fFG l k = k l := by
  induction l with
  | nil => intro k; rfl
  | cons f r ih =>
    intro k
    show fLs f.2 (fun Ls => fFG r (fun r => k ((f.1, Ls) :: r))) = _
    rw [fLs_eq, ih]
/-- flags and elements behind a call -/
noncomputable def fgE (src : List AV) (F : List FP) (es : List EL) (hp : List HE) (fl : List FG) (g : List Iv) (k : List HE → List FG → List Iv → Bool) : Bool := match fgN src F with
  | some G => fFG G (fun G => ctA (G ++ fl) || elN src es hp g (fun hp g => k hp (G ++ fl) g))
  | none => false
/-- a flag that tells a function's value, twice: two equal values -/
noncomputable def fnL (n0 : Nat) (K R : Lin) : List FG → List Lin
  | [] => []
  | (n, Ls) :: r => (match Ls with
    | [K2, R2] => cond (Nat.beq n n0 && isZ (liSub K K2)) [liSub R R2, liSub R2 R] []
    | _ => []) ++ fnL n0 K R r
noncomputable def fnA (fl : List FG) : List Lin := match fl with
  | (n, [K, R]) :: r => cond (Nat.beq n 62 || Nat.beq n 66) (fnL n K R r) []
  | _ => []
/-- one way to come back -/
noncomputable def csN (as rest : List AV) (hp : List HE) (fl : List FG) (g : List Iv) (gr : List Nat) (fs : List Lin) (k : List AV → List HE → List FG → List Iv → List Nat → List Lin → Bool) (s : CS) : Bool := agN as s.2.1 g fs (fun g fs => htN gU as s.2.2.1 [] hp g gr (fun vs hp g gr => match s.1 with
    | none => fgE (.inr (.inr 0) :: (as ++ vs)) s.2.2.2.1 s.2.2.2.2 hp fl g (fun hp fl g => k rest hp fl g gr (fnA fl ++ fs))
    | some t => taN gU t g gr (fun v g gr => fgE (v :: (as ++ vs)) s.2.2.2.1 s.2.2.2.2 hp fl g (fun hp fl g => k (v :: rest) hp fl g gr (fnA fl ++ fs)))))
noncomputable def dlN (id : Nat) (hp hp2 : List HE) : List HE := cond (Nat.beq id 205) (match hpE hp 635 (liC 157) with
  | some (.inl V) => (.inl 635, .inr (liC 157), .inl (liAdc V (-1))) :: hp2
  | _ => hp2) hp2
/-- a call by its contract -/
noncomputable def cnA (c : CN) (md : Md) (D : Nat) (as : List AV) (rest : List AV) (hp : List HE) (fl : List FG) (g : List Iv) (gr : List Nat) (fs : List Lin) (k : List AV → List HE → List FG → List Iv → List Nat → List Lin → Bool) : Bool :=
  (Nat.ble c.2.1 D && (taMs aT g gr fs c.2.2.1 as && mdSub c.2.2.2.2.2.1 md)) && htA aT gT gU as c.2.2.2.1 [] hp g gr fs (fun vs hp g gr => match fgN (.inr (.inr 0) :: (as ++ vs)) c.2.2.2.2.1 with
    | some F => F.all (fun f => fgM fl f || ghA fl hp g fs f) && gSp (dlN c.1 hp (hpC aT gT gr c.2.2.2.2.2.1 hp)) (fun hp => gSp (flC dep c.2.2.2.2.2.1 fl) (fun fl => c.2.2.2.2.2.2.all (csN gU as rest hp fl g gr fs k)))
    | none => false)
variable {aT gT gU dep FL}
theorem taM_V {ρ : List Int} {π gr : List Nat} {g : List Iv} {fs : List Lin} (hg : gOK ρ g) (hf : fOK ρ fs) (hp : prOK aT π gr) {t : TA} {v : AV} {w : Value} (h : taM aT g gr fs t v = true) (hv : avOK ρ π v w) : taOK aT t w := by
  unfold taM at h
  split at h
  · obtain ⟨x, rfl, hx⟩ := hv
    exact ⟨x, rfl, inR_V hg hf h hx⟩
  · rename_i n R
    obtain ⟨a, ha, rfl⟩ := hv
    unfold taOK
    dsimp only
    split at h
    · rename_i e
      split at h
      · rename_i g2 e2
        cases Nat.eq_of_beq_eq_true h
        obtain ⟨a2, ha2, hg2⟩ := rsG_V hp e2
        cases ha.symm.trans ha2
        exact ⟨a, rfl, hg2⟩
      · cases h
    · rename_i e
      cases rsEq_V h
      cases ha
      rfl
    · cases h
  · rename_i n c
    unfold taOK
    dsimp only
    split at h
    · rename_i e
      rw [e]
      cases Nat.eq_of_beq_eq_true h
      show avOK [] [] (.inr (.inr (n / 3))) w
      generalize n / 3 = c at *
      match c, hv with
      | 0, hv => exact hv
      | 1, hv => exact hv
      | 2, hv => exact hv
      | c + 3, hv => exact hv
    · cases h
  · cases h
theorem taMs_V {ρ : List Int} {π gr : List Nat} {g : List Iv} {fs : List Lin} (hg : gOK ρ g) (hf : fOK ρ fs) (hp : prOK aT π gr) : ∀ {ts : List TA} {vs : List AV} {ws : List Value}, taMs aT g gr fs ts vs = true → Two (avOK ρ π) vs ws → Two (taOK aT) ts ws
  | [], [], [], _, _ => trivial
  | t :: ts, v :: vs, w :: ws, h, h2 => by
    have h : (taM aT g gr fs t v && taMs aT g gr fs ts vs) = true := h
    rw [Bool.and_eq_true] at h
    exact ⟨taM_V hg hf hp h.1 h2.1, taMs_V hg hf hp h.2 h2.2⟩
  | [], _ :: _, _, h, _ => by cases h
  | _ :: _, [], _, h, _ => by cases h
  | [], [], _ :: _, _, h2 => h2.elim
  | _ :: _, _ :: _, [], _, h2 => h2.elim
theorem taN_V (hU : uOK aT gU) {ρ : List Int} {π gr : List Nat} {g : List Iv} (hg : gOK ρ g) (hp : prOK aT π gr) {t : TA} {w : Value} (ht : taOK aT t w) {k : AV → List Iv → List Nat → Bool} (h : taN gU t g gr k = true) : ∃ v g' gr' ρ' π', Pre ρ ρ' ∧ Pre π π' ∧ gOK ρ' g' ∧ prOK aT π' gr' ∧ avOK ρ' π' v w ∧ k v g' gr' = true := by
  unfold taN at h
  split at h
  · rename_i p
    obtain ⟨x, rfl, h1, h2⟩ := ht
    exact ⟨_, _, _, ρ ++ [x.toInt], π, Pre.one _ _, Pre.refl _, hg.push h1 h2, hp, av_i (push_S hg _), h⟩
  · rename_i n
    unfold taOK at ht
    dsimp only at ht
    split at h
    · rename_i e
      rw [e] at ht
      obtain ⟨a, rfl, ha⟩ := ht
      obtain ⟨R, gr', π', p1, p2, p3, h⟩ := nwR_V hU hp ha h
      exact ⟨_, _, _, ρ, π', Pre.refl _, p1, hg, p2, av_r p3, h⟩
    · rename_i e
      rw [e] at ht
      exact ⟨_, _, _, ρ, π, Pre.refl _, Pre.refl _, hg, hp, by rw [ht]; exact av_r (R := .inl (n / 3)) rfl, h⟩
    · rename_i e0 e1
      have e2 : n % 3 = 2 := by
        have := Nat.mod_lt n (show 0 < 3 by decide)
        have h0 : n % 3 ≠ 0 := e0
        have h1 : n % 3 ≠ 1 := e1
        omega
      rw [e2] at ht
      have ht : avOK [] [] (.inr (.inr (n / 3))) w := ht
      exact ⟨_, _, _, ρ, π, Pre.refl _, Pre.refl _, hg, hp, ht.mono ⟨ρ, rfl⟩ ⟨π, rfl⟩, h⟩
variable {ρ : List Int} {π : List Nat} {hp : List HE} {fl : List FG} {g : List Iv} {gr : List Nat} {fs : List Lin} {M M' : Mem}
theorem lsZ_V {ρ : List Int} : ∀ (Ls Ms : List Lin) {xs ys : List Int}, lsZ Ls Ms = true → Two (fun L v => liV ρ L = some v) Ls xs → Two (fun L v => liV ρ L = some v) Ms ys → xs = ys := by
  intro Ls
  induction Ls with
  | nil =>
    intro Ms xs ys h h1 h2
    cases Ms with
    | cons _ _ => cases h
    | nil =>
      cases xs with
      | cons _ _ => exact h1.elim
      | nil =>
        cases ys with
        | cons _ _ => exact h2.elim
        | nil => rfl
  | cons L Ls ih =>
    intro Ms xs ys h h1 h2
    cases Ms with
    | nil => cases h
    | cons M Ms =>
      obtain ⟨h3, h4⟩ := and_t h
      cases xs with
      | nil => exact h1.elim
      | cons x xs =>
        cases ys with
        | nil => exact h2.elim
        | cons y ys =>
          have e := ih Ms h4 h1.2 h2.2
          subst e
          have hz := liSub_V (ρ := ρ) h1.1 h2.1
          have : x - y = 0 := by
            unfold isZ at h3
            split at h3
            · rename_i e2
              rw [e2] at hz
              have e3 : liV ρ ([], Int.ofNat 0) = some 0 := rfl
              rw [e3] at hz
              exact (Option.some.inj hz).symm
            · cases h3
          have e4 : x = y := by omega
          rw [e4]
theorem fgM_V {ρ : List Int} {M : Mem} {fl : List FG} (hfl : ∀ x ∈ fl, fgOK FL ρ M x) {f : FG} {ys : List Int} (h : fgM fl f = true) (hy : Two (fun L v => liV ρ L = some v) f.2 ys) : FL f.1 ys M := by
  obtain ⟨e, he, h2⟩ := List.any_eq_true.mp h
  obtain ⟨h3, h4⟩ := and_t h2
  obtain ⟨xs, i1, i2⟩ := hfl e he
  rw [lsZ_V _ _ h4 i1 hy, Nat.eq_of_beq_eq_true h3] at i2
  exact i2
def cfOK (FL : Nat → List Int → Mem → Prop) : Prop := (∀ x vs M, 20 ≤ x → x % 2 = 0 → FL x vs M → FL (x + 1) vs M → False) ∧ (∀ M t l (i : Nat) (v : Int32) (x : Int), FL 24 [] M → gNth M 639 = some (.inl (t, .inl l)) → gNth l i = some v → i ≤ 6 → 16 * (i : Int) ≤ x → x < 16 * (i : Int) + v.toInt → FL 22 [x] M) ∧ (∀ M t l (v : Int32), gNth M 635 = some (.inl (t, .inl l)) → gNth l 157 = some v → 1 ≤ v.toInt → FL 26 [] M) ∧ ∀ x M k r r2, x = 62 ∨ x = 66 → FL x [k, r] M → FL x [k, r2] M → r = r2
theorem ctA_V (hct : cfOK FL) {ρ : List Int} {M : Mem} {fl : List FG} (hfl : ∀ x ∈ fl, fgOK FL ρ M x) (h : ctA fl = true) : False := by
  obtain ⟨e, he, h2⟩ := List.any_eq_true.mp h
  obtain ⟨h3, h4⟩ := and_t h2
  obtain ⟨h4, h5⟩ := and_t h4
  obtain ⟨f, hf, h6⟩ := List.any_eq_true.mp h5
  obtain ⟨h7, h8⟩ := and_t h6
  obtain ⟨xs, i1, i2⟩ := hfl e he
  obtain ⟨ys, j1, j2⟩ := hfl f hf
  rw [← lsZ_V _ _ h8 i1 j1, Nat.eq_of_beq_eq_true h7] at j2
  exact hct.1 e.1 xs M (Nat.le_of_ble_eq_true h3) (Nat.eq_of_beq_eq_true h4) i2 j2
theorem ghA_V (hct : cfOK FL) (hW : Wd aT gT FL ρ π hp fl g gr fs M) {f : FG} {ys : List Int} (h : ghA fl hp g fs f = true) (hy : Two (fun L v => liV ρ L = some v) f.2 ys) : FL f.1 ys M := by
  obtain ⟨n, Ls⟩ := f
  unfold ghA at h
  dsimp only at h hy ⊢
  cases h1 : Nat.beq n 22 with
  | true =>
    rw [h1] at h
    cases Nat.eq_of_beq_eq_true h1
    rcases Ls with _ | ⟨X, _ | ⟨X2, Ls⟩⟩
    · cases h
    · obtain ⟨h2, h3⟩ := and_t h
      rcases ys with _ | ⟨x, _ | ⟨x2, ys⟩⟩
      · exact hy.elim
      · obtain ⟨hy, _⟩ := hy
        have h24 := fgM_V (f := (24, [])) (ys := []) hW.2.1 h2 trivial
        obtain ⟨e, he, h3⟩ := List.any_eq_true.mp h3
        obtain ⟨h4, h5⟩ := and_t h3
        have e1 := rsEq_V h4
        obtain ⟨R, q, v⟩ := e
        cases e1
        obtain ⟨a, ha, h6⟩ := hW.1 _ he
        cases ha
        rcases q with q | T
        · cases h5
        · rcases v with V | v
          · obtain ⟨h7, h8⟩ := and_t h5
            obtain ⟨h9, h10⟩ := and_t h7
            obtain ⟨t, l, j, y, q1, q2, q3, q4⟩ := h6
            obtain ⟨y2, q5, q6⟩ := q4
            cases q5
            have k1 := nn_V hW.2.2.1 hW.2.2.2.2.1 h9 (liSub_V hy (liMul_V 16 q2))
            have k2 := nn_V hW.2.2.1 hW.2.2.2.2.1 h10 (liAdc_V (-1) (liSub_V (liAdd_V (liMul_V 16 q2) q6) hy))
            have k3 := nn_V hW.2.2.1 hW.2.2.2.2.1 h8 (liSub_V (liC_V 6) q2)
            exact hct.2.1 M t l j y x h24 q1 q3 (by omega) (by omega) (by omega)
          · cases h5
      · exact hy.2.elim
    · cases h
  | false =>
    rw [h1] at h
    cases h2 : Nat.beq n 26 with
    | true =>
      rw [h2] at h
      cases Nat.eq_of_beq_eq_true h2
      rcases Ls with _ | ⟨X, Ls⟩
      · rcases ys with _ | ⟨x, ys⟩
        · have h : hp.any (fun e => rsEq e.1 (.inl 635) && (match e.2.1, e.2.2 with
            | .inr L, .inl V => zz g fs (liAdc L (-157)) && nn g fs (liAdc V (-1))
            | _, _ => false)) = true := h
          obtain ⟨e, he, h3⟩ := List.any_eq_true.mp h
          obtain ⟨h4, h5⟩ := and_t h3
          have e1 := rsEq_V h4
          obtain ⟨R, q, v⟩ := e
          cases e1
          obtain ⟨a, ha, h6⟩ := hW.1 _ he
          cases ha
          rcases q with q | T
          · cases h5
          · rcases v with V | v
            · obtain ⟨h7, h8⟩ := and_t h5
              obtain ⟨t, l, j, y, q1, q2, q3, q4⟩ := h6
              obtain ⟨y2, q5, q6⟩ := q4
              cases q5
              have k1 := zz_V hW.2.2.1 hW.2.2.2.2.1 h7 (liAdc_V (-157) q2)
              have k2 := nn_V hW.2.2.1 hW.2.2.2.2.1 h8 (liAdc_V (-1) q6)
              have : j = 157 := by omega
              rw [this] at q3
              exact hct.2.2.1 M t l y q1 q3 (by omega)
            · cases h5
        · exact hy.elim
      · cases h
    | false =>
      rw [h2] at h
      cases h
theorem Wd.ints {ρ' : List Int} {g' : List Iv} (hW : Wd aT gT FL ρ π hp fl g gr fs M) (h : Pre ρ ρ') (hg : gOK ρ' g') : Wd aT gT FL ρ' π hp fl g' gr fs M :=
  ⟨fun e he => (hW.1 e he).mono h (Pre.refl _), fun x hx => (hW.2.1 x hx).mono h, hg, hW.2.2.2.1, h.fOK hW.2.2.2.2.1, hW.2.2.2.2.2⟩
theorem Two.one {α β : Type} {P : α → β → Prop} {a : α} {b : β} (h : P a b) : Two P [a] [b] := Two.mk h trivial
theorem kyA_V {as : List AV} {ws : List Value} {ρ : List Int} {π : List Nat} (ha : Two (avOK ρ π) as ws) {k : Nat ⊕ Nat} {R : RS} (h : kyA as k = some R) {a : Nat} (hR : rsV π R = some a) : kyOK ws k a := by
  rcases k with b | i
  · cases h
    cases hR
    rfl
  · unfold kyA at h
    dsimp only at h
    split at h
    · rename_i R2 e
      cases h
      obtain ⟨w, hw, b, hb, rfl⟩ := ha.at e
      cases hR.symm.trans hb
      exact hw
    · cases h
theorem kyA_W {as : List AV} {ws : List Value} {ρ : List Int} {π : List Nat} (ha : Two (avOK ρ π) as ws) {k : Nat ⊕ Nat} {R : RS} (h : kyA as k = some R) {a : Nat} (hk : kyOK ws k a) : rsV π R = some a := by
  rcases k with b | i
  · cases h
    cases hk
    rfl
  · unfold kyA at h
    dsimp only at h
    split at h
    · rename_i R2 e
      cases h
      obtain ⟨w, hw, b, hb, rfl⟩ := ha.at e
      have hk : gNth ws i = some (.ref a) := hk
      cases hk.symm.trans hw
      exact hb
    · cases h
theorem htA_V (hU : uOK aT gU) {as : List AV} {ws : List Value} : ∀ (hs : List HT) {ρ : List Int} {π : List Nat} {hp : List HE} {g : List Iv} {gr : List Nat} {vs : List AV} {hv : List Value}, Two (avOK ρ π) as ws → Two (avOK ρ π) vs hv → Wd aT gT FL ρ π hp fl g gr fs M → ∀ {k : List AV → List HE → List Iv → List Nat → Bool}, htA aT gT gU as hs vs hp g gr fs k = true → ∃ hv2 vs' hp' g' gr' ρ' π', Two (fldV aT ws M) hs hv2 ∧ Pre ρ ρ' ∧ Pre π π' ∧ Two (avOK ρ' π') vs' (hv ++ hv2) ∧ Wd aT gT FL ρ' π' hp' fl g' gr' fs M ∧ k vs' hp' g' gr' = true := by
  intro hs
  induction hs with
  | nil => intro ρ π hp g gr vs hv ha hv9 hW k h; exact ⟨[], vs, hp, g, gr, ρ, π, trivial, Pre.refl _, Pre.refl _, by rw [List.append_nil]; exact hv9, hW, h⟩
  | cons q r ih =>
    intro ρ π hp g gr vs hv ha hv9 hW k h
    obtain ⟨a, ci, f, t⟩ := q
    unfold htA at h
    split at h
    · rename_i R eR
      obtain ⟨a2, vs2, w, v, hp', g', gr', ρ', π', q1, q2, q3, q4, q5, q6, q7, h⟩ := rdF_V hU hW h
      have hq9 := cond_t (α := Nat) h
      clear h
      obtain ⟨h1, h⟩ := hq9
      obtain ⟨hv2, vs', hp2, g2, gr2, ρ2, π2, j0, j1, j2, j3, j4, j5⟩ := ih (Two.mono (fun _ _ q => avOK.mono q4 q5 q) ha) ((Two.mono (fun _ _ q => avOK.mono q4 q5 q) hv9).app (Two.one q6)) q7 h
      rw [List.append_assoc] at j3
      exact ⟨w :: hv2, vs', hp2, g2, gr2, ρ2, π2, Two.mk ⟨a2, vs2, kyA_V ha eR q1, q2, q3, taM_V q7.2.2.1 q7.2.2.2.2.1 q7.2.2.2.1 h1 q6⟩ j0, q4.trans j1, q5.trans j2, j3, j4, j5⟩
    · cases h
theorem htN_V (hU : uOK aT gU) {as : List AV} {ws : List Value} : ∀ (hs : List HT) {ρ : List Int} {π : List Nat} {hp : List HE} {g : List Iv} {gr : List Nat} {vs : List AV} {hv hv2 : List Value}, Two (avOK ρ π) as ws → Two (avOK ρ π) vs hv → Wd aT gT FL ρ π hp fl g gr fs M → Two (fldV aT ws M) hs hv2 → ∀ {k : List AV → List HE → List Iv → List Nat → Bool}, htN gU as hs vs hp g gr k = true → ∃ vs' hp' g' gr' ρ' π', Pre ρ ρ' ∧ Pre π π' ∧ Two (avOK ρ' π') vs' (hv ++ hv2) ∧ Wd aT gT FL ρ' π' hp' fl g' gr' fs M ∧ k vs' hp' g' gr' = true := by
  intro hs
  induction hs with
  | nil =>
    intro ρ π hp g gr vs hv hv2 ha hv9 hW hh k h
    cases hv2 with
    | cons _ _ => exact hh.elim
    | nil => exact ⟨vs, hp, g, gr, ρ, π, Pre.refl _, Pre.refl _, by rw [List.append_nil]; exact hv9, hW, h⟩
  | cons q r ih =>
    intro ρ π hp g gr vs hv hv2 ha hv9 hW hh k h
    cases hv2 with
    | nil => exact hh.elim
    | cons w hv2 =>
      obtain ⟨⟨a2, vs2, q0, q1, q2, q3⟩, hh⟩ := hh
      obtain ⟨a, ci, f, t⟩ := q
      unfold htN at h
      split at h
      · rename_i R eR
        obtain ⟨v, g', gr', ρ', π', p1, p2, p3, p4, p5, h⟩ := taN_V hU hW.2.2.1 hW.2.2.2.1 q3 h
        have hW2 : Wd aT gT FL ρ' π' ((R, .inl f, v) :: hp) fl g' gr' fs M := ((hW.ints p1 p3).refs p2 p4).know (he_f (rsV.mono p2 (kyA_W ha eR q0)) q1 q2 p5)
        obtain ⟨vs', hp2, g2, gr2, ρ2, π2, j1, j2, j3, j4, j5⟩ := ih (Two.mono (fun _ _ q => avOK.mono p1 p2 q) ha) ((Two.mono (fun _ _ q => avOK.mono p1 p2 q) hv9).app (Two.one p5)) hW2 hh h
        rw [List.append_assoc] at j3
        exact ⟨vs', hp2, g2, gr2, ρ2, π2, p1.trans j1, p2.trans j2, j3, j4, j5⟩
      · cases h
theorem sfA_V {vs : List AV} {ws : List Value} {ρ : List Int} {π : List Nat} (h : Two (avOK ρ π) vs ws) : ∀ (q : List (Nat × Int)) {L : Lin}, sfA vs q = some L → ∃ y, liV ρ L = some y ∧ sfV ws q = some y := by
  intro q
  induction q with
  | nil => intro L hL; cases hL; exact ⟨0, rfl, rfl⟩
  | cons p r ih =>
    intro L hL
    obtain ⟨n, c⟩ := p
    unfold sfA at hL
    split at hL
    · rename_i L1 M1 e1 e2
      cases hL
      obtain ⟨y, i1, i2⟩ := ih e2
      obtain ⟨w, hw, x, rfl, hx⟩ := h.at e1
      refine ⟨c * x.toInt + y, liAdd_V (liMul_V c hx) i1, ?_⟩
      unfold sfV
      rw [hw, i2]
    · cases hL
theorem elN_V {vs : List AV} {ws : List Value} : ∀ (es : List EL) {ρ : List Int} {hp : List HE} {g : List Iv}, Two (avOK ρ π) vs ws → Wd aT gT FL ρ π hp fl g gr fs M → (∀ e ∈ es, elOK ws M e) → ∀ {k : List HE → List Iv → Bool}, elN vs es hp g k = true → ∃ hp' g' ρ', Pre ρ ρ' ∧ Wd aT gT FL ρ' π hp' fl g' gr fs M ∧ k hp' g' = true := by
  intro es
  induction es with
  | nil => intro ρ hp g hv hW _ k h; exact ⟨hp, g, ρ, Pre.refl _, hW, h⟩
  | cons e r ih =>
    intro ρ hp g hv hW he k h
    obtain ⟨i, y, t, l, x, i1, i2, i3, i4, i5, i6⟩ := he e List.mem_cons_self
    obtain ⟨a, q, c, p⟩ := e
    unfold elN at h
    split at h
    · rename_i L eL
      rw [fLin_eq] at h
      obtain ⟨y2, j1, j2⟩ := sfA_V hv q eL
      have i1 : sfV ws q = some y := i1
      cases i1.symm.trans j2
      have hW2 := (hW.push (x := x.toInt) (lo := p.1) (hi := p.2) i5 i6).know (he_a (R := .inl a) rfl i3 ((Pre.one ρ x.toInt).liV (by rw [liAdc_V c j1]; exact congrArg some i2)) i4 (av_i (push_S hW.2.2.1 x.toInt)))
      obtain ⟨hp', g', ρ', k1, k2, k3⟩ := ih (st_mono (Pre.one _ _) hv) hW2 (fun e he2 => he e (List.mem_cons_of_mem _ he2)) h
      exact ⟨hp', g', ρ', (Pre.one _ _).trans k1, k2, k3⟩
    · cases h
theorem agN_V {as : List AV} {ws : List Value} : ∀ (qs : List (Nat × Iv)) {g : List Iv} {fs : List Lin}, gOK ρ g → fOK ρ fs → Two (avOK ρ π) as ws → (∀ q ∈ qs, ∃ x : Int32, gNth ws q.1 = some (.int x) ∧ q.2.1 ≤ x.toInt ∧ x.toInt ≤ q.2.2) → ∀ {k : List Iv → List Lin → Bool}, agN as qs g fs k = true → ∃ g' fs', gOK ρ g' ∧ fOK ρ fs' ∧ k g' fs' = true := by
  intro qs
  induction qs with
  | nil => intro g fs hg hf _ _ k h; exact ⟨g, fs, hg, hf, h⟩
  | cons q r ih =>
    intro g fs hg hf ha hq k h
    obtain ⟨x, q1, q2, q3⟩ := hq q List.mem_cons_self
    obtain ⟨i, p⟩ := q
    unfold agN at h
    split at h
    · rename_i L e
      obtain ⟨w, hw, y, rfl, hy⟩ := ha.at e
      have q1 : gNth ws i = some (.int x) := q1
      cases hw.symm.trans q1
      have q2 : p.1 ≤ x.toInt := q2
      have q3 : x.toInt ≤ p.2 := q3
      obtain ⟨g', fs', hg', hf', h⟩ := addFs_V _ hg hf (two_V (liAdc_V (-p.1) hy) (by omega) (liSub_V (liC_V p.2) hy) (by omega)) h
      exact ih hg' hf' ha (fun q hm => hq q (List.mem_cons_of_mem _ hm)) h
    · cases h
theorem isZ_V {L : Lin} {x : Int} (h : isZ L = true) (hx : liV ρ L = some x) : x = 0 := by
  unfold isZ at h
  split at h
  · have : liV ρ ([], Int.ofNat 0) = some 0 := rfl
    rw [this] at hx
    exact (Option.some.inj hx).symm
  · cases h
theorem hpE_V : ∀ {hp : List HE} {a : Nat} {L : Lin} {v : AV}, hpE hp a L = some v → ∃ L2, ((.inl a, .inr L2, v) : HE) ∈ hp ∧ isZ (liSub L2 L) = true
  | [], _, _, _, h => by cases h
  | (R, .inl f, v1) :: r, a, L, v, h => by
    have h : hpE r a L = some v := h
    obtain ⟨L2, h1, h2⟩ := hpE_V h
    exact ⟨L2, List.mem_cons_of_mem _ h1, h2⟩
  | (R, .inr L1, v1) :: r, a, L, v, h => by
    have h : cond (rsEq R (.inl a) && isZ (liSub L1 L)) (some v1) (hpE r a L) = some v := h
    cases hb : rsEq R (.inl a) && isZ (liSub L1 L) with
    | true =>
      rw [hb] at h
      cases h
      obtain ⟨h1, h2⟩ := and_t hb
      cases rsEq_V h1
      exact ⟨L1, List.mem_cons_self, h2⟩
    | false =>
      rw [hb] at h
      obtain ⟨L2, h1, h2⟩ := hpE_V h
      exact ⟨L2, List.mem_cons_of_mem _ h1, h2⟩
theorem elA_V {vs : List AV} {ws : List Value} (hv : Two (avOK ρ π) vs ws) (hW : Wd aT gT FL ρ π hp fl g gr fs M) : ∀ (es : List EL), elA vs g fs hp es = true → ∀ e ∈ es, elOK ws M e := by
  intro es
  induction es with
  | nil => intro _ e he; cases he
  | cons e r ih =>
    intro h e2 he
    obtain ⟨h1, h2⟩ := and_t h
    rcases List.mem_cons.mp he with rfl | he
    · obtain ⟨a, q, c, p⟩ := e2
      dsimp only at h1
      split at h1
      · rename_i L eL
        split at h1
        · rename_i V eV
          obtain ⟨L2, m1, m2⟩ := hpE_V eV
          obtain ⟨a2, ha2, t, l, i, x, k1, k2, k3, k4⟩ := hW.1 _ m1
          cases ha2
          obtain ⟨z, hz, hz2⟩ := k4
          cases hz
          obtain ⟨y, j1, j2⟩ := sfA_V hv q eL
          have hd := isZ_V m2 (liSub_V k2 (liAdc_V c j1))
          have hb := inR_V hW.2.2.1 hW.2.2.2.2.1 h1 hz2
          exact ⟨i, y, t, l, x, j2, (show y + c = (i : Int) by omega), k1, k3, hb.1, hb.2⟩
        · cases h1
      · cases h1
    · exact ih h2 e2 he
theorem agA_V {as : List AV} {ws : List Value} (hg : gOK ρ g) (hf : fOK ρ fs) (ha : Two (avOK ρ π) as ws) : ∀ (qs : List (Nat × Iv)), agA as g fs qs = true → ∀ q ∈ qs, ∃ x : Int32, gNth ws q.1 = some (.int x) ∧ q.2.1 ≤ x.toInt ∧ x.toInt ≤ q.2.2 := by
  intro qs
  induction qs with
  | nil => intro _ q hq; cases hq
  | cons q r ih =>
    intro h q2 hq
    obtain ⟨h1, h2⟩ := and_t h
    rcases List.mem_cons.mp hq with rfl | hq
    · obtain ⟨i, p⟩ := q2
      dsimp only at h1
      split at h1
      · rename_i L e
        obtain ⟨w, hw, y, rfl, hy⟩ := ha.at e
        have hb := inR_V hg hf h1 hy
        exact ⟨y, hw, hb.1, hb.2⟩
      · cases h1
    · exact ih h2 q2 hq
theorem Wd.frm (hd : depOK aT dep FL) {cm : Md} (hW : Wd aT gT FL ρ π hp fl g gr fs M) (hT : TM aT gT M') (hF : Frm aT cm M M') : Wd aT gT FL ρ π (hpC aT gT gr cm hp) (flC dep cm fl) g gr fs M' := by
  refine ⟨fun e he => ?_, fun x hx => ?_, hW.2.2.1, hW.2.2.2.1, hW.2.2.2.2.1, hT⟩
  · obtain ⟨h1, h2⟩ := List.mem_filter.mp he
    obtain ⟨R, q, v⟩ := e
    obtain ⟨a, ha, h3⟩ := hW.1 _ h1
    refine ⟨a, ha, ?_⟩
    rcases q with f | L
    · obtain ⟨c, vs, w, q1, q2, q3⟩ := h3
      obtain ⟨vs', e1, -, e2⟩ := hF.2.1 a c vs q1
      have q2 : gNth vs f = some w := q2
      refine ⟨c, vs', w, e1, ?_, q3⟩
      show gNth vs' f = some w
      rw [e2 f, q2]
      intro hm
      have h2 : (!(cm.any (fun q => Nat.beq q.2 f && clsIs aT gT gr R q.1))) = true := h2
      have h4 : cm.any (fun q => Nat.beq q.2 f && clsIs aT gT gr R q.1) = true := by
        refine List.any_eq_true.mpr ⟨_, hm, ?_⟩
        rw [Bool.and_eq_true]
        refine ⟨Nat.beq_refl _, ?_⟩
        unfold clsIs
        split
        · rename_i g2 e5
          obtain ⟨a3, ha3, hg3⟩ := rsG_V hW.2.2.2.1 e5
          cases ha3.symm.trans ha
          split
          · rename_i c2 fts e6
            obtain ⟨e7, he7, vs7, e8, -, -⟩ := hW.2.2.2.2.2.at hg3 e6
            subst e8
            cases he7.symm.trans q1
            exact Nat.beq_refl _
          · rfl
        · rfl
      rw [h4] at h2
      cases h2
    · obtain ⟨t, l, i, x, q1, q2⟩ := h3
      obtain ⟨x', e1, e2⟩ := hF.2.2 a t _ q1
      have : x' = .inl l := by
        refine e2 (fun g2 hg2 hm => ?_)
        have h2 : (!(cm.any (fun q => Nat.ble 1000 q.1 && grIs aT gr R (q.1 - 1000)))) = true := h2
        have h4 : cm.any (fun q => Nat.ble 1000 q.1 && grIs aT gr R (q.1 - 1000)) = true := by
          refine List.any_eq_true.mpr ⟨_, hm, ?_⟩
          rw [Bool.and_eq_true]
          refine ⟨Nat.ble_eq_true_of_le (Nat.le_add_right _ _), ?_⟩
          unfold grIs
          split
          · rename_i g3 e5
            obtain ⟨a3, ha3, hg3⟩ := rsG_V hW.2.2.2.1 e5
            cases ha3.symm.trans ha
            cases hg3.symm.trans hg2
            show Nat.beq g2 (1000 + g2 - 1000) = true
            rw [Nat.add_sub_cancel_left]
            exact Nat.beq_refl _
          · rfl
        rw [h4] at h2
        cases h2
      subst this
      exact ⟨t, l, i, x, e1, q2⟩
  · obtain ⟨h1, h2⟩ := List.mem_filter.mp hx
    obtain ⟨vs, i1, i2⟩ := hW.2.1 x h1
    refine ⟨vs, i1, hd.1 x.1 vs cm M M' hF (fun q hq hm => ?_) i2⟩
    have h4 : cm.any (fun q => mdIn (dep x.1) q.1 q.2) = true := List.any_eq_true.mpr ⟨q, hq, mdIn_iff.mpr hm⟩
    rw [h4] at h2
    cases h2
theorem fgF_V {vs : List AV} {ws : List Value} {ρ : List Int} {π : List Nat} (h : Two (avOK ρ π) vs ws) : ∀ (ps : List (List (Nat × Int) × Int)) {Ls : List Lin}, fgF vs ps = some Ls → ∃ ys, Two (fun (p : List (Nat × Int) × Int) (y : Int) => ∃ z, sfV ws p.1 = some z ∧ y = z + p.2) ps ys ∧ Two (fun L v => liV ρ L = some v) Ls ys := by
  intro ps
  induction ps with
  | nil => intro Ls hL; cases hL; exact ⟨[], trivial, trivial⟩
  | cons p r ih =>
    intro Ls hL
    obtain ⟨q, c⟩ := p
    unfold fgF at hL
    split at hL
    · rename_i L Ms e1 e2
      cases hL
      obtain ⟨ys, i1, i2⟩ := ih e2
      obtain ⟨y, j1, j2⟩ := sfA_V h q e1
      exact ⟨(y + c) :: ys, Two.mk ⟨y, j2, rfl⟩ i1, Two.mk (liAdc_V c j1) i2⟩
    · cases hL
/-- the forms of flags, where what is told of the values holds -/
theorem two_det {vs : List Value} : ∀ (ps : List (List (Nat × Int) × Int)) {xs ys : List Int}, Two (fun (p : List (Nat × Int) × Int) (y : Int) => ∃ z, sfV vs p.1 = some z ∧ y = z + p.2) ps xs → Two (fun (p : List (Nat × Int) × Int) (y : Int) => ∃ z, sfV vs p.1 = some z ∧ y = z + p.2) ps ys → xs = ys := by
  intro ps
  induction ps with
  | nil =>
    intro xs ys h1 h2
    cases xs with
    | cons _ _ => exact h1.elim
    | nil =>
      cases ys with
      | cons _ _ => exact h2.elim
      | nil => rfl
  | cons p ps ih =>
    intro xs ys h1 h2
    cases xs with
    | nil => exact h1.elim
    | cons x xs =>
      cases ys with
      | nil => exact h2.elim
      | cons y ys =>
        obtain ⟨⟨z, e1, rfl⟩, h1⟩ := h1
        obtain ⟨⟨z2, e2, rfl⟩, h2⟩ := h2
        cases e1.symm.trans e2
        rw [ih h1 h2]
theorem fgN_V {vs : List AV} {ws : List Value} (h : Two (avOK ρ π) vs ws) : ∀ (F : List FP) {G : List FG}, fgN vs F = some G → (∀ f ∈ F, flOK FL ws M f) → ∀ x ∈ G, fgOK FL ρ M x := by
  intro F
  induction F with
  | nil => intro G hG _ x hx; cases hG; cases hx
  | cons f r ih =>
    intro G hG hF x hx
    obtain ⟨n, ps⟩ := f
    unfold fgN at hG
    split at hG
    · rename_i Ls F2 e1 e2
      cases hG
      rcases List.mem_cons.mp hx with rfl | hx
      · obtain ⟨ys, i1, i2⟩ := fgF_V h ps e1
        obtain ⟨ys2, j1, j2⟩ := hF (n, ps) List.mem_cons_self
        cases two_det ps i1 j1
        exact ⟨ys, i2, j2⟩
      · exact ih e2 (fun f hf => hF f (List.mem_cons_of_mem _ hf)) x hx
    · cases hG
theorem fgN_W (hct : cfOK FL) {vs : List AV} {ws : List Value} (h : Two (avOK ρ π) vs ws) (hW : Wd aT gT FL ρ π hp fl g gr fs M) : ∀ (F : List FP) {G : List FG}, fgN vs F = some G → G.all (fun f => fgM fl f || ghA fl hp g fs f) = true → ∀ f ∈ F, flOK FL ws M f := by
  intro F
  induction F with
  | nil => intro G _ _ f hf; cases hf
  | cons f r ih =>
    intro G hG hA f2 hf
    obtain ⟨n, ps⟩ := f
    unfold fgN at hG
    split at hG
    · rename_i Ls F2 e1 e2
      cases hG
      obtain ⟨h1, h2⟩ := and_t (show ((fgM fl (n, Ls) || ghA fl hp g fs (n, Ls)) && F2.all (fun f => fgM fl f || ghA fl hp g fs f)) = true from hA)
      rcases List.mem_cons.mp hf with rfl | hf
      · obtain ⟨ys, i1, i2⟩ := fgF_V h ps e1
        rw [Bool.or_eq_true] at h1
        rcases h1 with h1 | h1
        · exact ⟨ys, i1, fgM_V (f := (n, Ls)) hW.2.1 h1 i2⟩
        · exact ⟨ys, i1, ghA_V (f := (n, Ls)) hct hW h1 i2⟩
      · exact ih e2 h2 f2 hf
    · cases hG
theorem fgE_V (hct : cfOK FL) {src : List AV} {ws : List Value} {F : List FP} {es : List EL} (hv : Two (avOK ρ π) src ws) (hW : Wd aT gT FL ρ π hp fl g gr fs M) (hF : ∀ f ∈ F, flOK FL ws M f) (he : ∀ e ∈ es, elOK ws M e) {k : List HE → List FG → List Iv → Bool} (h : fgE src F es hp fl g k = true) : ∃ hp' fl' g' ρ', Pre ρ ρ' ∧ Wd aT gT FL ρ' π hp' fl' g' gr fs M ∧ k hp' fl' g' = true := by
  unfold fgE at h
  split at h
  · rename_i G eG
    rw [fFG_eq] at h
    have hG := fgN_V (FL := FL) (M := M) hv F eG hF
    have hfl2 : ∀ x ∈ G ++ fl, fgOK FL ρ M x := fun x hx => by
      rcases List.mem_append.mp hx with hx | hx
      · exact hG x hx
      · exact hW.2.1 x hx
    rw [Bool.or_eq_true] at h
    rcases h with h | h
    · exact (ctA_V hct hfl2 h).elim
    · obtain ⟨hp', g', ρ', q1, q2, q3⟩ := elN_V es hv (⟨hW.1, hfl2, hW.2.2⟩ : Wd aT gT FL ρ π hp (G ++ fl) g gr fs M) he h
      exact ⟨hp', _, g', ρ', q1, q2, q3⟩
  · cases h
theorem fld_ht {ws : List Value} {h : HT} {w : Value} (q : fldV aT ws M h w) : htOK aT ws M h := by
  obtain ⟨a, vs, h1, h2, h3, h4⟩ := q
  exact ⟨a, vs, w, h1, h2, h3, h4⟩
theorem fld_all {ws : List Value} : ∀ (hs : List HT) {hv : List Value}, Two (fldV aT ws M) hs hv → ∀ h ∈ hs, htOK aT ws M h := by
  intro hs
  induction hs with
  | nil => intro hv _ h hh; cases hh
  | cons h hs ih =>
    intro hv h2 x hx
    cases hv with
    | nil => exact h2.elim
    | cons w hv =>
      rcases List.mem_cons.mp hx with rfl | hx
      · exact fld_ht h2.1
      · exact ih h2.2 x hx
theorem all_fld {ws : List Value} : ∀ (hs : List HT), (∀ h ∈ hs, htOK aT ws M h) → ∃ hv, Two (fldV aT ws M) hs hv := by
  intro hs
  induction hs with
  | nil => intro _; exact ⟨[], trivial⟩
  | cons h hs ih =>
    intro hh
    obtain ⟨hv, i1⟩ := ih (fun x hx => hh x (List.mem_cons_of_mem _ hx))
    obtain ⟨a, vs, w, j1, j2, j3, j4⟩ := hh h List.mem_cons_self
    exact ⟨w :: hv, Two.mk ⟨a, vs, j1, j2, j3, j4⟩ i1⟩
theorem fnL_V (hct : cfOK FL) {n0 : Nat} (hn0 : n0 = 62 ∨ n0 = 66) {K R : Lin} {x r : Int} (hK : liV ρ K = some x) (hR : liV ρ R = some r) (hF : FL n0 [x, r] M) : ∀ (fl : List FG), (∀ e ∈ fl, fgOK FL ρ M e) → fOK ρ (fnL n0 K R fl) := by
  intro fl
  induction fl with
  | nil => intro _ L hL; cases hL
  | cons e fl ih =>
    intro hfl L hL
    obtain ⟨n, Ls⟩ := e
    rcases List.mem_append.mp hL with hL | hL
    · rcases Ls with _ | ⟨K2, _ | ⟨R2, _ | ⟨K3, Ls⟩⟩⟩
      · cases hL
      · cases hL
      · have hL : L ∈ cond (Nat.beq n n0 && isZ (liSub K K2)) [liSub R R2, liSub R2 R] [] := hL
        cases hc : Nat.beq n n0 && isZ (liSub K K2) with
        | false => rw [hc] at hL; cases hL
        | true =>
          have hL2 : L ∈ [liSub R R2, liSub R2 R] := by rw [hc] at hL; exact hL
          rw [Bool.and_eq_true] at hc
          cases Nat.eq_of_beq_eq_true hc.1
          obtain ⟨ys, i1, i2⟩ := hfl _ List.mem_cons_self
          rcases ys with _ | ⟨x2, _ | ⟨r2, _ | ⟨x3, ys⟩⟩⟩
          · exact i1.elim
          · exact i1.2.elim
          · have hz := isZ_V hc.2 (liSub_V hK i1.1)
            have ex : x2 = x := by omega
            subst ex
            have er := hct.2.2.2 _ M x2 r r2 hn0 hF i2
            subst er
            rcases List.mem_cons.mp hL2 with rfl | hL
            · exact ⟨_, liSub_V hR i1.2.1, by omega⟩
            · cases List.mem_singleton.mp hL
              exact ⟨_, liSub_V i1.2.1 hR, by omega⟩
          · exact i1.2.2.elim
      · cases hL
    · exact ih (fun e he => hfl e (List.mem_cons_of_mem _ he)) L hL
theorem fnA_V (hct : cfOK FL) (hW : Wd aT gT FL ρ π hp fl g gr fs M) : Wd aT gT FL ρ π hp fl g gr (fnA fl ++ fs) M := by
  refine ⟨hW.1, hW.2.1, hW.2.2.1, hW.2.2.2.1, ?_, hW.2.2.2.2.2⟩
  intro L hL
  rcases List.mem_append.mp hL with hL | hL
  · rcases fl with _ | ⟨⟨n, Ls⟩, r⟩
    · cases hL
    rcases Ls with _ | ⟨K, _ | ⟨R, _ | ⟨K3, Ls⟩⟩⟩
    · cases hL
    · cases hL
    · have hL : L ∈ cond (Nat.beq n 62 || Nat.beq n 66) (fnL n K R r) [] := hL
      cases hc : Nat.beq n 62 || Nat.beq n 66 with
      | false => rw [hc] at hL; cases hL
      | true =>
        have hL2 : L ∈ fnL n K R r := by rw [hc] at hL; exact hL
        obtain ⟨ys, i1, i2⟩ := hW.2.1 _ List.mem_cons_self
        rcases ys with _ | ⟨x2, _ | ⟨r2, _ | ⟨x3, ys⟩⟩⟩
        · exact i1.elim
        · exact i1.2.elim
        · exact fnL_V hct (or_beq hc) i1.1 i1.2.1 i2 r (fun e he => hW.2.1 e (List.mem_cons_of_mem _ he)) L hL2
        · exact i1.2.2.elim
    · cases hL
  · exact hW.2.2.2.2.1 L hL
theorem csN_V (hU : uOK aT gU) (hct : cfOK FL) {as rest : List AV} {ws cr : List Value} {v : Option Value} {s : CS} (ha : Two (avOK ρ π) as ws) (hr : Two (avOK ρ π) rest cr) (hW : Wd aT gT FL ρ π hp fl g gr fs M) (hs : csOK aT FL ws v M s) {k : List AV → List HE → List FG → List Iv → List Nat → List Lin → Bool} (h : csN gU as rest hp fl g gr fs k s = true) : ∃ st' hp' fl' g' gr' fs' ρ' π', Pre ρ ρ' ∧ Pre π π' ∧ Two (avOK ρ' π') st' (v.toList ++ cr) ∧ Wd aT gT FL ρ' π' hp' fl' g' gr' fs' M ∧ k st' hp' fl' g' gr' fs' = true := by
  obtain ⟨res, qs, hs2, f2, es⟩ := s
  obtain ⟨c1, c2, hv, c4, c3, c5⟩ := hs
  unfold csN at h
  obtain ⟨g1, fs1, hg1, hf1, h⟩ := agN_V (π := π) qs hW.2.2.1 hW.2.2.2.2.1 ha c2 h
  have hW1 : Wd aT gT FL ρ π hp fl g1 gr fs1 M := ⟨hW.1, hW.2.1, hg1, hW.2.2.2.1, hf1, hW.2.2.2.2.2⟩
  obtain ⟨vs', hp2, g2, gr2, ρ2, π2, p1, p2, p3, hW2, h⟩ := htN_V hU (vs := []) (hv := []) hs2 ha (show Two (avOK ρ π) ([] : List AV) ([] : List Value) from trivial) hW1 c4 h
  have ha2 := (Two.mono (fun _ _ q => avOK.mono p1 p2 q) ha).app p3
  have hr2 : Two (avOK ρ2 π2) rest cr := Two.mono (fun _ _ q => avOK.mono p1 p2 q) hr
  cases res with
  | none =>
    cases v with
    | some w => exact c1.elim
    | none =>
      obtain ⟨hp3, fl3, g3, ρ3, q1, q2, q3⟩ := fgE_V hct (ws := .null :: (ws ++ hv)) (Two.mk (show avOK ρ2 π2 (.inr (.inr 0)) .null from rfl) ha2) hW2 c3 c5 h
      exact ⟨_, _, _, _, _, _, ρ3, π2, p1.trans q1, p2, st_mono q1 hr2, fnA_V hct q2, q3⟩
  | some t =>
    cases v with
    | none => exact c1.elim
    | some w =>
      obtain ⟨v5, g5, gr5, ρ5, π5, p5, p6, p7, p8, p9, h⟩ := taN_V hU hW2.2.2.1 hW2.2.2.2.1 c1 h
      obtain ⟨hp3, fl3, g3, ρ3, q1, q2, q3⟩ := fgE_V hct (ws := w :: (ws ++ hv)) (Two.mk p9 (Two.mono (fun _ _ q => avOK.mono p5 p6 q) ha2)) ((hW2.ints p5 p7).refs p6 p8) c3 c5 h
      exact ⟨_, _, _, _, _, _, ρ3, π5, (p1.trans p5).trans q1, p2.trans p6, Two.mk (p9.mono q1 (Pre.refl _)) (Two.mono (fun _ _ q => avOK.mono (p5.trans q1) p6 q) hr2), fnA_V hct q2, q3⟩
theorem dlN_V {id : Nat} {hp2 : List HE} (hW : Wd aT gT FL ρ π hp fl g gr fs M) {fl2 : List FG} (hW2 : Wd aT gT FL ρ π hp2 fl2 g gr fs M') (hd : dlOK id M M') : Wd aT gT FL ρ π (dlN id hp hp2) fl2 g gr fs M' := by
  unfold dlN
  cases h1 : Nat.beq id 205 with
  | false => exact hW2
  | true =>
    have hd := hd (Nat.eq_of_beq_eq_true h1)
    cases h2 : hpE hp 635 (liC 157) with
    | none => exact hW2
    | some v =>
      rcases v with V | v
      · obtain ⟨L2, m1, m2⟩ := hpE_V h2
        obtain ⟨a2, ha2, t, l, i, x, k1, k2, k3, k4⟩ := hW.1 _ m1
        cases ha2
        obtain ⟨z, hz, hz2⟩ := k4
        cases hz
        have hz0 := isZ_V m2 (liSub_V k2 (liC_V 157))
        have hi : i = 157 := by omega
        subst hi
        obtain ⟨l', x', e1, e2, e3⟩ := hd t l x k1 k3
        refine hW2.know ⟨635, rfl, t, l', 157, x', e1, liC_V _, e2, x', rfl, ?_⟩
        rw [liAdc_V (-1) hz2, e3]
        rfl
      · exact hW2
theorem cnA_V (hU : uOK aT gU) (hd : depOK aT dep FL) (hct : cfOK FL) {c : CN} {md : Md} {D d : Nat} {as rest : List AV} {ws cr : List Value} (hC : cnOK aT gT FL c) (hD : D ≤ d) {q : MR} (hq : gNth mRs c.1 = some q) (hW : Wd aT gT FL ρ π hp fl g gr fs M) (ha : Two (avOK ρ π) as ws) (hr : Two (avOK ρ π) rest cr) {k : List AV → List HE → List FG → List Iv → List Nat → List Lin → Bool} (h : cnA aT gT gU dep c md D as rest hp fl g gr fs k = true) : ∃ v M', Ev none d c.1 0 (gPad q.2.2.2.1 (gArgs ws)) [] M v M' 0 0 ∧ Frm aT md M M' ∧ ∃ st' hp' fl' g' gr' fs' ρ' π', Pre ρ ρ' ∧ Pre π π' ∧ Two (avOK ρ' π') st' (v.toList ++ cr) ∧ Wd aT gT FL ρ' π' hp' fl' g' gr' fs' M' ∧ k st' hp' fl' g' gr' fs' = true := by
  obtain ⟨id, D2, ts, hs, f1, cm, cs⟩ := c
  unfold cnA at h
  obtain ⟨h1, h⟩ := and_t h
  obtain ⟨h1, h2⟩ := and_t h1
  obtain ⟨h2, h4⟩ := and_t h2
  obtain ⟨hv2, vs', hp1, g1, gr1, ρ1, π1, i1, p1, p2, i2, hW1, h⟩ := htA_V hU (vs := []) (hv := []) hs ha (show Two (avOK ρ π) ([] : List AV) ([] : List Value) from trivial) hW h
  split at h
  · rename_i F eF
    obtain ⟨h3, h⟩ := and_t h
    have ha1 := Two.mono (fun _ _ q => avOK.mono p1 p2 q) ha
    have hpre := fgN_W hct (FL := FL) (M := M) (ws := .null :: (ws ++ hv2)) (Two.mk (show avOK ρ1 π1 (.inr (.inr 0)) .null from rfl) (ha1.app i2)) hW1 f1 eF h3
    obtain ⟨v, M', e1, e2, e3, s, hs2, e4, e5⟩ := hC d M ws q (Nat.le_trans (Nat.le_of_ble_eq_true h1) hD) hq (taMs_V hW.2.2.1 hW.2.2.2.2.1 hW.2.2.2.1 h2 ha) ⟨hv2, i1, hpre⟩ hW.2.2.2.2.2
    refine ⟨v, M', e1, e3.more (mdSub_mem h4), ?_⟩
    rw [gSp_eq, gSp_eq] at h
    have h := List.all_eq_true.mp h s hs2
    have hW2 := dlN_V hW1 (hW1.frm hd e2 e3) e5
    obtain ⟨st', hp', fl', g', gr', fs', ρ', π', q1, q2, q3, q4, q5⟩ := csN_V hU hct ha1 (Two.mono (fun _ _ q => avOK.mono p1 p2 q) hr) hW2 e4 h
    exact ⟨st', hp', fl', g', gr', fs', ρ', π', p1.trans q1, p2.trans q2, q3, q4, q5⟩
  · cases h
end CALL
