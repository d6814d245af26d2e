/-! THE CHECKER, 9: calls: contracts, the library's own, and what is walked in line -/
/-- types of arguments: an interval; 3 g a reference to group g; 3 a + 1 the cell a; 3 c + 2 a value of kind c (as in AV) -/
abbrev TA : Type := Iv ⊕ Nat
/-- a field: of a cell or of an argument; class, field, type -/
abbrev HT : Type := (Nat ⊕ Nat) × Nat × Nat × TA
/-- a contract: method, frames, arguments, fields and flags ahead, what may change, answer, fields and flags behind -/
abbrev CN : Type := Nat × Nat × List TA × List HT × List Nat × Md × Option TA × List HT × List Nat
section CALL
variable (aT : List Nat) (gT : List CT) (gU : List (Option Nat)) (dep : Nat → Md) (FL : Nat → Mem → Prop)
def taOK (t : TA) (w : Value) : Prop := match t with
  | .inl (lo, hi) => ∃ x : Int32, w = .int x ∧ lo ≤ x.toInt ∧ x.toInt ≤ hi
  | .inr n => match n % 3 with
    | 0 => ∃ a, w = .ref a ∧ gNth aT a = some (n / 3)
    | 1 => w = .ref (n / 3)
    | _ => avOK [] [] (.inr (.inr (n / 3))) w
def kyOK (ws : List Value) (k : Nat ⊕ Nat) (a : Nat) : Prop := match k with
  | .inl b => a = b
  | .inr i => gNth ws i = some (.ref a)
def htOK (ws : List Value) (M : Mem) (h : HT) : Prop := ∃ a vs w, kyOK ws h.1 a ∧ gNth M a = some (.inr (h.2.1, vs)) ∧ gNth vs h.2.2.1 = some w ∧ taOK aT h.2.2.2 w
noncomputable def kyA (as : List AV) (k : Nat ⊕ Nat) : Option RS := match k with
  | .inl a => some (.inl a)
  | .inr i => match gNth as i with
    | some (.inr (.inl R)) => some R
    | _ => none
def rsOK (t : Option TA) (v : Option Value) : Prop := match t, v with
  | none, none => True
  | some t, some w => taOK aT t w
  | _, _ => False
def cnOK (c : CN) : Prop := ∀ (d : Nat) (M : Mem) (ws : List Value) (q : MR), c.2.1 ≤ d → gNth mRs c.1 = some q → Two (taOK aT) c.2.2.1 ws → (∀ h ∈ c.2.2.2.1, htOK aT ws M h) → (∀ x ∈ c.2.2.2.2.1, FL x M) → TM aT gT M → ∃ v M', Ev none d c.1 0 (gPad q.2.2.2.1 (gArgs ws)) [] M v M' 0 0 ∧ TM aT gT M' ∧ Frm aT c.2.2.2.2.2.1 M M' ∧ rsOK aT c.2.2.2.2.2.2.1 v ∧ (∀ h ∈ c.2.2.2.2.2.2.2.1, htOK aT [] M' h) ∧ (∀ x ∈ c.2.2.2.2.2.2.2.2, FL x M')
/-- does a value fit an argument's type -/
noncomputable def taM (g : List Iv) (gr : List Nat) (fs : List Lin) (t : TA) (v : AV) : Bool := match t, v with
  | .inl (lo, hi), .inl L => inR g fs L lo hi
  | .inr n, .inr (.inl R) => match n % 3 with
    | 0 => match rsG aT gr R with
      | some g2 => Nat.beq g2 (n / 3)
      | none => false
    | 1 => rsEq R (.inl (n / 3))
    | _ => false
  | .inr n, .inr (.inr c) => match n % 3 with
    | 2 => Nat.beq c (n / 3)
    | _ => false
  | _, _ => false
noncomputable def taMs (g : List Iv) (gr : List Nat) (fs : List Lin) : List TA → List AV → Bool
  | [], [] => true
  | t :: ts, v :: vs => taM aT g gr fs t v && taMs g gr fs ts vs
  | _, _ => false
/-- a new value of a type -/
noncomputable def taN (t : TA) (g : List Iv) (gr : List Nat) (k : AV → List Iv → List Nat → Bool) : Bool := match t with
  | .inl p => k (.inl (liS g.length)) (g ++ [p]) gr
  | .inr n => match n % 3 with
    | 0 => nwR gU (n / 3) gr (fun R gr => k (.inr (.inl R)) g gr)
    | 1 => k (.inr (.inl (.inl (n / 3)))) g gr
    | _ => k (.inr (.inr (n / 3))) g gr
/-- fields that a contract wants -/
noncomputable def htA (as : List AV) (hs : List HT) (hp : List HE) (g : List Iv) (gr : List Nat) (fs : List Lin) (k : List HE → List Iv → List Nat → Bool) : Bool := match hs with
  | [] => k hp g gr
  | (a, ci, f, t) :: r => match kyA as a with
    | some R => rdF aT gT gU R ci f hp g gr (fun v hp g gr => cond (taM aT g gr fs t v) (htA as r hp g gr fs k) false)
    | none => false
/-- .. and gives -/
noncomputable def htN (as : List AV) (hs : List HT) (hp : List HE) (g : List Iv) (gr : List Nat) (k : List HE → List Iv → List Nat → Bool) : Bool := match hs with
  | [] => k hp g gr
  | (a, _, f, t) :: r => match kyA as a with
    | some R => taN gU t g gr (fun v g gr => htN as r ((R, .inl f, v) :: hp) g gr k)
    | none => false
noncomputable def hpC (gr : List Nat) (cm : Md) (hp : List HE) : List HE := hp.filter (fun e => match e.2.1 with
  | .inl f => !(cm.any (fun q => Nat.beq q.2 f && clsIs aT gT gr e.1 q.1))
  | .inr _ => !(cm.any (fun q => Nat.ble 1000 q.1 && grIs aT gr e.1 (q.1 - 1000))))
noncomputable def flC (cm : Md) (fl : List Nat) : List Nat := fl.filter (fun x => !(cm.any (fun q => mdIn (dep x) q.1 q.2)))
noncomputable def flIn (fs fl : List Nat) : Bool := fs.all (fun x => fl.any (fun y => Nat.beq x y))
/-- a call by its contract -/
noncomputable def cnA (c : CN) (md : Md) (D : Nat) (as : List AV) (rest : List AV) (hp : List HE) (fl : List Nat) (g : List Iv) (gr : List Nat) (fs : List Lin) (k : List AV → List HE → List Nat → List Iv → List Nat → Bool) : Bool :=
  (Nat.ble c.2.1 D && (taMs aT g gr fs c.2.2.1 as && (flIn c.2.2.2.2.1 fl && mdSub c.2.2.2.2.2.1 md))) && htA aT gT gU as c.2.2.2.1 hp g gr fs (fun hp g gr => gSp (hpC aT gT gr c.2.2.2.2.2.1 hp) (fun hp => gSp (flC dep c.2.2.2.2.2.1 fl ++ c.2.2.2.2.2.2.2.2) (fun fl => htN gU [] c.2.2.2.2.2.2.2.1 hp g gr (fun hp g gr => match c.2.2.2.2.2.2.1 with
    | none => k rest hp fl g gr
    | some t => taN gU t g gr (fun v g gr => k (v :: rest) hp fl g gr)))))
variable {aT gT gU dep FL}
theorem taM_V {ρ : List Int} {π gr : List Nat} {g : List Iv} {fs : List Lin} (hg : gOK ρ g) (hf : fOK ρ fs) (hp : prOK aT π gr) {t : TA} {v : AV} {w : Value} (h : taM aT g gr fs t v = true) (hv : avOK ρ π v w) : taOK aT t w := by
  unfold taM at h
  split at h
  · obtain ⟨x, rfl, hx⟩ := hv
    exact ⟨x, rfl, inR_V hg hf h hx⟩
  · rename_i n R
    obtain ⟨a, ha, rfl⟩ := hv
    unfold taOK
    dsimp only
    split at h
    · rename_i e
      split at h
      · rename_i g2 e2
        cases Nat.eq_of_beq_eq_true h
        obtain ⟨a2, ha2, hg2⟩ := rsG_V hp e2
        cases ha.symm.trans ha2
        exact ⟨a, rfl, hg2⟩
      · cases h
    · rename_i e
      cases rsEq_V h
      cases ha
      rfl
    · cases h
  · rename_i n c
    unfold taOK
    dsimp only
    split at h
    · rename_i e
      rw [e]
      cases Nat.eq_of_beq_eq_true h
      show avOK [] [] (.inr (.inr (n / 3))) w
      generalize n / 3 = c at *
      match c, hv with
      | 0, hv => exact hv
      | 1, hv => exact hv
      | 2, hv => exact hv
      | c + 3, hv => exact hv
    · cases h
  · cases h
theorem taMs_V {ρ : List Int} {π gr : List Nat} {g : List Iv} {fs : List Lin} (hg : gOK ρ g) (hf : fOK ρ fs) (hp : prOK aT π gr) : ∀ {ts : List TA} {vs : List AV} {ws : List Value}, taMs aT g gr fs ts vs = true → Two (avOK ρ π) vs ws → Two (taOK aT) ts ws
  | [], [], [], _, _ => trivial
  | t :: ts, v :: vs, w :: ws, h, h2 => by
    have h : (taM aT g gr fs t v && taMs aT g gr fs ts vs) = true := h
    rw [Bool.and_eq_true] at h
    exact ⟨taM_V hg hf hp h.1 h2.1, taMs_V hg hf hp h.2 h2.2⟩
  | [], _ :: _, _, h, _ => by cases h
  | _ :: _, [], _, h, _ => by cases h
  | [], [], _ :: _, _, h2 => h2.elim
  | _ :: _, _ :: _, [], _, h2 => h2.elim
theorem taN_V (hU : uOK aT gU) {ρ : List Int} {π gr : List Nat} {g : List Iv} (hg : gOK ρ g) (hp : prOK aT π gr) {t : TA} {w : Value} (ht : taOK aT t w) {k : AV → List Iv → List Nat → Bool} (h : taN gU t g gr k = true) : ∃ v g' gr' ρ' π', Pre ρ ρ' ∧ Pre π π' ∧ gOK ρ' g' ∧ prOK aT π' gr' ∧ avOK ρ' π' v w ∧ k v g' gr' = true := by
  unfold taN at h
  split at h
  · rename_i p
    obtain ⟨x, rfl, h1, h2⟩ := ht
    exact ⟨_, _, _, ρ ++ [x.toInt], π, Pre.one _ _, Pre.refl _, hg.push h1 h2, hp, av_i (push_S hg _), h⟩
  · rename_i n
    unfold taOK at ht
    dsimp only at ht
    split at h
    · rename_i e
      rw [e] at ht
      obtain ⟨a, rfl, ha⟩ := ht
      obtain ⟨R, gr', π', p1, p2, p3, h⟩ := nwR_V hU hp ha h
      exact ⟨_, _, _, ρ, π', Pre.refl _, p1, hg, p2, av_r p3, h⟩
    · rename_i e
      rw [e] at ht
      exact ⟨_, _, _, ρ, π, Pre.refl _, Pre.refl _, hg, hp, by rw [ht]; exact av_r (R := .inl (n / 3)) rfl, h⟩
    · rename_i e0 e1
      have e2 : n % 3 = 2 := by
        have := Nat.mod_lt n (show 0 < 3 by decide)
        have h0 : n % 3 ≠ 0 := e0
        have h1 : n % 3 ≠ 1 := e1
        omega
      rw [e2] at ht
      have ht : avOK [] [] (.inr (.inr (n / 3))) w := ht
      exact ⟨_, _, _, ρ, π, Pre.refl _, Pre.refl _, hg, hp, ht.mono ⟨ρ, rfl⟩ ⟨π, rfl⟩, h⟩
variable {ρ : List Int} {π : List Nat} {hp : List HE} {fl : List Nat} {g : List Iv} {gr : List Nat} {fs : List Lin} {M M' : Mem}
theorem Wd.ints {ρ' : List Int} {g' : List Iv} (hW : Wd aT gT FL ρ π hp fl g gr fs M) (h : Pre ρ ρ') (hg : gOK ρ' g') : Wd aT gT FL ρ' π hp fl g' gr fs M :=
  ⟨fun e he => (hW.1 e he).mono h (Pre.refl _), hW.2.1, hg, hW.2.2.2.1, h.fOK hW.2.2.2.2.1, hW.2.2.2.2.2⟩
theorem kyA_V {as : List AV} {ws : List Value} {ρ : List Int} {π : List Nat} (ha : Two (avOK ρ π) as ws) {k : Nat ⊕ Nat} {R : RS} (h : kyA as k = some R) {a : Nat} (hR : rsV π R = some a) : kyOK ws k a := by
  rcases k with b | i
  · cases h
    cases hR
    rfl
  · unfold kyA at h
    dsimp only at h
    split at h
    · rename_i R2 e
      cases h
      obtain ⟨w, hw, b, hb, rfl⟩ := ha.at e
      cases hR.symm.trans hb
      exact hw
    · cases h
theorem kyA_W {as : List AV} {ws : List Value} {ρ : List Int} {π : List Nat} (ha : Two (avOK ρ π) as ws) {k : Nat ⊕ Nat} {R : RS} (h : kyA as k = some R) {a : Nat} (hk : kyOK ws k a) : rsV π R = some a := by
  rcases k with b | i
  · cases h
    cases hk
    rfl
  · unfold kyA at h
    dsimp only at h
    split at h
    · rename_i R2 e
      cases h
      obtain ⟨w, hw, b, hb, rfl⟩ := ha.at e
      have hk : gNth ws i = some (.ref a) := hk
      cases hk.symm.trans hw
      exact hb
    · cases h
theorem htA_V (hU : uOK aT gU) {as : List AV} {ws : List Value} : ∀ (hs : List HT) {ρ : List Int} {π : List Nat} {hp : List HE} {g : List Iv} {gr : List Nat}, Two (avOK ρ π) as ws → Wd aT gT FL ρ π hp fl g gr fs M → ∀ {k : List HE → List Iv → List Nat → Bool}, htA aT gT gU as hs hp g gr fs k = true → (∀ h ∈ hs, htOK aT ws M h) ∧ ∃ hp' g' gr' ρ' π', Pre ρ ρ' ∧ Pre π π' ∧ Wd aT gT FL ρ' π' hp' fl g' gr' fs M ∧ k hp' g' gr' = true := by
  intro hs
  induction hs with
  | nil => intro ρ π hp g gr ha hW k h; exact ⟨(fun _ h => by cases h), hp, g, gr, ρ, π, Pre.refl _, Pre.refl _, hW, h⟩
  | cons q r ih =>
    intro ρ π hp g gr ha hW k h
    obtain ⟨a, ci, f, t⟩ := q
    unfold htA at h
    split at h
    · rename_i R eR
      obtain ⟨a2, vs, w, v, hp', g', gr', ρ', π', q1, q2, q3, q4, q5, q6, q7, h⟩ := rdF_V hU hW h
      have hq9 := cond_t (α := Nat) h
      clear h
      obtain ⟨h1, h⟩ := hq9
      obtain ⟨i1, hp2, g2, gr2, ρ2, π2, j1, j2, j3, j4⟩ := ih (Two.mono (fun _ _ q => avOK.mono q4 q5 q) ha) q7 h
      refine ⟨fun h hh => ?_, hp2, g2, gr2, ρ2, π2, q4.trans j1, q5.trans j2, j3, j4⟩
      rcases List.mem_cons.mp hh with rfl | hh
      · exact ⟨a2, vs, w, kyA_V ha eR q1, q2, q3, taM_V q7.2.2.1 q7.2.2.2.2.1 q7.2.2.2.1 h1 q6⟩
      · exact i1 h hh
    · cases h
theorem htN_V (hU : uOK aT gU) {as : List AV} {ws : List Value} : ∀ (hs : List HT) {ρ : List Int} {π : List Nat} {hp : List HE} {g : List Iv} {gr : List Nat}, Two (avOK ρ π) as ws → Wd aT gT FL ρ π hp fl g gr fs M → (∀ h ∈ hs, htOK aT ws M h) → ∀ {k : List HE → List Iv → List Nat → Bool}, htN gU as hs hp g gr k = true → ∃ hp' g' gr' ρ' π', Pre ρ ρ' ∧ Pre π π' ∧ Wd aT gT FL ρ' π' hp' fl g' gr' fs M ∧ k hp' g' gr' = true := by
  intro hs
  induction hs with
  | nil => intro ρ π hp g gr ha hW _ k h; exact ⟨hp, g, gr, ρ, π, Pre.refl _, Pre.refl _, hW, h⟩
  | cons q r ih =>
    intro ρ π hp g gr ha hW hh k h
    obtain ⟨a2, vs, w, q0, q1, q2, q3⟩ := hh q List.mem_cons_self
    obtain ⟨a, ci, f, t⟩ := q
    unfold htN at h
    split at h
    · rename_i R eR
      obtain ⟨v, g', gr', ρ', π', p1, p2, p3, p4, p5, h⟩ := taN_V hU hW.2.2.1 hW.2.2.2.1 q3 h
      have hW2 : Wd aT gT FL ρ' π' ((R, .inl f, v) :: hp) fl g' gr' fs M := ((hW.ints p1 p3).refs p2 p4).know (he_f (rsV.mono p2 (kyA_W ha eR q0)) q1 q2 p5)
      obtain ⟨hp2, g2, gr2, ρ2, π2, j1, j2, j3, j4⟩ := ih (Two.mono (fun _ _ q => avOK.mono p1 p2 q) ha) hW2 (fun h hm => hh h (List.mem_cons_of_mem _ hm)) h
      exact ⟨hp2, g2, gr2, ρ2, π2, p1.trans j1, p2.trans j2, j3, j4⟩
    · cases h
theorem Wd.frm (hd : depOK aT dep FL) {cm : Md} (hW : Wd aT gT FL ρ π hp fl g gr fs M) (hT : TM aT gT M') (hF : Frm aT cm M M') : Wd aT gT FL ρ π (hpC aT gT gr cm hp) (flC dep cm fl) g gr fs M' := by
  refine ⟨fun e he => ?_, fun x hx => ?_, hW.2.2.1, hW.2.2.2.1, hW.2.2.2.2.1, hT⟩
  · obtain ⟨h1, h2⟩ := List.mem_filter.mp he
    obtain ⟨R, q, v⟩ := e
    obtain ⟨a, ha, h3⟩ := hW.1 _ h1
    refine ⟨a, ha, ?_⟩
    rcases q with f | L
    · obtain ⟨c, vs, w, q1, q2, q3⟩ := h3
      obtain ⟨vs', e1, -, e2⟩ := hF.2.1 a c vs q1
      have q2 : gNth vs f = some w := q2
      refine ⟨c, vs', w, e1, ?_, q3⟩
      show gNth vs' f = some w
      rw [e2 f, q2]
      intro hm
      have h2 : (!(cm.any (fun q => Nat.beq q.2 f && clsIs aT gT gr R q.1))) = true := h2
      have h4 : cm.any (fun q => Nat.beq q.2 f && clsIs aT gT gr R q.1) = true := by
        refine List.any_eq_true.mpr ⟨_, hm, ?_⟩
        rw [Bool.and_eq_true]
        refine ⟨Nat.beq_refl _, ?_⟩
        unfold clsIs
        split
        · rename_i g2 e5
          obtain ⟨a3, ha3, hg3⟩ := rsG_V hW.2.2.2.1 e5
          cases ha3.symm.trans ha
          split
          · rename_i c2 fts e6
            obtain ⟨e7, he7, vs7, e8, -, -⟩ := hW.2.2.2.2.2.at hg3 e6
            subst e8
            cases he7.symm.trans q1
            exact Nat.beq_refl _
          · rfl
        · rfl
      rw [h4] at h2
      cases h2
    · obtain ⟨t, l, i, x, q1, q2⟩ := h3
      obtain ⟨x', e1, e2⟩ := hF.2.2 a t _ q1
      have : x' = .inl l := by
        refine e2 (fun g2 hg2 hm => ?_)
        have h2 : (!(cm.any (fun q => Nat.ble 1000 q.1 && grIs aT gr R (q.1 - 1000)))) = true := h2
        have h4 : cm.any (fun q => Nat.ble 1000 q.1 && grIs aT gr R (q.1 - 1000)) = true := by
          refine List.any_eq_true.mpr ⟨_, hm, ?_⟩
          rw [Bool.and_eq_true]
          refine ⟨Nat.ble_eq_true_of_le (Nat.le_add_right _ _), ?_⟩
          unfold grIs
          split
          · rename_i g3 e5
            obtain ⟨a3, ha3, hg3⟩ := rsG_V hW.2.2.2.1 e5
            cases ha3.symm.trans ha
            cases hg3.symm.trans hg2
            show Nat.beq g2 (1000 + g2 - 1000) = true
            rw [Nat.add_sub_cancel_left]
            exact Nat.beq_refl _
          · rfl
        rw [h4] at h2
        cases h2
      subst this
      exact ⟨t, l, i, x, e1, q2⟩
  · obtain ⟨h1, h2⟩ := List.mem_filter.mp hx
    refine hd x cm M M' hF (fun q hq hm => ?_) (hW.2.1 x h1)
    have h4 : cm.any (fun q => mdIn (dep x) q.1 q.2) = true := List.any_eq_true.mpr ⟨q, hq, mdIn_iff.mpr hm⟩
    rw [h4] at h2
    cases h2
theorem flIn_V {fs fl : List Nat} (h : flIn fs fl = true) : ∀ x ∈ fs, x ∈ fl := by
  intro x hx
  obtain ⟨y, hy, h2⟩ := List.any_eq_true.mp (List.all_eq_true.mp h x hx)
  cases Nat.eq_of_beq_eq_true h2
  exact hy
theorem cnA_V (hU : uOK aT gU) (hd : depOK aT dep FL) {c : CN} {md : Md} {D d : Nat} {as rest : List AV} {ws cr : List Value} (hC : cnOK aT gT FL c) (hD : D ≤ d) {q : MR} (hq : gNth mRs c.1 = some q) (hW : Wd aT gT FL ρ π hp fl g gr fs M) (ha : Two (avOK ρ π) as ws) (hr : Two (avOK ρ π) rest cr) {k : List AV → List HE → List Nat → List Iv → List Nat → Bool} (h : cnA aT gT gU dep c md D as rest hp fl g gr fs k = true) : ∃ v M', Ev none d c.1 0 (gPad q.2.2.2.1 (gArgs ws)) [] M v M' 0 0 ∧ Frm aT md M M' ∧ ∃ st' hp' fl' g' gr' ρ' π', Pre ρ ρ' ∧ Pre π π' ∧ Two (avOK ρ' π') st' (v.toList ++ cr) ∧ Wd aT gT FL ρ' π' hp' fl' g' gr' fs M' ∧ k st' hp' fl' g' gr' = true := by
  obtain ⟨id, D2, ts, hs, f1, cm, res, hs2, f2⟩ := c
  unfold cnA at h
  obtain ⟨h1, h⟩ := and_t h
  obtain ⟨h1, h2⟩ := and_t h1
  obtain ⟨h2, h3⟩ := and_t h2
  obtain ⟨h3, h4⟩ := and_t h3
  obtain ⟨i1, hp1, g1, gr1, ρ1, π1, p1, p2, hW1, h⟩ := htA_V hU hs ha hW h
  obtain ⟨v, M', e1, e2, e3, e4, e5, e6⟩ := hC d M ws q (Nat.le_trans (Nat.le_of_ble_eq_true h1) hD) hq (taMs_V hW.2.2.1 hW.2.2.2.2.1 hW.2.2.2.1 h2 ha) i1 (fun x hx => hW.2.1 x (flIn_V h3 x hx)) hW.2.2.2.2.2
  refine ⟨v, M', e1, e3.more (mdSub_mem h4), ?_⟩
  rw [gSp_eq, gSp_eq] at h
  have hW2 := hW1.frm hd e2 e3
  have hW3 : Wd aT gT FL ρ1 π1 (hpC aT gT gr1 cm hp1) (flC dep cm fl ++ f2) g1 gr1 fs M' := ⟨hW2.1, fun x hx => by
    rcases List.mem_append.mp hx with hx | hx
    · exact hW2.2.1 x hx
    · exact e6 x hx, hW2.2.2⟩
  obtain ⟨hp4, g4, gr4, ρ4, π4, p3, p4, hW4, h⟩ := htN_V hU (ws := []) hs2 (show Two (avOK ρ1 π1) ([] : List AV) ([] : List Value) from trivial) hW3 e5 h
  have hr4 : Two (avOK ρ4 π4) rest cr := Two.mono (fun _ _ q => avOK.mono (p1.trans p3) (p2.trans p4) q) hr
  cases res with
  | none =>
    cases v with
    | some w => exact e4.elim
    | none => exact ⟨_, _, _, _, _, ρ4, π4, p1.trans p3, p2.trans p4, hr4, hW4, h⟩
  | some t =>
    cases v with
    | none => exact e4.elim
    | some w =>
      obtain ⟨v5, g5, gr5, ρ5, π5, p5, p6, p7, p8, p9, h⟩ := taN_V hU hW4.2.2.1 hW4.2.2.2.1 e4 h
      exact ⟨_, _, _, _, _, ρ5, π5, (p1.trans p3).trans p5, (p2.trans p4).trans p6, Two.mk p9 (Two.mono (fun _ _ q => avOK.mono p5 p6 q) hr4), (hW4.ints p5 p7).refs p6 p8, h⟩
end CALL
