/-! THE CHECKER, 13: places where the walk is cut; ranks; a whole method -/
/-- what is told at such a place: locals; fields (reference, class, field, value); flags; intervals; groups; facts; ranks -/
abbrev TF : Type := RS × Nat × Nat × AV
/-- an element: row, place, value -/
abbrev TE : Type := Nat × Lin × AV
/-- .. and at the end what the arguments are, and elements -/
abbrev TP : Type := List AV × List TF × List FG × List Iv × List Nat × List Lin × List Lin × List AV × List TE
noncomputable def subN (σ : List Lin) : Ln → Option Lin
  | [] => some ([], 0)
  | (s, c) :: r => match gNth σ s, subN σ r with
    | some L, some M => some (liAdd (liMul c L) M)
    | _, _ => none
noncomputable def subL (σ : List Lin) (L : Lin) : Option Lin := match subN σ L.1 with
  | some M => some (liAdc M L.2)
  | none => none
theorem subN_V {ρ ρt : List Int} {σ : List Lin} (h : Two (fun L x => liV ρ L = some x) σ ρt) : ∀ {l : Ln} {M : Lin}, subN σ l = some M → ∃ x, liV ρ M = some x ∧ lnV ρt l = some x := by
  intro l
  induction l with
  | nil => intro M hM; cases hM; exact ⟨0, rfl, rfl⟩
  | cons p r ih =>
    intro M hM
    obtain ⟨s, c⟩ := p
    unfold subN at hM
    split at hM
    · rename_i L M2 e1 e2
      cases hM
      obtain ⟨y, h1, h2⟩ := ih e2
      obtain ⟨x, hx, hx2⟩ := h.at e1
      rw [nth_eq] at hx
      exact ⟨c * x + y, liAdd_V (liMul_V c hx2) h1, lnV_mk hx h2⟩
    · cases hM
theorem subL_V {ρ ρt : List Int} {σ : List Lin} (h : Two (fun L x => liV ρ L = some x) σ ρt) {L M : Lin} (hM : subL σ L = some M) : ∃ x, liV ρ M = some x ∧ liV ρt L = some x := by
  unfold subL at hM
  split at hM
  · rename_i M2 e
    cases hM
    obtain ⟨x, h1, h2⟩ := subN_V h e
    exact ⟨x + L.2, liAdc_V _ h1, liV_mk (l := L.1) (k := L.2) h2⟩
  · cases hM
noncomputable def subR (σr : List RS) : RS → Option RS
  | .inl a => some (.inl a)
  | .inr s => gNth σr s
theorem subR_V {π πt : List Nat} {σr : List RS} (h : Two (fun R a => rsV π R = some a) σr πt) {R R2 : RS} (h2 : subR σr R = some R2) : ∃ a, rsV π R2 = some a ∧ rsV πt R = some a := by
  rcases R with a | s
  · cases h2
    exact ⟨a, rfl, rfl⟩
  · obtain ⟨a, ha, ha2⟩ := h.at h2
    exact ⟨a, ha2, ha⟩
/-- a value as the place has it -/
noncomputable def avM (σ : List Lin) (σr : List RS) (t v : AV) : Bool := match t, v with
  | .inl Lt, .inl L => match subL σ Lt with
    | some M => isZ (liSub L M)
    | none => false
  | .inr (.inl Rt), .inr (.inl R) => match subR σr Rt with
    | some R2 => rsEq R2 R
    | none => false
  | .inr (.inr 0), v => avW1 v
  | .inr (.inr c), .inr (.inr d) => Nat.beq c d
  | _, _ => false
theorem avM_V {ρ ρt : List Int} {π πt : List Nat} {σ : List Lin} {σr : List RS} (h1 : Two (fun L x => liV ρ L = some x) σ ρt) (h2 : Two (fun R a => rsV π R = some a) σr πt) {t v : AV} {w : Value} (h : avM σ σr t v = true) (hv : avOK ρ π v w) : avOK ρt πt t w := by
  unfold avM at h
  split at h
  · rename_i Lt L
    split at h
    · rename_i M e
      obtain ⟨x, rfl, hx⟩ := hv
      obtain ⟨y, hy, hy2⟩ := subL_V h1 e
      refine av_i ?_
      have hz := liSub_V hx hy
      unfold isZ at h
      split at h
      · rename_i e2
        rw [e2] at hz
        have : liV ρ ([], Int.ofNat 0) = some 0 := rfl
        rw [this] at hz
        have := Option.some.inj hz
        rw [hy2]
        congr 1
        omega
      · cases h
    · cases h
  · rename_i Rt R
    split at h
    · rename_i R2 e
      obtain ⟨a, ha, rfl⟩ := hv
      cases rsEq_V h
      obtain ⟨b, hb, hb2⟩ := subR_V h2 e
      cases ha.symm.trans hb
      exact av_r hb2
    · cases h
  · exact avW1_ok hv h
  · rename_i c d hc
    cases Nat.eq_of_beq_eq_true h
    match c, hv with
    | 0, hv => exact hv
    | 1, hv => exact hv
    | 2, hv => exact hv
    | c + 3, hv => exact hv
  · cases h
theorem loM_V {ρ ρt : List Int} {π πt : List Nat} {σ : List Lin} {σr : List RS} (h1 : Two (fun L x => liV ρ L = some x) σ ρt) (h2 : Two (fun R a => rsV π R = some a) σr πt) {t v : AV} {w : Option Value} (h : avM σ σr t v = true) (hv : loOK ρ π v w) : loOK ρt πt t w := by
  by_cases h0 : v = .inr (.inr 0)
  · subst h0
    by_cases ht : t = .inr (.inr 0)
    · subst ht
      exact hv
    · exfalso
      rcases t with L | R | c
      · cases h
      · cases h
      · cases c with
        | zero => exact ht rfl
        | succ c => cases h
  · obtain ⟨x, rfl, hx⟩ := lo_av hv h0
    exact lo_some (avM_V h1 h2 h hx)
noncomputable def avMs (σ : List Lin) (σr : List RS) : List AV → List AV → Bool
  | [], [] => true
  | t :: ts, v :: vs => avM σ σr t v && avMs σ σr ts vs
  | _, _ => false
theorem avMs_V {ρ ρt : List Int} {π πt : List Nat} {σ : List Lin} {σr : List RS} (h1 : Two (fun L x => liV ρ L = some x) σ ρt) (h2 : Two (fun R a => rsV π R = some a) σr πt) : ∀ (ts vs : List AV) {cl : Lo}, avMs σ σr ts vs = true → Two (loOK ρ π) vs cl → Two (loOK ρt πt) ts cl := by
  intro ts
  induction ts with
  | nil =>
    intro vs cl h hl
    cases vs with
    | nil =>
      cases cl with
      | nil => trivial
      | cons _ _ => exact hl.elim
    | cons _ _ => cases h
  | cons t ts ih =>
    intro vs cl h hl
    cases vs with
    | nil => cases h
    | cons v vs =>
      cases cl with
      | nil => exact hl.elim
      | cons c cl =>
        obtain ⟨h3, h4⟩ := and_t h
        exact Two.mk (loM_V h1 h2 h3 hl.1) (ih vs h4 hl.2)
/-- an unknown of the place, met for the first time -/
noncomputable def avB (t v : AV) (σ : List Lin) (σr : List RS) : List Lin × List RS := match t, v with
  | .inl ([(s, .ofNat 1)], .ofNat 0), .inl L => cond (Nat.beq s σ.length) (σ ++ [L], σr) (σ, σr)
  | .inr (.inl (.inr s)), .inr (.inl R) => cond (Nat.beq s σr.length) (σ, σr ++ [R]) (σ, σr)
  | _, _ => (σ, σr)
noncomputable def avBs : List AV → List AV → List Lin → List RS → List Lin × List RS
  | t :: ts, v :: vs, σ, σr => avBs ts vs (avB t v σ σr).1 (avB t v σ σr).2
  | _, _, σ, σr => (σ, σr)
section TPL
variable (aT : List Nat) (gT : List CT) (gU : List (Option Nat)) (dep : Nat → Md) (FL : Nat → List Int → Mem → Prop)
/-- the told fields, one by one -/
noncomputable def tfA (ts : List TF) (σ : List Lin) (σr : List RS) (hp : List HE) (g : List Iv) (gr : List Nat) (vs : List AV) (k : List Lin → List RS → List AV → List HE → List Iv → List Nat → Bool) : Bool := match ts with
  | [] => k σ σr vs hp g gr
  | (Rt, ci, f, vt) :: r => match subR σr Rt with
    | none => false
    | some R => rdF aT gT gU R ci f hp g gr (fun v hp g gr => tfA r (avB vt v σ σr).1 (avB vt v σ σr).2 hp g gr (vs ++ [v]) k)
/-- the told elements -/
noncomputable def teA (ts : List TE) (σ : List Lin) (σr : List RS) (hp : List HE) (vs : List AV) (k : List Lin → List RS → List AV → Bool) : Bool := match ts with
  | [] => k σ σr vs
  | (a, L, vt) :: r => match subL σ L with
    | none => false
    | some M => match hpE hp a M with
      | some v => teA r (avB vt v σ σr).1 (avB vt v σ σr).2 hp (vs ++ [v]) k
      | none => false
def teOK (σ : List Lin) (hp : List HE) (t : TE) (v : AV) : Prop := ∃ M, subL σ t.2.1 = some M ∧ hpE hp t.1 M = some v
/-- what was read there -/
def tfOK (σr : List RS) (ρ : List Int) (π : List Nat) (M : Mem) (t : TF) (v : AV) : Prop := ∃ R a vs w, subR σr t.1 = some R ∧ rsV π R = some a ∧ gNth M a = some (.inr (t.2.1, vs)) ∧ gNth vs t.2.2.1 = some w ∧ avOK ρ π v w
noncomputable def ivMs (g : List Iv) (fs : List Lin) : List Lin → List Iv → Bool
  | [], [] => true
  | L :: Ls, p :: ps => (match liI g L with
    | some _ => true
    | none => false) && (inR g fs L p.1 p.2 && ivMs g fs Ls ps)
  | _, _ => false
noncomputable def grMs (gr : List Nat) : List RS → List Nat → Bool
  | [], [] => true
  | R :: Rs, q :: qs => (match rsG aT gr R with
    | some g2 => Nat.beq g2 q
    | none => false) && grMs gr Rs qs
  | _, _ => false
noncomputable def fsMs (g : List Iv) (fs : List Lin) (σ : List Lin) : List Lin → Bool
  | [] => true
  | F :: r => (match subL σ F with
    | some L => nn g fs L
    | none => false) && fsMs g fs σ r
noncomputable def subLs (σ : List Lin) : List Lin → Option (List Lin)
  | [] => some []
  | L :: r => match subL σ L, subLs σ r with
    | some M, some Ms => some (M :: Ms)
    | _, _ => none
noncomputable def flM (σ : List Lin) (fl : List FG) (f : FG) : Bool := match subLs σ f.2 with
  | some Ms => fgM fl (f.1, Ms)
  | none => false
noncomputable def lxA (g : List Iv) (fs : List Lin) : List Lin → List Lin → Bool
  | n :: ns, o :: os => (nn g fs (liAdc (liSub o n) (-1)) && nn g fs n) || (nn g fs (liSub o n) && lxA g fs ns os)
  | _, _ => false
/-- the state is as the place tells; old: the ranks at the last place, if there was one; ga: the arguments -/
noncomputable def tpA (t : TP) (old : Option (List Lin)) (ga : List AV) (lo : List AV) (hp : List HE) (fl : List FG) (g : List Iv) (gr : List Nat) (fs : List Lin) : Bool :=
  tfA aT gT gU t.2.1 (avBs (t.1 ++ t.2.2.2.2.2.2.2.1) (lo ++ ga) [] []).1 (avBs (t.1 ++ t.2.2.2.2.2.2.2.1) (lo ++ ga) [] []).2 hp g gr [] (fun σ σr vs hp g gr => fLs σ (fun σ => teA t.2.2.2.2.2.2.2.2 σ σr hp [] (fun σ σr ves => fLs σ (fun σ =>
    avMs σ σr t.1 lo && (avMs σ σr t.2.2.2.2.2.2.2.1 ga && (avMs σ σr (t.2.1.map (fun q => q.2.2.2)) vs && (avMs σ σr (t.2.2.2.2.2.2.2.2.map (fun q => q.2.2)) ves && (ivMs g fs σ t.2.2.2.1 && (grMs aT gr σr t.2.2.2.2.1 && (fsMs g fs σ t.2.2.2.2.2.1 && (t.2.2.1.all (flM σ fl) && (match old with
      | none => true
      | some os => match subLs σ t.2.2.2.2.2.2.1 with
        | some ns => lxA g fs ns os
        | none => false))))))))))))
def hpT (t : TP) : List HE := t.2.1.map (fun q => ((q.1, .inl q.2.2.1, q.2.2.2) : HE)) ++ t.2.2.2.2.2.2.2.2.map (fun q => ((.inl q.1, .inr q.2.1, q.2.2) : HE))
variable {aT gT gU dep FL}
/-- ranks: lists of numbers of one length -/
def LX : List Nat → List Nat → Prop
  | a :: as, b :: bs => a < b ∨ (a ≤ b ∧ LX as bs)
  | _, _ => False
theorem lx_ind : ∀ (n : Nat) (P : List Nat → Prop), (∀ r : List Nat, r.length = n → (∀ s : List Nat, s.length = n → LX s r → P s) → P r) → ∀ r : List Nat, r.length = n → P r := by
  intro n
  induction n with
  | zero =>
    intro P h r hr
    exact h r hr (fun s hs hl => by
      cases r with
      | nil => cases s <;> exact hl.elim
      | cons _ _ => cases hr)
  | succ n ih =>
    intro P h r hr
    cases r with
    | nil => cases hr
    | cons a as =>
      have main : ∀ k : Nat, ∀ a, a < k → ∀ as : List Nat, as.length = n → P (a :: as) := by
        intro k
        induction k with
        | zero => intro a ha; exact absurd ha (Nat.not_lt_zero _)
        | succ k ihk =>
          intro a ha
          refine ih (fun as => P (a :: as)) (fun as has hin => ?_)
          refine h (a :: as) (by rw [List.length_cons, has]) (fun s hs hl => ?_)
          cases s with
          | nil => cases hs
          | cons b bs =>
            have hbs : bs.length = n := by rw [List.length_cons] at hs; omega
            rcases hl with hl | ⟨hl, hl2⟩
            · exact ihk b (by omega) bs hbs
            · rcases Nat.lt_or_eq_of_le hl with hl | rfl
              · exact ihk b (by omega) bs hbs
              · exact hin bs hbs hl2
      exact main (a + 1) a (Nat.lt_succ_self a) as (by rw [List.length_cons] at hr; omega)
def rkOK (ρ : List Int) (L : Lin) (n : Nat) : Prop := ∃ x, liV ρ L = some x ∧ x.toNat = n
theorem liI_some {ρ : List Int} {g : List Iv} (hg : gOK ρ g) : ∀ (l : Ln) {p : Iv}, lnI g l = some p → ∃ x, lnV ρ l = some x := by
  intro l
  induction l with
  | nil => intro p _; exact ⟨0, rfl⟩
  | cons q r ih =>
    intro p h
    obtain ⟨s, c⟩ := q
    unfold lnI at h
    split at h
    · rename_i lo hi a b e1 e2
      obtain ⟨x, hx, -⟩ := hg.2 s _ e1
      obtain ⟨y, hy⟩ := ih e2
      exact ⟨_, lnV_mk hx hy⟩
    · cases h
theorem ivMs_V {ρ : List Int} {g : List Iv} {fs : List Lin} (hg : gOK ρ g) (hf : fOK ρ fs) : ∀ (σ : List Lin) (ps : List Iv), ivMs g fs σ ps = true → ∃ ρt, Two (fun L x => liV ρ L = some x) σ ρt ∧ gOK ρt ps := by
  intro σ
  induction σ with
  | nil =>
    intro ps h
    cases ps with
    | nil => exact ⟨[], trivial, rfl, fun i p hp => by cases hp⟩
    | cons _ _ => cases h
  | cons L σ ih =>
    intro ps h
    cases ps with
    | nil => cases h
    | cons p ps =>
      obtain ⟨h1, h⟩ := and_t h
      obtain ⟨h2, h3⟩ := and_t h
      obtain ⟨ρt, i1, i2, i3⟩ := ih ps h3
      have : ∃ x, liV ρ L = some x := by
        split at h1
        · rename_i q e
          unfold liI at e
          split at e
          · rename_i a b e2
            obtain ⟨x, hx⟩ := liI_some hg _ e2
            exact ⟨_, liV_mk (l := L.1) (k := L.2) hx⟩
          · cases e
        · cases h1
      obtain ⟨x, hx⟩ := this
      have hb := inR_V hg hf h2 hx
      refine ⟨x :: ρt, Two.mk hx i1, by rw [List.length_cons, List.length_cons, i2], fun i q hq => ?_⟩
      cases i with
      | zero => cases hq; exact ⟨x, rfl, hb⟩
      | succ i => exact i3 i q hq
theorem grMs_V {π gr : List Nat} (hp : prOK aT π gr) : ∀ (σr : List RS) (qs : List Nat), grMs aT gr σr qs = true → ∃ πt, Two (fun R a => rsV π R = some a) σr πt ∧ prOK aT πt qs := by
  intro σr
  induction σr with
  | nil =>
    intro qs h
    cases qs with
    | nil => exact ⟨[], trivial, rfl, fun s g hg => by cases hg⟩
    | cons _ _ => cases h
  | cons R σr ih =>
    intro qs h
    cases qs with
    | nil => cases h
    | cons q qs =>
      obtain ⟨h1, h2⟩ := and_t h
      obtain ⟨πt, i1, i2, i3⟩ := ih qs h2
      split at h1
      · rename_i g2 e
        cases Nat.eq_of_beq_eq_true h1
        obtain ⟨a, ha, hag⟩ := rsG_V hp e
        refine ⟨a :: πt, Two.mk ha i1, by rw [List.length_cons, List.length_cons, i2], fun s g hg => ?_⟩
        cases s with
        | zero => cases hg; exact ⟨a, rfl, hag⟩
        | succ s => exact i3 s g hg
      · cases h1
theorem fsMs_V {ρ ρt : List Int} {g : List Iv} {fs : List Lin} (hg : gOK ρ g) (hf : fOK ρ fs) {σ : List Lin} (h1 : Two (fun L x => liV ρ L = some x) σ ρt) : ∀ (F : List Lin), fsMs g fs σ F = true → fOK ρt F := by
  intro F
  induction F with
  | nil => intro _ L hL; cases hL
  | cons L F ih =>
    intro h M hM
    obtain ⟨h2, h3⟩ := and_t h
    rcases List.mem_cons.mp hM with rfl | hM
    · split at h2
      · rename_i N e
        obtain ⟨x, hx, hx2⟩ := subL_V h1 e
        exact ⟨x, hx2, nn_V hg hf h2 hx⟩
      · cases h2
    · exact ih h3 M hM
theorem subLs_V {ρ ρt : List Int} {σ : List Lin} (h1 : Two (fun L x => liV ρ L = some x) σ ρt) : ∀ (Ls : List Lin) {Ns : List Lin}, subLs σ Ls = some Ns → ∃ r, Two (rkOK ρ) Ns r ∧ Two (rkOK ρt) Ls r := by
  intro Ls
  induction Ls with
  | nil => intro Ns h; cases h; exact ⟨[], trivial, trivial⟩
  | cons L Ls ih =>
    intro Ns h
    unfold subLs at h
    split at h
    · rename_i M Ms e1 e2
      cases h
      obtain ⟨r, i1, i2⟩ := ih e2
      obtain ⟨x, hx, hx2⟩ := subL_V h1 e1
      exact ⟨x.toNat :: r, Two.mk ⟨x, hx, rfl⟩ i1, Two.mk ⟨x, hx2, rfl⟩ i2⟩
    · cases h
theorem lxA_V {ρ : List Int} {g : List Iv} {fs : List Lin} (hg : gOK ρ g) (hf : fOK ρ fs) : ∀ (ns os : List Lin) {r s : List Nat}, lxA g fs ns os = true → Two (rkOK ρ) ns r → Two (rkOK ρ) os s → LX r s := by
  intro ns
  induction ns with
  | nil => intro os r s h; cases h
  | cons n ns ih =>
    intro os r s h hr hs
    cases os with
    | nil => cases h
    | cons o os =>
      cases r with
      | nil => exact hr.elim
      | cons a r =>
        cases s with
        | nil => exact hs.elim
        | cons b s =>
          obtain ⟨⟨x, hx, rfl⟩, hr⟩ := hr
          obtain ⟨⟨y, hy, rfl⟩, hs⟩ := hs
          have h : ((nn g fs (liAdc (liSub o n) (-1)) && nn g fs n) || (nn g fs (liSub o n) && lxA g fs ns os)) = true := h
          rw [Bool.or_eq_true] at h
          rcases h with h | h
          · obtain ⟨h1, h2⟩ := and_t h
            have h1 := nn_V hg hf h1 (liAdc_V _ (liSub_V hy hx))
            have h2 := nn_V hg hf h2 hx
            exact Or.inl (by omega)
          · obtain ⟨h1, h2⟩ := and_t h
            have h1 := nn_V hg hf h1 (liSub_V hy hx)
            exact Or.inr ⟨by omega, ih os h2 hr hs⟩
theorem subR_app {σr σr2 : List RS} (h : Pre σr σr2) {R R2 : RS} (h2 : subR σr R = some R2) : subR σr2 R = some R2 := by
  rcases R with a | s
  · exact h2
  · exact h.nth h2
theorem avB_pre (t v : AV) (σ : List Lin) (σr : List RS) : Pre σr (avB t v σ σr).2 := by
  unfold avB
  split
  · cases Nat.beq _ σ.length <;> exact Pre.refl _
  · cases Nat.beq _ σr.length with
    | true => exact Pre.one _ _
    | false => exact Pre.refl _
  · exact Pre.refl _
theorem Two.snoc {α β : Type} {P : α → β → Prop} {as : List α} {bs : List β} {a : α} {b : β} (h : Two P as bs) (h2 : P a b) : Two P (as ++ [a]) (bs ++ [b]) := h.app (Two.mk h2 trivial)
theorem tfOK.mono {σr σr' : List RS} {ρ ρ' : List Int} {π π' : List Nat} {M : Mem} {t : TF} {v : AV} (h0 : Pre σr σr') (h1 : Pre ρ ρ') (h2 : Pre π π') (h : tfOK σr ρ π M t v) : tfOK σr' ρ' π' M t v := by
  obtain ⟨R, a, vs, w, q1, q2, q3, q4, q5⟩ := h
  exact ⟨R, a, vs, w, subR_app h0 q1, rsV.mono h2 q2, q3, q4, q5.mono h1 h2⟩
theorem tfA_V (hU : uOK aT gU) {fl : List FG} {fs : List Lin} {M : Mem} : ∀ (ts : List TF) {σ : List Lin} {σr : List RS} {ρ : List Int} {π : List Nat} {hp : List HE} {g : List Iv} {gr : List Nat} {done : List TF} {vs : List AV} {k : List Lin → List RS → List AV → List HE → List Iv → List Nat → Bool}, Wd aT gT FL ρ π hp fl g gr fs M → Two (tfOK σr ρ π M) done vs → tfA aT gT gU ts σ σr hp g gr vs k = true → ∃ σ' σr' vs' hp' g' gr' ρ' π', Pre ρ ρ' ∧ Pre π π' ∧ Wd aT gT FL ρ' π' hp' fl g' gr' fs M ∧ Two (tfOK σr' ρ' π' M) (done ++ ts) vs' ∧ k σ' σr' vs' hp' g' gr' = true := by
  intro ts
  induction ts with
  | nil =>
    intro σ σr ρ π hp g gr done vs k hW hD h
    rw [List.append_nil]
    exact ⟨σ, σr, vs, hp, g, gr, ρ, π, Pre.refl _, Pre.refl _, hW, hD, h⟩
  | cons t ts ih =>
    intro σ σr ρ π hp g gr done vs k hW hD h
    obtain ⟨Rt, ci, f, vt⟩ := t
    unfold tfA at h
    split at h
    · cases h
    · rename_i R e
      obtain ⟨a, ws, w, v, hp', g', gr', ρ', π', q1, q2, q3, q4, q5, q6, q7, h⟩ := rdF_V hU hW h
      have hD2 : Two (tfOK (avB vt v σ σr).2 ρ' π' M) (done ++ [(Rt, ci, f, vt)]) (vs ++ [v]) := (Two.mono (fun _ _ q => tfOK.mono (avB_pre vt v σ σr) q4 q5 q) hD).snoc ⟨R, a, ws, w, subR_app (avB_pre vt v σ σr) e, rsV.mono q5 q1, q2, q3, q6⟩
      obtain ⟨σ2, σr2, vs2, hp2, g2, gr2, ρ2, π2, j1, j2, j3, j4, j5⟩ := ih q7 hD2 h
      rw [List.append_assoc] at j4
      exact ⟨σ2, σr2, vs2, hp2, g2, gr2, ρ2, π2, q4.trans j1, q5.trans j2, j3, j4, j5⟩
theorem tfM_V {ρ ρt : List Int} {π πt : List Nat} {σ : List Lin} {σr : List RS} {M : Mem} (h1 : Two (fun L x => liV ρ L = some x) σ ρt) (h2 : Two (fun R a => rsV π R = some a) σr πt) : ∀ (ts : List TF) {vs : List AV}, Two (tfOK σr ρ π M) ts vs → avMs σ σr (ts.map (fun q => q.2.2.2)) vs = true → ∀ e ∈ ts.map (fun q => ((q.1, .inl q.2.2.1, q.2.2.2) : HE)), heOK ρt πt M e := by
  intro ts
  induction ts with
  | nil => intro vs _ _ e he; cases he
  | cons t ts ih =>
    intro vs hD h e he
    cases vs with
    | nil => exact hD.elim
    | cons v vs =>
      obtain ⟨⟨R, a, ws, w, q1, q2, q3, q4, q5⟩, hD⟩ := hD
      obtain ⟨h3, h4⟩ := and_t h
      rcases List.mem_cons.mp he with rfl | he
      · obtain ⟨b, hb, hb2⟩ := subR_V h2 q1
        cases q2.symm.trans hb
        exact he_f hb2 q3 q4 (avM_V h1 h2 h3 q5)
      · exact ih hD h4 e he
theorem subN_app {σ σ2 : List Lin} (h : Pre σ σ2) : ∀ {l : Ln} {M : Lin}, subN σ l = some M → subN σ2 l = some M := by
  intro l
  induction l with
  | nil => intro M hM; exact hM
  | cons p r ih =>
    intro M hM
    obtain ⟨s, c⟩ := p
    unfold subN at hM ⊢
    split at hM
    · rename_i L M2 e1 e2
      rw [h.nth e1, ih e2]
      exact hM
    · cases hM
theorem subL_app {σ σ2 : List Lin} (h : Pre σ σ2) {L M : Lin} (hM : subL σ L = some M) : subL σ2 L = some M := by
  unfold subL at hM ⊢
  split at hM
  · rename_i M2 e
    rw [subN_app h e]
    exact hM
  · cases hM
theorem avB_pre1 (t v : AV) (σ : List Lin) (σr : List RS) : Pre σ (avB t v σ σr).1 := by
  unfold avB
  split
  · cases Nat.beq _ σ.length with
    | true => exact Pre.one _ _
    | false => exact Pre.refl _
  · cases Nat.beq _ σr.length <;> exact Pre.refl _
  · exact Pre.refl _
theorem teA_V {hp : List HE} : ∀ (ts : List TE) {σ : List Lin} {σr : List RS} {done : List TE} {vs : List AV} {k : List Lin → List RS → List AV → Bool}, Two (teOK σ hp) done vs → teA ts σ σr hp vs k = true → ∃ σ' σr' vs', Pre σ σ' ∧ Pre σr σr' ∧ Two (teOK σ' hp) (done ++ ts) vs' ∧ k σ' σr' vs' = true := by
  intro ts
  induction ts with
  | nil => intro σ σr done vs k hD h; rw [List.append_nil]; exact ⟨σ, σr, vs, Pre.refl _, Pre.refl _, hD, h⟩
  | cons t ts ih =>
    intro σ σr done vs k hD h
    obtain ⟨a, L, vt⟩ := t
    unfold teA at h
    split at h
    · cases h
    · rename_i M e1
      split at h
      · rename_i v e2
        have hD2 : Two (teOK (avB vt v σ σr).1 hp) (done ++ [(a, L, vt)]) (vs ++ [v]) := (Two.mono (fun t v q => by
          obtain ⟨M, i1, i2⟩ := q
          exact ⟨M, subL_app (avB_pre1 _ _ _ _) i1, i2⟩) hD).snoc ⟨M, subL_app (avB_pre1 _ _ _ _) e1, e2⟩
        obtain ⟨σ', σr', vs', j1, j2, j3, j4⟩ := ih hD2 h
        rw [List.append_assoc] at j3
        exact ⟨σ', σr', vs', (avB_pre1 _ _ _ _).trans j1, (avB_pre _ _ _ _).trans j2, j3, j4⟩
      · cases h
theorem teM_V {ρ ρt : List Int} {π πt : List Nat} {σ : List Lin} {σr : List RS} {M : Mem} {hp : List HE} (hhp : ∀ e ∈ hp, heOK ρ π M e) (h1 : Two (fun L x => liV ρ L = some x) σ ρt) (h2 : Two (fun R a => rsV π R = some a) σr πt) : ∀ (ts : List TE) {vs : List AV}, Two (teOK σ hp) ts vs → avMs σ σr (ts.map (fun q => q.2.2)) vs = true → ∀ e ∈ ts.map (fun q => ((.inl q.1, .inr q.2.1, q.2.2) : HE)), heOK ρt πt M e := by
  intro ts
  induction ts with
  | nil => intro vs _ _ e he; cases he
  | cons t ts ih =>
    intro vs hD h e he
    cases vs with
    | nil => exact hD.elim
    | cons v vs =>
      obtain ⟨⟨N, q1, q2⟩, hD⟩ := hD
      obtain ⟨h3, h4⟩ := and_t h
      rcases List.mem_cons.mp he with rfl | he
      · obtain ⟨L2, m1, m2⟩ := hpE_V q2
        obtain ⟨a2, ha2, t2, l, i, x, k1, k2, k3, k4⟩ := hhp _ m1
        obtain ⟨y, j1, j2⟩ := subL_V h1 q1
        have hd := isZ_V m2 (liSub_V k2 j1)
        have e9 : y = (i : Int) := by omega
        rw [e9] at j2
        cases ha2
        exact he_a (R := .inl t.1) rfl k1 j2 k3 (avM_V h1 h2 h3 k4)
      · exact ih hD h4 e he
theorem avMw_V {ρ ρt : List Int} {π πt : List Nat} {σ : List Lin} {σr : List RS} (h1 : Two (fun L x => liV ρ L = some x) σ ρt) (h2 : Two (fun R a => rsV π R = some a) σr πt) : ∀ (ts vs : List AV) {ws : List Value}, avMs σ σr ts vs = true → Two (avOK ρ π) vs ws → Two (avOK ρt πt) ts ws := by
  intro ts
  induction ts with
  | nil =>
    intro vs ws h hl
    cases vs with
    | nil =>
      cases ws with
      | nil => trivial
      | cons _ _ => exact hl.elim
    | cons _ _ => cases h
  | cons t ts ih =>
    intro vs ws h hl
    cases vs with
    | nil => cases h
    | cons v vs =>
      cases ws with
      | nil => exact hl.elim
      | cons c ws =>
        obtain ⟨h3, h4⟩ := and_t h
        exact Two.mk (avM_V h1 h2 h3 hl.1) (ih vs h4 hl.2)
theorem subLs_W {ρ ρt : List Int} {σ : List Lin} (h1 : Two (fun L x => liV ρ L = some x) σ ρt) : ∀ (Ls : List Lin) {Ns : List Lin}, subLs σ Ls = some Ns → ∃ ys, Two (fun L v => liV ρ L = some v) Ns ys ∧ Two (fun L v => liV ρt L = some v) Ls ys := by
  intro Ls
  induction Ls with
  | nil => intro Ns h; cases h; exact ⟨[], trivial, trivial⟩
  | cons L Ls ih =>
    intro Ns h
    unfold subLs at h
    split at h
    · rename_i M Ms e1 e2
      cases h
      obtain ⟨r, i1, i2⟩ := ih e2
      obtain ⟨x, hx, hx2⟩ := subL_V h1 e1
      exact ⟨x :: r, Two.mk hx i1, Two.mk hx2 i2⟩
    · cases h
theorem flM_V {ρ ρt : List Int} {σ : List Lin} {M : Mem} {fl : List FG} (h1 : Two (fun L x => liV ρ L = some x) σ ρt) (hfl : ∀ x ∈ fl, fgOK FL ρ M x) {f : FG} (h : flM σ fl f = true) : fgOK FL ρt M f := by
  unfold flM at h
  split at h
  · rename_i Ms e
    obtain ⟨ys, i1, i2⟩ := subLs_W h1 _ e
    exact ⟨ys, i2, fgM_V (f := (f.1, Ms)) hfl h i1⟩
  · cases h
theorem tpA_V (hU : uOK aT gU) {t : TP} {old : Option (List Lin)} {ga : List AV} {ws : List Value} {lo : List AV} {hp : List HE} {fl : List FG} {g : List Iv} {gr : List Nat} {fs : List Lin} {ρ : List Int} {π : List Nat} {cl : Lo} {M : Mem} (hga : Two (avOK ρ π) ga ws) (hl : Two (loOK ρ π) lo cl) (hW : Wd aT gT FL ρ π hp fl g gr fs M) (h : tpA aT gT gU t old ga lo hp fl g gr fs = true) : ∃ ρt πt, Two (avOK ρt πt) t.2.2.2.2.2.2.2.1 ws ∧ Two (loOK ρt πt) t.1 cl ∧ Wd aT gT FL ρt πt (hpT t) t.2.2.1 t.2.2.2.1 t.2.2.2.2.1 t.2.2.2.2.2.1 M ∧ ∀ os s, old = some os → Two (rkOK ρ) os s → ∃ r, Two (rkOK ρt) t.2.2.2.2.2.2.1 r ∧ LX r s := by
  unfold tpA at h
  obtain ⟨σ0, σr0, vs, hp', g', gr', ρ', π', p1, p2, hW', hD, h⟩ := tfA_V hU t.2.1 (done := []) (vs := []) hW (show Two (tfOK (avBs (t.1 ++ t.2.2.2.2.2.2.2.1) (lo ++ ga) [] []).2 ρ π M) ([] : List TF) ([] : List AV) from trivial) h
  rw [fLs_eq] at h
  obtain ⟨σ, σr, ves, s1, s2, hE, h⟩ := teA_V t.2.2.2.2.2.2.2.2 (done := []) (vs := []) (show Two (teOK σ0 hp') ([] : List TE) ([] : List AV) from trivial) h
  rw [fLs_eq] at h
  obtain ⟨h1, h⟩ := and_t h
  obtain ⟨h0, h⟩ := and_t h
  obtain ⟨h2, h⟩ := and_t h
  obtain ⟨h9, h⟩ := and_t h
  obtain ⟨h3, h⟩ := and_t h
  obtain ⟨h4, h⟩ := and_t h
  obtain ⟨h5, h⟩ := and_t h
  obtain ⟨h6, h⟩ := and_t h
  obtain ⟨ρt, r1, r2⟩ := ivMs_V hW'.2.2.1 hW'.2.2.2.2.1 σ _ h3
  obtain ⟨πt, t1, t2⟩ := grMs_V hW'.2.2.2.1 σr _ h4
  have hD2 : Two (tfOK σr ρ' π' M) ([] ++ t.2.1) vs := Two.mono (fun _ _ q => tfOK.mono s2 (Pre.refl _) (Pre.refl _) q) hD
  refine ⟨ρt, πt, avMw_V r1 t1 _ _ h0 (Two.mono (fun _ _ q => avOK.mono p1 p2 q) hga), avMs_V r1 t1 _ _ h1 (lo_mono p1 p2 hl), ⟨fun e he => ?_, fun x hx => flM_V r1 hW'.2.1 (List.all_eq_true.mp h6 x hx), r2, t2, fsMs_V hW'.2.2.1 hW'.2.2.2.2.1 r1 _ h5, hW'.2.2.2.2.2⟩, fun os s e hs => ?_⟩
  · rcases List.mem_append.mp he with he | he
    · exact tfM_V r1 t1 _ hD2 h2 e he
    · exact teM_V hW'.1 r1 t1 _ hE h9 e he
  · subst e
    dsimp only at h
    split at h
    · rename_i ns e
      obtain ⟨r, i1, i2⟩ := subLs_V r1 _ e
      exact ⟨r, i2, lxA_V hW'.2.2.1 hW'.2.2.2.2.1 _ _ h i1 (Two.mono (fun L n q => by obtain ⟨x, hx, e⟩ := q; exact ⟨x, p1.liV hx, e⟩) hs)⟩
    · cases h
end TPL
