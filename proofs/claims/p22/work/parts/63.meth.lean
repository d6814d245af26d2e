/-! THE CHECKER, 14: a whole method: its contract and the places where the walk is cut -/
section METH
variable (aT : List Nat) (gT : List CT) (gU : List (Option Nat)) (dep : Nat → Md) (FL : Nat → List Int → Mem → Prop) (Δ : List CN)
/-- arguments as unknowns -/
noncomputable def enA (ts : List TA) (as : List AV) (g : List Iv) (gr : List Nat) (k : List AV → List Iv → List Nat → Bool) : Bool := match ts with
  | [] => k as g gr
  | t :: ts => taN gU t g gr (fun v g gr => enA ts (as ++ [v]) g gr k)
/-- the end of the method is one of the ways that the contract tells -/
noncomputable def rsA (t : Option TA) (v : Option AV) (g : List Iv) (gr : List Nat) (fs : List Lin) : Bool := match t, v with
  | none, none => true
  | some t, some v => taM aT g gr fs t v
  | _, _ => false
noncomputable def rt1 (ga : List AV) (v : Option AV) (hp : List HE) (fl : List FG) (g : List Iv) (gr : List Nat) (fs : List Lin) (s : CS) : Bool := rsA aT s.1 v g gr fs && (agA ga g fs s.2.1 && htA aT gT gU ga s.2.2.1 [] hp g gr fs (fun vs hp g _ => (match fgN (v.getD (.inr (.inr 0)) :: (ga ++ vs)) s.2.2.2.1 with
  | some F => F.all (fun f => fgM fl f || ghA fl hp g fs f)
  | none => false) && elA (v.getD (.inr (.inr 0)) :: (ga ++ vs)) g fs hp s.2.2.2.2))
noncomputable def rtA (c : CN) (ga : List AV) (v : Option AV) (hp : List HE) (fl : List FG) (g : List Iv) (gr : List Nat) (fs : List Lin) : Bool := c.2.2.2.2.2.2.any (rt1 aT gT gU ga v hp fl g gr fs)
noncomputable def cutB (cuts : List (Nat × TP)) (pc : Nat) : Bool := match gLook cuts pc with
  | some _ => true
  | none => false
noncomputable def chkB (cuts : List (Nat × TP)) (old : Option (List Lin)) (ga : List AV) (pc : Nat) (lo st : List AV) (hp : List HE) (fl : List FG) (g : List Iv) (gr : List Nat) (fs : List Lin) : Bool := match st with
  | [] => cuts.any (fun q => Nat.beq q.1 pc && tpA aT gT gU q.2 old ga lo hp fl g gr fs)
  | _ => false
/-- n: fuel of a stretch; N: how many ranks -/
noncomputable def ccE (n : Nat) (c : CN) (cuts : List (Nat × TP)) : Bool := match gNth mRs c.1 with
  | none => false
  | some (_, _, _, maxL, _, _, _, _) => enA gU c.2.2.1 [] [] [] (fun as g gr => htN gU as c.2.2.2.1 [] [] g gr (fun vs hp g gr => match fgN (.inr (.inr 0) :: (as ++ vs)) c.2.2.2.2.1 with
    | none => false
    | some F => fFG F (fun F => gSp (padA maxL (lcA as)) (fun lo => match cutB cuts 0 with
    | true => chkB aT gT gU cuts none as 0 lo [] hp F g gr []
    | false => exe aT gT gU dep c.2.2.2.2.2.1 Δ c.1 (cutB cuts) (chkB aT gT gU cuts none as) (rtA aT gT gU c as) n c.2.1 c.1 0 lo [] [] hp F g gr []))))
noncomputable def rkIn (g : List Iv) : List Lin → Bool
  | [] => true
  | L :: r => (match liI g L with
    | some _ => true
    | none => false) && rkIn g r
theorem rkIn_V {ρ : List Int} {g : List Iv} (hg : gOK ρ g) : ∀ (Ls : List Lin), rkIn g Ls = true → ∃ r, Two (rkOK ρ) Ls r := by
  intro Ls
  induction Ls with
  | nil => intro _; exact ⟨[], trivial⟩
  | cons L Ls ih =>
    intro h
    obtain ⟨h1, h2⟩ := and_t h
    obtain ⟨r, hr⟩ := ih h2
    split at h1
    · rename_i q e
      unfold liI at e
      split at e
      · rename_i a b e2
        obtain ⟨x, hx⟩ := liI_some hg _ e2
        exact ⟨_, Two.mk ⟨_, liV_mk (l := L.1) (k := L.2) hx, rfl⟩ hr⟩
      · cases e
    · cases h1
noncomputable def ccC (n N : Nat) (c : CN) (cuts : List (Nat × TP)) (q : Nat × TP) : Bool := (Nat.beq q.2.2.2.2.2.2.2.1.length N && rkIn q.2.2.2.2.1 q.2.2.2.2.2.2.2.1) && exe aT gT gU dep c.2.2.2.2.2.1 Δ c.1 (cutB cuts) (chkB aT gT gU cuts (some q.2.2.2.2.2.2.2.1) q.2.2.2.2.2.2.2.2.1) (rtA aT gT gU c q.2.2.2.2.2.2.2.2.1) n c.2.1 c.1 q.1 q.2.1 [] [] (hpT q.2) q.2.2.2.1 q.2.2.2.2.1 q.2.2.2.2.2.1 q.2.2.2.2.2.2.1
noncomputable def ccM (n N : Nat) (c : CN) (cuts : List (Nat × TP)) : Bool := (!Nat.beq c.1 205 && ccE aT gT gU dep Δ n c cuts) && cuts.all (ccC aT gT gU dep Δ n N c cuts)
variable {aT gT gU dep FL Δ}
theorem enA_V (hU : uOK aT gU) : ∀ (ts : List TA) {as : List AV} {g : List Iv} {gr : List Nat} {ρ : List Int} {π : List Nat} {ws0 ws : List Value} {k : List AV → List Iv → List Nat → Bool}, gOK ρ g → prOK aT π gr → Two (avOK ρ π) as ws0 → Two (taOK aT) ts ws → enA gU ts as g gr k = true → ∃ as' g' gr' ρ' π', gOK ρ' g' ∧ prOK aT π' gr' ∧ Two (avOK ρ' π') as' (ws0 ++ ws) ∧ k as' g' gr' = true := by
  intro ts
  induction ts with
  | nil =>
    intro as g gr ρ π ws0 ws k hg hp ha hw h
    cases ws with
    | cons _ _ => exact hw.elim
    | nil => rw [List.append_nil]; exact ⟨as, g, gr, ρ, π, hg, hp, ha, h⟩
  | cons t ts ih =>
    intro as g gr ρ π ws0 ws k hg hp ha hw h
    cases ws with
    | nil => exact hw.elim
    | cons w ws =>
      obtain ⟨v, g', gr', ρ', π', p1, p2, p3, p4, p5, h⟩ := taN_V hU hg hp hw.1 h
      obtain ⟨as', g2, gr2, ρ2, π2, q1, q2, q3, q4⟩ := ih p3 p4 ((Two.mono (fun _ _ q => avOK.mono p1 p2 q) ha).snoc p5) hw.2 h
      rw [List.append_assoc] at q3
      exact ⟨as', g2, gr2, ρ2, π2, q1, q2, q3, q4⟩
theorem rsA_V {t : Option TA} {v : Option AV} {hp : List HE} {fl : List FG} {g : List Iv} {gr : List Nat} {fs : List Lin} {ρ : List Int} {π : List Nat} {w : Option Value} {M : Mem} (hW : Wd aT gT FL ρ π hp fl g gr fs M) (h : rsA aT t v g gr fs = true) (hr : rtOK ρ π v w) : rsOK aT t w := by
  cases t with
  | none =>
    cases v with
    | some _ => cases h
    | none =>
      cases w with
      | none => trivial
      | some _ => exact hr.elim
  | some t =>
    cases v with
    | none => cases h
    | some v =>
      cases w with
      | none => exact hr.elim
      | some w => exact taM_V hW.2.2.1 hW.2.2.2.2.1 hW.2.2.2.1 h hr
theorem rtA_V (hU : uOK aT gU) (hct : cfOK FL) {c : CN} {ga : List AV} {ws : List Value} {v : Option AV} {hp : List HE} {fl : List FG} {g : List Iv} {gr : List Nat} {fs : List Lin} {ρ : List Int} {π : List Nat} {w : Option Value} {M : Mem} (hga : Two (avOK ρ π) ga ws) (hr : rtOK ρ π v w) (hW : Wd aT gT FL ρ π hp fl g gr fs M) (h : rtA aT gT gU c ga v hp fl g gr fs = true) : ∃ s ∈ c.2.2.2.2.2.2, csOK aT FL ws w M s := by
  obtain ⟨s, hs, h⟩ := List.any_eq_true.mp h
  refine ⟨s, hs, ?_⟩
  obtain ⟨h1, h⟩ := and_t h
  obtain ⟨h2, h⟩ := and_t h
  obtain ⟨hv, vs, hp', g', gr', ρ', π', i1, p1, p2, i2, hW', h⟩ := htA_V hU (vs := []) (hv := []) s.2.2.1 hga (show Two (avOK ρ π) ([] : List AV) ([] : List Value) from trivial) hW h
  obtain ⟨h3, h⟩ := and_t h
  have ha2 : Two (avOK ρ' π') (ga ++ vs) (ws ++ hv) := (Two.mono (fun _ _ q => avOK.mono p1 p2 q) hga).app i2
  have hsrc : Two (avOK ρ' π') (v.getD (.inr (.inr 0)) :: (ga ++ vs)) (w.getD .null :: (ws ++ hv)) := by
    cases v with
    | none =>
      cases w with
      | some _ => exact hr.elim
      | none => exact Two.mk (show avOK ρ' π' (.inr (.inr 0)) .null from rfl) ha2
    | some v =>
      cases w with
      | none => exact hr.elim
      | some w => exact Two.mk (avOK.mono p1 p2 hr) ha2
  refine ⟨rsA_V hW h1 hr, agA_V hW.2.2.1 hW.2.2.2.2.1 hga _ h2, hv, i1, ?_, elA_V hsrc hW' _ h⟩
  split at h3
  · rename_i F eF
    exact fgN_W hct hsrc hW' _ eF h3
  · cases h3
/-- what stands at a cut -/
def Cnd (aT : List Nat) (gT : List CT) (FL : Nat → List Int → Mem → Prop) (md : Md) (ws : List Value) (M : Mem) (t : TP) (cl : Lo) (M' : Mem) : Prop := ∃ ρ π, Two (avOK ρ π) t.2.2.2.2.2.2.2.1 ws ∧ Two (loOK ρ π) t.1 cl ∧ Wd aT gT FL ρ π (hpT t) t.2.2.1 t.2.2.2.1 t.2.2.2.2.1 t.2.2.2.2.2.1 M' ∧ Frm aT md M M'
/-- what a contract asks of the end -/
def Fin (aT : List Nat) (gT : List CT) (FL : Nat → List Int → Mem → Prop) (c : CN) (ws : List Value) (M : Mem) (w : Option Value) (M' : Mem) : Prop := TM aT gT M' ∧ Frm aT c.2.2.2.2.2.1 M M' ∧ ∃ s ∈ c.2.2.2.2.2.2, csOK aT FL ws w M' s
theorem main_V (hU : uOK aT gU) (hd : depOK aT dep FL) (hct : cfOK FL) (hΔ : ∀ c ∈ Δ, cnOK aT gT FL c) {n N : Nat} {c : CN} {cuts A : List (Nat × TP)} {d : Nat} {M : Mem} {ws : List Value} (hD : c.2.1 ≤ d) {Q : Option Value → Mem → Prop} (hQ : ∀ w M', Fin aT gT FL c ws M w M' → Q w M') (hA : ∀ x ∈ A, ccC aT gT gU dep Δ n N c cuts x = true) (hB : ∀ x ∈ cuts, x ∈ A ∨ ∀ cl M', Cnd aT gT FL c.2.2.2.2.2.1 ws M x.2 cl M' → RF Q [] d c.1 x.1 cl [] M') : ∀ x ∈ A, ∀ cl M', Cnd aT gT FL c.2.2.2.2.2.1 ws M x.2 cl M' → RF Q [] d c.1 x.1 cl [] M' := by
  have main : ∀ r : List Nat, r.length = N → ∀ pc t, (pc, t) ∈ A → ∀ ρ π cl M', Two (avOK ρ π) t.2.2.2.2.2.2.2.1 ws → Two (loOK ρ π) t.1 cl → Wd aT gT FL ρ π (hpT t) t.2.2.1 t.2.2.2.1 t.2.2.2.2.1 t.2.2.2.2.2.1 M' → Frm aT c.2.2.2.2.2.1 M M' → Two (rkOK ρ) t.2.2.2.2.2.2.1 r → RF Q [] d c.1 pc cl [] M' := by
    refine lx_ind N _ (fun r hr ih => ?_)
    intro pc t hpt ρ π cl M' hga hl hW hF hrk
    obtain ⟨hN, hx⟩ := and_t (hA _ hpt)
    refine exe_V hU hd hct hΔ (ρ0 := ρ) (π0 := π) (M0 := M) (d0 := d) (fun pc2 lo st hp fl g gr fs hcut hchk ρ2 π2 cl2 cst2 M2 p2 pi2 hl2 hs2 hW2 hF2 => ?_) (fun v hp fl g gr fs h ρ2 π2 w M2 p2 pi2 hr2 hW2 hF2 => hQ _ _ ⟨hW2.2.2.2.2.2, hF2, rtA_V hU hct (Two.mono (fun _ _ q => avOK.mono p2 pi2 q) hga) hr2 hW2 h⟩) n c.2.1 c.1 pc t.1 [] [] (hpT t) t.2.2.1 t.2.2.2.1 t.2.2.2.2.1 t.2.2.2.2.2.1 hx ρ π cl [] [] M' d (Pre.refl _) (Pre.refl _) hD rfl hl trivial trivial hW hF
    unfold chkB at hchk
    split at hchk
    · have hq8 := List.any_eq_true.mp hchk
      clear hchk
      obtain ⟨q2, hq2, hchk⟩ := hq8
      have hq9 := and_t hchk
      clear hchk
      obtain ⟨hpc, hchk⟩ := hq9
      obtain ⟨pc3, t2⟩ := q2
      cases Nat.eq_of_beq_eq_true hpc
      cases cst2 with
      | cons _ _ => exact hs2.elim
      | nil =>
        obtain ⟨ρt, πt, i0, i1, i2, i3⟩ := tpA_V hU (Two.mono (fun _ _ q => avOK.mono p2 pi2 q) hga) hl2 hW2 hchk
        rcases hB _ hq2 with hin | hdo
        · obtain ⟨r2, j1, j2⟩ := i3 _ r rfl (Two.mono (fun L n q => by obtain ⟨x, hx, e⟩ := q; exact ⟨x, p2.liV hx, e⟩) hrk)
          have hN2 : r2.length = N := by
            obtain ⟨h3, -⟩ := and_t (hA _ hin)
            rw [← j1.len]
            exact Nat.eq_of_beq_eq_true (and_t h3).1
          exact ih r2 hN2 j2 _ t2 hin ρt πt cl2 M2 i0 i1 i2 hF2 j1
        · exact hdo cl2 M2 ⟨ρt, πt, i0, i1, i2, hF2⟩
    · cases hchk
  intro x hx cl M' hc
  obtain ⟨ρ, π, i0, i1, i2, hF2⟩ := hc
  obtain ⟨hN2, hx2⟩ := and_t (hA _ hx)
  obtain ⟨hN2, hN3⟩ := and_t hN2
  obtain ⟨r, hr⟩ := rkIn_V i2.2.2.1 _ hN3
  exact main r (by rw [← hr.len]; exact Nat.eq_of_beq_eq_true hN2) _ x.2 hx ρ π cl M' i0 i1 i2 hF2 hr
/-- from the start to the cuts -/
theorem ent_V (hU : uOK aT gU) (hd : depOK aT dep FL) (hct : cfOK FL) (hΔ : ∀ c ∈ Δ, cnOK aT gT FL c) {n : Nat} {c : CN} {cuts : List (Nat × TP)} (hE : ccE aT gT gU dep Δ n c cuts = true) {d : Nat} {M : Mem} {ws : List Value} {q : MR} (hD : c.2.1 ≤ d) (hq : gNth mRs c.1 = some q) (hws : Two (taOK aT) c.2.2.1 ws) (hpre : ∃ hv, Two (fldV aT ws M) c.2.2.2.1 hv ∧ ∀ f ∈ c.2.2.2.2.1, flOK FL (.null :: (ws ++ hv)) M f) (hT : TM aT gT M) {Q : Option Value → Mem → Prop} (hQ : ∀ w M', Fin aT gT FL c ws M w M' → Q w M') (hB : ∀ x ∈ cuts, ∀ cl M', Cnd aT gT FL c.2.2.2.2.2.1 ws M x.2 cl M' → RF Q [] d c.1 x.1 cl [] M') : RF Q [] d c.1 0 (gPad q.2.2.2.1 (gArgs ws)) [] M := by
  unfold ccE at hE
  rw [hq] at hE
  dsimp only at hE
  obtain ⟨as, g, gr, ρ, π, hg, hp, ha, hE⟩ := enA_V hU c.2.2.1 (ρ := []) (π := []) (ws0 := []) (as := []) (g := []) (gr := []) ⟨rfl, fun i p hp => by cases hp⟩ ⟨rfl, fun i p hp => by cases hp⟩ trivial hws hE
  have hW0 : Wd aT gT FL ρ π [] [] g gr [] M := ⟨fun e he => (by cases he), fun x hx => (by cases hx), hg, hp, fun L hL => (by cases hL), hT⟩
  obtain ⟨hv, hhv, hfl⟩ := hpre
  obtain ⟨vs', hp', g', gr', ρ', π', p1, p2, p3, hW9, hE⟩ := htN_V hU (vs := []) (hv := []) _ ha (show Two (avOK ρ π) ([] : List AV) ([] : List Value) from trivial) hW0 hhv hE
  have ha' : Two (avOK ρ' π') as ws := Two.mono (fun _ _ q => avOK.mono p1 p2 q) ha
  split at hE
  · cases hE
  rename_i F eF
  rw [fFG_eq, gSp_eq] at hE
  have hW : Wd aT gT FL ρ' π' hp' F g' gr' [] M := ⟨hW9.1, fgN_V (ws := .null :: (ws ++ hv)) (Two.mk (show avOK ρ' π' (.inr (.inr 0)) .null from rfl) (ha'.app p3)) _ eF hfl, hW9.2.2⟩
  have cutc : ∀ pc2 lo st hp fl g gr fs, cutB cuts pc2 = true → chkB aT gT gU cuts none as pc2 lo st hp fl g gr fs = true → ∀ ρ2 π2 cl2 cst2 M2, Pre ρ' ρ2 → Pre π' π2 → Two (loOK ρ2 π2) lo cl2 → Two (avOK ρ2 π2) st cst2 → Wd aT gT FL ρ2 π2 hp fl g gr fs M2 → Frm aT c.2.2.2.2.2.1 M M2 → RF Q [] d c.1 pc2 cl2 cst2 M2 := by
    intro pc2 lo st hp fl g gr fs _ hchk ρ2 π2 cl2 cst2 M2 q1 qi2 hl2 hs2 hW2 hF2
    unfold chkB at hchk
    split at hchk
    · have hq8 := List.any_eq_true.mp hchk
      clear hchk
      obtain ⟨q2, hq2, hchk⟩ := hq8
      have hq9 := and_t hchk
      clear hchk
      obtain ⟨hpc, hchk⟩ := hq9
      obtain ⟨pc3, t2⟩ := q2
      cases Nat.eq_of_beq_eq_true hpc
      cases cst2 with
      | cons _ _ => exact hs2.elim
      | nil =>
        obtain ⟨ρt, πt, i0, i1, i2, -⟩ := tpA_V hU (Two.mono (fun _ _ q => avOK.mono q1 qi2 q) ha') hl2 hW2 hchk
        exact hB _ hq2 cl2 M2 ⟨ρt, πt, i0, i1, i2, hF2⟩
    · cases hchk
  have hl : Two (loOK ρ' π') (padA q.2.2.2.1 (lcA as)) (gPad q.2.2.2.1 (gArgs ws)) := padA_V _ (lcA_V _ ha')
  split at hE
  · rename_i e0
    exact cutc 0 _ [] _ _ _ _ _ e0 hE ρ' π' _ [] M (Pre.refl _) (Pre.refl _) hl trivial hW (Frm.refl _)
  · exact exe_V hU hd hct hΔ (ρ0 := ρ') (π0 := π') (M0 := M) (d0 := d) cutc (fun v hp fl g gr fs h ρ2 π2 w M2 p2 pi2 hr2 hW2 hF2 => hQ _ _ ⟨hW2.2.2.2.2.2, hF2, rtA_V hU hct (Two.mono (fun _ _ q => avOK.mono p2 pi2 q) ha') hr2 hW2 h⟩) n c.2.1 c.1 0 _ [] [] _ _ _ _ _ hE ρ' π' _ [] [] M d (Pre.refl _) (Pre.refl _) hD rfl hl trivial trivial hW (Frm.refl _)
theorem fin_cn {c : CN} (h205 : (!Nat.beq c.1 205) = true) (h : ∀ (d : Nat) (M : Mem) (ws : List Value) (q : MR), c.2.1 ≤ d → gNth mRs c.1 = some q → Two (taOK aT) c.2.2.1 ws → (∃ hv, Two (fldV aT ws M) c.2.2.2.1 hv ∧ ∀ f ∈ c.2.2.2.2.1, flOK FL (.null :: (ws ++ hv)) M f) → TM aT gT M → RF (Fin aT gT FL c ws M) [] d c.1 0 (gPad q.2.2.2.1 (gArgs ws)) [] M) : cnOK aT gT FL c := by
  intro d M ws q hD hq hws hpre hT
  obtain ⟨v, M', e1, e2, e3, s, e4, e5⟩ := h d M ws q hD hq hws hpre hT
  exact ⟨v, M', e1, e2, e3, s, e4, e5, fun h => by
    rw [h] at h205
    cases h205⟩
theorem ccM_V (hU : uOK aT gU) (hd : depOK aT dep FL) (hct : cfOK FL) (hΔ : ∀ c ∈ Δ, cnOK aT gT FL c) {n N : Nat} {c : CN} {cuts : List (Nat × TP)} (h : ccM aT gT gU dep Δ n N c cuts = true) : cnOK aT gT FL c := by
  obtain ⟨hE, hC⟩ := and_t h
  obtain ⟨h205, hE⟩ := and_t hE
  exact fin_cn h205 (fun d M ws q hD hq hws hpre hT => ent_V hU hd hct hΔ hE hD hq hws hpre hT (fun _ _ h => h) (main_V hU hd hct hΔ hD (fun _ _ h => h) (fun x hx => List.all_eq_true.mp hC x hx) (fun x hx => Or.inl hx)))
/-- .. where at some cuts (G) the run is told by hand, from those behind them (B) -/
theorem ccX_V (hU : uOK aT gU) (hd : depOK aT dep FL) (hct : cfOK FL) (hΔ : ∀ c ∈ Δ, cnOK aT gT FL c) {n N : Nat} {c : CN} {A G B : List (Nat × TP)} (h : (((!Nat.beq c.1 205) && ccE aT gT gU dep Δ n c (A ++ (G ++ B))) && (A.all (ccC aT gT gU dep Δ n N c (A ++ (G ++ B))) && B.all (ccC aT gT gU dep Δ n N c B))) = true) (hG : ∀ (d : Nat) (M : Mem) (ws : List Value), c.2.1 ≤ d → (∀ x ∈ B, ∀ cl M', Cnd aT gT FL c.2.2.2.2.2.1 ws M x.2 cl M' → RF (Fin aT gT FL c ws M) [] d c.1 x.1 cl [] M') → ∀ x ∈ G, ∀ cl M', Cnd aT gT FL c.2.2.2.2.2.1 ws M x.2 cl M' → RF (Fin aT gT FL c ws M) [] d c.1 x.1 cl [] M') : cnOK aT gT FL c := by
  obtain ⟨hE, hC⟩ := and_t h
  obtain ⟨h205, hE⟩ := and_t hE
  obtain ⟨hCA, hCB⟩ := and_t hC
  refine fin_cn h205 (fun d M ws q hD hq hws hpre hT => ?_)
  have rB := main_V (A := B) (cuts := B) (M := M) (ws := ws) hU hd hct hΔ hD (Q := Fin aT gT FL c ws M) (fun _ _ h => h) (fun x hx => List.all_eq_true.mp hCB x hx) (fun x hx => Or.inl hx)
  have rG := hG d M ws hD rB
  have rGB : ∀ x ∈ G ++ B, ∀ cl M', Cnd aT gT FL c.2.2.2.2.2.1 ws M x.2 cl M' → RF (Fin aT gT FL c ws M) [] d c.1 x.1 cl [] M' := fun x hx => by
    rcases List.mem_append.mp hx with hx | hx
    · exact rG x hx
    · exact rB x hx
  have rA := main_V (A := A) (cuts := A ++ (G ++ B)) (M := M) (ws := ws) hU hd hct hΔ hD (Q := Fin aT gT FL c ws M) (fun _ _ h => h) (fun x hx => List.all_eq_true.mp hCA x hx) (fun x hx => by
    rcases List.mem_append.mp hx with hx | hx
    · exact Or.inl hx
    · exact Or.inr (rGB x hx))
  refine ent_V hU hd hct hΔ hE hD hq hws hpre hT (fun _ _ h => h) (fun x hx => ?_)
  rcases List.mem_append.mp hx with hx | hx
  · exact rA x hx
  · exact rGB x hx
end METH
