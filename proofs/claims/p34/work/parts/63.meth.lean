/-! THE CHECKER, 14: a whole method: its contract and the places where the walk is cut -/
section METH
variable (aT : List Nat) (gT : List CT) (gU : List (Option Nat)) (dep : Nat → Md) (FL : Nat → Mem → Prop) (Δ : List CN)
/-- arguments as unknowns -/
noncomputable def enA (ts : List TA) (as : List AV) (g : List Iv) (gr : List Nat) (k : List AV → List Iv → List Nat → Bool) : Bool := match ts with
  | [] => k as g gr
  | t :: ts => taN gU t g gr (fun v g gr => enA ts (as ++ [v]) g gr k)
/-- the end of the method keeps what the contract says -/
noncomputable def rtA (c : CN) (v : Option AV) (hp : List HE) (fl : List Nat) (g : List Iv) (gr : List Nat) (fs : List Lin) : Bool := (match c.2.2.2.2.2.2.1, v with
  | none, none => true
  | some t, some v => taM aT g gr fs t v
  | _, _ => false) && (flIn c.2.2.2.2.2.2.2.2 fl && htA aT gT gU [] c.2.2.2.2.2.2.2.1 hp g gr fs (fun _ _ _ => true))
noncomputable def cutB (cuts : List (Nat × TP)) (pc : Nat) : Bool := match gLook cuts pc with
  | some _ => true
  | none => false
noncomputable def chkB (cuts : List (Nat × TP)) (old : Option (List Lin)) (pc : Nat) (lo st : List AV) (hp : List HE) (fl : List Nat) (g : List Iv) (gr : List Nat) (fs : List Lin) : Bool := match st with
  | [] => match gLook cuts pc with
    | some t => tpA aT gT gU t old lo hp fl g gr fs
    | none => false
  | _ => false
/-- n: fuel of a stretch; N: how many ranks -/
noncomputable def ccE (n : Nat) (c : CN) (cuts : List (Nat × TP)) : Bool := match gNth mRs c.1 with
  | none => false
  | some (_, _, _, maxL, _, _, _, _) => enA gU c.2.2.1 [] [] [] (fun as g gr => htN gU as c.2.2.2.1 [] g gr (fun hp g gr => gSp (padA maxL (lcA as)) (fun lo => match cutB cuts 0 with
    | true => chkB aT gT gU cuts none 0 lo [] hp c.2.2.2.2.1 g gr []
    | false => exe aT gT gU dep c.2.2.2.2.2.1 Δ c.1 (cutB cuts) (chkB aT gT gU cuts none) (rtA aT gT gU c) n c.2.1 c.1 0 lo [] [] hp c.2.2.2.2.1 g gr [])))
noncomputable def rkIn (g : List Iv) : List Lin → Bool
  | [] => true
  | L :: r => (match liI g L with
    | some _ => true
    | none => false) && rkIn g r
theorem rkIn_V {ρ : List Int} {g : List Iv} (hg : gOK ρ g) : ∀ (Ls : List Lin), rkIn g Ls = true → ∃ r, Two (rkOK ρ) Ls r := by
  intro Ls
  induction Ls with
  | nil => intro _; exact ⟨[], trivial⟩
  | cons L Ls ih =>
    intro h
    obtain ⟨h1, h2⟩ := and_t h
    obtain ⟨r, hr⟩ := ih h2
    split at h1
    · rename_i q e
      unfold liI at e
      split at e
      · rename_i a b e2
        obtain ⟨x, hx⟩ := liI_some hg _ e2
        exact ⟨_, Two.mk ⟨_, liV_mk (l := L.1) (k := L.2) hx, rfl⟩ hr⟩
      · cases e
    · cases h1
noncomputable def ccC (n N : Nat) (c : CN) (cuts : List (Nat × TP)) (q : Nat × TP) : Bool := (Nat.beq q.2.2.2.2.2.2.2.length N && rkIn q.2.2.2.2.1 q.2.2.2.2.2.2.2) && exe aT gT gU dep c.2.2.2.2.2.1 Δ c.1 (cutB cuts) (chkB aT gT gU cuts (some q.2.2.2.2.2.2.2)) (rtA aT gT gU c) n c.2.1 c.1 q.1 q.2.1 [] [] (hpT q.2) q.2.2.2.1 q.2.2.2.2.1 q.2.2.2.2.2.1 q.2.2.2.2.2.2.1
noncomputable def ccM (n N : Nat) (c : CN) (cuts : List (Nat × TP)) : Bool := ccE aT gT gU dep Δ n c cuts && cuts.all (ccC aT gT gU dep Δ n N c cuts)
variable {aT gT gU dep FL Δ}
theorem enA_V (hU : uOK aT gU) : ∀ (ts : List TA) {as : List AV} {g : List Iv} {gr : List Nat} {ρ : List Int} {π : List Nat} {ws0 ws : List Value} {k : List AV → List Iv → List Nat → Bool}, gOK ρ g → prOK aT π gr → Two (avOK ρ π) as ws0 → Two (taOK aT) ts ws → enA gU ts as g gr k = true → ∃ as' g' gr' ρ' π', gOK ρ' g' ∧ prOK aT π' gr' ∧ Two (avOK ρ' π') as' (ws0 ++ ws) ∧ k as' g' gr' = true := by
  intro ts
  induction ts with
  | nil =>
    intro as g gr ρ π ws0 ws k hg hp ha hw h
    cases ws with
    | cons _ _ => exact hw.elim
    | nil => rw [List.append_nil]; exact ⟨as, g, gr, ρ, π, hg, hp, ha, h⟩
  | cons t ts ih =>
    intro as g gr ρ π ws0 ws k hg hp ha hw h
    cases ws with
    | nil => exact hw.elim
    | cons w ws =>
      obtain ⟨v, g', gr', ρ', π', p1, p2, p3, p4, p5, h⟩ := taN_V hU hg hp hw.1 h
      obtain ⟨as', g2, gr2, ρ2, π2, q1, q2, q3, q4⟩ := ih p3 p4 ((Two.mono (fun _ _ q => avOK.mono p1 p2 q) ha).snoc p5) hw.2 h
      rw [List.append_assoc] at q3
      exact ⟨as', g2, gr2, ρ2, π2, q1, q2, q3, q4⟩
theorem rtA_V (hU : uOK aT gU) {c : CN} {v : Option AV} {hp : List HE} {fl : List Nat} {g : List Iv} {gr : List Nat} {fs : List Lin} {ρ : List Int} {π : List Nat} {w : Option Value} {M : Mem} (hr : rtOK ρ π v w) (hW : Wd aT gT FL ρ π hp fl g gr fs M) (h : rtA aT gT gU c v hp fl g gr fs = true) : rsOK aT c.2.2.2.2.2.2.1 w ∧ (∀ h ∈ c.2.2.2.2.2.2.2.1, htOK aT [] M h) ∧ (∀ x ∈ c.2.2.2.2.2.2.2.2, FL x M) := by
  unfold rtA at h
  obtain ⟨h1, h⟩ := and_t h
  obtain ⟨h2, h3⟩ := and_t h
  refine ⟨?_, (htA_V hU _ (show Two (avOK ρ π) ([] : List AV) ([] : List Value) from trivial) hW h3).1, fun x hx => hW.2.1 x (flIn_V h2 x hx)⟩
  split at h1
  · rename_i e
    rw [e]
    cases w with
    | none => trivial
    | some _ => exact hr.elim
  · rename_i t v e
    rw [e]
    cases w with
    | none => exact hr.elim
    | some w => exact taM_V hW.2.2.1 hW.2.2.2.2.1 hW.2.2.2.1 h1 hr
  · cases h1
theorem ccM_V (hU : uOK aT gU) (hd : depOK aT dep FL) (hΔ : ∀ c ∈ Δ, cnOK aT gT FL c) {n N : Nat} {c : CN} {cuts : List (Nat × TP)} (h : ccM aT gT gU dep Δ n N c cuts = true) : cnOK aT gT FL c := by
  obtain ⟨hE, hC⟩ := and_t h
  intro d M ws q hD hq hws hpre hfl hT
  have hC : ∀ x ∈ cuts, ccC aT gT gU dep Δ n N c cuts x = true := fun x hx => List.all_eq_true.mp hC x hx
  -- what is to be reached
  have hQ : ∀ {old : Option (List Lin)} v hp fl g gr fs, rtA aT gT gU c v hp fl g gr fs = true → ∀ ρ π w M', rtOK ρ π v w → Wd aT gT FL ρ π hp fl g gr fs M' → Frm aT c.2.2.2.2.2.1 M M' → (TM aT gT M' ∧ Frm aT c.2.2.2.2.2.1 M M' ∧ rsOK aT c.2.2.2.2.2.2.1 w ∧ (∀ h ∈ c.2.2.2.2.2.2.2.1, htOK aT [] M' h) ∧ (∀ x ∈ c.2.2.2.2.2.2.2.2, FL x M')) := by
    intro old v hp fl g gr fs h ρ π w M' hr hW hF
    obtain ⟨i1, i2, i3⟩ := rtA_V hU hr hW h
    exact ⟨hW.2.2.2.2.2, hF, i1, i2, i3⟩
  have main : ∀ r : List Nat, r.length = N → ∀ pc t, gLook cuts pc = some t → ∀ ρ π cl M', Two (loOK ρ π) t.1 cl → Wd aT gT FL ρ π (hpT t) t.2.2.1 t.2.2.2.1 t.2.2.2.2.1 t.2.2.2.2.2.1 M' → Frm aT c.2.2.2.2.2.1 M M' → Two (rkOK ρ) t.2.2.2.2.2.2 r → RF (fun w M' => TM aT gT M' ∧ Frm aT c.2.2.2.2.2.1 M M' ∧ rsOK aT c.2.2.2.2.2.2.1 w ∧ (∀ h ∈ c.2.2.2.2.2.2.2.1, htOK aT [] M' h) ∧ (∀ x ∈ c.2.2.2.2.2.2.2.2, FL x M')) [] d c.1 pc cl [] M' := by
    refine lx_ind N _ (fun r hr ih => ?_)
    intro pc t hpt ρ π cl M' hl hW hF hrk
    obtain ⟨hN, hx⟩ := and_t (hC _ (look_in _ _ _ hpt))
    refine exe_V hU hd hΔ (ρ0 := ρ) (M0 := M) (d0 := d) (fun pc2 lo st hp fl g gr fs hcut hchk ρ2 π2 cl2 cst2 M2 p2 hl2 hs2 hW2 hF2 => ?_) (fun v hp fl g gr fs h ρ2 π2 w M2 p2 hr2 hW2 hF2 => hQ (old := none) v hp fl g gr fs h ρ2 π2 w M2 hr2 hW2 hF2) n c.2.1 c.1 pc t.1 [] [] (hpT t) t.2.2.1 t.2.2.2.1 t.2.2.2.2.1 t.2.2.2.2.2.1 hx ρ π cl [] [] M' d (Pre.refl _) hD rfl hl trivial trivial hW hF
    unfold chkB at hchk
    split at hchk
    · split at hchk
      · rename_i t2 e2
        cases cst2 with
        | cons _ _ => exact hs2.elim
        | nil =>
          obtain ⟨ρt, πt, i1, i2, i3⟩ := tpA_V hU hl2 hW2 hchk
          obtain ⟨r2, j1, j2⟩ := i3 _ r rfl (Two.mono (fun L n q => by obtain ⟨x, hx, e⟩ := q; exact ⟨x, p2.liV hx, e⟩) hrk)
          have hN2 : r2.length = N := by
            obtain ⟨h3, -⟩ := and_t (hC _ (look_in _ _ _ e2))
            rw [← j1.len]
            exact Nat.eq_of_beq_eq_true (and_t h3).1
          exact ih r2 hN2 j2 pc2 t2 e2 ρt πt cl2 M2 i1 i2 hF2 j1
      · cases hchk
    · cases hchk
  have fin : RF (fun w M' => TM aT gT M' ∧ Frm aT c.2.2.2.2.2.1 M M' ∧ rsOK aT c.2.2.2.2.2.2.1 w ∧ (∀ h ∈ c.2.2.2.2.2.2.2.1, htOK aT [] M' h) ∧ (∀ x ∈ c.2.2.2.2.2.2.2.2, FL x M')) [] d c.1 0 (gPad q.2.2.2.1 (gArgs ws)) [] M := by
    have cutc : ∀ pc2 lo st hp fl g gr fs, cutB cuts pc2 = true → chkB aT gT gU cuts none pc2 lo st hp fl g gr fs = true → ∀ ρ2 π2 cl2 cst2 M2, Pre [] ρ2 → Two (loOK ρ2 π2) lo cl2 → Two (avOK ρ2 π2) st cst2 → Wd aT gT FL ρ2 π2 hp fl g gr fs M2 → Frm aT c.2.2.2.2.2.1 M M2 → RF (fun w M' => TM aT gT M' ∧ Frm aT c.2.2.2.2.2.1 M M' ∧ rsOK aT c.2.2.2.2.2.2.1 w ∧ (∀ h ∈ c.2.2.2.2.2.2.2.1, htOK aT [] M' h) ∧ (∀ x ∈ c.2.2.2.2.2.2.2.2, FL x M')) [] d c.1 pc2 cl2 cst2 M2 := by
      intro pc2 lo st hp fl g gr fs _ hchk ρ2 π2 cl2 cst2 M2 _ hl2 hs2 hW2 hF2
      unfold chkB at hchk
      split at hchk
      · split at hchk
        · rename_i t2 e2
          cases cst2 with
          | cons _ _ => exact hs2.elim
          | nil =>
            obtain ⟨ρt, πt, i1, i2, -⟩ := tpA_V hU hl2 hW2 hchk
            obtain ⟨hN2, hx2⟩ := and_t (hC _ (look_in _ _ _ e2))
            obtain ⟨hN2, hN3⟩ := and_t hN2
            obtain ⟨r, hr⟩ := rkIn_V i2.2.2.1 _ hN3
            exact main r (by rw [← hr.len]; exact Nat.eq_of_beq_eq_true hN2) pc2 t2 e2 ρt πt cl2 M2 i1 i2 hF2 hr
        · cases hchk
      · cases hchk
    unfold ccE at hE
    rw [hq] at hE
    dsimp only at hE
    obtain ⟨as, g, gr, ρ, π, hg, hp, ha, hE⟩ := enA_V hU c.2.2.1 (ρ := []) (π := []) (ws0 := []) (as := []) (g := []) (gr := []) ⟨rfl, fun i p hp => by cases hp⟩ ⟨rfl, fun i p hp => by cases hp⟩ trivial hws hE
    have hW0 : Wd aT gT FL ρ π [] c.2.2.2.2.1 g gr [] M := ⟨fun e he => (by cases he), hfl, hg, hp, fun L hL => (by cases hL), hT⟩
    obtain ⟨hp', g', gr', ρ', π', p1, p2, hW, hE⟩ := htN_V hU _ ha hW0 hpre hE
    rw [gSp_eq] at hE
    have hl : Two (loOK ρ' π') (padA q.2.2.2.1 (lcA as)) (gPad q.2.2.2.1 (gArgs ws)) := padA_V _ (lcA_V _ (Two.mono (fun _ _ q => avOK.mono p1 p2 q) ha))
    split at hE
    · rename_i e0
      exact cutc 0 _ [] _ _ _ _ _ e0 hE ρ' π' _ [] M ⟨ρ', rfl⟩ hl trivial hW (Frm.refl _)
    · exact exe_V hU hd hΔ (ρ0 := []) (M0 := M) (d0 := d) cutc (fun v hp fl g gr fs h ρ2 π2 w M2 p2 hr2 hW2 hF2 => hQ (old := none) v hp fl g gr fs h ρ2 π2 w M2 hr2 hW2 hF2) n c.2.1 c.1 0 _ [] [] _ _ _ _ _ hE ρ' π' _ [] [] M d ⟨ρ', rfl⟩ hD rfl hl trivial trivial hW (Frm.refl _)
  obtain ⟨v, M', e1, e2⟩ := fin
  exact ⟨v, M', e1, e2⟩
end METH
