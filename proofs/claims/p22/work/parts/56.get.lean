/-! THE CHECKER, 7: instructions that read or write the memory -/
noncomputable def zz (g : List Iv) (fs : List Lin) (L : Lin) : Bool := nn g fs L && nn g fs (liMul (-1) L)
theorem zz_V {ρ : List Int} {g : List Iv} {fs : List Lin} (hg : gOK ρ g) (hf : fOK ρ fs) {L : Lin} {v : Int} (h : zz g fs L = true) (hv : liV ρ L = some v) : v = 0 := by
  unfold zz at h
  rw [Bool.and_eq_true] at h
  have h1 := nn_V hg hf h.1 hv
  have h2 := nn_V hg hf h.2 (liMul_V (-1) hv)
  omega
/-- an element of the row 635, d below, is known to be at least 1 -/
noncomputable def hpK (hp : List HE) (g : List Iv) (fs : List Lin) (L : Lin) (d : Int) : Bool := hp.any (fun e => rsEq e.1 (.inl 635) && (match e.2.1, e.2.2 with
  | .inr L2, .inl W => zz g fs (liAdc (liSub L2 L) d) && nn g fs (liAdc W (-1))
  | _, _ => false))
/-- the old element, less the new one, less d, is at least 0 -/
noncomputable def oldD (R : RS) (L V : Lin) (hp : List HE) (g : List Iv) (fs : List Lin) (s d : Int) : Bool := match hpG hp R (.inr L) with
  | some (.inl W) => nn g fs (liAdc (liMul s (liSub W V)) d)
  | _ => false
/-- is a flag kept by a write -/
noncomputable def kpA (x : Nat) (R : RS) (L V : Lin) (hp : List HE) (g : List Iv) (fs : List Lin) : Bool := cond (rsEq R (.inl 635)) (cond (Nat.beq x 20 || Nat.beq x 21) (nn g fs (liAdc L (-2))) (cond (Nat.beq x 26) (nn g fs (liAdc L (-158)) || nn g fs (liSub (liC 156) L)) (Nat.beq x 28 && (nn g fs (liAdc L (-157)) || (inR g fs L 12 12 || (inR g fs L 13 156 && (lnDv 6 L.1 && cond (iEq ((L.2 - 13) % 6) 3) (nn g fs (liAdc V (-1))) (cond (iEq ((L.2 - 13) % 6) 5) (nn g fs (liMul (-1) V) || hpK hp g fs L 2) true)))))))) (cond (rsEq R (.inl 654)) ((Nat.beq x 44 || Nat.beq x 46) && oldD R L V hp g fs 1 0) (cond (rsEq R (.inl 655)) (cond (Nat.beq x 64) (nn g fs (liAdc V (-1))) ((Nat.beq x 48 || Nat.beq x 50) && oldD R L V hp g fs 1 0)) (rsEq R (.inl 650) && ((Nat.beq x 40 || Nat.beq x 42) && oldD R L V hp g fs (-1) 0))))
/-- .. made stronger -/
noncomputable def upA (x : Nat) (R : RS) (L V : Lin) (hp : List HE) (g : List Iv) (fs : List Lin) : Bool := cond (rsEq R (.inl 654)) (Nat.beq x 46 && oldD R L V hp g fs 1 (-1)) (cond (rsEq R (.inl 655)) (Nat.beq x 50 && oldD R L V hp g fs 1 (-1)) (rsEq R (.inl 650) && (Nat.beq x 42 && oldD R L V hp g fs (-1) (-1))))
/-- is it an 'every' of a wish that is -/
noncomputable def gdW (R : RS) (L : Lin) (fl : List FG) (g : List Iv) (fs : List Lin) : Bool := rsEq R (.inl 655) && fl.any (fun x => Nat.beq x.1 64 && (match x.2 with
  | [K] => zz g fs (liSub K L)
  | _ => false))
noncomputable def gdA (R : RS) (L : Lin) (hp : List HE) (fl : List FG) (g : List Iv) (fs : List Lin) : Bool := gdW R L fl g fs || rsEq R (.inl 635) && (fl.any (fun x => Nat.beq x.1 28 && x.2.isEmpty) && (inR g fs L 13 156 && (lnDv 6 L.1 && (iEq ((L.2 - 13) % 6) 3 && hpK hp g fs L (-2)))))
section GET
variable (aT : List Nat) (gT : List CT) (gU : List (Option Nat)) (dep : Nat → Md) (FL : Nat → List Int → Mem → Prop) (md : Md)
noncomputable def clsIs (gr : List Nat) (R : RS) (ci : Nat) : Bool := match rsG aT gr R with
  | some g => match gNth gT g with
    | some (.inl (c, _)) => Nat.beq c ci
    | _ => true
  | none => true
/-- what is known still, a field written -/
noncomputable def hpD (gr : List Nat) (ci f : Nat) (hp : List HE) : List HE := hp.filter (fun e => match e.2.1 with
  | .inl f2 => !(Nat.beq f2 f && clsIs aT gT gr e.1 ci)
  | .inr _ => true)
noncomputable def grIs (gr : List Nat) (R : RS) (g : Nat) : Bool := match rsG aT gr R with
  | some g2 => Nat.beq g2 g
  | none => true
/-- .. a row written -/
noncomputable def hpA (gr : List Nat) (g : Nat) (hp : List HE) : List HE := hp.filter (fun e => match e.2.1 with
  | .inl _ => true
  | .inr _ => !grIs aT gr e.1 g)
/-- .. at one place -/
noncomputable def hpW (g : List Iv) (fs : List Lin) (gr : List Nat) (grp : Nat) (L : Lin) (hp : List HE) : List HE := hp.filter (fun e => match e.2.1 with
  | .inl _ => true
  | .inr L2 => !grIs aT gr e.1 grp || (nn g fs (liAdc (liSub L2 L) (-1)) || nn g fs (liAdc (liSub L L2) (-1))))
noncomputable def flD (c k : Nat) (fl : List FG) : List FG := fl.filter (fun x => !mdIn (dep x.1) c k)
noncomputable def kfA (x : Nat) (R : RS) (c k : Nat) (v : AV) : Bool := Nat.beq x 34 && cond (Nat.beq c 8) (Nat.beq k 0 && rsEq R (.inl 137)) (Nat.beq c 1 && (Nat.beq k 15 && (match v with
  | .inl L => L.1.isEmpty && iEq L.2 0
  | _ => false)))
/-- .. a field written -/
noncomputable def flF (R : RS) (v : AV) (c k : Nat) (fl : List FG) : List FG := fl.filter (fun x => !mdIn (dep x.1) c k || kfA x.1 R c k v)
noncomputable def flK (R : RS) (L V : Lin) (hp : List HE) (g : List Iv) (fs : List Lin) (c k : Nat) (fl : List FG) : List FG := (fl.filter (fun x => upA x.1 R L V hp g fs)).map (fun x => (x.1 - 2, x.2)) ++ fl.filter (fun x => !mdIn (dep x.1) c k || kpA x.1 R L V hp g fs)
noncomputable def fitF (g : List Iv) (gr : List Nat) (fs : List Lin) (t : FT) (v : AV) : Bool := match t, v with
  | .inl (lo, hi), .inl L => inR g fs L lo hi
  | .inr 0, .inr (.inr 1) => true
  | .inr (q + 1), .inr (.inl R) => match rsG aT gr R with
    | some g2 => Nat.beq g2 (q / 2)
    | none => false
  | .inr (q + 1), .inr (.inr 2) => Nat.beq (q % 2) 1
  | _, _ => false
noncomputable def fitT (g : List Iv) (fs : List Lin) (ty : FieldType) (v : AV) : Bool := match ty, v with
  | .int, .inl _ => true
  | .boolean, .inl L => inR g fs L 0 1
  | .long, .inr (.inr 1) => true
  | .object _, .inr (.inl _) => true
  | .array _, .inr (.inl _) => true
  | _, _ => false
noncomputable def arG (gr : List Nat) (R : RS) : Option (Nat × Nat × Nat × ET) := match rsG aT gr R with
  | some g => match gNth gT g with
    | some (.inr t) => some (g, t)
    | _ => none
  | none => none
noncomputable def sgMany : List SG → Bool
  | _ :: _ :: _ => true
  | _ => false
noncomputable def intR (kd : Nat → Bool) (R : RS) (L : Lin) (r : List AV) (hp : List HE) (fl : List FG) (g : List Iv) (gr : List Nat) (fs : List Lin) (k : List AV → List HE → List Iv → Bool) : Bool := match arG aT gT gr R with
  | some (_, q, n, .inl sg) => cond (kd q && inR g fs L 0 ((n : Int) - 1)) (match hpG hp R (.inr L) with
    | some v => k (v :: r) hp g
    | none => match liI g L with
      | some (a, b) => match ivJ (sgIs L a b sg) with
        | some p => fI (cond (gdA R L hp fl g fs) (iMax p.1 1) p.1) (fun a => fI p.2 (fun b => k (.inl (liS g.length) :: r) (cond (sgMany sg) ((R, .inr L, .inl (liS g.length)) :: hp) hp) (g ++ [(a, b)])))
        | none => false
      | none => false) false
  | _ => false
noncomputable def intW (R : RS) (L V : Lin) (hp : List HE) (fl : List FG) (g : List Iv) (gr : List Nat) (fs : List Lin) (k : List HE → List FG → Bool) : Bool := match arG aT gT gr R with
  | some (grp, 1, n, .inl sg) => cond (inR g fs L 0 ((n : Int) - 1) && mdIn md (1000 + grp) 0) (match liI g L with
    | some (a, b) => cond ((sgIs L a b sg).all (fun p => inR g fs V p.1 p.2)) (gSp (flK dep R L V hp g fs (1000 + grp) 0 fl) (fun fl => gSp (hpW aT g fs gr grp L hp) (fun hp => k (cond (sgMany sg) ((R, .inr L, .inl V) :: hp) hp) fl))) false
    | none => false) false
  | _ => false
noncomputable def sgAll (sg : List SG) (lo hi : Int) : Bool := sg.all (fun s => s.2.2.2.all (fun p => iLe p.1 lo && iLe hi p.2))
noncomputable def bytW (R : RS) (L V : Lin) (hp : List HE) (fl : List FG) (g : List Iv) (gr : List Nat) (fs : List Lin) (k : List HE → List FG → Bool) : Bool := match arG aT gT gr R with
  | some (grp, q, n, .inl sg) => cond (inR g fs L 0 ((n : Int) - 1) && (mdIn md (1000 + grp) 0 && (match q with
    | 0 => sgAll sg (-128) 127
    | 3 => sgAll sg 0 1
    | _ => false))) (cond (Nat.beq q 3 && inR g fs V 0 1) (gSp (flK dep R L V hp g fs (1000 + grp) 0 fl) (fun fl => gSp (hpW aT g fs gr grp L hp) (fun hp => k (cond (sgMany sg) ((R, .inr L, .inl V) :: hp) hp) fl))) (gSp (hpA aT gr grp hp) (fun hp => gSp (flD dep (1000 + grp) 0 fl) (fun fl => k hp fl)))) false
  | _ => false
noncomputable def lstI : List Int32 → Option Iv
  | [] => none
  | x :: r => match lstI r with
    | none => some (x.toInt, x.toInt)
    | some q => some (iMin x.toInt q.1, iMax x.toInt q.2)
noncomputable def getA (i : Instr) (o : Nat) (st : List AV) (hp : List HE) (fl : List FG) (g : List Iv) (gr : List Nat) (fs : List Lin) (k : List AV → List HE → List FG → List Iv → List Nat → List Lin → Bool) : Bool := match i with
  | .ldc ix => match gOwn cRs o ix with
    | some (v, _) => fI v.toInt (fun c => k (.inl (liC c) :: st) hp fl g gr fs)
    | none => match gOwn tRs o ix with
      | some (j, _) => k (.inr (.inr (10 + j + 3)) :: st) hp fl g gr fs
      | none => false
  | .ldc_w ix => match gOwn cRs o ix with
    | some (v, _) => fI v.toInt (fun c => k (.inl (liC c) :: st) hp fl g gr fs)
    | none => false
  | .ldc2_w ix => match gOwn lRs o ix with
    | some _ => k (.inr (.inr 1) :: st) hp fl g gr fs
    | none => false
  | .getstatic ix => match gOwn sRs o ix with
    | some (j, _) => k (.inr (.inr (j + 3)) :: st) hp fl g gr fs
    | none => false
  | .getfield ix => match st with
    | .inr (.inl R) :: r => match gOwn fRs o ix with
      | some (ci, f, _) => rdF aT gT gU R ci f hp g gr (fun v hp g gr => k (v :: r) hp fl g gr fs)
      | none => false
    | _ => false
  | .putfield ix => match st with
    | v :: .inr (.inl R) :: r => match gOwn fRs o ix, rsG aT gr R with
      | some (ci, f, _), some grp => match gNth gT grp with
        | some (.inl (c, fts)) => match gNth fts f with
          | some ft => cond (Nat.beq c ci && (mdIn md ci f && (!gFin ci f && (fitF aT g gr fs ft v && fitT g fs (gTy ci f) v)))) (gSp (hpD aT gT gr ci f hp) (fun hp => gSp (flF dep R v ci f fl) (fun fl => k r ((R, .inl f, v) :: hp) fl g gr fs))) false
          | none => false
        | _ => false
      | _, _ => false
    | _ => false
  | .iaload => match st with
    | .inl L :: .inr (.inl R) :: r => intR aT gT (fun q => Nat.beq q 1) R L r hp fl g gr fs (fun st hp g => k st hp fl g gr fs)
    | .inl L :: .inr (.inr (j + 3)) :: r => match gSx none j with
      | some l => cond (inR g fs L 0 ((gLn l : Int) - 1)) (match lstI l with
        | some p => fI p.1 (fun a => fI p.2 (fun b => k (.inl (liS g.length) :: r) hp fl (g ++ [(a, b)]) gr fs))
        | none => false) false
      | none => false
    | _ => false
  | .baload => match st with
    | .inl L :: .inr (.inl R) :: r => intR aT gT (fun q => Nat.beq q 0 || Nat.beq q 3) R L r hp fl g gr fs (fun st hp g => k st hp fl g gr fs)
    | _ => false
  | .laload => match st with
    | .inl L :: .inr (.inl R) :: r => match arG aT gT gr R with
      | some (_, 2, n, _) => cond (inR g fs L 0 ((n : Int) - 1)) (k (.inr (.inr 1) :: r) hp fl g gr fs) false
      | _ => false
    | _ => false
  | .aaload => match st with
    | .inl L :: .inr (.inl R) :: r => match arG aT gT gr R with
      | some (_, q, n, .inr g2) => cond ((Nat.ble 4 q && Nat.ble q 8) && inR g fs L 0 ((n : Int) - 1)) (nwR gU g2 gr (fun R2 gr => k (.inr (.inl R2) :: r) hp fl g gr fs)) false
      | _ => false
    | _ => false
  | .iastore => match st with
    | .inl V :: .inl L :: .inr (.inl R) :: r => intW aT gT dep md R L V hp fl g gr fs (fun hp fl => k r hp fl g gr fs)
    | _ => false
  | .bastore => match st with
    | .inl V :: .inl L :: .inr (.inl R) :: r => bytW aT gT dep md R L V hp fl g gr fs (fun hp fl => k r hp fl g gr fs)
    | _ => false
  | .lastore => match st with
    | .inr (.inr 1) :: .inl L :: .inr (.inl R) :: r => match arG aT gT gr R with
      | some (grp, 2, n, _) => cond (inR g fs L 0 ((n : Int) - 1) && mdIn md (1000 + grp) 0) (gSp (hpA aT gr grp hp) (fun hp => gSp (flD dep (1000 + grp) 0 fl) (fun fl => k r hp fl g gr fs))) false
      | _ => false
    | _ => false
  | .aastore => match st with
    | .inr (.inl R2) :: .inl L :: .inr (.inl R) :: r => match arG aT gT gr R, rsG aT gr R2 with
      | some (grp, q, n, .inr g2), some g3 => match gNth gT g3 with
        | some (.inl (c, _)) => cond ((Nat.ble 4 q && Nat.ble q 8) && ((inR g fs L 0 ((n : Int) - 1) && mdIn md (1000 + grp) 0) && (Nat.beq g3 g2 && Nat.beq (gEl q) c))) (gSp (hpA aT gr grp hp) (fun hp => gSp (flD dep (1000 + grp) 0 fl) (fun fl => k r hp fl g gr fs))) false
        | _ => false
      | _, _ => false
    | _ => false
  | .arraylength => match st with
    | .inr (.inl R) :: r => match arG aT gT gr R with
      | some (_, q, n, .inl _) => cond ((Nat.beq q 1 || Nat.beq q 3) && Nat.ble n 2147483647) (k (.inl (liC n) :: r) hp fl g gr fs) false
      | _ => false
    | _ => false
  | _ => false
/-- what such a step gives -/
def GetR (ρ : List Int) (π : List Nat) (M : Mem) (k : List AV → List HE → List FG → List Iv → List Nat → List Lin → Bool) (o : Option (List Value × Mem)) : Prop := ∃ cst M' st' hp' fl' g' gr' fs' ρ' π', o = some (cst, M') ∧ Pre ρ ρ' ∧ Pre π π' ∧ Two (avOK ρ' π') st' cst ∧ Wd aT gT FL ρ' π' hp' fl' g' gr' fs' M' ∧ Frm aT md M M' ∧ k st' hp' fl' g' gr' fs' = true
variable {aT gT gU dep FL md}
variable {ρ : List Int} {π : List Nat} {hp : List HE} {fl : List FG} {g : List Iv} {gr : List Nat} {fs : List Lin} {M : Mem}
theorem fitF_V (hg : gOK ρ g) (hp : prOK aT π gr) (hf : fOK ρ fs) {t : FT} {v : AV} {w : Value} (h : fitF aT g gr fs t v = true) (hv : avOK ρ π v w) : ftOK aT t w := by
  unfold fitF at h
  split at h
  · obtain ⟨x, rfl, hx⟩ := hv
    exact ⟨x, rfl, inR_V hg hf h hx⟩
  · exact hv
  · rename_i q R
    split at h
    · rename_i g2 e
      cases Nat.eq_of_beq_eq_true h
      obtain ⟨a, ha, rfl⟩ := hv
      obtain ⟨a2, ha2, hg2⟩ := rsG_V hp e
      cases ha.symm.trans ha2
      exact Or.inl ⟨a, rfl, hg2⟩
    · cases h
  · rename_i q
    exact Or.inr ⟨Nat.eq_of_beq_eq_true h, hv⟩
  · cases h
theorem fits01 {x : Int32} (h1 : 0 ≤ x.toInt) (h2 : x.toInt ≤ 1) : fits .boolean (.int x) = true := by
  have e0 : (0 : Int32).toInt = 0 := rfl
  have e1 : (1 : Int32).toInt = 1 := rfl
  have : x = 0 ∨ x = 1 := by
    rcases (show x.toInt = 0 ∨ x.toInt = 1 by omega) with h | h
    · exact Or.inl (Int32.toInt_inj.mp (by rw [h, e0]))
    · exact Or.inr (Int32.toInt_inj.mp (by rw [h, e1]))
  rcases this with rfl | rfl <;> rfl
theorem fitT_V (hg : gOK ρ g) (hf : fOK ρ fs) {t : FieldType} {v : AV} {w : Value} (h : fitT g fs t v = true) (hv : avOK ρ π v w) : fits t w = true := by
  unfold fitT at h
  split at h
  · obtain ⟨x, rfl, hx⟩ := hv; rfl
  · obtain ⟨x, rfl, hx⟩ := hv
    have := inR_V hg hf h hx
    exact fits01 this.1 this.2
  · obtain ⟨x, rfl⟩ := hv; rfl
  · obtain ⟨a, -, rfl⟩ := hv; rfl
  · obtain ⟨a, -, rfl⟩ := hv; rfl
  · cases h
theorem arG_V (hp : prOK aT π gr) (hT : TM aT gT M) {R : RS} {q : Nat × Nat × Nat × ET} (h : arG aT gT gr R = some q) : ∃ a e, rsV π R = some a ∧ gNth aT a = some q.1 ∧ gNth gT q.1 = some (.inr q.2) ∧ gNth M a = some e ∧ ctOK aT (.inr q.2) e := by
  unfold arG at h
  split at h
  · rename_i grp e1
    split at h
    · rename_i t e2
      cases h
      obtain ⟨a, ha, hag⟩ := rsG_V hp e1
      obtain ⟨e, he, hc⟩ := hT.at hag e2
      exact ⟨a, e, ha, hag, e2, he, hc⟩
    · cases h
  · cases h
/-- of one kind of ints -/
theorem ct_int {q n : Nat} {sg : List SG} {e : AE} (h2 : q ≠ 2) (h : ctOK aT (.inr (q, n, .inl sg)) e) : ∃ l : List Int32, e = .inl (q, .inl l) ∧ l.length = n ∧ ∀ j x, gNth l j = some x → ∃ p : Iv, sgAt sg j = some p ∧ p.1 ≤ x.toInt ∧ x.toInt ≤ p.2 := by
  unfold ctOK at h
  split at h
  · rename_i e1; cases e1
  · rename_i e1; cases e1; exact absurd rfl h2
  · rename_i e1; cases e1; exact h
  · rename_i e1; cases e1
theorem ct_ref {q n g2 : Nat} {e : AE} (h2 : q ≠ 2) (h : ctOK aT (.inr (q, n, .inr g2)) e) : ∃ l : List (Option Nat), e = .inl (q, .inr (.inr l)) ∧ l.length = n ∧ ∀ j x, gNth l j = some x → ∃ a, x = some a ∧ gNth aT a = some g2 := by
  unfold ctOK at h
  split at h
  · rename_i e1; cases e1
  · rename_i e1; cases e1; exact absurd rfl h2
  · rename_i e1; cases e1
  · rename_i e1; cases e1; exact h
theorem ct_mk {q n : Nat} {sg : List SG} {l : List Int32} (h2 : q ≠ 2) (h1 : l.length = n) (h : ∀ j x, gNth l j = some x → ∃ p : Iv, sgAt sg j = some p ∧ p.1 ≤ x.toInt ∧ x.toInt ≤ p.2) : ctOK aT (.inr (q, n, .inl sg)) (.inl (q, .inl l)) := by
  unfold ctOK
  split
  · rename_i e1; cases e1
  · rename_i e1; cases e1; exact absurd rfl h2
  · rename_i e1; cases e1; exact ⟨l, rfl, h1, h⟩
  · rename_i e1; cases e1
theorem ct_mkr {q n g2 : Nat} {l : List (Option Nat)} (h2 : q ≠ 2) (h1 : l.length = n) (h : ∀ j x, gNth l j = some x → ∃ a, x = some a ∧ gNth aT a = some g2) : ctOK aT (.inr (q, n, .inr g2)) (.inl (q, .inr (.inr l))) := by
  unfold ctOK
  split
  · rename_i e1; cases e1
  · rename_i e1; cases e1; exact absurd rfl h2
  · rename_i e1; cases e1
  · rename_i e1; cases e1; exact ⟨l, rfl, h1, h⟩
theorem flD_V (hd : depOK aT dep FL) {c k : Nat} {M' : Mem} (hfl : ∀ x ∈ fl, fgOK FL ρ M x) (hF : Frm aT [(c, k)] M M') : ∀ x ∈ flD dep c k fl, fgOK FL ρ M' x := by
  intro x hx
  obtain ⟨h1, h2⟩ := List.mem_filter.mp hx
  obtain ⟨vs, i1, i2⟩ := hfl x h1
  refine ⟨vs, i1, hd.1 x.1 vs [(c, k)] M M' hF (fun q hq => ?_) i2⟩
  rw [List.mem_singleton] at hq
  subst hq
  intro hm
  rw [mdIn_iff.mpr hm] at h2
  cases h2
theorem TM.put {M : Mem} (hT : TM aT gT M) {a : Nat} {e : AE} (h : ∀ g t, gNth aT a = some g → gNth gT g = some t → ctOK aT t e) : TM aT gT (gPut M a e) := by
  refine ⟨by rw [put_len]; exact hT.1, fun a2 g2 t h1 h2 => ?_⟩
  rw [nth_put]
  by_cases e2 : a2 = a
  · subst e2
    have hl : a2 < M.length := by
      have := gNth_lt _ _ _ h1
      have := hT.1
      omega
    rw [if_pos ⟨rfl, hl⟩]
    exact ⟨e, rfl, h g2 t h1 h2⟩
  · rw [if_neg (fun q => e2 q.1)]
    exact hT.2 a2 g2 t h1 h2
theorem kfA_V {x a c k : Nat} {R : RS} {v : AV} {w : Value} (hR : rsV π R = some a) (hv : avOK ρ π v w) (h : kfA x R c k v = true) : kfP x a c k w := by
  unfold kfA at h
  obtain ⟨h1, h⟩ := and_t h
  refine ⟨Nat.eq_of_beq_eq_true h1, ?_⟩
  cases h2 : Nat.beq c 8 with
  | true =>
    rw [h2] at h
    obtain ⟨h3, h4⟩ := and_t (show (Nat.beq k 0 && rsEq R (.inl 137)) = true from h)
    refine Or.inl ⟨Nat.eq_of_beq_eq_true h2, Nat.eq_of_beq_eq_true h3, ?_⟩
    cases rsEq_V h4
    cases hR
    rfl
  | false =>
    rw [h2] at h
    obtain ⟨h3, h4⟩ := and_t h
    obtain ⟨h4, h5⟩ := and_t h4
    refine Or.inr ⟨Nat.eq_of_beq_eq_true h3, Nat.eq_of_beq_eq_true h4, ?_⟩
    cases v with
    | inr q => cases h5
    | inl L =>
      obtain ⟨h6, h7⟩ := and_t (show (L.1.isEmpty && iEq L.2 0) = true from h5)
      obtain ⟨x, rfl, hx⟩ := hv
      have e2 : L.2 = 0 := iEq_V h7
      have e1 : L.1 = [] := by
        cases hl : L.1 with
        | nil => rfl
        | cons _ _ => rw [hl] at h6; cases h6
      have e3 : L = liC 0 := Prod.ext e1 e2
      rw [e3] at hx
      exact congrArg Value.int (Int32.toInt_inj.mp (Option.some.inj ((liC_V (ρ := ρ) 0).symm.trans hx)).symm)
theorem flF_V (hd : depOK aT dep FL) (hW : Wd aT gT FL ρ π hp fl g gr fs M) {R : RS} {v : AV} {a c k : Nat} {us : List Value} {w : Value} (hR : rsV π R = some a) (hv : avOK ρ π v w) (hM : gNth M a = some (.inr (c, us))) : ∀ x ∈ flF dep R v c k fl, fgOK FL ρ (gPut M a (.inr (c, gPut us k w))) x := by
  intro x hx
  obtain ⟨h1, h2⟩ := List.mem_filter.mp hx
  obtain ⟨vs, i1, i2⟩ := hW.2.1 x h1
  rw [Bool.or_eq_true] at h2
  rcases h2 with h2 | h2
  · refine ⟨vs, i1, hd.1 x.1 vs [(c, k)] M _ (Frm.fld hM List.mem_cons_self) (fun q hq => ?_) i2⟩
    rw [List.mem_singleton] at hq
    subst hq
    intro hm
    rw [mdIn_iff.mpr hm] at h2
    cases h2
  · exact ⟨vs, i1, hd.2.2.2.2.2 x.1 vs M a c k us w (kfA_V hR hv h2) hM i2⟩
/-- a field written -/
theorem Wd.fld (hd : depOK aT dep FL) (hW : Wd aT gT FL ρ π hp fl g gr fs M) {R : RS} {a ci f grp : Nat} {vs : List Value} {fts : List FT} {ft : FT} {v : AV} {w : Value} (hR : rsV π R = some a) (ha : gNth aT a = some grp) (hg : gNth gT grp = some (.inl (ci, fts))) (hM : gNth M a = some (.inr (ci, vs))) (hft : gNth fts f = some ft) (hv : avOK ρ π v w) (hfit : ftOK aT ft w) : Wd aT gT FL ρ π ((R, .inl f, v) :: hpD aT gT gr ci f hp) (flF dep R v ci f fl) g gr fs (gPut M a (.inr (ci, gPut vs f w))) := by
  have hlt := gNth_lt _ _ _ hM
  obtain ⟨e, he, vs2, e2, hlen, hfl2⟩ := hW.2.2.2.2.2.at ha hg
  cases he.symm.trans hM
  cases e2
  have hf1 : f < vs.length := by rw [hlen]; exact gNth_lt _ _ _ hft
  have hW2 : Wd aT gT FL ρ π (hpD aT gT gr ci f hp) (flF dep R v ci f fl) g gr fs (gPut M a (.inr (ci, gPut vs f w))) := by
    refine ⟨fun e he => ?_, flF_V hd hW hR hv hM, hW.2.2.1, hW.2.2.2.1, hW.2.2.2.2.1, hW.2.2.2.2.2.put (fun g2 t h1 h2 => ?_)⟩
    · obtain ⟨h1, h2⟩ := List.mem_filter.mp he
      obtain ⟨R2, q, v2⟩ := e
      obtain ⟨a2, ha2, h3⟩ := hW.1 _ h1
      refine ⟨a2, ha2, ?_⟩
      rcases q with f2 | L
      · obtain ⟨c2, vs2, w2, q1, q2, q3⟩ := h3
        by_cases e : a2 = a
        · subst e
          cases q1.symm.trans hM
          refine ⟨ci, gPut vs f w, w2, by rw [nth_put, if_pos ⟨rfl, hlt⟩], ?_, q3⟩
          rw [nth_put, if_neg]
          · exact q2
          · rintro ⟨rfl, -⟩
            have h2 : (!(Nat.beq f2 f2 && clsIs aT gT gr R2 ci)) = true := h2
            have h4 : clsIs aT gT gr R2 ci = true := by
              unfold clsIs
              split
              · rename_i g2 e5
                obtain ⟨a3, ha3, hg3⟩ := rsG_V hW.2.2.2.1 e5
                cases ha3.symm.trans ha2
                cases hg3.symm.trans ha
                rw [hg]
                exact Nat.beq_refl _
              · rfl
            have h5 : Nat.beq f2 f2 = true := Nat.beq_refl _
            rw [h5, h4] at h2
            cases h2
        · exact ⟨c2, vs2, w2, by rw [nth_put, if_neg (fun q => e q.1)]; exact q1, q2, q3⟩
      · obtain ⟨t, l, i, x, q1, q2⟩ := h3
        by_cases e : a2 = a
        · subst e
          cases q1.symm.trans hM
        · exact ⟨t, l, i, x, by rw [nth_put, if_neg (fun q => e q.1)]; exact q1, q2⟩
    · cases h1.symm.trans ha
      cases h2.symm.trans hg
      refine ⟨_, rfl, by rw [put_len]; exact hlen, fun k t2 ht2 => ?_⟩
      rw [nth_put]
      by_cases e : k = f
      · subst e
        cases ht2.symm.trans hft
        rw [if_pos ⟨rfl, hf1⟩]
        exact ⟨w, rfl, hfit⟩
      · rw [if_neg (fun q => e q.1)]
        exact hfl2 k t2 ht2
  exact hW2.know ⟨a, hR, ci, gPut vs f w, w, by rw [nth_put, if_pos ⟨rfl, hlt⟩], by rw [nth_put, if_pos ⟨rfl, hf1⟩], hv⟩
/-- a row written -/
theorem Wd.row (hd : depOK aT dep FL) (hW : Wd aT gT FL ρ π hp fl g gr fs M) {a grp t : Nat} {x y : AC} {ct : CT} (ha : gNth aT a = some grp) (hg : gNth gT grp = some ct) (hM : gNth M a = some (.inl (t, x))) (hc : ctOK aT ct (.inl (t, y))) : Wd aT gT FL ρ π (hpA aT gr grp hp) (flD dep (1000 + grp) 0 fl) g gr fs (gPut M a (.inl (t, y))) := by
  refine ⟨fun e he => ?_, flD_V hd hW.2.1 (Frm.row hM ha List.mem_cons_self), hW.2.2.1, hW.2.2.2.1, hW.2.2.2.2.1, hW.2.2.2.2.2.put (fun g2 t h1 h2 => ?_)⟩
  · obtain ⟨h1, h2⟩ := List.mem_filter.mp he
    obtain ⟨R2, q, v2⟩ := e
    obtain ⟨a2, ha2, h3⟩ := hW.1 _ h1
    refine ⟨a2, ha2, ?_⟩
    rcases q with f2 | L
    · obtain ⟨c2, vs2, w2, q1, q2, q3⟩ := h3
      by_cases e : a2 = a
      · subst e
        cases q1.symm.trans hM
      · exact ⟨c2, vs2, w2, by rw [nth_put, if_neg (fun q => e q.1)]; exact q1, q2, q3⟩
    · obtain ⟨t, l, i, x, q1, q2⟩ := h3
      by_cases e : a2 = a
      · subst e
        have h2 : (!grIs aT gr R2 grp) = true := h2
        have h4 : grIs aT gr R2 grp = true := by
          unfold grIs
          split
          · rename_i g2 e5
            obtain ⟨a3, ha3, hg3⟩ := rsG_V hW.2.2.2.1 e5
            cases ha3.symm.trans ha2
            cases hg3.symm.trans ha
            exact Nat.beq_refl _
          · rfl
        rw [h4] at h2
        cases h2
      · exact ⟨t, l, i, x, by rw [nth_put, if_neg (fun q => e q.1)]; exact q1, q2⟩
  · cases h1.symm.trans ha
    cases h2.symm.trans hg
    exact hc
theorem hpK_V (hW : Wd aT gT FL ρ π hp fl g gr fs M) {L : Lin} {d : Int} {i : Nat} (hL : liV ρ L = some (i : Int)) (h : hpK hp g fs L d = true) : ∃ (t : Nat) (l : List Int32) (j : Nat) (y : Int32), gNth M 635 = some (.inl (t, .inl l)) ∧ (j : Int) = i - d ∧ gNth l j = some y ∧ 1 ≤ y.toInt := by
  obtain ⟨e, he, h⟩ := List.any_eq_true.mp h
  rw [Bool.and_eq_true] at h
  obtain ⟨h1, h2⟩ := h
  have e1 := rsEq_V h1
  obtain ⟨R, q, v⟩ := e
  cases e1
  obtain ⟨a, ha, h3⟩ := hW.1 _ he
  cases ha
  rcases q with q | L2
  · cases h2
  · rcases v with W | v
    · have h2 : (zz g fs (liAdc (liSub L2 L) d) && nn g fs (liAdc W (-1))) = true := h2
      rw [Bool.and_eq_true] at h2
      obtain ⟨t, l, j, y, q1, q2, q3, q4⟩ := h3
      obtain ⟨y2, q5, q6⟩ := q4
      cases q5
      have k1 := zz_V hW.2.2.1 hW.2.2.2.2.1 h2.1 (liAdc_V d (liSub_V q2 hL))
      have k2 := nn_V hW.2.2.1 hW.2.2.2.2.1 h2.2 (liAdc_V (-1) q6)
      exact ⟨t, l, j, y, q1, by omega, q3, by omega⟩
    · cases h2
theorem mod6 {L : Lin} {i : Nat} {r : Nat} (hL : liV ρ L = some (i : Int)) (hd : lnDv 6 L.1 = true) (hi : 13 ≤ i) (h : iEq ((L.2 - 13) % 6) r = true) : (i - 13) % 6 = r := by
  obtain ⟨x, hx, e⟩ := liV_inv hL
  obtain ⟨q, hq⟩ := lnDv_V hd hx
  have h := iEq_V h
  have hq : x = 6 * q := hq
  omega
theorem mod6n {L : Lin} {i : Nat} {r : Nat} (hL : liV ρ L = some (i : Int)) (hd : lnDv 6 L.1 = true) (hi : 13 ≤ i) (h : iEq ((L.2 - 13) % 6) r = false) : (i - 13) % 6 ≠ r := by
  obtain ⟨x, hx, e⟩ := liV_inv hL
  obtain ⟨q, hq⟩ := lnDv_V hd hx
  have hq : x = 6 * q := hq
  intro h2
  have : ((L.2 - 13) % 6) = (r : Int) := by omega
  rw [this] at h
  have h3 : ∀ n : Nat, iEq (n : Int) (n : Int) = true := fun n => Nat.beq_refl n
  rw [h3] at h
  cases h
theorem oldD_V (hW : Wd aT gT FL ρ π hp fl g gr fs M) {a t i : Nat} {R : RS} {L V : Lin} {l : List Int32} {v s d : Int} (hR : rsV π R = some a) (hL : liV ρ L = some (i : Int)) (hV : liV ρ V = some v) (hM : gNth M a = some (.inl (t, .inl l))) (h : oldD R L V hp g fs s d = true) : ∃ y : Int32, gNth l i = some y ∧ 0 ≤ s * (y.toInt - v) + d := by
  unfold oldD at h
  split at h
  · rename_i W e
    obtain ⟨a2, ha2, t2, l2, j, y, q1, q2, q3, q4⟩ := hW.1 _ (hpG_V e)
    cases hR.symm.trans ha2
    cases q1.symm.trans hM
    have q2 : liV ρ L = some (j : Int) := q2
    rw [hL] at q2
    have e3 : i = j := by have := Option.some.inj q2; omega
    subst e3
    obtain ⟨y2, q5, q6⟩ := q4
    cases q5
    exact ⟨y, q3, nn_V hW.2.2.1 hW.2.2.2.2.1 h (liAdc_V d (liMul_V s (liSub_V q6 hV)))⟩
  · cases h
theorem or_beq {x a b : Nat} (h : (Nat.beq x a || Nat.beq x b) = true) : x = a ∨ x = b := by
  rw [Bool.or_eq_true] at h
  exact h.imp Nat.eq_of_beq_eq_true Nat.eq_of_beq_eq_true
theorem kpA_V (hW : Wd aT gT FL ρ π hp fl g gr fs M) {x a t i : Nat} {R : RS} {L V : Lin} {l : List Int32} {v : Int} (hR : rsV π R = some a) (hL : liV ρ L = some (i : Int)) (hV : liV ρ V = some v) (hM : gNth M a = some (.inl (t, .inl l))) (h : kpA x R L V hp g fs = true) : kpP x a l i v := by
  unfold kpA at h
  cases h635 : rsEq R (.inl 635) with
  | false =>
    rw [h635] at h
    refine Or.inr ?_
    cases h654 : rsEq R (.inl 654) with
    | true =>
      rw [h654] at h
      cases rsEq_V h654
      cases hR
      have h : ((Nat.beq x 44 || Nat.beq x 46) && oldD (.inl 654) L V hp g fs 1 0) = true := h
      rw [Bool.and_eq_true] at h
      obtain ⟨y, e1, e2⟩ := oldD_V hW rfl hL hV hM h.2
      exact Or.inl ⟨Or.inl ⟨rfl, or_beq h.1⟩, y, e1, by omega⟩
    | false =>
      rw [h654] at h
      cases h655 : rsEq R (.inl 655) with
      | true =>
        rw [h655] at h
        cases rsEq_V h655
        cases hR
        cases h64 : Nat.beq x 64 with
        | true =>
          rw [h64] at h
          have h : nn g fs (liAdc V (-1)) = true := h
          have := nn_V hW.2.2.1 hW.2.2.2.2.1 h (liAdc_V _ hV)
          exact Or.inr (Or.inl ⟨rfl, Nat.eq_of_beq_eq_true h64, by omega⟩)
        | false =>
          rw [h64] at h
          have h : ((Nat.beq x 48 || Nat.beq x 50) && oldD (.inl 655) L V hp g fs 1 0) = true := h
          rw [Bool.and_eq_true] at h
          obtain ⟨y, e1, e2⟩ := oldD_V hW rfl hL hV hM h.2
          exact Or.inl ⟨Or.inr ⟨rfl, or_beq h.1⟩, y, e1, by omega⟩
      | false =>
        rw [h655] at h
        have h : (rsEq R (.inl 650) && ((Nat.beq x 40 || Nat.beq x 42) && oldD R L V hp g fs (-1) 0)) = true := h
        rw [Bool.and_eq_true, Bool.and_eq_true] at h
        obtain ⟨h1, h2, h3⟩ := h
        cases rsEq_V h1
        cases hR
        obtain ⟨y, e1, e2⟩ := oldD_V hW rfl hL hV hM h3
        exact Or.inr (Or.inr ⟨rfl, or_beq h2, y, e1, by omega⟩)
  | true =>
  rw [h635] at h
  cases rsEq_V h635
  cases hR
  refine Or.inl ⟨rfl, ?_⟩
  cases hx0 : Nat.beq x 20 || Nat.beq x 21 with
  | true =>
    rw [hx0] at h
    have h : nn g fs (liAdc L (-2)) = true := h
    have h := nn_V hW.2.2.1 hW.2.2.2.2.1 h (liAdc_V _ hL)
    exact Or.inl ⟨or_beq hx0, by omega⟩
  | false =>
  rw [hx0] at h
  refine Or.inr ?_
  cases hx : Nat.beq x 26 with
  | true =>
    rw [hx] at h
    have h : (nn g fs (liAdc L (-158)) || nn g fs (liSub (liC 156) L)) = true := h
    rw [Bool.or_eq_true] at h
    refine Or.inl ⟨Nat.eq_of_beq_eq_true hx, ?_⟩
    rcases h with h | h
    · have := nn_V hW.2.2.1 hW.2.2.2.2.1 h (liAdc_V _ hL)
      omega
    · have := nn_V hW.2.2.1 hW.2.2.2.2.1 h (liSub_V (liC_V 156) hL)
      omega
  | false =>
    rw [hx] at h
    have h : (Nat.beq x 28 && (nn g fs (liAdc L (-157)) || (inR g fs L 12 12 || (inR g fs L 13 156 && (lnDv 6 L.1 && cond (iEq ((L.2 - 13) % 6) 3) (nn g fs (liAdc V (-1))) (cond (iEq ((L.2 - 13) % 6) 5) (nn g fs (liMul (-1) V) || hpK hp g fs L 2) true)))))) = true := h
    rw [Bool.and_eq_true] at h
    obtain ⟨h2, h⟩ := h
    refine Or.inr ⟨Nat.eq_of_beq_eq_true h2, ?_⟩
    rw [Bool.or_eq_true] at h
    rcases h with h | h
    · have := nn_V hW.2.2.1 hW.2.2.2.2.1 h (liAdc_V _ hL)
      exact Or.inr (Or.inl (by omega))
    rw [Bool.or_eq_true] at h
    rcases h with h | h
    · have := inR_V hW.2.2.1 hW.2.2.2.2.1 h hL
      exact Or.inl (by omega)
    rw [Bool.and_eq_true, Bool.and_eq_true] at h
    obtain ⟨h3, h4, h⟩ := h
    have h5 := inR_V hW.2.2.1 hW.2.2.2.2.1 h3 hL
    refine Or.inr (Or.inr ⟨by omega, by omega, ?_⟩)
    cases h6 : iEq ((L.2 - 13) % 6) 3 with
    | true =>
      rw [h6] at h
      have := nn_V hW.2.2.1 hW.2.2.2.2.1 h (liAdc_V _ hV)
      exact Or.inr (Or.inl ⟨mod6 (r := 3) hL h4 (by omega) h6, by omega⟩)
    | false =>
      rw [h6] at h
      cases h7 : iEq ((L.2 - 13) % 6) 5 with
      | true =>
        rw [h7] at h
        have h : (nn g fs (liMul (-1) V) || hpK hp g fs L 2) = true := h
        rw [Bool.or_eq_true] at h
        refine Or.inr (Or.inr ⟨mod6 (r := 5) hL h4 (by omega) h7, ?_⟩)
        rcases h with h | h
        · have := nn_V hW.2.2.1 hW.2.2.2.2.1 h (liMul_V (-1) hV)
          exact Or.inl (by omega)
        · obtain ⟨t2, l2, j, y, q1, q2, q3, q4⟩ := hpK_V hW hL h
          cases q1.symm.trans hM
          have : j = i - 2 := by omega
          rw [this] at q3
          exact Or.inr ⟨y, q3, q4⟩
      | false => exact Or.inl ⟨mod6n (r := 3) hL h4 (by omega) h6, mod6n (r := 5) hL h4 (by omega) h7⟩
theorem upA_V (hW : Wd aT gT FL ρ π hp fl g gr fs M) {x a t i : Nat} {R : RS} {L V : Lin} {l : List Int32} {v : Int} (hR : rsV π R = some a) (hL : liV ρ L = some (i : Int)) (hV : liV ρ V = some v) (hM : gNth M a = some (.inl (t, .inl l))) (h : upA x R L V hp g fs = true) : upP x a l i v := by
  unfold upA at h
  cases h654 : rsEq R (.inl 654) with
  | true =>
    rw [h654] at h
    cases rsEq_V h654
    cases hR
    have h : (Nat.beq x 46 && oldD (.inl 654) L V hp g fs 1 (-1)) = true := h
    rw [Bool.and_eq_true] at h
    obtain ⟨y, e1, e2⟩ := oldD_V hW rfl hL hV hM h.2
    exact Or.inl ⟨Or.inl ⟨rfl, Nat.eq_of_beq_eq_true h.1⟩, y, e1, by omega⟩
  | false =>
    rw [h654] at h
    cases h655 : rsEq R (.inl 655) with
    | true =>
      rw [h655] at h
      cases rsEq_V h655
      cases hR
      have h : (Nat.beq x 50 && oldD (.inl 655) L V hp g fs 1 (-1)) = true := h
      rw [Bool.and_eq_true] at h
      obtain ⟨y, e1, e2⟩ := oldD_V hW rfl hL hV hM h.2
      exact Or.inl ⟨Or.inr ⟨rfl, Nat.eq_of_beq_eq_true h.1⟩, y, e1, by omega⟩
    | false =>
      rw [h655] at h
      have h : (rsEq R (.inl 650) && (Nat.beq x 42 && oldD R L V hp g fs (-1) (-1))) = true := h
      rw [Bool.and_eq_true, Bool.and_eq_true] at h
      obtain ⟨h1, h2, h3⟩ := h
      cases rsEq_V h1
      cases hR
      obtain ⟨y, e1, e2⟩ := oldD_V hW rfl hL hV hM h3
      exact Or.inr ⟨rfl, Nat.eq_of_beq_eq_true h2, y, e1, by omega⟩
theorem gdA_V (hd : depOK aT dep FL) (hW : Wd aT gT FL ρ π hp fl g gr fs M) {a i t : Nat} {R : RS} {L : Lin} {l : List Int32} {x : Int32} (hR : rsV π R = some a) (hL : liV ρ L = some (i : Int)) (hM : gNth M a = some (.inl (t, .inl l))) (hx : gNth l i = some x) (h : gdA R L hp fl g fs = true) : 1 ≤ x.toInt := by
  unfold gdA at h
  rw [Bool.or_eq_true] at h
  rcases h with h | h
  · unfold gdW at h
    rw [Bool.and_eq_true] at h
    cases rsEq_V h.1
    cases hR
    obtain ⟨f, hf, h2⟩ := List.any_eq_true.mp h.2
    rw [Bool.and_eq_true] at h2
    obtain ⟨vs, i1, i2⟩ := hW.2.1 f hf
    obtain ⟨fx, fs2⟩ := f
    cases Nat.eq_of_beq_eq_true h2.1
    rcases fs2 with _ | ⟨K, _ | ⟨K2, fs2⟩⟩
    · cases h2.2
    · rcases vs with _ | ⟨z, _ | ⟨z2, vs⟩⟩
      · exact i1.elim
      · have h3 : zz g fs (liSub K L) = true := h2.2
        have h4 := zz_V hW.2.2.1 hW.2.2.2.2.1 h3 (liSub_V i1.1 hL)
        have h5 : z = (i : Int) := by omega
        subst h5
        exact hd.2.2.2.2.1 M t l i x i2 hM hx
      · exact i1.2.elim
    · cases h2.2
  rw [Bool.and_eq_true, Bool.and_eq_true, Bool.and_eq_true, Bool.and_eq_true, Bool.and_eq_true] at h
  obtain ⟨h1, h2, h3, h4, h5, h6⟩ := h
  cases rsEq_V h1
  cases hR
  obtain ⟨f, hf, h2⟩ := List.any_eq_true.mp h2
  rw [Bool.and_eq_true] at h2
  obtain ⟨vs, i1, i2⟩ := hW.2.1 f hf
  obtain ⟨fx, fs2⟩ := f
  cases Nat.eq_of_beq_eq_true h2.1
  have e0 : fs2 = [] := List.isEmpty_iff.mp h2.2
  subst e0
  have e1 : vs = [] := by
    cases vs with
    | nil => rfl
    | cons _ _ => exact i1.elim
  subst e1
  have h7 := inR_V hW.2.2.1 hW.2.2.2.2.1 h3 hL
  obtain ⟨t2, l2, j, y, q1, q2, q3, q4⟩ := hpK_V hW hL h6
  cases q1.symm.trans hM
  have : j = i + 2 := by omega
  rw [this] at q3
  exact hd.2.2.2.1 M t l i y x i2 hM (by omega) (by omega) (mod6 (r := 3) hL h4 (by omega) h5) q3 q4 hx
theorem flK_V (hd : depOK aT dep FL) (hW : Wd aT gT FL ρ π hp fl g gr fs M) {R : RS} {L V : Lin} {a t i grp : Nat} {l : List Int32} {v : Int32} (hR : rsV π R = some a) (hL : liV ρ L = some (i : Int)) (hV : liV ρ V = some v.toInt) (hM : gNth M a = some (.inl (t, .inl l))) (ha : gNth aT a = some grp) : ∀ x ∈ flK dep R L V hp g fs (1000 + grp) 0 fl, fgOK FL ρ (gPut M a (.inl (t, .inl (gPut l i v)))) x := by
  intro x hx
  rcases List.mem_append.mp hx with hx | hx
  · obtain ⟨y, hy, rfl⟩ := List.mem_map.mp hx
    obtain ⟨h1, h2⟩ := List.mem_filter.mp hy
    obtain ⟨vs, i1, i2⟩ := hW.2.1 y h1
    exact ⟨vs, i1, hd.2.2.1 y.1 vs M a t l i v (upA_V hW hR hL hV hM h2) hM i2⟩
  obtain ⟨h1, h2⟩ := List.mem_filter.mp hx
  obtain ⟨vs, i1, i2⟩ := hW.2.1 x h1
  rw [Bool.or_eq_true] at h2
  rcases h2 with h2 | h2
  · refine ⟨vs, i1, hd.1 x.1 vs [(1000 + grp, 0)] M _ (Frm.row hM ha List.mem_cons_self) (fun q hq => ?_) i2⟩
    rw [List.mem_singleton] at hq
    subst hq
    intro hm
    rw [mdIn_iff.mpr hm] at h2
    cases h2
  · exact ⟨vs, i1, hd.2.1 x.1 vs M a t l i v (kpA_V hW hR hL hV hM h2) hM i2⟩
/-- a row of ints written at one place -/
theorem Wd.rowI (hd : depOK aT dep FL) (hW : Wd aT gT FL ρ π hp fl g gr fs M) {a grp t i : Nat} {l : List Int32} {v : Int32} {ct : CT} {R : RS} {L V : Lin} (hR : rsV π R = some a) (hV : liV ρ V = some v.toInt) (hL : liV ρ L = some (i : Int)) (ha : gNth aT a = some grp) (hg : gNth gT grp = some ct) (hM : gNth M a = some (.inl (t, .inl l))) (hc : ctOK aT ct (.inl (t, .inl (gPut l i v)))) : Wd aT gT FL ρ π (hpW aT g fs gr grp L hp) (flK dep R L V hp g fs (1000 + grp) 0 fl) g gr fs (gPut M a (.inl (t, .inl (gPut l i v)))) := by
  have hlt := gNth_lt _ _ _ hM
  refine ⟨fun e he => ?_, flK_V hd hW hR hL hV hM ha, hW.2.2.1, hW.2.2.2.1, hW.2.2.2.2.1, hW.2.2.2.2.2.put (fun g2 t h1 h2 => ?_)⟩
  · obtain ⟨h1, h2⟩ := List.mem_filter.mp he
    obtain ⟨R2, q, v2⟩ := e
    obtain ⟨a2, ha2, h3⟩ := hW.1 _ h1
    refine ⟨a2, ha2, ?_⟩
    rcases q with f2 | L2
    · obtain ⟨c2, vs2, w2, q1, q2, q3⟩ := h3
      by_cases e : a2 = a
      · subst e
        cases q1.symm.trans hM
      · exact ⟨c2, vs2, w2, by rw [nth_put, if_neg (fun q => e q.1)]; exact q1, q2, q3⟩
    · obtain ⟨t2, l2, j, x, q1, q2, q3, q4⟩ := h3
      by_cases e : a2 = a
      · subst e
        cases q1.symm.trans hM
        have h2 : (!grIs aT gr R2 grp || (nn g fs (liAdc (liSub L2 L) (-1)) || nn g fs (liAdc (liSub L L2) (-1)))) = true := h2
        have h4 : grIs aT gr R2 grp = true := by
          unfold grIs
          split
          · rename_i g2 e5
            obtain ⟨a3, ha3, hg3⟩ := rsG_V hW.2.2.2.1 e5
            cases ha3.symm.trans ha2
            cases hg3.symm.trans ha
            exact Nat.beq_refl _
          · rfl
        rw [h4] at h2
        have h2 : (nn g fs (liAdc (liSub L2 L) (-1)) || nn g fs (liAdc (liSub L L2) (-1))) = true := h2
        have hne : j ≠ i := by
          rw [Bool.or_eq_true] at h2
          have q2 : liV ρ L2 = some (j : Int) := q2
          rcases h2 with h2 | h2
          · have := nn_V hW.2.2.1 hW.2.2.2.2.1 h2 (liAdc_V _ (liSub_V q2 hL))
            omega
          · have := nn_V hW.2.2.1 hW.2.2.2.2.1 h2 (liAdc_V _ (liSub_V hL q2))
            omega
        exact ⟨t, gPut l i v, j, x, by rw [nth_put, if_pos ⟨rfl, hlt⟩], q2, by rw [nth_put, if_neg (fun q => hne q.1)]; exact q3, q4⟩
      · exact ⟨t2, l2, j, x, by rw [nth_put, if_neg (fun q => e q.1)]; exact q1, q2, q3, q4⟩
  · cases h1.symm.trans ha
    cases h2.symm.trans hg
    exact hc
theorem sgAll_V {sg : List SG} {lo hi : Int} (h : sgAll sg lo hi = true) {i : Nat} {p : Iv} (hp : sgAt sg i = some p) : p.1 ≤ lo ∧ hi ≤ p.2 := by
  induction sg with
  | nil => cases hp
  | cons s r ih =>
    obtain ⟨s1, s2, w, l⟩ := s
    have h : (l.all (fun p => iLe p.1 lo && iLe hi p.2) && sgAll r lo hi) = true := h
    rw [Bool.and_eq_true] at h
    have hp : cond (Nat.ble s1 i && Nat.blt i s2) (gNth l ((i - s1) % w)) (sgAt r i) = some p := hp
    cases hb : Nat.ble s1 i && Nat.blt i s2 with
    | true =>
      rw [hb] at hp
      have := List.all_eq_true.mp h.1 p (gNth_mem _ _ _ hp)
      rw [Bool.and_eq_true] at this
      exact ⟨iLe_iff.mp this.1, iLe_iff.mp this.2⟩
    | false =>
      rw [hb] at hp
      exact ih h.2 hp
theorem lstI_V : ∀ (l : List Int32) (p : Iv), lstI l = some p → ∀ (j : Nat) (x : Int32), gNth l j = some x → p.1 ≤ x.toInt ∧ x.toInt ≤ p.2 := by
  intro l
  induction l with
  | nil => intro p h; cases h
  | cons y r ih =>
    intro p h j x hx
    unfold lstI at h
    cases j with
    | zero =>
      cases hx
      split at h
      · cases h; exact ⟨Int.le_refl _, Int.le_refl _⟩
      · cases h; exact ⟨iMin_le.1, le_iMax.1⟩
    | succ j =>
      have hx : gNth r j = some x := hx
      split at h
      · rename_i e
        cases r with
        | nil => cases hx
        | cons z r =>
          unfold lstI at e
          split at e <;> cases e
      · rename_i q e
        cases h
        have := ih q e j x hx
        exact ⟨Int.le_trans iMin_le.2 this.1, Int.le_trans this.2 le_iMax.2⟩
theorem nar_b (x : Int32) : -128 ≤ (vp_nar .byte x).toInt ∧ (vp_nar .byte x).toInt ≤ 127 := i2b_in x
theorem nar_z (x : Int32) : 0 ≤ (vp_nar .boolean x).toInt ∧ (vp_nar .boolean x).toInt ≤ 1 := by
  have e : vp_nar .boolean x = x &&& 1 := rfl
  rw [e]
  obtain ⟨m, hm, e2⟩ := and_le x (n := 1) (by decide)
  have e3 : nI 1 = 1 := rfl
  rw [e3] at e2
  rw [e2, nI_toInt (by omega)]
  omega
end GET
