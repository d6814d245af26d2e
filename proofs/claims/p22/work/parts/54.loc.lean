/-! THE CHECKER, 5: locals, branches -/
noncomputable def setA (lo : List AV) (j : Nat) (v : AV) : Option (List AV) := match j with
  | 0 => cond (Nat.blt 0 lo.length) (some (gPut lo 0 v)) none
  | i + 1 => match gNth lo i with
    | some w => cond (avW1 w && Nat.blt (i + 1) lo.length) (some (gPut lo (i + 1) v)) none
    | none => none
noncomputable def fAV {β : Type} (l : List AV) : (List AV → β) → β := gSp l
noncomputable def ldA (lo : List AV) (st : List AV) (j : Nat) (kd : Nat) (k : List AV → List AV → Bool) : Bool := match gNth lo j with
  | some (.inl L) => cond (Nat.beq kd 0) (k lo (.inl L :: st)) false
  | some (.inr (.inl R)) => cond (Nat.beq kd 1) (k lo (.inr (.inl R) :: st)) false
  | some (.inr (.inr 1)) => cond (Nat.beq kd 2) (k lo (.inr (.inr 1) :: st)) false
  | some (.inr (.inr (j + 3))) => cond (Nat.beq kd 1) (k lo (.inr (.inr (j + 3)) :: st)) false
  | _ => false
noncomputable def avK (kd : Nat) (v : AV) : Bool := match v with
  | .inl _ => Nat.beq kd 0
  | .inr (.inl _) => Nat.beq kd 1
  | _ => false
theorem avK_V {ρ : List Int} {π : List Nat} {kd : Nat} {v : AV} {w : Value} (h : avK kd v = true) (hv : avOK ρ π v w) : (kd = 0 ∧ ∃ x, w = .int x) ∨ (kd = 1 ∧ ∃ a, w = .ref a) := by
  unfold avK at h
  split at h
  · obtain ⟨x, rfl, -⟩ := hv
    exact Or.inl ⟨Nat.eq_of_beq_eq_true h, x, rfl⟩
  · obtain ⟨a, -, rfl⟩ := hv
    exact Or.inr ⟨Nat.eq_of_beq_eq_true h, a, rfl⟩
  · cases h
theorem lo_n {ρ : List Int} {π : List Nat} : loOK ρ π (.inr (.inr 0)) none := fun x hx => by cases hx
noncomputable def stA (lo : List AV) (st : List AV) (j : Nat) (kd : Nat) (k : List AV → List AV → Bool) : Bool := match st with
  | v :: r => cond (avK kd v) (match setA lo j v with
    | some lo' => gSp lo' (fun lo' => k lo' r)
    | none => false) false
  | [] => false
noncomputable def st2A (lo : List AV) (st : List AV) (j : Nat) (k : List AV → List AV → Bool) : Bool := match st with
  | .inr (.inr 1) :: r => match setA lo j (.inr (.inr 1)) with
    | some lo' => cond (Nat.blt (j + 1) lo.length) (gSp (gPut lo' (j + 1) (.inr (.inr 0))) (fun lo' => k lo' r)) false
    | none => false
  | _ => false
noncomputable def locA (i : Instr) (lo st : List AV) (g : List Iv) (fs : List Lin) (k : List AV → List AV → List Iv → List Lin → Bool) : Bool := match i with
  | .iload_n j => ldA lo st j 0 (fun lo st => k lo st g fs)
  | .iload j => ldA lo st j 0 (fun lo st => k lo st g fs)
  | .aload_n j => ldA lo st j 1 (fun lo st => k lo st g fs)
  | .aload j => ldA lo st j 1 (fun lo st => k lo st g fs)
  | .lload_n j => ldA lo st j 2 (fun lo st => k lo st g fs)
  | .istore_n j => stA lo st j 0 (fun lo st => k lo st g fs)
  | .istore j => stA lo st j 0 (fun lo st => k lo st g fs)
  | .astore_n j => stA lo st j 1 (fun lo st => k lo st g fs)
  | .astore j => stA lo st j 1 (fun lo st => k lo st g fs)
  | .lstore_n j => st2A lo st j (fun lo st => k lo st g fs)
  | .iinc j n => match gNth lo j with
    | some (.inl L) => cond (ivIn (n, n)) (exA (liAdc L n) [] g fs (fun q g fs => match q with
      | v :: _ => match setA lo j v with
        | some lo' => gSp lo' (fun lo' => k lo' st g fs)
        | none => false
      | [] => false)) false
    | _ => false
  | _ => false
def LocR (ρ : List Int) (π : List Nat) (k : List AV → List AV → List Iv → List Lin → Bool) (o : Option (Lo × List Value)) : Prop := ∃ cl cst lo' st' g' fs' ρ', o = some (cl, cst) ∧ Pre ρ ρ' ∧ Two (loOK ρ' π) lo' cl ∧ Two (avOK ρ' π) st' cst ∧ gOK ρ' g' ∧ fOK ρ' fs' ∧ k lo' st' g' fs' = true
theorem lo_w1 {ρ : List Int} {π : List Nat} {v : AV} {w : Option Value} (h : loOK ρ π v w) (h1 : avW1 v = true) : ∀ x, w = some x → gC1 x = true := by
  intro x hx
  by_cases h0 : v = .inr (.inr 0)
  · subst h0
    exact h x hx
  · obtain ⟨y, hy, h2⟩ := lo_av h h0
    cases hx.symm.trans hy
    exact avW1_ok h2 h1
theorem blt_lt {a b : Nat} (h : Nat.blt a b = true) : a < b := Nat.le_of_ble_eq_true h
theorem nth_some {α : Type} {l : List α} {i : Nat} (h : i < l.length) : ∃ x, gNth l i = some x := ⟨l[i], by rw [nth_eq]; exact List.getElem?_eq_getElem h⟩
theorem setA_V {ρ : List Int} {π : List Nat} {lo lo' : List AV} {cl : Lo} {j : Nat} {v : AV} {w : Value} (hl : Two (loOK ρ π) lo cl) (hv : avOK ρ π v w) (h : setA lo j v = some lo') : ∃ cl', gSt cl j w = some cl' ∧ Two (loOK ρ π) lo' cl' := by
  have hlen := hl.len
  unfold setA at h
  split at h
  · obtain ⟨h1, h2⟩ := cond_inv h
    cases h2
    obtain ⟨x, hx⟩ := nth_some (l := cl) (i := 0) (by rw [← hlen]; exact blt_lt h1)
    refine ⟨_, ?_, hl.put (lo_some hv)⟩
    unfold gSt
    rw [hx]
  · rename_i i
    split at h
    · rename_i w0 hw0
      obtain ⟨h1, h2⟩ := cond_inv h
      cases h2
      rw [Bool.and_eq_true] at h1
      obtain ⟨x, hx⟩ := nth_some (l := cl) (i := i + 1) (by rw [← hlen]; exact blt_lt h1.2)
      obtain ⟨y, hy, hy2⟩ := hl.at hw0
      refine ⟨_, ?_, hl.put (lo_some hv)⟩
      unfold gSt
      rw [hx]
      dsimp only
      rw [hy]
      cases y with
      | none => rfl
      | some z =>
        dsimp only
        rw [lo_w1 hy2 h1.1 z rfl]
        rfl
    · cases h
theorem ldA_V {ρ : List Int} {π : List Nat} {lo st : List AV} {cl : Lo} {cst : List Value} {j kd : Nat} {k : List AV → List AV → Bool} (hl : Two (loOK ρ π) lo cl) (hs : Two (avOK ρ π) st cst) (h : ldA lo st j kd k = true) : ∃ w, ((kd = 0 ∧ gLi cl j cst = some (cl, w :: cst)) ∨ (kd = 1 ∧ gLa cl j cst = some (cl, w :: cst)) ∨ (kd = 2 ∧ gLl cl j cst = some (cl, w :: cst))) ∧ ∃ v, avOK ρ π v w ∧ k lo (v :: st) = true := by
  unfold ldA at h
  split at h
  · rename_i L e
    obtain ⟨h1, h⟩ := cond_t (α := Nat) h
    obtain ⟨y, hy, ⟨z, rfl, hz⟩⟩ := hl.at e
    obtain ⟨x, rfl, hx⟩ := hz
    refine ⟨.int x, Or.inl ⟨Nat.eq_of_beq_eq_true h1, ?_⟩, _, av_i hx, h⟩
    unfold gLi
    rw [hy]
  · rename_i R e
    obtain ⟨h1, h⟩ := cond_t (α := Nat) h
    obtain ⟨y, hy, ⟨z, rfl, hz⟩⟩ := hl.at e
    obtain ⟨a, ha, rfl⟩ := hz
    refine ⟨.ref a, Or.inr (Or.inl ⟨Nat.eq_of_beq_eq_true h1, ?_⟩), _, av_r ha, h⟩
    unfold gLa
    rw [hy]
  · rename_i e
    obtain ⟨h1, h⟩ := cond_t (α := Nat) h
    obtain ⟨y, hy, ⟨z, rfl, hz⟩⟩ := hl.at e
    obtain ⟨x, rfl⟩ := hz
    refine ⟨.long x, Or.inr (Or.inr ⟨Nat.eq_of_beq_eq_true h1, ?_⟩), .inr (.inr 1), ⟨x, rfl⟩, h⟩
    unfold gLl
    rw [hy]
  · rename_i j9 e
    obtain ⟨h1, h⟩ := cond_t (α := Nat) h
    obtain ⟨y, hy, ⟨z, rfl, hz⟩⟩ := hl.at e
    cases hz
    refine ⟨.retAddr j9, Or.inr (Or.inl ⟨Nat.eq_of_beq_eq_true h1, ?_⟩), .inr (.inr (j9 + 3)), rfl, h⟩
    unfold gLa
    rw [hy]
  · cases h
theorem stA_V {ρ : List Int} {π : List Nat} {lo st : List AV} {cl : Lo} {cst : List Value} {j kd : Nat} {k : List AV → List AV → Bool} (hl : Two (loOK ρ π) lo cl) (hs : Two (avOK ρ π) st cst) (h : stA lo st j kd k = true) : ∃ cl' cr lo' r, ((kd = 0 ∧ gSi cl j cst = some (cl', cr)) ∨ (kd = 1 ∧ gSa cl j cst = some (cl', cr))) ∧ Two (loOK ρ π) lo' cl' ∧ Two (avOK ρ π) r cr ∧ k lo' r = true := by
  unfold stA at h
  split at h
  · rename_i v r
    obtain ⟨h1, h⟩ := cond_t (α := Nat) h
    split at h
    · rename_i lo' e
      rw [gSp_eq] at h
      obtain ⟨w, cr, rfl, hw, hr⟩ := two_c hs
      obtain ⟨cl', e2, hl'⟩ := setA_V hl hw e
      rcases avK_V h1 hw with ⟨hk, x, rfl⟩ | ⟨hk, a, rfl⟩
      · refine ⟨cl', cr, lo', r, Or.inl ⟨hk, ?_⟩, hl', hr, h⟩
        show (match gSt cl j (.int x) with
          | some l => some (l, cr)
          | none => none) = _
        rw [e2]
      · refine ⟨cl', cr, lo', r, Or.inr ⟨hk, ?_⟩, hl', hr, h⟩
        show (match gSt cl j (.ref a) with
          | some l => some (l, cr)
          | none => none) = _
        rw [e2]
    · cases h
  · cases h
theorem st2A_V {ρ : List Int} {π : List Nat} {lo st : List AV} {cl : Lo} {cst : List Value} {j : Nat} {k : List AV → List AV → Bool} (hl : Two (loOK ρ π) lo cl) (hs : Two (avOK ρ π) st cst) (h : st2A lo st j k = true) : ∃ cl' cr lo' r, gSl cl j cst = some (cl', cr) ∧ Two (loOK ρ π) lo' cl' ∧ Two (avOK ρ π) r cr ∧ k lo' r = true := by
  unfold st2A at h
  split at h
  · rename_i r
    split at h
    · rename_i lo' e
      obtain ⟨h1, h⟩ := cond_t (α := Nat) h
      rw [gSp_eq] at h
      obtain ⟨x, cr, rfl, hr⟩ := two_l hs
      have hv : avOK ρ π (.inr (.inr 1)) (.long x) := ⟨x, rfl⟩
      obtain ⟨cl', e2, hl'⟩ := setA_V hl hv e
      obtain ⟨y, hy⟩ := nth_some (l := cl) (i := j + 1) (by rw [← hl.len]; exact blt_lt h1)
      refine ⟨gPut cl' (j + 1) none, cr, _, r, ?_, hl'.put lo_n, hr, h⟩
      have e3 : gSt2 cl j (.long x) = some (gPut cl' (j + 1) none) := by
        unfold gSt2
        rw [hy]
        dsimp only
        unfold gSt at e2
        split at e2
        · cases e2
        · split at e2
          · cases e2; rfl
          · rename_i i
            split at e2
            · rename_i w hw
              obtain ⟨c1, c2⟩ := cond_inv e2
              cases c2
              rw [c1]
              rfl
            · rename_i hne
              cases e2
              rfl
      show (match gSt2 cl j (.long x) with
        | some l => some (l, cr)
        | none => none) = _
      rw [e3]
    · cases h
  · cases h
set_option maxHeartbeats 4000000 in
theorem locA_V {ρ : List Int} {π : List Nat} {lo st : List AV} {cl : Lo} {cst : List Value} {g : List Iv} {fs : List Lin} {i : Instr} {k : List AV → List AV → List Iv → List Lin → Bool} (hl : Two (loOK ρ π) lo cl) (hs : Two (avOK ρ π) st cst) (hg : gOK ρ g) (hf : fOK ρ fs) (h : locA i lo st g fs k = true) : LocR ρ π k (gLoc i cl cst) := by
  have ld : ∀ (j kd : Nat), ((kd = 0 ∧ gLoc i cl cst = gLi cl j cst) ∨ (kd = 1 ∧ gLoc i cl cst = gLa cl j cst) ∨ (kd = 2 ∧ gLoc i cl cst = gLl cl j cst)) → ldA lo st j kd (fun lo st => k lo st g fs) = true → LocR ρ π k (gLoc i cl cst) := by
    intro j kd hk h
    obtain ⟨w, hw, v, hv, h⟩ := ldA_V hl hs h
    refine ⟨cl, w :: cst, lo, v :: st, g, fs, ρ, ?_, Pre.refl _, hl, ⟨hv, hs⟩, hg, hf, h⟩
    rcases hk with ⟨e, h1⟩ | ⟨e, h1⟩ | ⟨e, h1⟩ <;> rcases hw with ⟨e2, h2⟩ | ⟨e2, h2⟩ | ⟨e2, h2⟩ <;> first | exact h1.trans h2 | (rw [e] at e2; cases e2)
  have sto : ∀ (j kd : Nat), ((kd = 0 ∧ gLoc i cl cst = gSi cl j cst) ∨ (kd = 1 ∧ gLoc i cl cst = gSa cl j cst)) → stA lo st j kd (fun lo st => k lo st g fs) = true → LocR ρ π k (gLoc i cl cst) := by
    intro j kd hk h
    obtain ⟨cl', cr, lo', r, hw, hl', hr, h⟩ := stA_V hl hs h
    refine ⟨cl', cr, lo', r, g, fs, ρ, ?_, Pre.refl _, hl', hr, hg, hf, h⟩
    rcases hk with ⟨e, h1⟩ | ⟨e, h1⟩ <;> rcases hw with ⟨e2, h2⟩ | ⟨e2, h2⟩ <;> first | exact h1.trans h2 | (rw [e] at e2; cases e2)
  cases i
  case iload_n j => exact ld j 0 (Or.inl ⟨rfl, rfl⟩) h
  case iload j => exact ld j 0 (Or.inl ⟨rfl, rfl⟩) h
  case aload_n j => exact ld j 1 (Or.inr (Or.inl ⟨rfl, rfl⟩)) h
  case aload j => exact ld j 1 (Or.inr (Or.inl ⟨rfl, rfl⟩)) h
  case lload_n j => exact ld j 2 (Or.inr (Or.inr ⟨rfl, rfl⟩)) h
  case istore_n j => exact sto j 0 (Or.inl ⟨rfl, rfl⟩) h
  case istore j => exact sto j 0 (Or.inl ⟨rfl, rfl⟩) h
  case astore_n j => exact sto j 1 (Or.inr ⟨rfl, rfl⟩) h
  case astore j => exact sto j 1 (Or.inr ⟨rfl, rfl⟩) h
  case lstore_n j =>
    obtain ⟨cl', cr, lo', r, hw, hl', hr, h⟩ := st2A_V hl hs h
    exact ⟨cl', cr, lo', r, g, fs, ρ, hw, Pre.refl _, hl', hr, hg, hf, h⟩
  case iinc j n =>
    unfold locA at h
    dsimp only at h
    split at h
    · rename_i L e
      obtain ⟨h1, h⟩ := cond_t (α := Nat) h
      have h1 := ivIn_iff h1
      obtain ⟨y, hy, ⟨z, rfl, hz⟩⟩ := hl.at e
      obtain ⟨x, rfl, hx⟩ := hz
      have en := i32_ofInt h1.1 h1.2
      obtain ⟨cst', st', g', fs', ρ', e1, hp, hs', hg', hf', h⟩ := exA_V (z := x + Int32.ofInt n) (π := π) (r := []) (cr := []) hg hf (show Two (avOK ρ π) ([] : List AV) ([] : List Value) from trivial) (liAdc_V n hx) (fun a b => by rw [i32_add (by rw [en]; exact a) (by rw [en]; exact b), en]) h
      cases e1
      dsimp only at h
      split at h
      · rename_i v r9
        split at h
        · rename_i lo' e2
          rw [gSp_eq] at h
          have hl9 : Two (loOK ρ' π) lo cl := Two.mono (fun _ _ q => loOK.mono hp (Pre.refl _) q) hl
          obtain ⟨cl', e3, hl'⟩ := setA_V hl9 hs'.1 e2
          refine ⟨cl', cst, lo', st, g', fs', ρ', ?_, hp, hl', st_mono hp hs, hg', hf', h⟩
          show (match gNth cl j with
            | some (some (.int x)) => match gSt cl j (.int (x + Int32.ofInt n)) with
              | some l => some (l, cst)
              | none => none
            | _ => none) = _
          rw [hy]
          dsimp only
          rw [e3]
        · cases h
      · cases h
    · cases h
  all_goals cases h
/-! branches -/
noncomputable def neF (g : List Iv) (fs : List Lin) (Lx Ly : Lin) : List Lin := cond (nn g fs (liSub Lx Ly)) [liAdc (liSub Lx Ly) (-1)] (cond (nn g fs (liSub Ly Lx)) [liAdc (liSub Ly Lx) (-1)] [])
noncomputable def cmT (op : JC) (g : List Iv) (fs : List Lin) (Lx Ly : Lin) : List Lin := match op with
  | .eq => [liSub Lx Ly, liSub Ly Lx]
  | .ne => neF g fs Lx Ly
  | .lt => [liAdc (liSub Ly Lx) (-1)]
  | .ge => [liSub Lx Ly]
  | .gt => [liAdc (liSub Lx Ly) (-1)]
  | .le => [liSub Ly Lx]
noncomputable def cmF (op : JC) (g : List Iv) (fs : List Lin) (Lx Ly : Lin) : List Lin := match op with
  | .eq => neF g fs Lx Ly
  | .ne => [liSub Lx Ly, liSub Ly Lx]
  | .lt => [liSub Lx Ly]
  | .ge => [liAdc (liSub Ly Lx) (-1)]
  | .gt => [liSub Ly Lx]
  | .le => [liAdc (liSub Lx Ly) (-1)]
def cmH (op : JC) (x y : Int) : Prop := match op with
  | .eq => x = y
  | .ne => x ≠ y
  | .lt => x < y
  | .ge => y ≤ x
  | .gt => y < x
  | .le => x ≤ y
theorem neF_V {ρ : List Int} {g : List Iv} {fs : List Lin} (hg : gOK ρ g) (hf : fOK ρ fs) {Lx Ly : Lin} {x y : Int} (hx : liV ρ Lx = some x) (hy : liV ρ Ly = some y) (h : x ≠ y) : fOK ρ (neF g fs Lx Ly) := by
  intro F hF
  unfold neF at hF
  cases h1 : nn g fs (liSub Lx Ly) with
  | true =>
    rw [h1] at hF
    have hF : F ∈ [liAdc (liSub Lx Ly) (-1)] := hF
    rw [List.mem_singleton] at hF
    subst hF
    have := nn_V hg hf h1 (liSub_V hx hy)
    exact ⟨_, liAdc_V _ (liSub_V hx hy), by omega⟩
  | false =>
    rw [h1] at hF
    have hF : F ∈ cond (nn g fs (liSub Ly Lx)) [liAdc (liSub Ly Lx) (-1)] [] := hF
    cases h2 : nn g fs (liSub Ly Lx) with
    | true =>
      rw [h2] at hF
      have hF : F ∈ [liAdc (liSub Ly Lx) (-1)] := hF
      rw [List.mem_singleton] at hF
      subst hF
      have := nn_V hg hf h2 (liSub_V hy hx)
      exact ⟨_, liAdc_V _ (liSub_V hy hx), by omega⟩
    | false => rw [h2] at hF; cases hF
theorem one_V {ρ : List Int} {L : Lin} {x : Int} (hx : liV ρ L = some x) (h : 0 ≤ x) : fOK ρ [L] := by
  intro F hF
  rw [List.mem_singleton] at hF
  subst hF
  exact ⟨x, hx, h⟩
theorem two_V {ρ : List Int} {L M : Lin} {x y : Int} (hx : liV ρ L = some x) (h : 0 ≤ x) (hy : liV ρ M = some y) (h2 : 0 ≤ y) : fOK ρ [L, M] := by
  intro F hF
  rcases List.mem_cons.mp hF with rfl | hF
  · exact ⟨x, hx, h⟩
  · exact one_V hy h2 F hF
theorem cmT_V {ρ : List Int} {g : List Iv} {fs : List Lin} (hg : gOK ρ g) (hf : fOK ρ fs) {op : JC} {Lx Ly : Lin} {x y : Int} (hx : liV ρ Lx = some x) (hy : liV ρ Ly = some y) (h : cmH op x y) : fOK ρ (cmT op g fs Lx Ly) := by
  cases op
  · have h : x = y := h
    exact two_V (liSub_V hx hy) (by omega) (liSub_V hy hx) (by omega)
  · exact neF_V hg hf hx hy h
  · have h : x < y := h
    exact one_V (liAdc_V _ (liSub_V hy hx)) (by omega)
  · have h : y ≤ x := h
    exact one_V (liSub_V hx hy) (by omega)
  · have h : y < x := h
    exact one_V (liAdc_V _ (liSub_V hx hy)) (by omega)
  · have h : x ≤ y := h
    exact one_V (liSub_V hy hx) (by omega)
theorem cmF_V {ρ : List Int} {g : List Iv} {fs : List Lin} (hg : gOK ρ g) (hf : fOK ρ fs) {op : JC} {Lx Ly : Lin} {x y : Int} (hx : liV ρ Lx = some x) (hy : liV ρ Ly = some y) (h : ¬ cmH op x y) : fOK ρ (cmF op g fs Lx Ly) := by
  cases op
  · exact neF_V hg hf hx hy h
  · have h : ¬ x ≠ y := h
    exact two_V (liSub_V hx hy) (by omega) (liSub_V hy hx) (by omega)
  · have h : ¬ x < y := h
    exact one_V (liSub_V hx hy) (by omega)
  · have h : ¬ y ≤ x := h
    exact one_V (liAdc_V _ (liSub_V hy hx)) (by omega)
  · have h : ¬ y < x := h
    exact one_V (liSub_V hy hx) (by omega)
  · have h : ¬ x ≤ y := h
    exact one_V (liAdc_V _ (liSub_V hx hy)) (by omega)
noncomputable def bchA (op : JC) (off : Int) (Lx Ly : Lin) (pc : Nat) (g : List Iv) (fs : List Lin) (k : Nat → List Iv → List Lin → Bool) : Bool := gP pc off && (addFs g fs (cmT op g fs Lx Ly) (k (gT pc off)) && addFs g fs (cmF op g fs Lx Ly) (k (pc + 3)))
/-- all cases of a table -/
noncomputable def tswA (pc : Nat) (lo : Int) (L : Lin) (r : List AV) (g : List Iv) (fs : List Lin) (k : Nat → List AV → List Iv → List Lin → Bool) : Nat → List Int → Bool
  | _, [] => true
  | j, off :: os => addFs g fs [liAdc L (-(lo + j)), liMul (-1) (liAdc L (-(lo + j)))] (k (gT pc off) r) && tswA pc lo L r g fs k (j + 1) os
noncomputable def lswA (pc : Nat) (L : Lin) (r : List AV) (g : List Iv) (fs : List Lin) (k : Nat → List AV → List Iv → List Lin → Bool) : List (Int × Int) → Bool
  | [] => true
  | (m, off) :: os => addFs g fs [liAdc L (-m), liMul (-1) (liAdc L (-m))] (k (gT pc off) r) && lswA pc L r g fs k os
noncomputable def jmpA (i : Instr) (pc : Nat) (st : List AV) (g : List Iv) (fs : List Lin) (k : Nat → List AV → List Iv → List Lin → Bool) : Bool := match i with
  | .goto off => gP pc off && k (gT pc off) st g fs
  | .ifCond op off => match st with
    | .inl Lx :: r => bchA op off Lx (liC 0) pc g fs (fun pc => k pc r)
    | _ => false
  | .if_icmp op off => match st with
    | .inl Ly :: .inl Lx :: r => bchA op off Lx Ly pc g fs (fun pc => k pc r)
    | _ => false
  | .tableswitch d lo hi offs => match st with
    | .inl L :: r => (gP pc d && offs.toList.all (gP pc) && decide (hi - lo + 1 = (offs.size : Int))) && (addFs g fs [liAdc (liSub (liC lo) L) (-1)] (k (gT pc d) r) && (addFs g fs [liAdc (liSub L (liC hi)) (-1)] (k (gT pc d) r) && tswA pc lo L r g fs k 0 offs.toList))
    | _ => false
  | .lookupswitch d ps => match st with
    | .inl L :: r => (gP pc d && ps.toList.all (fun q => gP pc q.2) && (ps.toList.zip (ps.toList.drop 1)).all (fun (a, next) => a.1 < next.1)) && (k (gT pc d) r g fs && lswA pc L r g fs k ps.toList)
    | _ => false
  | _ => false
def JmpR (ρ : List Int) (π : List Nat) (k : Nat → List AV → List Iv → List Lin → Bool) (o : Option (Nat × List Value)) : Prop := ∃ pc' cst st' g' fs', o = some (pc', cst) ∧ Two (avOK ρ π) st' cst ∧ gOK ρ g' ∧ fOK ρ fs' ∧ k pc' st' g' fs' = true
theorem and_t {a b : Bool} (h : (a && b) = true) : a = true ∧ b = true := by rw [Bool.and_eq_true] at h; exact h
theorem i0_toInt : (0 : Int32).toInt = 0 := rfl
theorem bch_V {ρ : List Int} {g : List Iv} {fs : List Lin} (hg : gOK ρ g) (hf : fOK ρ fs) {op : JC} {off : Int} {pc : Nat} {Lx Ly : Lin} {x y : Int} (hx : liV ρ Lx = some x) (hy : liV ρ Ly = some y) {k : Nat → List Iv → List Lin → Bool} (h : bchA op off Lx Ly pc g fs k = true) : gP pc off = true ∧ ∃ g' fs', gOK ρ g' ∧ fOK ρ fs' ∧ ((cmH op x y ∧ k (gT pc off) g' fs' = true) ∨ (¬ cmH op x y ∧ k (pc + 3) g' fs' = true)) := by
  unfold bchA at h
  rw [Bool.and_eq_true, Bool.and_eq_true] at h
  obtain ⟨h0, h1, h2⟩ := h
  refine ⟨h0, ?_⟩
  by_cases hc : cmH op x y
  · obtain ⟨g', fs', hg', hf', h⟩ := addFs_V _ hg hf (cmT_V hg hf hx hy hc) h1
    exact ⟨g', fs', hg', hf', Or.inl ⟨hc, h⟩⟩
  · obtain ⟨g', fs', hg', hf', h⟩ := addFs_V _ hg hf (cmF_V hg hf hx hy hc) h2
    exact ⟨g', fs', hg', hf', Or.inr ⟨hc, h⟩⟩
theorem jif_eq {pc : Nat} {off : Int} {op : JC} {x : Int32} {r : List Value} (h : gP pc off = true) : (cmH op x.toInt 0 ∧ gJmp (.ifCond op off) pc (.int x :: r) = some (gT pc off, r)) ∨ (¬ cmH op x.toInt 0 ∧ gJmp (.ifCond op off) pc (.int x :: r) = some (pc + 3, r)) := by
  have e : gJmp (.ifCond op off) pc (.int x :: r) = some ((match op with
      | .eq => if x = 0 then gT pc off else pc + 3
      | .ne => if x = 0 then pc + 3 else gT pc off
      | .lt => if x < 0 then gT pc off else pc + 3
      | .ge => if 0 ≤ x then gT pc off else pc + 3
      | .gt => if 0 < x then gT pc off else pc + 3
      | .le => if x ≤ 0 then gT pc off else pc + 3), r) := by
    show cond (gP pc off) _ none = _
    rw [h]
    rfl
  rw [e]
  have e0 := i0_toInt
  by_cases hc : cmH op x.toInt 0
  · left
    refine ⟨hc, ?_⟩
    cases op
    · have : x = 0 := Int32.toInt_inj.mp hc
      simp only [this, if_true]
    · have : ¬ x = 0 := fun q => hc (by rw [q]; rfl)
      simp only [this, if_false]
    · have : x < 0 := Int32.lt_iff_toInt_lt.mpr hc
      simp only [this, if_true]
    · have : 0 ≤ x := Int32.le_iff_toInt_le.mpr hc
      simp only [this, if_true]
    · have : 0 < x := Int32.lt_iff_toInt_lt.mpr hc
      simp only [this, if_true]
    · have : x ≤ 0 := Int32.le_iff_toInt_le.mpr hc
      simp only [this, if_true]
  · right
    refine ⟨hc, ?_⟩
    cases op
    · have : ¬ x = 0 := fun q => hc (by rw [q]; rfl)
      simp only [this, if_false]
    · have : x = 0 := by
        have : ¬ ¬ x.toInt = 0 := hc
        exact Int32.toInt_inj.mp (Classical.not_not.mp this)
      simp only [this, if_true]
    · have : ¬ x < 0 := fun q => hc (Int32.lt_iff_toInt_lt.mp q)
      simp only [this, if_false]
    · have : ¬ 0 ≤ x := fun q => hc (Int32.le_iff_toInt_le.mp q)
      simp only [this, if_false]
    · have : ¬ 0 < x := fun q => hc (Int32.lt_iff_toInt_lt.mp q)
      simp only [this, if_false]
    · have : ¬ x ≤ 0 := fun q => hc (Int32.le_iff_toInt_le.mp q)
      simp only [this, if_false]
theorem jic_eq {pc : Nat} {off : Int} {op : JC} {x y : Int32} {r : List Value} (h : gP pc off = true) : (cmH op x.toInt y.toInt ∧ gJmp (.if_icmp op off) pc (.int y :: .int x :: r) = some (gT pc off, r)) ∨ (¬ cmH op x.toInt y.toInt ∧ gJmp (.if_icmp op off) pc (.int y :: .int x :: r) = some (pc + 3, r)) := by
  have e : gJmp (.if_icmp op off) pc (.int y :: .int x :: r) = some ((match op with
      | .eq => if x = y then gT pc off else pc + 3
      | .ne => if x = y then pc + 3 else gT pc off
      | .lt => if x < y then gT pc off else pc + 3
      | .ge => if y ≤ x then gT pc off else pc + 3
      | .gt => if y < x then gT pc off else pc + 3
      | .le => if x ≤ y then gT pc off else pc + 3), r) := by
    show cond (gP pc off) _ none = _
    rw [h]
    rfl
  rw [e]
  by_cases hc : cmH op x.toInt y.toInt
  · left
    refine ⟨hc, ?_⟩
    cases op
    · have : x = y := Int32.toInt_inj.mp hc
      simp only [this, if_true]
    · have : ¬ x = y := fun q => hc (by rw [q])
      simp only [this, if_false]
    · have : x < y := Int32.lt_iff_toInt_lt.mpr hc
      simp only [this, if_true]
    · have : y ≤ x := Int32.le_iff_toInt_le.mpr hc
      simp only [this, if_true]
    · have : y < x := Int32.lt_iff_toInt_lt.mpr hc
      simp only [this, if_true]
    · have : x ≤ y := Int32.le_iff_toInt_le.mpr hc
      simp only [this, if_true]
  · right
    refine ⟨hc, ?_⟩
    cases op
    · have : ¬ x = y := fun q => hc (by rw [q]; rfl)
      simp only [this, if_false]
    · have : x = y := by
        have : ¬ ¬ x.toInt = y.toInt := hc
        exact Int32.toInt_inj.mp (Classical.not_not.mp this)
      simp only [this, if_true]
    · have : ¬ x < y := fun q => hc (Int32.lt_iff_toInt_lt.mp q)
      simp only [this, if_false]
    · have : ¬ y ≤ x := fun q => hc (Int32.le_iff_toInt_le.mp q)
      simp only [this, if_false]
    · have : ¬ y < x := fun q => hc (Int32.lt_iff_toInt_lt.mp q)
      simp only [this, if_false]
    · have : ¬ x ≤ y := fun q => hc (Int32.le_iff_toInt_le.mp q)
      simp only [this, if_false]
theorem tsw_V {ρ : List Int} {π : List Nat} {g : List Iv} {fs : List Lin} (hg : gOK ρ g) (hf : fOK ρ fs) {pc : Nat} {lo x : Int} {L : Lin} {r : List AV} {k : Nat → List AV → List Iv → List Lin → Bool} (hx : liV ρ L = some x) : ∀ (os : List Int) (j : Nat), tswA pc lo L r g fs k j os = true → ∀ n : Nat, n < os.length → x = lo + (j + n : Nat) → ∃ g' fs', gOK ρ g' ∧ fOK ρ fs' ∧ k (gT pc (os.getD n 0)) r g' fs' = true := by
  intro os
  induction os with
  | nil => intro j h n hn; exact absurd hn (Nat.not_lt_zero _)
  | cons off os ih =>
    intro j h n hn e
    have h : (addFs g fs [liAdc L (-(lo + j)), liMul (-1) (liAdc L (-(lo + j)))] (k (gT pc off) r) && tswA pc lo L r g fs k (j + 1) os) = true := h
    rw [Bool.and_eq_true] at h
    cases n with
    | zero =>
      exact addFs_V _ hg hf (two_V (liAdc_V _ hx) (by omega) (liMul_V (-1) (liAdc_V _ hx)) (by omega)) h.1
    | succ n => exact ih (j + 1) h.2 n (Nat.lt_of_succ_lt_succ hn) (by omega)
theorem lsw_V {ρ : List Int} {π : List Nat} {g : List Iv} {fs : List Lin} (hg : gOK ρ g) (hf : fOK ρ fs) {pc : Nat} {x d : Int} {L : Lin} {r : List AV} {k : Nat → List AV → List Iv → List Lin → Bool} (hx : liV ρ L = some x) : ∀ (os : List (Int × Int)), lswA pc L r g fs k os = true → k (gT pc d) r g fs = true → ∃ g' fs', gOK ρ g' ∧ fOK ρ fs' ∧ k (gT pc (Op.lookupswitch.offset os d x)) r g' fs' = true := by
  intro os
  induction os with
  | nil => intro h h2; exact ⟨g, fs, hg, hf, h2⟩
  | cons q os ih =>
    intro h h2
    obtain ⟨m, off⟩ := q
    have h : (addFs g fs [liAdc L (-m), liMul (-1) (liAdc L (-m))] (k (gT pc off) r) && lswA pc L r g fs k os) = true := h
    rw [Bool.and_eq_true] at h
    by_cases e : m = x
    · subst e
      have e2 : Op.lookupswitch.offset ((m, off) :: os) d m = off := by simp [Op.lookupswitch.offset]
      rw [e2]
      exact addFs_V _ hg hf (two_V (liAdc_V _ hx) (by omega) (liMul_V (-1) (liAdc_V _ hx)) (by omega)) h.1
    · have e2 : Op.lookupswitch.offset ((m, off) :: os) d x = Op.lookupswitch.offset os d x := by simp [Op.lookupswitch.offset, List.find?_cons, e]
      rw [e2]
      exact ih h.2 h2
set_option maxHeartbeats 4000000 in
theorem jmpA_V {ρ : List Int} {π : List Nat} {g : List Iv} {fs : List Lin} {k : Nat → List AV → List Iv → List Lin → Bool} {st : List AV} {cst : List Value} {i : Instr} {pc : Nat} (hg : gOK ρ g) (hf : fOK ρ fs) (hs : Two (avOK ρ π) st cst) (h : jmpA i pc st g fs k = true) : JmpR ρ π k (gJmp i pc cst) := by
  cases i
  case goto off =>
    have h : (gP pc off && k (gT pc off) st g fs) = true := h
    rw [Bool.and_eq_true] at h
    refine ⟨gT pc off, cst, st, g, fs, ?_, hs, hg, hf, h.2⟩
    show cond (gP pc off) _ none = _
    rw [h.1]
    rfl
  case ifCond op off =>
    unfold jmpA at h
    dsimp only at h
    split at h
    · obtain ⟨x, cr, rfl, hx, hr⟩ := two_i hs
      obtain ⟨h0, g', fs', hg', hf', h⟩ := bch_V hg hf hx (liC_V 0) h
      rcases jif_eq (op := op) (x := x) (r := cr) h0 with q | q
      · rcases h with ⟨hc, h⟩ | ⟨hc, h⟩
        · exact ⟨_, _, _, _, _, q.2, hr, hg', hf', h⟩
        · exact absurd q.1 hc
      · rcases h with ⟨hc, h⟩ | ⟨hc, h⟩
        · exact absurd hc q.1
        · exact ⟨_, _, _, _, _, q.2, hr, hg', hf', h⟩
    · cases h
  case if_icmp op off =>
    unfold jmpA at h
    dsimp only at h
    split at h
    · obtain ⟨y, cr, rfl, hy, hr⟩ := two_i hs
      have hq := two_i hr
      clear hr
      obtain ⟨x, cr, rfl, hx, hr⟩ := hq
      obtain ⟨h0, g', fs', hg', hf', h⟩ := bch_V hg hf hx hy h
      rcases jic_eq (op := op) (x := x) (y := y) (r := cr) h0 with q | q
      · rcases h with ⟨hc, h⟩ | ⟨hc, h⟩
        · exact ⟨_, _, _, _, _, q.2, hr, hg', hf', h⟩
        · exact absurd q.1 hc
      · rcases h with ⟨hc, h⟩ | ⟨hc, h⟩
        · exact absurd hc q.1
        · exact ⟨_, _, _, _, _, q.2, hr, hg', hf', h⟩
    · cases h
  case tableswitch d lo hi offs =>
    unfold jmpA at h
    dsimp only at h
    split at h
    · obtain ⟨x, cr, rfl, hx, hr⟩ := two_i hs
      obtain ⟨h0, h⟩ := and_t h
      obtain ⟨h1, h⟩ := and_t h
      obtain ⟨h2, h3⟩ := and_t h
      have e : gJmp (.tableswitch d lo hi offs) pc (.int x :: cr) = some ((if x.toInt < lo ∨ hi < x.toInt then gT pc d else gT pc (offs.toList.getD (x.toInt - lo).toNat 0)), cr) := by
        show cond (gP pc d && offs.toList.all (gP pc) && decide (hi - lo + 1 = (offs.size : Int))) _ none = _
        rw [h0]
        rfl
      by_cases c1 : x.toInt < lo
      · rw [if_pos (Or.inl c1)] at e
        obtain ⟨g', fs', hg', hf', h⟩ := addFs_V _ hg hf (one_V (liAdc_V (-1) (liSub_V (liC_V lo) hx)) (by omega)) h1
        exact ⟨_, _, _, _, _, e, hr, hg', hf', h⟩
      · by_cases c2 : hi < x.toInt
        · rw [if_pos (Or.inr c2)] at e
          obtain ⟨g', fs', hg', hf', h⟩ := addFs_V _ hg hf (one_V (liAdc_V (-1) (liSub_V hx (liC_V hi))) (by omega)) h2
          exact ⟨_, _, _, _, _, e, hr, hg', hf', h⟩
        · rw [if_neg (fun q => q.elim c1 c2)] at e
          rw [Bool.and_eq_true] at h0
          have hsz := of_decide_eq_true h0.2
          have hsz2 : offs.size = offs.toList.length := (Array.length_toList).symm
          obtain ⟨g', fs', hg', hf', h⟩ := tsw_V (π := π) hg hf hx offs.toList 0 h3 (x.toInt - lo).toNat (by omega) (by omega)
          exact ⟨_, _, _, _, _, e, hr, hg', hf', h⟩
    · cases h
  case lookupswitch d ps =>
    unfold jmpA at h
    dsimp only at h
    split at h
    · obtain ⟨x, cr, rfl, hx, hr⟩ := two_i hs
      obtain ⟨h0, h⟩ := and_t h
      obtain ⟨h1, h2⟩ := and_t h
      have e : gJmp (.lookupswitch d ps) pc (.int x :: cr) = some (gT pc (Op.lookupswitch.offset ps.toList d x.toInt), cr) := by
        show cond (gP pc d && ps.toList.all (fun q => gP pc q.2) && (ps.toList.zip (ps.toList.drop 1)).all (fun (a, next) => a.1 < next.1)) _ none = _
        rw [h0]
        rfl
      obtain ⟨g', fs', hg', hf', h⟩ := lsw_V (π := π) (d := d) hg hf hx ps.toList h2 h1
      exact ⟨_, _, _, _, _, e, hr, hg', hf', h⟩
    · cases h
  all_goals cases h
