/-! THE CHECKER, 4: instructions of the stack and of the locals -/
abbrev JC : Type := Jvm.ClassFile.Cond
noncomputable def avW1 : AV → Bool
  | .inr (.inr 1) => false
  | _ => true
theorem avW1_ok {ρ : List Int} {π : List Nat} {v : AV} {w : Value} (h : avOK ρ π v w) (h1 : avW1 v = true) : gC1 w = true := by
  rcases v with L | R | n
  · obtain ⟨x, rfl, -⟩ := h; rfl
  · obtain ⟨a, -, rfl⟩ := h; rfl
  · match n, h, h1 with
    | 0, h, _ => exact h
    | 1, _, h1 => cases h1
    | 2, h, _ => cases h; rfl
    | n + 3, h, _ => cases h; rfl
/-- an exact int, if it can't run over; else any -/
noncomputable def exA (L : Lin) (r : List AV) (g : List Iv) (fs : List Lin) (k : List AV → List Iv → List Lin → Bool) : Bool := match liI g L with
  | none => false
  | some p => cond (ivIn p) (fLin L (fun L => k (.inl L :: r) g fs)) (k (.inl (liS g.length) :: r) (g ++ [ivF]) fs)
noncomputable def andF (i : Instr) (Ly Lx : Lin) (py px : Iv) (s : Nat) : List Lin := match i with
  | .iand => cond (iLe 0 px.1) [liSub Lx (liS s)] [] ++ cond (iLe 0 py.1) [liSub Ly (liS s)] []
  | _ => []
noncomputable def fLs {β : Type} (l : List Lin) : (List Lin → β) → β := List.rec (motive := fun _ => (List Lin → β) → β) (fun k => k []) (fun L _ ih k => fLin L (fun L => ih (fun r => k (L :: r)))) l
theorem fLs_eq {β : Type} (l : List Lin) : ∀ k : List Lin → β, fLs l k = k l := by
  induction l with
  | nil => intro k; rfl
  | cons L r ih =>
    intro k
    show fLin L (fun L => fLs r (fun r => k (L :: r))) = _
    rw [fLin_eq, ih]
/-- an int by its interval -/
noncomputable def geA (i : Instr) (Ly Lx : Lin) (r : List AV) (g : List Iv) (fs : List Lin) (k : List AV → List Iv → List Lin → Bool) : Bool := match liI g Ly, liI g Lx with
  | some py, some px => match opI i py px with
    | some p => fI p.1 (fun a => fI p.2 (fun b => fLs (andF i Ly Lx py px g.length) (fun F => k (.inl (liS g.length) :: r) (g ++ [(a, b)]) (F ++ fs))))
    | none => false
  | _, _ => false
noncomputable def g2A (i : Instr) (st : List AV) (g : List Iv) (fs : List Lin) (k : List AV → List Iv → List Lin → Bool) : Bool := match st with
  | .inl Ly :: .inl Lx :: r => geA i Ly Lx r g fs k
  | _ => false
noncomputable def l2A (st : List AV) (g : List Iv) (fs : List Lin) (k : List AV → List Iv → List Lin → Bool) : Bool := match st with
  | .inr (.inr 1) :: .inr (.inr 1) :: r => k (.inr (.inr 1) :: r) g fs
  | _ => false
noncomputable def l1A (st : List AV) (g : List Iv) (fs : List Lin) (k : List AV → List Iv → List Lin → Bool) : Bool := match st with
  | .inl _ :: .inr (.inr 1) :: r => k (.inr (.inr 1) :: r) g fs
  | _ => false
noncomputable def aluA (i : Instr) (st : List AV) (g : List Iv) (fs : List Lin) (k : List AV → List Iv → List Lin → Bool) : Bool := match i with
  | .iconst n => cond (ivIn (n, n)) (k (.inl (liC n) :: st) g fs) false
  | .bipush n => cond (iLe (-128) n && iLe n 127) (k (.inl (liC n) :: st) g fs) false
  | .sipush n => cond (iLe (-32768) n && iLe n 32767) (k (.inl (liC n) :: st) g fs) false
  | .lconst _ => k (.inr (.inr 1) :: st) g fs
  | .dup => match st with
    | v :: r => cond (avW1 v) (k (v :: v :: r) g fs) false
    | _ => false
  | .pop => match st with
    | v :: r => cond (avW1 v) (k r g fs) false
    | _ => false
  | .dup_x1 => match st with
    | a :: b :: r => cond (avW1 a && avW1 b) (k (a :: b :: a :: r) g fs) false
    | _ => false
  | .dup2 => match st with
    | a :: b :: r => cond (avW1 a && avW1 b) (k (a :: b :: a :: b :: r) g fs) false
    | _ => false
  | .iadd => match st with
    | .inl Ly :: .inl Lx :: r => exA (liAdd Ly Lx) r g fs k
    | _ => false
  | .isub => match st with
    | .inl Ly :: .inl Lx :: r => exA (liSub Lx Ly) r g fs k
    | _ => false
  | .ineg => match st with
    | .inl Lx :: r => exA (liMul (-1) Lx) r g fs k
    | _ => false
  | .imul => match st with
    | .inl Ly :: .inl Lx :: r => match Ly.1, Lx.1 with
      | [], _ => exA (liMul Ly.2 Lx) r g fs k
      | _, [] => exA (liMul Lx.2 Ly) r g fs k
      | _, _ => geA .imul Ly Lx r g fs k
    | _ => false
  | .i2b => match st with
    | .inl _ :: r => k (.inl (liS g.length) :: r) (g ++ [(-128, 127)]) fs
    | _ => false
  | .l2i => match st with
    | .inr (.inr 1) :: r => k (.inl (liS g.length) :: r) (g ++ [ivF]) fs
    | _ => false
  | .i2l => match st with
    | .inl _ :: r => k (.inr (.inr 1) :: r) g fs
    | _ => false
  | .lcmp => match st with
    | .inr (.inr 1) :: .inr (.inr 1) :: r => k (.inl (liS g.length) :: r) (g ++ [(-1, 1)]) fs
    | _ => false
  | .ladd => l2A st g fs k
  | .lsub => l2A st g fs k
  | .land => l2A st g fs k
  | .lor => l2A st g fs k
  | .lxor => l2A st g fs k
  | .lshl => l1A st g fs k
  | .lushr => l1A st g fs k
  | i => g2A i st g fs k
/-- what such a step gives -/
def AluR (ρ : List Int) (π : List Nat) (k : List AV → List Iv → List Lin → Bool) (o : Option (List Value)) : Prop := ∃ cst st' g' fs' ρ', o = some cst ∧ Pre ρ ρ' ∧ Two (avOK ρ' π) st' cst ∧ gOK ρ' g' ∧ fOK ρ' fs' ∧ k st' g' fs' = true
theorem st_mono {ρ ρ' : List Int} {π : List Nat} (h : Pre ρ ρ') {st : List AV} {cst : List Value} (hs : Two (avOK ρ π) st cst) : Two (avOK ρ' π) st cst := Two.mono (fun _ _ hv => avOK.mono h (Pre.refl _) hv) hs
theorem av_i {ρ : List Int} {π : List Nat} {L : Lin} {x : Int32} (h : liV ρ L = some x.toInt) : avOK ρ π (.inl L) (.int x) := ⟨x, rfl, h⟩
theorem av_l {ρ : List Int} {π : List Nat} (x : Int64) : avOK ρ π (.inr (.inr 1)) (.long x) := ⟨x, rfl⟩
theorem av_r {ρ : List Int} {π : List Nat} {R : RS} {a : Nat} (h : rsV π R = some a) : avOK ρ π (.inr (.inl R)) (.ref a) := ⟨a, h, rfl⟩
theorem Two.mk {α β : Type} {P : α → β → Prop} {a : α} {b : β} {as : List α} {bs : List β} (h : P a b) (h2 : Two P as bs) : Two P (a :: as) (b :: bs) := ⟨h, h2⟩
theorem cond_tt {α : Type} (a b : α) : cond true a b = a := rfl
theorem cond_ff {α : Type} (a b : α) : cond false a b = b := rfl
theorem exA_V {ρ : List Int} {π : List Nat} {g : List Iv} {fs : List Lin} {k : List AV → List Iv → List Lin → Bool} {r : List AV} {cr : List Value} {L : Lin} {z : Int32} {v : Int} (hg : gOK ρ g) (hf : fOK ρ fs) (hr : Two (avOK ρ π) r cr) (hv : liV ρ L = some v) (hz : -2147483648 ≤ v → v ≤ 2147483647 → z.toInt = v) (h : exA L r g fs k = true) : AluR ρ π k (some (.int z :: cr)) := by
  unfold exA at h
  split at h
  · cases h
  · rename_i p e
    obtain ⟨a, b⟩ := p
    cases hi : ivIn (a, b) with
    | true =>
      rw [hi, cond_tt, fLin_eq] at h
      have h1 := ivIn_iff hi
      have h2 := liI_V hg e hv
      have e2 := hz (Int.le_trans h1.1 h2.1) (Int.le_trans h2.2 h1.2)
      exact ⟨_, _, g, fs, ρ, rfl, Pre.refl _, Two.mk (av_i (by rw [e2]; exact hv)) hr, hg, hf, h⟩
    | false =>
      rw [hi, cond_ff] at h
      exact ⟨_, _, _, _, ρ ++ [z.toInt], rfl, Pre.one _ _, Two.mk (av_i (push_S hg _)) (st_mono (Pre.one _ _) hr), hg.push (i32_lt z).1 (i32_lt z).2, (Pre.one _ _).fOK hf, h⟩
theorem fresh_V {ρ : List Int} {π : List Nat} {g : List Iv} {fs : List Lin} {k : List AV → List Iv → List Lin → Bool} {r : List AV} {cr : List Value} {z : Int32} {a b : Int} (hg : gOK ρ g) (hf : fOK ρ fs) (hr : Two (avOK ρ π) r cr) (h1 : a ≤ z.toInt) (h2 : z.toInt ≤ b) (h : k (.inl (liS g.length) :: r) (g ++ [(a, b)]) fs = true) : AluR ρ π k (some (.int z :: cr)) :=
  ⟨_, _, _, _, ρ ++ [z.toInt], rfl, Pre.one _ _, Two.mk (av_i (push_S hg _)) (st_mono (Pre.one _ _) hr), hg.push h1 h2, (Pre.one _ _).fOK hf, h⟩
theorem geA_V {ρ : List Int} {π : List Nat} {g : List Iv} {fs : List Lin} {k : List AV → List Iv → List Lin → Bool} {r : List AV} {cr : List Value} {i : Instr} {Ly Lx : Lin} {x y : Int32} (hg : gOK ρ g) (hf : fOK ρ fs) (hr : Two (avOK ρ π) r cr) (hy : liV ρ Ly = some y.toInt) (hx : liV ρ Lx = some x.toInt) (h : geA i Ly Lx r g fs k = true) : AluR ρ π k (gAlu i (.int y :: .int x :: cr)) := by
  unfold geA at h
  split at h
  · rename_i py px e1 e2
    split at h
    · rename_i p e3
      rw [fI_eq, fI_eq, fLs_eq] at h
      obtain ⟨ay, by_⟩ := py
      obtain ⟨ax, bx⟩ := px
      have i1 := liI_V hg e1 hy
      have i2 := liI_V hg e2 hx
      obtain ⟨z, hz, hz1, hz2⟩ := opI_V (ix := (ax, bx)) (iy := (ay, by_)) i2 i1 e3 cr
      rw [hz]
      refine ⟨_, _, _, _, ρ ++ [z.toInt], rfl, Pre.one _ _, Two.mk (av_i (push_S hg _)) (st_mono (Pre.one _ _) hr), hg.push hz1 hz2, ?_, h⟩
      intro F hF
      rcases List.mem_append.mp hF with hF | hF
      · unfold andF at hF
        split at hF
        · cases hz
          rcases List.mem_append.mp hF with hF | hF
          · cases h0 : iLe 0 (ax, bx).1 with
            | false => rw [h0] at hF; cases hF
            | true =>
              rw [h0] at hF
              have hF : F ∈ [liSub Lx (liS g.length)] := hF
              rw [List.mem_singleton] at hF
              subst hF
              have h0 := iLe_iff.mp h0
              refine ⟨_, liSub_V ((Pre.one _ _).liV hx) (push_S hg _), ?_⟩
              obtain ⟨n, hn, rfl, en⟩ := nI_nn (show 0 ≤ x.toInt from Int.le_trans h0 i2.1)
              obtain ⟨m, hm, e⟩ := and_le y hn
              rw [and_comm32, e, nI_toInt (n := m) (by omega)]
              omega
          · cases h0 : iLe 0 (ay, by_).1 with
            | false => rw [h0] at hF; cases hF
            | true =>
              rw [h0] at hF
              have hF : F ∈ [liSub Ly (liS g.length)] := hF
              rw [List.mem_singleton] at hF
              subst hF
              have h0 := iLe_iff.mp h0
              refine ⟨_, liSub_V ((Pre.one _ _).liV hy) (push_S hg _), ?_⟩
              obtain ⟨n, hn, rfl, en⟩ := nI_nn (show 0 ≤ y.toInt from Int.le_trans h0 i1.1)
              obtain ⟨m, hm, e⟩ := and_le x hn
              rw [e, nI_toInt (n := m) (by omega)]
              omega
        · cases hF
      · exact (Pre.one _ _).fOK hf F hF
    · cases h
  · cases h
theorem two_c {ρ : List Int} {π : List Nat} {v : AV} {r : List AV} {cst : List Value} (h : Two (avOK ρ π) (v :: r) cst) : ∃ w cr, cst = w :: cr ∧ avOK ρ π v w ∧ Two (avOK ρ π) r cr := by
  cases cst with
  | nil => exact h.elim
  | cons w cr => exact ⟨w, cr, rfl, h.1, h.2⟩
theorem two_i {ρ : List Int} {π : List Nat} {L : Lin} {r : List AV} {cst : List Value} (h : Two (avOK ρ π) (.inl L :: r) cst) : ∃ (x : Int32) (cr : List Value), cst = .int x :: cr ∧ liV ρ L = some x.toInt ∧ Two (avOK ρ π) r cr := by
  obtain ⟨w, cr, rfl, ⟨x, rfl, hx⟩, hr⟩ := two_c h
  exact ⟨x, cr, rfl, hx, hr⟩
theorem two_l {ρ : List Int} {π : List Nat} {r : List AV} {cst : List Value} (h : Two (avOK ρ π) (.inr (.inr 1) :: r) cst) : ∃ (x : Int64) (cr : List Value), cst = .long x :: cr ∧ Two (avOK ρ π) r cr := by
  obtain ⟨w, cr, rfl, ⟨x, rfl⟩, hr⟩ := two_c h
  exact ⟨x, cr, rfl, hr⟩
theorem cond_t {α : Type} {b : Bool} {x : Bool} (h : cond b x false = true) : b = true ∧ x = true := by
  cases b with
  | true => exact ⟨rfl, h⟩
  | false => cases h
theorem i2b_in (x : Int32) : -128 ≤ x.toInt8.toInt32.toInt ∧ x.toInt8.toInt32.toInt ≤ 127 := by
  rw [Int8.toInt_toInt32]
  have h1 := x.toInt8.le_toInt
  have h2 := x.toInt8.toInt_lt
  constructor <;> omega
theorem lcmp_in (x y : Int64) : -1 ≤ (lg_cmp x y).toInt ∧ (lg_cmp x y).toInt ≤ 1 := by
  unfold lg_cmp
  split
  · decide
  · split <;> decide
theorem g2A_V {ρ : List Int} {π : List Nat} {g : List Iv} {fs : List Lin} {k : List AV → List Iv → List Lin → Bool} {st : List AV} {cst : List Value} {i : Instr} (hg : gOK ρ g) (hf : fOK ρ fs) (hs : Two (avOK ρ π) st cst) (h : g2A i st g fs k = true) : AluR ρ π k (gAlu i cst) := by
  unfold g2A at h
  split at h
  · obtain ⟨y, cr, rfl, hy, hr⟩ := two_i hs
    have hq := two_i hr
    clear hr
    obtain ⟨x, cr, rfl, hx, hr⟩ := hq
    exact geA_V hg hf hr hy hx h
  · cases h
theorem l2A_V {ρ : List Int} {π : List Nat} {g : List Iv} {fs : List Lin} {k : List AV → List Iv → List Lin → Bool} {st : List AV} {cst : List Value} {i : Instr} (hg : gOK ρ g) (hf : fOK ρ fs) (hs : Two (avOK ρ π) st cst) (f : Int64 → Int64 → Int64) (hf2 : ∀ y x r, gAlu i (.long y :: .long x :: r) = some (.long (f x y) :: r)) (h : l2A st g fs k = true) : AluR ρ π k (gAlu i cst) := by
  unfold l2A at h
  split at h
  · obtain ⟨y, cr, rfl, hr⟩ := two_l hs
    have hq := two_l hr
    clear hr
    obtain ⟨x, cr, rfl, hr⟩ := hq
    rw [hf2]
    exact ⟨_, _, g, fs, ρ, rfl, Pre.refl _, Two.mk (av_l _) hr, hg, hf, h⟩
  · cases h
theorem l1A_V {ρ : List Int} {π : List Nat} {g : List Iv} {fs : List Lin} {k : List AV → List Iv → List Lin → Bool} {st : List AV} {cst : List Value} {i : Instr} (hg : gOK ρ g) (hf : fOK ρ fs) (hs : Two (avOK ρ π) st cst) (f : Int64 → Int32 → Int64) (hf2 : ∀ y x r, gAlu i (.int y :: .long x :: r) = some (.long (f x y) :: r)) (h : l1A st g fs k = true) : AluR ρ π k (gAlu i cst) := by
  unfold l1A at h
  split at h
  · obtain ⟨y, cr, rfl, -, hr⟩ := two_i hs
    have hq := two_l hr
    clear hr
    obtain ⟨x, cr, rfl, hr⟩ := hq
    rw [hf2]
    exact ⟨_, _, g, fs, ρ, rfl, Pre.refl _, Two.mk (av_l _) hr, hg, hf, h⟩
  · cases h
set_option maxHeartbeats 4000000 in
theorem aluA_V {ρ : List Int} {π : List Nat} {g : List Iv} {fs : List Lin} {k : List AV → List Iv → List Lin → Bool} {st : List AV} {cst : List Value} {i : Instr} (hg : gOK ρ g) (hf : fOK ρ fs) (hs : Two (avOK ρ π) st cst) (h : aluA i st g fs k = true) : AluR ρ π k (gAlu i cst) := by
  cases i
  case iconst n =>
    unfold aluA at h
    dsimp only at h
    obtain ⟨h1, h⟩ := cond_t (α := Nat) h
    have h1 := ivIn_iff h1
    exact ⟨_, _, g, fs, ρ, rfl, Pre.refl _, Two.mk (av_i (by rw [i32_ofInt h1.1 h1.2]; exact liC_V n)) hs, hg, hf, h⟩
  case bipush n =>
    unfold aluA at h
    dsimp only at h
    obtain ⟨h1, h⟩ := cond_t (α := Nat) h
    rw [Bool.and_eq_true] at h1
    exact ⟨_, _, g, fs, ρ, rfl, Pre.refl _, Two.mk (av_i (by rw [i32_of8 (iLe_iff.mp h1.1) (iLe_iff.mp h1.2)]; exact liC_V n)) hs, hg, hf, h⟩
  case sipush n =>
    unfold aluA at h
    dsimp only at h
    obtain ⟨h1, h⟩ := cond_t (α := Nat) h
    rw [Bool.and_eq_true] at h1
    exact ⟨_, _, g, fs, ρ, rfl, Pre.refl _, Two.mk (av_i (by rw [i32_of16 (iLe_iff.mp h1.1) (iLe_iff.mp h1.2)]; exact liC_V n)) hs, hg, hf, h⟩
  case lconst n =>
    unfold aluA at h
    dsimp only at h
    exact ⟨_, _, g, fs, ρ, rfl, Pre.refl _, Two.mk (av_l _) hs, hg, hf, h⟩
  case dup =>
    unfold aluA at h
    dsimp only at h
    split at h
    · obtain ⟨h1, h⟩ := cond_t (α := Nat) h
      obtain ⟨w, cr, rfl, hw, hr⟩ := two_c hs
      refine ⟨_, _, g, fs, ρ, ?_, Pre.refl _, Two.mk hw (Two.mk hw hr), hg, hf, h⟩
      show cond (gC1 w) _ none = _
      rw [avW1_ok hw h1]
      rfl
    · cases h
  case pop =>
    unfold aluA at h
    dsimp only at h
    split at h
    · obtain ⟨h1, h⟩ := cond_t (α := Nat) h
      obtain ⟨w, cr, rfl, hw, hr⟩ := two_c hs
      refine ⟨_, _, g, fs, ρ, ?_, Pre.refl _, hr, hg, hf, h⟩
      show cond (gC1 w) _ none = _
      rw [avW1_ok hw h1]
      rfl
    · cases h
  case dup_x1 =>
    unfold aluA at h
    dsimp only at h
    split at h
    · obtain ⟨h1, h⟩ := cond_t (α := Nat) h
      rw [Bool.and_eq_true] at h1
      obtain ⟨w, cr, rfl, hw, hr⟩ := two_c hs
      have hq := two_c hr
      clear hr
      obtain ⟨w2, cr, rfl, hw2, hr⟩ := hq
      refine ⟨_, _, g, fs, ρ, ?_, Pre.refl _, Two.mk hw (Two.mk hw2 (Two.mk hw hr)), hg, hf, h⟩
      show cond (gC1 w && gC1 w2) _ none = _
      rw [avW1_ok hw h1.1, avW1_ok hw2 h1.2]
      rfl
    · cases h
  case dup2 =>
    unfold aluA at h
    dsimp only at h
    split at h
    · obtain ⟨h1, h⟩ := cond_t (α := Nat) h
      rw [Bool.and_eq_true] at h1
      obtain ⟨w, cr, rfl, hw, hr⟩ := two_c hs
      have hq := two_c hr
      clear hr
      obtain ⟨w2, cr, rfl, hw2, hr⟩ := hq
      refine ⟨_, _, g, fs, ρ, ?_, Pre.refl _, Two.mk hw (Two.mk hw2 (Two.mk hw (Two.mk hw2 hr))), hg, hf, h⟩
      show cond (gC1 w && gC1 w2) _ none = _
      rw [avW1_ok hw h1.1, avW1_ok hw2 h1.2]
      rfl
    · cases h
  case iadd =>
    unfold aluA at h
    dsimp only at h
    split at h
    · obtain ⟨y, cr, rfl, hy, hr⟩ := two_i hs
      have hq := two_i hr
      clear hr
      obtain ⟨x, cr, rfl, hx, hr⟩ := hq
      refine exA_V (z := x + y) hg hf hr (liAdd_V hy hx) (fun a b => ?_) h
      rw [i32_add (by omega) (by omega)]
      omega
    · cases h
  case isub =>
    unfold aluA at h
    dsimp only at h
    split at h
    · obtain ⟨y, cr, rfl, hy, hr⟩ := two_i hs
      have hq := two_i hr
      clear hr
      obtain ⟨x, cr, rfl, hx, hr⟩ := hq
      refine exA_V (z := x - y) hg hf hr (liSub_V hx hy) (fun a b => ?_) h
      rw [i32_sub (by omega) (by omega)]
    · cases h
  case ineg =>
    unfold aluA at h
    dsimp only at h
    split at h
    · obtain ⟨x, cr, rfl, hx, hr⟩ := two_i hs
      refine exA_V (z := -x) hg hf hr (liMul_V (-1) hx) (fun a b => ?_) h
      rw [i32_neg (by omega)]
      omega
    · cases h
  case imul =>
    unfold aluA at h
    dsimp only at h
    split at h
    · rename_i Ly Lx r
      obtain ⟨y, cr, rfl, hy, hr⟩ := two_i hs
      have hq := two_i hr
      clear hr
      obtain ⟨x, cr, rfl, hx, hr⟩ := hq
      obtain ⟨ly, ky⟩ := Ly
      obtain ⟨lx, kx⟩ := Lx
      split at h
      · rename_i e1
        have e1 : ly = [] := e1
        subst e1
        have ey : y.toInt = ky := by
          have : liV ρ ([], ky) = some ky := liC_V ky
          rw [this] at hy
          exact (Option.some.inj hy).symm
        refine exA_V (z := x * y) hg hf hr (liMul_V ky hx) (fun a b => ?_) h
        rw [Int.mul_comm] at a b
        rw [i32_mul (by rw [ey]; exact a) (by rw [ey]; exact b), ey, Int.mul_comm]
      · rename_i e1 e0
        have e1 : lx = [] := e1
        subst e1
        have ex : x.toInt = kx := by
          have : liV ρ ([], kx) = some kx := liC_V kx
          rw [this] at hx
          exact (Option.some.inj hx).symm
        refine exA_V (z := x * y) hg hf hr (liMul_V kx hy) (fun a b => ?_) h
        rw [i32_mul (by rw [ex]; exact a) (by rw [ex]; exact b), ex]
      · exact geA_V hg hf hr hy hx h
    · cases h
  case i2b =>
    unfold aluA at h
    dsimp only at h
    split at h
    · obtain ⟨x, cr, rfl, hx, hr⟩ := two_i hs
      exact fresh_V (z := x.toInt8.toInt32) hg hf hr (i2b_in x).1 (i2b_in x).2 h
    · cases h
  case l2i =>
    unfold aluA at h
    dsimp only at h
    split at h
    · obtain ⟨x, cr, rfl, hr⟩ := two_l hs
      exact fresh_V (z := x.toInt32) hg hf hr (i32_lt _).1 (i32_lt _).2 h
    · cases h
  case i2l =>
    unfold aluA at h
    dsimp only at h
    split at h
    · obtain ⟨x, cr, rfl, hx, hr⟩ := two_i hs
      exact ⟨_, _, g, fs, ρ, rfl, Pre.refl _, Two.mk (av_l _) hr, hg, hf, h⟩
    · cases h
  case lcmp =>
    unfold aluA at h
    dsimp only at h
    split at h
    · obtain ⟨y, cr, rfl, hr⟩ := two_l hs
      have hq := two_l hr
      clear hr
      obtain ⟨x, cr, rfl, hr⟩ := hq
      exact fresh_V (z := lg_cmp x y) hg hf hr (lcmp_in x y).1 (lcmp_in x y).2 h
    · cases h
  case ladd => exact l2A_V hg hf hs _ (fun _ _ _ => rfl) (by unfold aluA at h; exact h)
  case lsub => exact l2A_V hg hf hs _ (fun _ _ _ => rfl) (by unfold aluA at h; exact h)
  case land => exact l2A_V hg hf hs _ (fun _ _ _ => rfl) (by unfold aluA at h; exact h)
  case lor => exact l2A_V hg hf hs _ (fun _ _ _ => rfl) (by unfold aluA at h; exact h)
  case lxor => exact l2A_V hg hf hs _ (fun _ _ _ => rfl) (by unfold aluA at h; exact h)
  case lshl => exact l1A_V hg hf hs _ (fun _ _ _ => rfl) (by unfold aluA at h; exact h)
  case lushr => exact l1A_V hg hf hs _ (fun _ _ _ => rfl) (by unfold aluA at h; exact h)
  all_goals exact g2A_V hg hf hs h
