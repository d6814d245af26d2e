/-! THE CHECKER, 8: soundness of reading and writing -/
section GETV
variable {aT : List Nat} {gT : List CT} {gU : List (Option Nat)} {dep : Nat → Md} {FL : Nat → List Int → Mem → Prop} {md : Md}
variable {ρ : List Int} {π : List Nat} {hp : List HE} {fl : List FG} {g : List Iv} {gr : List Nat} {fs : List Lin} {M : Mem}
/-- two forms at one place -/
theorem at_fs (hg : gOK ρ g) (hf : fOK ρ fs) {L : Lin} {x : Int32} {n : Nat} (hx : liV ρ L = some x.toInt) (h : inR g fs L 0 ((n : Int) - 1) = true) {α : Type} {l : List α} (hl : l.length = n) : ∃ y, gAt l x = some y ∧ gNth l x.toNatClampNeg = some y ∧ x.toInt = (x.toNatClampNeg : Int) ∧ x.toNatClampNeg < l.length := by
  have h := inR_V hg hf h hx
  exact at_of hl h.1 h.2
theorem intR_V (hd : depOK aT dep FL) {kd : Nat → Bool} (hk2 : kd 2 = false) (hW : Wd aT gT FL ρ π hp fl g gr fs M) {R : RS} {L : Lin} {x : Int32} {r : List AV} {cr : List Value} {k : List AV → List HE → List Iv → Bool} (hr : Two (avOK ρ π) r cr) (hx : liV ρ L = some x.toInt) (h : intR aT gT kd R L r hp fl g gr fs k = true) : ∃ a q l z, rsV π R = some a ∧ kd q = true ∧ gNth M a = some (.inl (q, .inl l)) ∧ gAt l x = some z ∧ ∃ st' hp' g' ρ', Pre ρ ρ' ∧ Two (avOK ρ' π) st' (.int z :: cr) ∧ Wd aT gT FL ρ' π hp' fl g' gr fs M ∧ k st' hp' g' = true := by
  unfold intR at h
  split at h
  · rename_i grp q n sg e1
    have hq9 := cond_t (α := Nat) h
    clear h
    obtain ⟨h1, h⟩ := hq9
    rw [Bool.and_eq_true] at h1
    obtain ⟨a, e, ha, hag, hgt, he, hc⟩ := arG_V hW.2.2.2.1 hW.2.2.2.2.2 e1
    have hq2 : q ≠ 2 := fun z => by rw [z, hk2] at h1; cases h1.1
    obtain ⟨l, rfl, hl, hv⟩ := ct_int hq2 hc
    obtain ⟨z, z1, z2, z3, z4⟩ := at_fs hW.2.2.1 hW.2.2.2.2.1 hx h1.2 hl
    refine ⟨a, q, l, z, ha, h1.1, he, z1, ?_⟩
    split at h
    · rename_i v e3
      obtain ⟨a2, ha2, t, l2, i, y, q1, q2, q3, q4⟩ := hW.1 _ (hpG_V e3)
      cases ha.symm.trans ha2
      cases he.symm.trans q1
      have : i = x.toNatClampNeg := by
        have q2 : liV ρ L = some (i : Int) := q2
        rw [hx] at q2
        have := Option.some.inj q2
        omega
      subst this
      cases z2.symm.trans q3
      exact ⟨_, _, _, ρ, Pre.refl _, Two.mk q4 hr, hW, h⟩
    · split at h
      · rename_i a9 b9 e4
        split at h
        · rename_i p e5
          rw [fI_eq, fI_eq] at h
          obtain ⟨p2, i1, i2, i3⟩ := hv _ _ z2
          have hx2 : liV ρ L = some ((x.toNatClampNeg : Nat) : Int) := by rw [← z3]; exact hx
          have hb := liI_V hW.2.2.1 e4 hx2
          obtain ⟨p3, j1, j2, j3⟩ := ivJ_V (sgIs_V hx2 hb.1 hb.2 i1)
          cases e5.symm.trans j1
          have k0 : p.1 ≤ z.toInt := Int.le_trans j2 i2
          have k1 : cond (gdA R L hp fl g fs) (iMax p.1 1) p.1 ≤ z.toInt := by
            cases hgd : gdA R L hp fl g fs with
            | false => exact k0
            | true =>
              have k9 := gdA_V hd hW ha hx2 he z2 hgd
              show iMax p.1 1 ≤ z.toInt
              unfold iMax
              cases iLe p.1 1 with
              | true => exact k9
              | false => exact k0
          have k2 : z.toInt ≤ p.2 := Int.le_trans i3 j3
          have hs := push_S hW.2.2.1 z.toInt
          have hW2 := hW.push k1 k2
          refine ⟨_, _, _, ρ ++ [z.toInt], Pre.one _ _, Two.mk (av_i hs) (st_mono (Pre.one _ _) hr), ?_, h⟩
          cases sgMany sg with
          | false => exact hW2
          | true => exact hW2.know (he_a ha he ((Pre.one _ _).liV hx2) z2 (av_i hs))
        · cases h
      · cases h
  · cases h
theorem intW_V (hd : depOK aT dep FL) (hW : Wd aT gT FL ρ π hp fl g gr fs M) {R : RS} {L V : Lin} {x v : Int32} {k : List HE → List FG → Bool} (hx : liV ρ L = some x.toInt) (hv9 : liV ρ V = some v.toInt) (h : intW aT gT dep md R L V hp fl g gr fs k = true) : ∃ a l z, rsV π R = some a ∧ gNth M a = some (.inl (1, .inl l)) ∧ gAt l x = some z ∧ ∃ hp' fl', Wd aT gT FL ρ π hp' fl' g gr fs (gPut M a (.inl (1, .inl (gPut l x.toNatClampNeg v)))) ∧ Frm aT md M (gPut M a (.inl (1, .inl (gPut l x.toNatClampNeg v)))) ∧ k hp' fl' = true := by
  unfold intW at h
  split at h
  · rename_i grp n sg e1
    have hq9 := cond_t (α := Nat) h
    clear h
    obtain ⟨h1, h⟩ := hq9
    rw [Bool.and_eq_true] at h1
    obtain ⟨a, e, ha, hag, hgt, he, hc⟩ := arG_V hW.2.2.2.1 hW.2.2.2.2.2 e1
    obtain ⟨l, rfl, hl, hv⟩ := ct_int (by decide) hc
    obtain ⟨z, z1, z2, z3, z4⟩ := at_fs hW.2.2.1 hW.2.2.2.2.1 hx h1.1 hl
    refine ⟨a, l, z, ha, he, z1, ?_⟩
    split at h
    · rename_i a9 b9 e4
      have hq9 := cond_t (α := Nat) h
      clear h
      obtain ⟨h2, h⟩ := hq9
      rw [gSp_eq, gSp_eq] at h
      have hx2 : liV ρ L = some ((x.toNatClampNeg : Nat) : Int) := by rw [← z3]; exact hx
      have hb := liI_V hW.2.2.1 e4 hx2
      have hc2 : ctOK aT (.inr (1, n, .inl sg)) (.inl (1, .inl (gPut l x.toNatClampNeg v))) := by
        refine ct_mk (by decide) (by rw [put_len]; exact hl) (fun j y hy => ?_)
        rw [nth_put] at hy
        split at hy
        · rename_i e5
          cases hy
          rw [e5.1]
          obtain ⟨p2, i1, -, -⟩ := hv _ _ z2
          have := List.all_eq_true.mp h2 _ (sgIs_V hx2 hb.1 hb.2 i1)
          exact ⟨p2, i1, inR_V hW.2.2.1 hW.2.2.2.2.1 this hv9⟩
        · exact hv j y hy
      have hW2 := hW.rowI hd ha hv9 hx2 hag hgt he hc2
      refine ⟨_, _, ?_, Frm.row he hag (mdIn_iff.mp h1.2), h⟩
      cases sgMany sg with
      | false => exact hW2
      | true =>
        refine hW2.know (he_a (t := 1) (i := x.toNatClampNeg) (l := gPut l x.toNatClampNeg v) ha (by rw [nth_put, if_pos ⟨rfl, gNth_lt _ _ _ he⟩]) hx2 (by rw [nth_put, if_pos ⟨rfl, z4⟩]) (av_i hv9))
    · cases h
  · cases h
theorem nar_same {v : Int32} (h : 0 ≤ v.toInt ∧ v.toInt ≤ 1) : vp_nar .boolean v = v := by
  have h2 : v = 0 ∨ v = 1 := by
    rcases Int.lt_or_le 0 v.toInt with h3 | h3
    · exact Or.inr (Int32.toInt_inj.mp (show v.toInt = 1 by omega))
    · exact Or.inl (Int32.toInt_inj.mp (show v.toInt = 0 by omega))
  rcases h2 with rfl | rfl <;> rfl
theorem bytW_V (hd : depOK aT dep FL) (hW : Wd aT gT FL ρ π hp fl g gr fs M) {R : RS} {L V : Lin} {x v : Int32} {k : List HE → List FG → Bool} (hx : liV ρ L = some x.toInt) (hv9 : liV ρ V = some v.toInt) (h : bytW aT gT dep md R L V hp fl g gr fs k = true) : ∃ a l z q ty, rsV π R = some a ∧ gNth M a = some (.inl (q, .inl l)) ∧ ((q = 0 ∧ ty = .byte) ∨ (q = 3 ∧ ty = .boolean)) ∧ gAt l x = some z ∧ ∃ hp' fl', Wd aT gT FL ρ π hp' fl' g gr fs (gPut M a (.inl (q, .inl (gPut l x.toNatClampNeg (vp_nar ty v))))) ∧ Frm aT md M (gPut M a (.inl (q, .inl (gPut l x.toNatClampNeg (vp_nar ty v))))) ∧ k hp' fl' = true := by
  unfold bytW at h
  split at h
  · rename_i grp q n sg e1
    have hq9 := cond_t (α := Nat) h
    clear h
    obtain ⟨h1, h⟩ := hq9
    rw [Bool.and_eq_true, Bool.and_eq_true] at h1
    obtain ⟨a, e, ha, hag, hgt, he, hc⟩ := arG_V hW.2.2.2.1 hW.2.2.2.2.2 e1
    obtain ⟨hi, hm, hq⟩ := h1
    have hq3 : ∃ ty lo hi, ((q = 0 ∧ ty = FieldType.byte) ∨ (q = 3 ∧ ty = FieldType.boolean)) ∧ sgAll sg lo hi = true ∧ lo ≤ (vp_nar ty v).toInt ∧ (vp_nar ty v).toInt ≤ hi := by
      split at hq
      · exact ⟨.byte, -128, 127, Or.inl ⟨rfl, rfl⟩, hq, nar_b v⟩
      · exact ⟨.boolean, 0, 1, Or.inr ⟨rfl, rfl⟩, hq, nar_z v⟩
      · cases hq
    obtain ⟨ty, lo, hi9, hty, hsg, hv1, hv2⟩ := hq3
    have hq2 : q ≠ 2 := by rcases hty with h | h <;> omega
    obtain ⟨l, rfl, hl, hv⟩ := ct_int hq2 hc
    obtain ⟨z, z1, z2, z3, z4⟩ := at_fs hW.2.2.1 hW.2.2.2.2.1 hx hi hl
    refine ⟨a, l, z, q, ty, ha, he, hty, z1, ?_⟩
    have hc2 : ctOK aT (.inr (q, n, .inl sg)) (.inl (q, .inl (gPut l x.toNatClampNeg (vp_nar ty v)))) := by
      refine ct_mk hq2 (by rw [put_len]; exact hl) (fun j y hy => ?_)
      rw [nth_put] at hy
      split at hy
      · rename_i e5
        cases hy
        rw [e5.1]
        obtain ⟨p2, i1, -, -⟩ := hv _ _ z2
        have := sgAll_V hsg i1
        exact ⟨p2, i1, by omega, by omega⟩
      · exact hv j y hy
    cases hq3b : Nat.beq q 3 && inR g fs V 0 1 with
    | false =>
      rw [hq3b] at h
      have h : gSp _ _ = true := h
      rw [gSp_eq, gSp_eq] at h
      exact ⟨_, _, hW.row hd hag hgt he hc2, Frm.row he hag (mdIn_iff.mp hm), h⟩
    | true =>
      rw [hq3b] at h
      have h : gSp _ _ = true := h
      rw [gSp_eq, gSp_eq] at h
      rw [Bool.and_eq_true] at hq3b
      have hq3 := Nat.eq_of_beq_eq_true hq3b.1
      subst hq3
      have hvr := inR_V hW.2.2.1 hW.2.2.2.2.1 hq3b.2 hv9
      have hty2 : ty = FieldType.boolean := by
        rcases hty with ⟨h, _⟩ | ⟨_, h⟩
        · exact absurd h (by decide)
        · exact h
      subst hty2
      have hx2 : liV ρ L = some ((x.toNatClampNeg : Nat) : Int) := by rw [← z3]; exact hx
      have hnv : vp_nar .boolean v = v := nar_same hvr
      rw [hnv] at hc2 ⊢
      have hW2 := hW.rowI hd ha hv9 hx2 hag hgt he hc2
      refine ⟨_, _, ?_, Frm.row he hag (mdIn_iff.mp hm), h⟩
      cases sgMany sg with
      | false => exact hW2
      | true =>
        refine hW2.know (he_a (t := 3) (i := x.toNatClampNeg) (l := gPut l x.toNatClampNeg v) ha (by rw [nth_put, if_pos ⟨rfl, gNth_lt _ _ _ he⟩]) hx2 (by rw [nth_put, if_pos ⟨rfl, z4⟩]) (av_i hv9))
  · cases h
set_option maxHeartbeats 8000000 in
theorem getA_V (hU : uOK aT gU) (hd : depOK aT dep FL) (hW : Wd aT gT FL ρ π hp fl g gr fs M) {i : Instr} {o : Nat} {ini : Bool} {st : List AV} {cst : List Value} {k : List AV → List HE → List FG → List Iv → List Nat → List Lin → Bool} (hs : Two (avOK ρ π) st cst) (h : getA aT gT gU dep md i o st hp fl g gr fs k = true) : GetR aT gT FL md ρ π M k (gGet i none o ini cst M) := by
  have same : ∀ {v : AV} {w : Value}, avOK ρ π v w → ∀ {r : List AV} {cr : List Value}, Two (avOK ρ π) r cr → k (v :: r) hp fl g gr fs = true → GetR aT gT FL md ρ π M k (some (w :: cr, M)) := by
    intro v w hv r cr hr h
    exact ⟨_, _, _, _, _, _, _, _, ρ, π, rfl, Pre.refl _, Pre.refl _, Two.mk hv hr, hW, Frm.refl _, h⟩
  cases i
  case ldc ix =>
    unfold getA at h
    dsimp only at h
    split at h
    · rename_i v n e
      rw [fI_eq] at h
      have e2 : gGet (.ldc ix) none o ini cst M = some (.int v :: cst, M) := by
        show (match gOwn cRs o ix with
          | some (v, _) => some (Value.int v :: cst, M)
          | none => match gOwn tRs o ix with
            | some (k, _) => some (Value.retAddr (10 + k) :: cst, M)
            | none => none) = _
        rw [e]
      rw [e2]
      exact same (av_i (liC_V _)) hs h
    · rename_i e1
      split at h
      · rename_i j n e
        have e2 : gGet (.ldc ix) none o ini cst M = some (.retAddr (10 + j) :: cst, M) := by
          show (match gOwn cRs o ix with
            | some (v, _) => some (Value.int v :: cst, M)
            | none => match gOwn tRs o ix with
              | some (k, _) => some (Value.retAddr (10 + k) :: cst, M)
              | none => none) = _
          rw [e1]
          dsimp only
          rw [e]
        rw [e2]
        exact same (v := .inr (.inr (10 + j + 3))) rfl hs h
      · cases h
  case ldc_w ix =>
    unfold getA at h
    dsimp only at h
    split at h
    · rename_i v n e
      rw [fI_eq] at h
      have e2 : gGet (.ldc_w ix) none o ini cst M = some (.int v :: cst, M) := by
        show (match gOwn cRs o ix with
          | some (v, _) => some (Value.int v :: cst, M)
          | none => none) = _
        rw [e]
      rw [e2]
      exact same (av_i (liC_V _)) hs h
    · cases h
  case ldc2_w ix =>
    unfold getA at h
    dsimp only at h
    split at h
    · rename_i v e
      obtain ⟨v, n⟩ := v
      have e2 : gGet (.ldc2_w ix) none o ini cst M = some (.long v :: cst, M) := by
        show (match gOwn lRs o ix with
          | some (v, _) => some (Value.long v :: cst, M)
          | none => none) = _
        rw [e]
      rw [e2]
      exact same (av_l v) hs h
    · cases h
  case getstatic ix =>
    unfold getA at h
    dsimp only at h
    split at h
    · rename_i j n e
      have e2 : gGet (.getstatic ix) none o ini cst M = some (.retAddr j :: cst, M) := by
        show (match gOwn sRs o ix with
          | some (j, _) => some (Value.retAddr j :: cst, M)
          | none => none) = _
        rw [e]
      rw [e2]
      exact same (v := .inr (.inr (j + 3))) rfl hs h
    · cases h
  case getfield ix =>
    unfold getA at h
    dsimp only at h
    split at h
    · rename_i R r
      split at h
      · rename_i ci f n e
        obtain ⟨w, cr, rfl, ⟨a, ha, rfl⟩, hr⟩ := two_c hs
        obtain ⟨a2, vs, w, v, hp', g', gr', ρ', π', q1, q2, q3, q4, q5, q6, q7, h⟩ := rdF_V hU hW h
        cases ha.symm.trans q1
        refine ⟨w :: cr, M, _, _, _, _, _, _, ρ', π', ?_, q4, q5, Two.mk q6 (Two.mono (fun _ _ q => avOK.mono q4 q5 q) hr), q7, Frm.refl _, h⟩
        show (match gOwn fRs o ix, gNth M a with
          | some (ci, k, _), some (.inr (c, fs)) => match Nat.beq c ci, gNth fs k with
            | true, some v => some (v :: cr, M)
            | _, _ => none
          | _, _ => none) = _
        rw [e, q2]
        dsimp only
        rw [q3, Nat.beq_refl]
      · cases h
    · cases h
  case putfield ix =>
    unfold getA at h
    dsimp only at h
    split at h
    · rename_i v R r
      split at h
      · rename_i ci f n grp e1 e2
        split at h
        · rename_i c fts e3
          split at h
          · rename_i ft e4
            have hq9 := cond_t (α := Nat) h
            clear h
            obtain ⟨h1, h⟩ := hq9
            rw [Bool.and_eq_true, Bool.and_eq_true, Bool.and_eq_true, Bool.and_eq_true] at h1
            obtain ⟨h1, h2, h3, h4, h5⟩ := h1
            rw [gSp_eq, gSp_eq] at h
            cases Nat.eq_of_beq_eq_true h1
            obtain ⟨w, cr, rfl, hw, hr⟩ := two_c hs
            have hq := two_c hr
            clear hr
            obtain ⟨w2, cr, rfl, ⟨a, ha, rfl⟩, hr⟩ := hq
            obtain ⟨a2, ha2, hag⟩ := rsG_V hW.2.2.2.1 e2
            cases ha.symm.trans ha2
            obtain ⟨e, he, vs, rfl, hl, hv⟩ := hW.2.2.2.2.2.at hag e3
            have hf1 : f < vs.length := by rw [hl]; exact gNth_lt _ _ _ e4
            have hft := fitF_V hW.2.2.1 hW.2.2.2.1 hW.2.2.2.2.1 h4 hw
            have hft2 := fitT_V hW.2.2.1 hW.2.2.2.2.1 h5 hw
            refine ⟨cr, _, _, _, _, _, _, _, ρ, π, ?_, Pre.refl _, Pre.refl _, hr, hW.fld hd ha hag e3 he e4 hw hft, Frm.fld he (mdIn_iff.mp h2), h⟩
            show (match gOwn fRs o ix, gNth M a with
              | some (ci, k, _), some (.inr (c, fs)) => match Nat.beq c ci && Nat.blt k fs.length && (!gFin ci k || (ini && Nat.beq o ci)) && fits (gTy ci k) w with
                | true => some (cr, gPut M a (.inr (c, gPut fs k w)))
                | _ => none
              | _, _ => none) = _
            rw [e1, he]
            dsimp only
            have b1 : Nat.blt f vs.length = true := Nat.ble_eq_true_of_le hf1
            rw [Nat.beq_refl, b1, h3, hft2]
            rfl
          · cases h
        · cases h
      · cases h
    · cases h
  case iaload =>
    unfold getA at h
    dsimp only at h
    split at h
    · rename_i L R r
      obtain ⟨x, cr, rfl, hx, hr⟩ := two_i hs
      have hq := two_c hr
      clear hr
      obtain ⟨w2, cr, rfl, ⟨a, ha, rfl⟩, hr⟩ := hq
      obtain ⟨a2, q, l, z, q1, q2, q3, q4, st', hp', g', ρ', q5, q6, q7, h⟩ := intR_V hd rfl hW hr hx h
      cases ha.symm.trans q1
      cases Nat.eq_of_beq_eq_true q2
      refine ⟨_, M, _, _, _, _, _, _, ρ', π, ?_, q5, Pre.refl _, q6, q7, Frm.refl _, h⟩
      show (match gNth M a with
        | some (.inl (1, .inl l)) => match gAt l x with
          | some y => some (Value.int y :: cr, M)
          | none => none
        | _ => none) = _
      rw [q3]
      show (match gAt l x with
        | some y => some (Value.int y :: cr, M)
        | none => none) = _
      rw [q4]
    · rename_i L j r
      split at h
      · rename_i l e1
        have hq9 := cond_t (α := Nat) h
        clear h
        obtain ⟨h1, h⟩ := hq9
        split at h
        · rename_i p e2
          rw [fI_eq, fI_eq] at h
          obtain ⟨x, cr, rfl, hx, hr⟩ := two_i hs
          have hq := two_c hr
          clear hr
          obtain ⟨w2, cr, rfl, hw2, hr⟩ := hq
          have hw2 : w2 = .retAddr j := hw2
          subst hw2
          rw [ln_eq] at h1
          obtain ⟨z, z1, z2, z3, z4⟩ := at_fs hW.2.2.1 hW.2.2.2.2.1 hx h1 rfl
          have hb := lstI_V _ _ e2 _ _ z2
          refine ⟨_, M, _, _, _, _, _, _, ρ ++ [z.toInt], π, ?_, Pre.one _ _, Pre.refl _, Two.mk (av_i (push_S hW.2.2.1 _)) (st_mono (Pre.one _ _) hr), hW.push hb.1 hb.2, Frm.refl _, h⟩
          show (match gSx none j with
            | some l => match gAt l x with
              | some y => some (Value.int y :: cr, M)
              | none => none
            | none => none) = _
          rw [e1]
          dsimp only
          rw [z1]
        · cases h
      · cases h
    · cases h
  case baload =>
    unfold getA at h
    dsimp only at h
    split at h
    · rename_i L R r
      obtain ⟨x, cr, rfl, hx, hr⟩ := two_i hs
      have hq := two_c hr
      clear hr
      obtain ⟨w2, cr, rfl, ⟨a, ha, rfl⟩, hr⟩ := hq
      obtain ⟨a2, q, l, z, q1, q2, q3, q4, st', hp', g', ρ', q5, q6, q7, h⟩ := intR_V hd rfl hW hr hx h
      cases ha.symm.trans q1
      refine ⟨_, M, _, _, _, _, _, _, ρ', π, ?_, q5, Pre.refl _, q6, q7, Frm.refl _, h⟩
      rw [Bool.or_eq_true] at q2
      rcases q2 with q2 | q2
      · cases Nat.eq_of_beq_eq_true q2
        show (match gNth M a with
          | some (.inl (0, .inl l)) => match gAt l x with
            | some y => some (Value.int y :: cr, M)
            | none => none
          | some (.inl (3, .inl l)) => match gAt l x with
            | some y => some (Value.int y :: cr, M)
            | none => none
          | _ => none) = _
        rw [q3]
        show (match gAt l x with
          | some y => some (Value.int y :: cr, M)
          | none => none) = _
        rw [q4]
      · cases Nat.eq_of_beq_eq_true q2
        show (match gNth M a with
          | some (.inl (0, .inl l)) => match gAt l x with
            | some y => some (Value.int y :: cr, M)
            | none => none
          | some (.inl (3, .inl l)) => match gAt l x with
            | some y => some (Value.int y :: cr, M)
            | none => none
          | _ => none) = _
        rw [q3]
        show (match gAt l x with
          | some y => some (Value.int y :: cr, M)
          | none => none) = _
        rw [q4]
    · cases h
  case laload =>
    unfold getA at h
    dsimp only at h
    split at h
    · rename_i L R r
      split at h
      · rename_i grp n et e1
        have hq9 := cond_t (α := Nat) h
        clear h
        obtain ⟨h1, h⟩ := hq9
        obtain ⟨x, cr, rfl, hx, hr⟩ := two_i hs
        have hq := two_c hr
        clear hr
        obtain ⟨w2, cr, rfl, ⟨a, ha, rfl⟩, hr⟩ := hq
        obtain ⟨a2, e, ha2, hag, hgt, he, hc⟩ := arG_V hW.2.2.2.1 hW.2.2.2.2.2 e1
        cases ha.symm.trans ha2
        obtain ⟨l, rfl, hl⟩ := hc
        obtain ⟨z, z1, z2, z3, z4⟩ := at_fs hW.2.2.1 hW.2.2.2.2.1 hx h1 hl
        refine ⟨.long z :: cr, M, _, _, _, _, _, _, ρ, π, ?_, Pre.refl _, Pre.refl _, Two.mk (av_l z) hr, hW, Frm.refl _, h⟩
        show (match gNth M a with
          | some (.inl (2, .inr (.inl l))) => match gAt l x with
            | some y => some (Value.long y :: cr, M)
            | none => none
          | _ => none) = _
        rw [he]
        show (match gAt l x with
          | some y => some (Value.long y :: cr, M)
          | none => none) = _
        rw [z1]
      · cases h
    · cases h
  case aaload =>
    unfold getA at h
    dsimp only at h
    split at h
    · rename_i L R r
      split at h
      · rename_i grp q n g2 e1
        have hq9 := cond_t (α := Nat) h
        clear h
        obtain ⟨h1, h⟩ := hq9
        rw [Bool.and_eq_true] at h1
        obtain ⟨x, cr, rfl, hx, hr⟩ := two_i hs
        have hq := two_c hr
        clear hr
        obtain ⟨w2, cr, rfl, ⟨a, ha, rfl⟩, hr⟩ := hq
        obtain ⟨a2, e, ha2, hag, hgt, he, hc⟩ := arG_V hW.2.2.2.1 hW.2.2.2.2.2 e1
        cases ha.symm.trans ha2
        have hq2 : q ≠ 2 := fun z => by rw [z] at h1; cases h1.1
        obtain ⟨l, rfl, hl, hv⟩ := ct_ref hq2 hc
        obtain ⟨z, z1, z2, z3, z4⟩ := at_fs hW.2.2.1 hW.2.2.2.2.1 hx h1.2 hl
        obtain ⟨b, rfl, hb⟩ := hv _ _ z2
        obtain ⟨R2, gr', π', p1, p2, p3, h⟩ := nwR_V hU hW.2.2.2.1 hb h
        refine ⟨.ref b :: cr, M, _, _, _, _, _, _, ρ, π', ?_, Pre.refl _, p1, Two.mk (av_r p3) (Two.mono (fun _ _ q => avOK.mono (Pre.refl _) p1 q) hr), hW.refs p1 p2, Frm.refl _, h⟩
        show (match gNth M a with
          | some (.inl (t, .inr (.inr l))) => match gAt l x with
            | some y => cond (Nat.ble 4 t && Nat.ble t 8) (some (va_rf y :: cr, M)) none
            | none => none
          | _ => none) = _
        rw [he]
        show (match gAt l x with
          | some y => cond (Nat.ble 4 q && Nat.ble q 8) (some (va_rf y :: cr, M)) none
          | none => none) = _
        rw [z1]
        dsimp only
        rw [h1.1]
        rfl
      · cases h
    · cases h
  case iastore =>
    unfold getA at h
    dsimp only at h
    split at h
    · rename_i V L R r
      obtain ⟨v, cr, rfl, hv, hr⟩ := two_i hs
      have hq := two_i hr
      clear hr
      obtain ⟨x, cr, rfl, hx, hr⟩ := hq
      have hq := two_c hr
      clear hr
      obtain ⟨w2, cr, rfl, ⟨a, ha, rfl⟩, hr⟩ := hq
      obtain ⟨a2, l, z, q1, q2, q3, hp', fl', q4, q5, h⟩ := intW_V hd hW hx hv h
      cases ha.symm.trans q1
      refine ⟨cr, _, _, _, _, _, _, _, ρ, π, ?_, Pre.refl _, Pre.refl _, hr, q4, q5, h⟩
      show (match gNth M a with
        | some (.inl (1, .inl l)) => match gAt l x with
          | some _ => some (cr, gPut M a (.inl (1, .inl (gPut l x.toNatClampNeg v))))
          | none => none
        | _ => none) = _
      rw [q2]
      show (match gAt l x with
        | some _ => some (cr, gPut M a (.inl (1, .inl (gPut l x.toNatClampNeg v))))
        | none => none) = _
      rw [q3]
    · cases h
  case bastore =>
    unfold getA at h
    dsimp only at h
    split at h
    · rename_i V L R r
      obtain ⟨v, cr, rfl, hv, hr⟩ := two_i hs
      have hq := two_i hr
      clear hr
      obtain ⟨x, cr, rfl, hx, hr⟩ := hq
      have hq := two_c hr
      clear hr
      obtain ⟨w2, cr, rfl, ⟨a, ha, rfl⟩, hr⟩ := hq
      obtain ⟨a2, l, z, q, ty, q1, q2, qt, q3, hp', fl', q4, q5, h⟩ := bytW_V hd hW hx hv h
      cases ha.symm.trans q1
      refine ⟨cr, _, _, _, _, _, _, _, ρ, π, ?_, Pre.refl _, Pre.refl _, hr, q4, q5, h⟩
      rcases qt with ⟨rfl, rfl⟩ | ⟨rfl, rfl⟩
      · show (match gNth M a with
          | some (.inl (0, .inl l)) => match gAt l x with
            | some _ => some (cr, gPut M a (.inl (0, .inl (gPut l x.toNatClampNeg (vp_nar .byte v)))))
            | none => none
          | some (.inl (3, .inl l)) => match gAt l x with
            | some _ => some (cr, gPut M a (.inl (3, .inl (gPut l x.toNatClampNeg (vp_nar .boolean v)))))
            | none => none
          | _ => none) = _
        rw [q2]
        show (match gAt l x with
          | some _ => some (cr, gPut M a (.inl (0, .inl (gPut l x.toNatClampNeg (vp_nar .byte v)))))
          | none => none) = _
        rw [q3]
      · show (match gNth M a with
          | some (.inl (0, .inl l)) => match gAt l x with
            | some _ => some (cr, gPut M a (.inl (0, .inl (gPut l x.toNatClampNeg (vp_nar .byte v)))))
            | none => none
          | some (.inl (3, .inl l)) => match gAt l x with
            | some _ => some (cr, gPut M a (.inl (3, .inl (gPut l x.toNatClampNeg (vp_nar .boolean v)))))
            | none => none
          | _ => none) = _
        rw [q2]
        show (match gAt l x with
          | some _ => some (cr, gPut M a (.inl (3, .inl (gPut l x.toNatClampNeg (vp_nar .boolean v)))))
          | none => none) = _
        rw [q3]
    · cases h
  case lastore =>
    unfold getA at h
    dsimp only at h
    split at h
    · rename_i L R r
      split at h
      · rename_i grp n et e1
        have hq9 := cond_t (α := Nat) h
        clear h
        obtain ⟨h1, h⟩ := hq9
        rw [Bool.and_eq_true] at h1
        rw [gSp_eq, gSp_eq] at h
        obtain ⟨v, cr, rfl, hr⟩ := two_l hs
        have hq := two_i hr
        clear hr
        obtain ⟨x, cr, rfl, hx, hr⟩ := hq
        have hq := two_c hr
        clear hr
        obtain ⟨w2, cr, rfl, ⟨a, ha, rfl⟩, hr⟩ := hq
        obtain ⟨a2, e, ha2, hag, hgt, he, hc⟩ := arG_V hW.2.2.2.1 hW.2.2.2.2.2 e1
        cases ha.symm.trans ha2
        obtain ⟨l, rfl, hl⟩ := hc
        obtain ⟨z, z1, z2, z3, z4⟩ := at_fs hW.2.2.1 hW.2.2.2.2.1 hx h1.1 hl
        have hc2 : ctOK aT (.inr (2, n, et)) (.inl (2, .inr (.inl (gPut l x.toNatClampNeg v)))) := ⟨_, rfl, by rw [put_len]; exact hl⟩
        refine ⟨cr, _, _, _, _, _, _, _, ρ, π, ?_, Pre.refl _, Pre.refl _, hr, hW.row hd hag hgt he hc2, Frm.row he hag (mdIn_iff.mp h1.2), h⟩
        show (match gNth M a with
          | some (.inl (2, .inr (.inl l))) => match gAt l x with
            | some _ => some (cr, gPut M a (.inl (2, .inr (.inl (gPut l x.toNatClampNeg v)))))
            | none => none
          | _ => none) = _
        rw [he]
        show (match gAt l x with
          | some _ => some (cr, gPut M a (.inl (2, .inr (.inl (gPut l x.toNatClampNeg v)))))
          | none => none) = _
        rw [z1]
      · cases h
    · cases h
  case aastore =>
    unfold getA at h
    dsimp only at h
    split at h
    · rename_i R2 L R r
      split at h
      · rename_i grp q n g2 g3 e1 e2
        split at h
        · rename_i c fts e3
          have hq9 := cond_t (α := Nat) h
          clear h
          obtain ⟨h1, h⟩ := hq9
          obtain ⟨h4, h1⟩ := and_t h1
          obtain ⟨h5, h7⟩ := and_t h1
          obtain ⟨h5, h6⟩ := and_t h5
          obtain ⟨h7, h8⟩ := and_t h7
          rw [gSp_eq, gSp_eq] at h
          cases Nat.eq_of_beq_eq_true h7
          obtain ⟨w1, cr, rfl, ⟨b, hb, rfl⟩, hr⟩ := two_c hs
          have hq := two_i hr
          clear hr
          obtain ⟨x, cr, rfl, hx, hr⟩ := hq
          have hq := two_c hr
          clear hr
          obtain ⟨w2, cr, rfl, ⟨a, ha, rfl⟩, hr⟩ := hq
          obtain ⟨b2, hb2, hbg⟩ := rsG_V hW.2.2.2.1 e2
          cases hb.symm.trans hb2
          obtain ⟨eb, heb, vs, rfl, -, -⟩ := hW.2.2.2.2.2.at hbg e3
          obtain ⟨a2, e, ha2, hag, hgt, he, hc⟩ := arG_V hW.2.2.2.1 hW.2.2.2.2.2 e1
          cases ha.symm.trans ha2
          have hq2 : q ≠ 2 := fun z => by rw [z] at h4; cases h4
          obtain ⟨l, rfl, hl, hv⟩ := ct_ref hq2 hc
          obtain ⟨z, z1, z2, z3, z4⟩ := at_fs hW.2.2.1 hW.2.2.2.2.1 hx h5 hl
          have hc2 : ctOK aT (.inr (q, n, .inr g2)) (.inl (q, .inr (.inr (gPut l x.toNatClampNeg (some b))))) := by
            refine ct_mkr hq2 (by rw [put_len]; exact hl) (fun j y hy => ?_)
            rw [nth_put] at hy
            split at hy
            · cases hy
              exact ⟨b, rfl, hbg⟩
            · exact hv j y hy
          refine ⟨cr, _, _, _, _, _, _, _, ρ, π, ?_, Pre.refl _, Pre.refl _, hr, hW.row hd hag hgt he hc2, Frm.row he hag (mdIn_iff.mp h6), h⟩
          show (match gNth M a, gNth M b with
            | some (.inl (t, .inr (.inr l))), some (.inr (c, _)) => match gAt l x with
              | some _ => cond (Nat.beq (gEl t) c) (some (cr, gPut M a (.inl (t, .inr (.inr (gPut l x.toNatClampNeg (some b))))))) none
              | none => none
            | _, _ => none) = _
          rw [he, heb]
          show (match gAt l x with
            | some _ => cond (Nat.beq (gEl q) c) (some (cr, gPut M a (.inl (q, .inr (.inr (gPut l x.toNatClampNeg (some b))))))) none
            | none => none) = _
          rw [z1]
          dsimp only
          rw [h8]
          rfl
        · cases h
      · cases h
    · cases h
  case arraylength =>
    unfold getA at h
    dsimp only at h
    split at h
    · rename_i R r
      split at h
      · rename_i grp q n sg e1
        have hq9 := cond_t (α := Nat) h
        clear h
        obtain ⟨h1, h⟩ := hq9
        rw [Bool.and_eq_true] at h1
        obtain ⟨h2, h3⟩ := h1
        have h3 := Nat.le_of_ble_eq_true h3
        obtain ⟨w2, cr, rfl, ⟨a, ha, rfl⟩, hr⟩ := two_c hs
        obtain ⟨a2, e, ha2, hag, hgt, he, hc⟩ := arG_V hW.2.2.2.1 hW.2.2.2.2.2 e1
        cases ha.symm.trans ha2
        have hn : (Int32.ofNat n).toInt = (n : Int) := nI_toInt (by omega)
        rw [Bool.or_eq_true] at h2
        rcases h2 with h2 | h2
        · cases Nat.eq_of_beq_eq_true h2
          obtain ⟨l, rfl, hl, hv⟩ := ct_int (by decide) hc
          have e2 : gGet .arraylength none o ini (.ref a :: cr) M = some (.int (Int32.ofNat n) :: cr, M) := by
            show (match gNth M a with
              | some (.inl (1, .inl l)) => some (Value.int (Int32.ofNat (gLn l)) :: cr, M)
              | some (.inl (3, .inl l)) => some (Value.int (Int32.ofNat (gLn l)) :: cr, M)
              | _ => none) = _
            rw [he]
            show some (Value.int (Int32.ofNat (gLn l)) :: cr, M) = _
            rw [ln_eq, hl]
          rw [e2]
          exact same (av_i (by rw [hn]; exact liC_V _)) hr h
        · cases Nat.eq_of_beq_eq_true h2
          obtain ⟨l, rfl, hl, hv⟩ := ct_int (by decide) hc
          have e2 : gGet .arraylength none o ini (.ref a :: cr) M = some (.int (Int32.ofNat n) :: cr, M) := by
            show (match gNth M a with
              | some (.inl (1, .inl l)) => some (Value.int (Int32.ofNat (gLn l)) :: cr, M)
              | some (.inl (3, .inl l)) => some (Value.int (Int32.ofNat (gLn l)) :: cr, M)
              | _ => none) = _
            rw [he]
            show some (Value.int (Int32.ofNat (gLn l)) :: cr, M) = _
            rw [ln_eq, hl]
          rw [e2]
          exact same (av_i (by rw [hn]; exact liC_V _)) hr h
      · cases h
    · cases h
  all_goals cases h
end GETV
