/-! THE CHECKER, 10: the library's own calls -/
noncomputable def avCat : AV → Nat
  | .inr (.inr 1) => 2
  | _ => 1
noncomputable def roomA (st : List AV) : Bool := Nat.ble ((st.map avCat).sum) 8
theorem cat1 {w : Value} (h : gC1 w = true) : w.category = 1 := Nat.eq_of_beq_eq_true h
theorem avCat_V {ρ : List Int} {π : List Nat} {v : AV} {w : Value} (h : avOK ρ π v w) : w.category = avCat v := by
  rcases v with L | R | n
  · obtain ⟨x, rfl, -⟩ := h; rfl
  · obtain ⟨a, -, rfl⟩ := h; rfl
  · match n, h with
    | 0, h => exact cat1 h
    | 1, h => obtain ⟨x, rfl⟩ := h; rfl
    | 2, h => cases h; rfl
    | n + 3, h => cases h; rfl
theorem roomA_V {ρ : List Int} {π : List Nat} {st : List AV} {cst : List Value} (hs : Two (avOK ρ π) st cst) (h : roomA st = true) : gRoom cst = true := by
  have e : ∀ {st : List AV} {cst : List Value}, Two (avOK ρ π) st cst → cst.map Value.category = st.map avCat := by
    intro st
    induction st with
    | nil =>
      intro cst hs
      cases cst with
      | nil => rfl
      | cons _ _ => exact hs.elim
    | cons v r ih =>
      intro cst hs
      obtain ⟨w, cr, rfl, hw, hr⟩ := two_c hs
      rw [List.map_cons, List.map_cons, avCat_V hw, ih hr]
  unfold gRoom
  rw [e hs]
  exact h
section NAT
variable (aT : List Nat) (gT : List CT) (gU : List (Option Nat)) (dep : Nat → Md) (FL : Nat → List Int → Mem → Prop) (md : Md)
noncomputable def sgIn (sg : List SG) (q : Iv → Bool) : Bool := sg.all (fun s => s.2.2.2.all q)
noncomputable def natA (id : Nat) (st : List AV) (hp : List HE) (fl : List FG) (g : List Iv) (gr : List Nat) (fs : List Lin) (k : List AV → List HE → List FG → List Iv → List Lin → Bool) : Bool := match id with
  | 1001 => match st with
    | .inl L :: r => match liI g L with
      | some (a, b) => cond (iLe 0 a) (k (.inl L :: r) hp fl g fs) (cond (iLe (-2147483647) a) (fI (iMax (-a) b) (fun m => k (.inl (liS g.length) :: r) hp fl (g ++ [(0, m)]) fs)) (k (.inl (liS g.length) :: r) hp fl (g ++ [ivF]) fs))
      | none => false
    | _ => false
  | 1002 => match st with
    | .inl Ly :: .inl Lx :: r => match liI g Ly, liI g Lx with
      | some (a, b), some (c, d) => fI (iMax a c) (fun lo => fI (iMax b d) (fun hi => fLs [liSub (liS g.length) Ly, liSub (liS g.length) Lx] (fun F => k (.inl (liS g.length) :: r) hp fl (g ++ [(lo, hi)]) (F ++ fs))))
      | _, _ => false
    | _ => false
  | 1003 => match st with
    | .inl Ly :: .inl Lx :: r => match liI g Ly, liI g Lx with
      | some (a, b), some (c, d) => fI (iMin a c) (fun lo => fI (iMin b d) (fun hi => fLs [liSub Ly (liS g.length), liSub Lx (liS g.length)] (fun F => k (.inl (liS g.length) :: r) hp fl (g ++ [(lo, hi)]) (F ++ fs))))
      | _, _ => false
    | _ => false
  | 1004 => match st with
    | .inl V :: .inr (.inl R) :: r => match arG aT gT gr R with
      | some (grp, 1, n, .inl sg) => cond (Nat.ble n 60000 && (mdIn md (1000 + grp) 0 && sgIn sg (fun p => inR g fs V p.1 p.2))) (gSp (hpA aT gr grp hp) (fun hp => gSp (flD dep (1000 + grp) 0 fl) (fun fl => k r hp fl g fs))) false
      | _ => false
    | _ => false
  | 1005 => match st with
    | .inl Ln9 :: .inl Ld :: .inr (.inl Rb) :: .inl Ls :: .inr (.inl Ra) :: r => match arG aT gT gr Ra, arG aT gT gr Rb with
      | some (_, 1, n, .inl sa), some (grp, 1, m, .inl sb) => cond ((inR g fs Ls 0 n && (inR g fs Ld 0 m && (inR g fs Ln9 0 (iMin n m) && (inR g fs (liAdd Ls Ln9) 0 n && inR g fs (liAdd Ld Ln9) 0 m)))) && (mdIn md (1000 + grp) 0 && sgIn sa (fun p => sgAll sb p.1 p.2))) (gSp (hpA aT gr grp hp) (fun hp => gSp (flD dep (1000 + grp) 0 fl) (fun fl => k r hp fl g fs))) false
      | _, _ => false
    | _ => false
  | _ => false
def NatR (ρ : List Int) (π : List Nat) (gr : List Nat) (M : Mem) (k : List AV → List HE → List FG → List Iv → List Lin → Bool) (o : Option (List Value × Mem)) : Prop := ∃ cst M' st' hp' fl' g' fs' ρ', o = some (cst, M') ∧ Pre ρ ρ' ∧ Two (avOK ρ' π) st' cst ∧ Wd aT gT FL ρ' π hp' fl' g' gr fs' M' ∧ Frm aT md M M' ∧ k st' hp' fl' g' fs' = true
variable {aT gT gU dep FL md}
variable {ρ : List Int} {π : List Nat} {hp : List HE} {fl : List FG} {g : List Iv} {gr : List Nat} {fs : List Lin} {M : Mem}
theorem Wd.facts {fs' : List Lin} (hW : Wd aT gT FL ρ π hp fl g gr fs M) (h : fOK ρ fs') : Wd aT gT FL ρ π hp fl g gr (fs' ++ fs) M := ⟨hW.1, hW.2.1, hW.2.2.1, hW.2.2.2.1, fun F hF => by
  rcases List.mem_append.mp hF with hF | hF
  · exact h F hF
  · exact hW.2.2.2.2.1 F hF, hW.2.2.2.2.2⟩
theorem sg_at {sg : List SG} {i : Nat} {p : Iv} {q : Iv → Bool} (h : sgIn sg q = true) (hp : sgAt sg i = some p) : q p = true := by
  induction sg with
  | nil => cases hp
  | cons s r ih =>
    obtain ⟨s1, s2, w, l⟩ := s
    have h : (l.all q && sgIn r q) = true := h
    rw [Bool.and_eq_true] at h
    have hp : cond (Nat.ble s1 i && Nat.blt i s2) (gNth l ((i - s1) % w)) (sgAt r i) = some p := hp
    cases hb : Nat.ble s1 i && Nat.blt i s2 with
    | true =>
      rw [hb] at hp
      exact List.all_eq_true.mp h.1 p (gNth_mem _ _ _ hp)
    | false =>
      rw [hb] at hp
      exact ih h.2 hp
theorem clp_of {x : Int32} {a b : Int} (h : a ≤ x.toInt ∧ x.toInt ≤ b) (h0 : 0 ≤ a) : decide (x < 0) = false ∧ (x.toNatClampNeg : Int) = x.toInt := by
  obtain ⟨j, hj, rfl, e⟩ := nI_nn (show 0 ≤ x.toInt by omega)
  exact ⟨decide_eq_false (nI_pos hj), by rw [nI_clamp hj, e]⟩
theorem cp_nth (f g : List Int32) (sp dp n : Nat) (h4 : sp + n ≤ f.length) (h5 : dp + n ≤ g.length) {j : Nat} {x : Int32} (h : gNth (g.take dp ++ ((f.drop sp).take n ++ g.drop (dp + n))) j = some x) : gNth g j = some x ∨ (∃ i, gNth f i = some x ∧ j < g.length) := by
  rw [nth_eq] at h
  by_cases c1 : j < dp
  · left
    rw [List.getElem?_append_left (by rw [List.length_take]; omega), List.getElem?_take, if_pos c1] at h
    rw [nth_eq]
    exact h
  · have l1 : (g.take dp).length = dp := by rw [List.length_take]; omega
    rw [List.getElem?_append_right (by omega), l1] at h
    have l2 : ((f.drop sp).take n).length = n := by rw [List.length_take, List.length_drop]; omega
    by_cases c2 : j - dp < n
    · right
      rw [List.getElem?_append_left (by omega), List.getElem?_take, if_pos c2, List.getElem?_drop] at h
      exact ⟨_, by rw [nth_eq]; exact h, by omega⟩
    · left
      rw [List.getElem?_append_right (by omega), l2, List.getElem?_drop] at h
      have : dp + n + (j - dp - n) = j := by omega
      rw [this] at h
      rw [nth_eq]
      exact h
set_option maxHeartbeats 4000000 in
theorem natA_V (hd : depOK aT dep FL) (hW : Wd aT gT FL ρ π hp fl g gr fs M) {id : Nat} {st : List AV} {cst : List Value} {k : List AV → List HE → List FG → List Iv → List Lin → Bool} (hs : Two (avOK ρ π) st cst) (h : natA aT gT dep md id st hp fl g gr fs k = true) : NatR aT gT FL md ρ π gr M k (gNat id cst M) := by
  unfold natA at h
  split at h
  · split at h
    · rename_i L r
      obtain ⟨x, cr, rfl, hx, hr⟩ := two_i hs
      have e0 := i0_toInt
      split at h
      · rename_i a b e1
        have hb := liI_V hW.2.2.1 e1 hx
        have e2 : gNat 1001 (.int x :: cr) M = some (.int (if 0 ≤ x then x else 0 - x) :: cr, M) := rfl
        rw [e2]
        cases h0 : iLe 0 a with
        | true =>
          rw [h0] at h
          have h0 := iLe_iff.mp h0
          have hx0 : 0 ≤ x := Int32.le_iff_toInt_le.mpr (by omega)
          rw [if_pos hx0]
          exact ⟨_, M, _, _, _, _, _, ρ, rfl, Pre.refl _, Two.mk (av_i hx) hr, hW, Frm.refl _, h⟩
        | false =>
          rw [h0] at h
          have fin : ∀ z : Int32, ∀ lo hi : Int, lo ≤ z.toInt → z.toInt ≤ hi → k (.inl (liS g.length) :: r) hp fl (g ++ [(lo, hi)]) fs = true → NatR aT gT FL md ρ π gr M k (some (.int z :: cr, M)) := by
            intro z lo hi h1 h2 h
            exact ⟨_, M, _, _, _, _, _, ρ ++ [z.toInt], rfl, Pre.one _ _, Two.mk (av_i (push_S hW.2.2.1 _)) (st_mono (Pre.one _ _) hr), hW.push h1 h2, Frm.refl _, h⟩
          cases h1 : iLe (-2147483647) a with
          | true =>
            rw [h1] at h
            rw [cond_ff, cond_tt, fI_eq] at h
            have h1 := iLe_iff.mp h1
            have hm := @le_iMax (-a) b
            refine fin _ 0 (iMax (-a) b) ?_ ?_ h
            · by_cases hx0 : 0 ≤ x
              · rw [if_pos hx0]
                have := Int32.le_iff_toInt_le.mp hx0
                omega
              · rw [if_neg hx0]
                have h9 : ¬ 0 ≤ x.toInt := fun q => hx0 (Int32.le_iff_toInt_le.mpr (by omega))
                rw [i32_sub (by omega) (by omega)]
                omega
            · by_cases hx0 : 0 ≤ x
              · rw [if_pos hx0]
                omega
              · rw [if_neg hx0]
                have h9 : ¬ 0 ≤ x.toInt := fun q => hx0 (Int32.le_iff_toInt_le.mpr (by omega))
                rw [i32_sub (by omega) (by omega)]
                omega
          | false =>
            rw [h1, cond_ff, cond_ff] at h
            exact fin _ _ _ (i32_lt _).1 (i32_lt _).2 h
      · cases h
    · cases h
  · split at h
    · rename_i Ly Lx r
      obtain ⟨y, cr, rfl, hy, hr⟩ := two_i hs
      have hq := two_i hr
      clear hr
      obtain ⟨x, cr, rfl, hx, hr⟩ := hq
      split at h
      · rename_i a b c d e1 e2
        rw [fI_eq, fI_eq, fLs_eq] at h
        have h1 := liI_V hW.2.2.1 e1 hy
        have h2 := liI_V hW.2.2.1 e2 hx
        have e3 : gNat 1002 (.int y :: .int x :: cr) M = some (.int (if x < y then y else x) :: cr, M) := rfl
        rw [e3]
        have hz : ((if x < y then y else x).toInt = y.toInt ∧ x.toInt ≤ y.toInt) ∨ ((if x < y then y else x).toInt = x.toInt ∧ y.toInt ≤ x.toInt) := by
          by_cases q : x < y
          · rw [if_pos q]
            have := Int32.lt_iff_toInt_lt.mp q
            exact Or.inl ⟨rfl, by omega⟩
          · rw [if_neg q]
            have : ¬ x.toInt < y.toInt := fun z => q (Int32.lt_iff_toInt_lt.mpr z)
            exact Or.inr ⟨rfl, by omega⟩
        generalize (if x < y then y else x) = z at hz ⊢
        have m1 := @iMax_or a c
        have m2 := @le_iMax b d
        have hS := push_S hW.2.2.1 z.toInt
        refine ⟨_, M, _, _, _, _, _, ρ ++ [z.toInt], rfl, Pre.one _ _, Two.mk (av_i hS) (st_mono (Pre.one _ _) hr), (hW.push ?_ ?_).facts (two_V (liSub_V hS ((Pre.one _ _).liV hy)) ?_ (liSub_V hS ((Pre.one _ _).liV hx)) ?_), Frm.refl _, h⟩ <;> omega
      · cases h
    · cases h
  · split at h
    · rename_i Ly Lx r
      obtain ⟨y, cr, rfl, hy, hr⟩ := two_i hs
      have hq := two_i hr
      clear hr
      obtain ⟨x, cr, rfl, hx, hr⟩ := hq
      split at h
      · rename_i a b c d e1 e2
        rw [fI_eq, fI_eq, fLs_eq] at h
        have h1 := liI_V hW.2.2.1 e1 hy
        have h2 := liI_V hW.2.2.1 e2 hx
        have e3 : gNat 1003 (.int y :: .int x :: cr) M = some (.int (if y < x then y else x) :: cr, M) := rfl
        rw [e3]
        have hz : ((if y < x then y else x).toInt = y.toInt ∧ y.toInt ≤ x.toInt) ∨ ((if y < x then y else x).toInt = x.toInt ∧ x.toInt ≤ y.toInt) := by
          by_cases q : y < x
          · rw [if_pos q]
            have := Int32.lt_iff_toInt_lt.mp q
            exact Or.inl ⟨rfl, by omega⟩
          · rw [if_neg q]
            have : ¬ y.toInt < x.toInt := fun z => q (Int32.lt_iff_toInt_lt.mpr z)
            exact Or.inr ⟨rfl, by omega⟩
        generalize (if y < x then y else x) = z at hz ⊢
        have m1 := @iMin_le a c
        have m2 := @iMin_or b d
        have hS := push_S hW.2.2.1 z.toInt
        refine ⟨_, M, _, _, _, _, _, ρ ++ [z.toInt], rfl, Pre.one _ _, Two.mk (av_i hS) (st_mono (Pre.one _ _) hr), (hW.push ?_ ?_).facts (two_V (liSub_V ((Pre.one _ _).liV hy) hS) ?_ (liSub_V ((Pre.one _ _).liV hx) hS) ?_), Frm.refl _, h⟩ <;> omega
      · cases h
    · cases h
  · split at h
    · rename_i V R r
      split at h
      · rename_i grp n sg e1
        have hq9 := cond_t (α := Nat) h
        clear h
        obtain ⟨h1, h⟩ := hq9
        rw [Bool.and_eq_true, Bool.and_eq_true] at h1
        obtain ⟨h1, h2, h3⟩ := h1
        rw [gSp_eq, gSp_eq] at h
        obtain ⟨v, cr, rfl, hv9, hr⟩ := two_i hs
        have hq := two_c hr
        clear hr
        obtain ⟨w2, cr, rfl, ⟨a, ha, rfl⟩, hr⟩ := hq
        obtain ⟨a2, e, ha2, hag, hgt, he, hc⟩ := arG_V hW.2.2.2.1 hW.2.2.2.2.2 e1
        cases ha.symm.trans ha2
        obtain ⟨l, rfl, hl, hv⟩ := ct_int (by decide) hc
        have e2 : gNat 1004 (.int v :: .ref a :: cr) M = some (cr, gPut M a (.inl (1, .inl (gRep (gLn l) v)))) := by
          show (match gNth M a with
            | some (.inl (1, .inl l)) => cond (Nat.ble (gLn l) 60000) (some (cr, gPut M a (.inl (1, .inl (gRep (gLn l) v))))) none
            | _ => none) = _
          rw [he]
          show cond (Nat.ble (gLn l) 60000) (some (cr, gPut M a (.inl (1, .inl (gRep (gLn l) v))))) none = _
          rw [ln_eq, hl, h1]
          rfl
        rw [e2]
        have hc2 : ctOK aT (.inr (1, n, .inl sg)) (.inl (1, .inl (gRep (gLn l) v))) := by
          refine ct_mk (by decide) (by rw [rep_eq, List.length_replicate, ln_eq]; exact hl) (fun j y hy => ?_)
          rw [nth_eq, rep_eq, ln_eq, List.getElem?_replicate] at hy
          split at hy
          · rename_i hj
            cases hy
            obtain ⟨z, hz⟩ := nth_some hj
            obtain ⟨p, i1, -, -⟩ := hv j z hz
            exact ⟨p, i1, inR_V hW.2.2.1 hW.2.2.2.2.1 (sg_at h3 i1) hv9⟩
          · cases hy
        exact ⟨cr, _, _, _, _, _, _, ρ, rfl, Pre.refl _, hr, hW.row hd hag hgt he hc2, Frm.row he hag (mdIn_iff.mp h2), h⟩
      · cases h
    · cases h
  · split at h
    · rename_i Ln9 Ld Rb Ls Ra r
      split at h
      · rename_i grpa n sa grp m sb e1 e2
        have hq9 := cond_t (α := Nat) h
        clear h
        obtain ⟨h1, h⟩ := hq9
        obtain ⟨i1, h2⟩ := and_t h1
        obtain ⟨h2, h3⟩ := and_t h2
        obtain ⟨i1, i2⟩ := and_t i1
        obtain ⟨i2, i3⟩ := and_t i2
        obtain ⟨i3, i4⟩ := and_t i3
        obtain ⟨i4, i5⟩ := and_t i4
        rw [gSp_eq, gSp_eq] at h
        obtain ⟨xn, cr, rfl, hn, hr⟩ := two_i hs
        have hq := two_i hr
        clear hr
        obtain ⟨xd, cr, rfl, hdp, hr⟩ := hq
        have hq := two_c hr
        clear hr
        obtain ⟨w2, cr, rfl, ⟨b, hb, rfl⟩, hr⟩ := hq
        have hq := two_i hr
        clear hr
        obtain ⟨xs, cr, rfl, hsp, hr⟩ := hq
        have hq := two_c hr
        clear hr
        obtain ⟨w3, cr, rfl, ⟨a, ha, rfl⟩, hr⟩ := hq
        obtain ⟨a2, ea, ha2, hag, hgt, hea, hca⟩ := arG_V hW.2.2.2.1 hW.2.2.2.2.2 e1
        cases ha.symm.trans ha2
        obtain ⟨la, rfl, hla, hva⟩ := ct_int (by decide) hca
        obtain ⟨b2, eb, hb2, hbg, hgtb, heb, hcb⟩ := arG_V hW.2.2.2.1 hW.2.2.2.2.2 e2
        cases hb.symm.trans hb2
        obtain ⟨lb, rfl, hlb, hvb⟩ := ct_int (by decide) hcb
        have j1 := inR_V hW.2.2.1 hW.2.2.2.2.1 i1 hsp
        have j2 := inR_V hW.2.2.1 hW.2.2.2.2.1 i2 hdp
        have j3 := inR_V hW.2.2.1 hW.2.2.2.2.1 i3 hn
        have j4 := inR_V hW.2.2.1 hW.2.2.2.2.1 i4 (liAdd_V hsp hn)
        have j5 := inR_V hW.2.2.1 hW.2.2.2.2.1 i5 (liAdd_V hdp hn)
        obtain ⟨c1, c2⟩ := clp_of j1 (by decide)
        obtain ⟨c3, c4⟩ := clp_of j2 (by decide)
        obtain ⟨c5, c6⟩ := clp_of j3 (by decide)
        have k1 : xs.toNatClampNeg + xn.toNatClampNeg ≤ la.length := by omega
        have k2 : xd.toNatClampNeg + xn.toNatClampNeg ≤ lb.length := by omega
        have e3 : gNat 1005 (.int xn :: .int xd :: .ref b :: .int xs :: .ref a :: cr) M = some (cr, gPut M b (.inl (1, .inl (lb.take xd.toNatClampNeg ++ ((la.drop xs.toNatClampNeg).take xn.toNatClampNeg ++ lb.drop (xd.toNatClampNeg + xn.toNatClampNeg)))))) := by
          show (match gNth M a, gNth M b with
            | some (.inl (1, .inl f)), some (.inl (1, .inl g)) => cond (!decide (xs < 0) && !decide (xd < 0) && !decide (xn < 0) && Nat.ble (xs.toNatClampNeg + xn.toNatClampNeg) (gLn f) && Nat.ble (xd.toNatClampNeg + xn.toNatClampNeg) (gLn g)) (some (cr, gPut M b (.inl (1, .inl (g.take xd.toNatClampNeg ++ ((f.drop xs.toNatClampNeg).take xn.toNatClampNeg ++ g.drop (xd.toNatClampNeg + xn.toNatClampNeg))))))) none
            | _, _ => none) = _
          rw [hea, heb]
          show cond (!decide (xs < 0) && !decide (xd < 0) && !decide (xn < 0) && Nat.ble (xs.toNatClampNeg + xn.toNatClampNeg) (gLn la) && Nat.ble (xd.toNatClampNeg + xn.toNatClampNeg) (gLn lb)) (some (cr, gPut M b (.inl (1, .inl (lb.take xd.toNatClampNeg ++ ((la.drop xs.toNatClampNeg).take xn.toNatClampNeg ++ lb.drop (xd.toNatClampNeg + xn.toNatClampNeg))))))) none = _
          rw [c1, c3, c5, ln_eq, ln_eq, Nat.ble_eq_true_of_le k1, Nat.ble_eq_true_of_le k2]
          rfl
        rw [e3]
        have hc2 : ctOK aT (.inr (1, m, .inl sb)) (.inl (1, .inl (lb.take xd.toNatClampNeg ++ ((la.drop xs.toNatClampNeg).take xn.toNatClampNeg ++ lb.drop (xd.toNatClampNeg + xn.toNatClampNeg))))) := by
          refine ct_mk (by decide) ?_ (fun j y hy => ?_)
          · rw [List.length_append, List.length_append, List.length_take, List.length_take, List.length_drop, List.length_drop]
            omega
          · rcases cp_nth la lb _ _ _ k1 k2 hy with q | ⟨i, q, hj⟩
            · exact hvb j y q
            · obtain ⟨p, p1, p2, p3⟩ := hva i y q
              obtain ⟨z, hz⟩ := nth_some hj
              obtain ⟨p', q1, -, -⟩ := hvb j z hz
              have := sgAll_V (sg_at (q := fun p => sgAll sb p.1 p.2) h3 p1) q1
              exact ⟨p', q1, by omega, by omega⟩
        exact ⟨cr, _, _, _, _, _, _, ρ, rfl, Pre.refl _, hr, hW.row hd hbg hgtb heb hc2, Frm.row heb hbg (mdIn_iff.mp h2), h⟩
      · cases h
    · cases h
  · cases h
end NAT
