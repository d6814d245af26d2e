/-! THE CHECKER, 12: soundness of the walk -/
section GS
variable {SA : Sta} {d me pc o np kf mx : Nat} {y : MethodName} {cc : ByteArray} {ret : Option FieldType} {tab : List (Nat × Nat × Instr)} {ls ls' : Lo} {st st' : List Value} {M M' : Mem} {i : Instr}
theorem gs_0 (hrow : gNth mRs me = some (o, y, cc, mx, ret, np, kf, tab)) (hl : gLook tab pc = some (0, i)) (h : gAlu i st = some st') (n : Nat) : go SA (n + 1) d me pc ls st M = go SA n d me (pc + gLen i) ls st' M := by
  rw [go_succ]
  unfold gStep
  rw [hrow]
  dsimp only
  rw [hl]
  dsimp only
  rw [h]
  rfl
theorem gs_1 (hrow : gNth mRs me = some (o, y, cc, mx, ret, np, kf, tab)) (hl : gLook tab pc = some (1, i)) (h : gLoc i ls st = some (ls', st')) (n : Nat) : go SA (n + 1) d me pc ls st M = go SA n d me (pc + gLen i) ls' st' M := by
  rw [go_succ]
  unfold gStep
  rw [hrow]
  dsimp only
  rw [hl]
  dsimp only
  rw [h]
  rfl
theorem gs_2 {pc' : Nat} (hrow : gNth mRs me = some (o, y, cc, mx, ret, np, kf, tab)) (hl : gLook tab pc = some (2, i)) (h : gJmp i pc st = some (pc', st')) (n : Nat) : go SA (n + 1) d me pc ls st M = go SA n d me pc' ls st' M := by
  rw [go_succ]
  unfold gStep
  rw [hrow]
  dsimp only
  rw [hl]
  dsimp only
  rw [h]
  rfl
theorem gs_3 (hrow : gNth mRs me = some (o, y, cc, mx, ret, np, kf, tab)) (hl : gLook tab pc = some (3, i)) (h : gGet i SA o (Nat.beq kf 2) st M = some (st', M')) (n : Nat) : go SA (n + 1) d me pc ls st M = go SA n d me (pc + gLen i) ls st' M' := by
  rw [go_succ]
  unfold gStep
  rw [hrow]
  dsimp only
  rw [hl]
  dsimp only
  rw [h]
  rfl
theorem gs_4 (hrow : gNth mRs me = some (o, y, cc, mx, ret, np, kf, tab)) (hl : gLook tab pc = some (4, i)) (h : gGet i SA o (Nat.beq kf 2) st M = some (st', M')) (n : Nat) : go SA (n + 1) d me pc ls st M = go SA n d me (pc + gLen i) ls st' M' := by
  rw [go_succ]
  unfold gStep
  rw [hrow]
  dsimp only
  rw [hl]
  dsimp only
  rw [h]
  rfl
theorem gs_6 {v : Option Value} (hrow : gNth mRs me = some (o, y, cc, mx, ret, np, kf, tab)) (hl : gLook tab pc = some (6, i)) (h : gRet ret i st = some v) (n : Nat) : go SA (n + 1) d me pc ls st M = some (v, M, 0, 0) := by
  rw [go_succ]
  unfold gStep
  rw [hrow]
  dsimp only
  rw [hl]
  dsimp only
  rw [h]
  rfl
theorem gs_7n (hrow : gNth mRs me = some (o, y, cc, mx, ret, np, kf, tab)) (hl : gLook tab pc = some (7, i)) (h : gCal i o st M = some (.inl (st', M'))) (n : Nat) : go SA (n + 1) (d + 1) me pc ls st M = go SA n (d + 1) me (pc + 3) ls st' M' := by
  rw [go_succ]
  unfold gStep
  rw [hrow]
  dsimp only
  rw [hl]
  dsimp only
  rw [h]
  rfl
theorem gs_7c {id : Nat} {ls0 : Lo} {rest : List Value} (hrow : gNth mRs me = some (o, y, cc, mx, ret, np, kf, tab)) (hl : gLook tab pc = some (7, i)) (h : gCal i o st M = some (.inr (id, ls0, rest))) (n : Nat) : go SA (n + 1) (d + 1) me pc ls st M = gThen (go SA n d id 0 ls0 [] M) (fun v M' c s => gAdd c s (go SA n (d + 1) me (pc + 3) ls (v.toList ++ rest) M')) := by
  rw [go_succ]
  unfold gStep
  rw [hrow]
  dsimp only
  rw [hl]
  dsimp only
  rw [h]
  rfl
end GS
def afOK (ρ : List Int) (π : List Nat) (f : AF) (c : CF) : Prop := f.1 = c.1 ∧ f.2.1 = c.2.1 ∧ Two (loOK ρ π) f.2.2.1 c.2.2.1 ∧ Two (avOK ρ π) f.2.2.2 c.2.2.2
def rtOK (ρ : List Int) (π : List Nat) (v : Option AV) (w : Option Value) : Prop := match v, w with
  | none, none => True
  | some v, some w => avOK ρ π v w
  | _, _ => False
theorem fr_mono {ρ ρ' : List Int} {π π' : List Nat} (h : Pre ρ ρ') (h2 : Pre π π') {fr : List AF} {cf : List CF} (hf : Two (afOK ρ π) fr cf) : Two (afOK ρ' π') fr cf := Two.mono (fun _ _ q => ⟨q.1, q.2.1, Two.mono (fun _ _ z => loOK.mono h h2 z) q.2.2.1, Two.mono (fun _ _ z => avOK.mono h h2 z) q.2.2.2⟩) hf
theorem lo_mono {ρ ρ' : List Int} {π π' : List Nat} (h : Pre ρ ρ') (h2 : Pre π π') {lo : List AV} {cl : Lo} (hf : Two (loOK ρ π) lo cl) : Two (loOK ρ' π') lo cl := Two.mono (fun _ _ z => loOK.mono h h2 z) hf
section EXV
variable {aT : List Nat} {gT : List CT} {gU : List (Option Nat)} {dep : Nat → Md} {FL : Nat → List Int → Mem → Prop} {md : Md} {Δ : List CN} {me0 : Nat}
variable {cut : Nat → Bool} {chk : Nat → List AV → List AV → List HE → List FG → List Iv → List Nat → List Lin → Bool} {rtc : Option AV → List HE → List FG → List Iv → List Nat → List Lin → Bool}
theorem cnL_V {id : Nat} : ∀ {l : List CN} {c : CN}, c ∈ cnL id l → c ∈ l ∧ c.1 = id
  | [], c, h => by cases h
  | x :: r, c, h => by
    have h : c ∈ cond (Nat.beq x.1 id) (x :: cnL id r) (cnL id r) := h
    cases hb : Nat.beq x.1 id with
    | true =>
      rw [hb] at h
      rcases List.mem_cons.mp h with rfl | h
      · exact ⟨List.mem_cons_self, Nat.eq_of_beq_eq_true hb⟩
      · obtain ⟨h1, h2⟩ := cnL_V h
        exact ⟨List.mem_cons_of_mem _ h1, h2⟩
    | false =>
      rw [hb] at h
      obtain ⟨h1, h2⟩ := cnL_V h
      exact ⟨List.mem_cons_of_mem _ h1, h2⟩
theorem cnS_V {D : Nat} {as rest : List AV} {hp : List HE} {fl : List FG} {g : List Iv} {gr : List Nat} {fs : List Lin} {k : List AV → List HE → List FG → List Iv → List Nat → List Lin → Bool} : ∀ (l : List CN), cnS aT gT gU dep md D as rest hp fl g gr fs k l = true → ∃ c ∈ l, cnA aT gT gU dep c md D as rest hp fl g gr fs k = true
  | [], h => by cases h
  | x :: r, h => by
    have h : (cnA aT gT gU dep x md D as rest hp fl g gr fs k || cnS aT gT gU dep md D as rest hp fl g gr fs k r) = true := h
    rw [Bool.or_eq_true] at h
    rcases h with h | h
    · exact ⟨x, List.mem_cons_self, h⟩
    · obtain ⟨c, hc, h⟩ := cnS_V r h
      exact ⟨c, List.mem_cons_of_mem _ hc, h⟩
theorem retA_V {ρ : List Int} {π : List Nat} {g : List Iv} {fs : List Lin} (hg : gOK ρ g) (hf : fOK ρ fs) {ret : Option FieldType} {i : Instr} {st : List AV} {cst : List Value} {v : Option AV} (hs : Two (avOK ρ π) st cst) (h : retA ret i st g fs = some v) : ∃ w, gRet ret i cst = some w ∧ rtOK ρ π v w := by
  unfold retA at h
  split at h
  · split at h
    · cases h
      cases cst with
      | nil => exact ⟨none, rfl, trivial⟩
      | cons _ _ => exact hs.elim
    · cases h
  · split at h
    · cases h
      obtain ⟨x, cr, rfl, hx, hr⟩ := two_i hs
      cases cr with
      | nil => exact ⟨some (.int x), rfl, av_i (π := π) hx⟩
      | cons _ _ => exact hr.elim
    · obtain ⟨h1, h2⟩ := cond_inv h
      cases h2
      obtain ⟨x, cr, rfl, hx, hr⟩ := two_i hs
      cases cr with
      | nil =>
        refine ⟨some (.int x), ?_, av_i (π := π) hx⟩
        have := inR_V hg hf h1 hx
        show cond (fits .boolean (.int x)) _ none = _
        rw [fits01 this.1 this.2]
        rfl
      | cons _ _ => exact hr.elim
    · cases h
  · cases h
theorem two_drop1 {ρ : List Int} {π : List Nat} {st : List AV} {cst : List Value} (hs : Two (avOK ρ π) st cst) {np : Nat} {v : AV} {r : List AV} (h : st.drop np = v :: r) : ∃ w cr, cst.drop np = w :: cr ∧ avOK ρ π v w ∧ Two (avOK ρ π) r cr := by
  have := Two.drop np hs
  rw [h] at this
  exact two_c this
theorem calA_V {ρ : List Int} {π gr : List Nat} (hp : prOK aT π gr) {M : Mem} (hT : TM aT gT M) {i : Instr} {o : Nat} {st : List AV} {cst : List Value} (hs : Two (avOK ρ π) st cst) {x : Nat ⊕ (Nat × Nat × List AV × List AV)} (h : calA aT gT i o gr st = some x) : match x with
    | .inl id => ∀ q, gNat id cst M = some q → gRoom q.1 = true → gCal i o cst M = some (.inl q)
    | .inr (id, maxL, as, rest) => ∃ ws cr q, gNth mRs id = some q ∧ q.2.2.2.1 = maxL ∧ Two (avOK ρ π) as ws ∧ Two (avOK ρ π) rest cr ∧ gCal i o cst M = some (.inr (id, gPad maxL (gArgs ws), cr)) := by
  have main : ∀ ix kind, gCal i o cst M = gCalk o ix kind cst M → (match gOwn mRes o ix with
    | none => none
    | some (id, nest, _) => match Nat.ble 1000 id with
      | true => cond (Nat.beq kind 0 && (Nat.ble 1001 id && Nat.ble id 1005)) (some (.inl id)) none
      | false => match gNth mRs id with
        | none => none
        | some (o2, _, _, maxL, _, np, kf, _) => match kind with
          | 0 => cond (Nat.beq kf 0 && (Nat.ble np st.length && (roomA (st.drop np) && Nat.ble (lcA (st.take np).reverse).length maxL))) (some (.inr (id, maxL, (st.take np).reverse, st.drop np))) none
          | k + 1 => match st.drop np with
            | .inr (.inl R) :: r => cond ((Nat.beq kf (k + 1) && (Nat.beq nest 0 || Nat.beq k 1)) && (Nat.ble np st.length && ((match rsG aT gr R with
              | some g2 => (match gNth gT g2 with
                | some (.inl (c, _)) => Nat.beq c o2
                | _ => false)
              | none => false) && (roomA r && Nat.ble (lcA (.inr (.inl R) :: (st.take np).reverse)).length maxL)))) (some (.inr (id, maxL, .inr (.inl R) :: (st.take np).reverse, r))) none
            | _ => none) = some x → (match x with
    | .inl id => ∀ q, gNat id cst M = some q → gRoom q.1 = true → gCal i o cst M = some (.inl q)
    | .inr (id, maxL, as, rest) => ∃ ws cr q, gNth mRs id = some q ∧ q.2.2.2.1 = maxL ∧ Two (avOK ρ π) as ws ∧ Two (avOK ρ π) rest cr ∧ gCal i o cst M = some (.inr (id, gPad maxL (gArgs ws), cr))) := by
    intro ix kind e h
    rw [e]
    unfold gCalk
    split at h
    · cases h
    · rename_i id nest n9 e1
      rw [e1]
      dsimp only
      split at h
      · rename_i e2
        obtain ⟨h1, h2⟩ := cond_inv h
        cases h2
        rw [Bool.and_eq_true] at h1
        cases Nat.eq_of_beq_eq_true h1.1
        have hid : Nat.beq id 1000 = false := by
          have := Nat.le_of_ble_eq_true (and_t h1.2).1
          cases hb : Nat.beq id 1000 with
          | false => rfl
          | true => have := Nat.eq_of_beq_eq_true hb; omega
        intro q hq hroom
        rw [e2]
        dsimp only
        rw [hq]
        dsimp only
        have hid2 : Nat.ble 1006 id = false := by
          have := Nat.le_of_ble_eq_true (and_t h1.2).2
          cases hb : Nat.ble 1006 id with
          | false => rfl
          | true => have := Nat.le_of_ble_eq_true hb; omega
        rw [hid, hid2, hroom]
        rfl
      · rename_i e2
        rw [e2]
        dsimp only
        split at h
        · cases h
        · rename_i o2 y9 cc9 maxL ret9 np kf tab9 e3
          rw [e3]
          dsimp only
          have hlen := hs.len
          split at h
          · obtain ⟨h1, h2⟩ := cond_inv h
            cases h2
            obtain ⟨a1, h1⟩ := and_t h1
            obtain ⟨a2, h1⟩ := and_t h1
            obtain ⟨a3, a4⟩ := and_t h1
            have t1 := Two.rev (Two.take np hs)
            have t2 := Two.drop np hs
            refine ⟨(cst.take np).reverse, cst.drop np, (o2, y9, cc9, maxL, ret9, np, kf, tab9), e3, rfl, t1, t2, ?_⟩
            have a5 : Nat.ble (gArgs (cst.take np).reverse).length maxL = true := by
              rw [← (lcA_V _ t1).len]
              exact a4
            rw [← hlen, a1, a2, roomA_V t2 a3, a5]
            rfl
          · rename_i k
            split at h
            · rename_i R r e4
              obtain ⟨h1, h2⟩ := cond_inv h
              cases h2
              obtain ⟨a1, h1⟩ := and_t h1
              obtain ⟨a2, h1⟩ := and_t h1
              obtain ⟨a3, h1⟩ := and_t h1
              obtain ⟨a4, a5⟩ := and_t h1
              obtain ⟨w, cr, e5, ⟨a, ha, rfl⟩, hr⟩ := two_drop1 hs e4
              have t1 := Two.rev (Two.take np hs)
              have t2 : Two (avOK ρ π) (.inr (.inl R) :: (st.take np).reverse) (.ref a :: (cst.take np).reverse) := Two.mk (av_r ha) t1
              refine ⟨.ref a :: (cst.take np).reverse, cr, (o2, y9, cc9, maxL, ret9, np, kf, tab9), e3, rfl, t2, hr, ?_⟩
              have a6 : Nat.ble (gArgs (.ref a :: (cst.take np).reverse)).length maxL = true := by
                rw [← (lcA_V _ t2).len]
                exact a5
              have a7 : gRecv M (.ref a) o2 = true := by
                split at a3
                · rename_i g2 q1
                  split at a3
                  · rename_i c fts q2
                    cases Nat.eq_of_beq_eq_true a3
                    obtain ⟨a8, ha8, hg8⟩ := rsG_V hp q1
                    cases ha.symm.trans ha8
                    obtain ⟨e9, he9, vs, rfl, -, -⟩ := hT.at hg8 q2
                    show (match gNth M a with
                      | some (.inr (c, _)) => Nat.beq c o2
                      | _ => false) = true
                    rw [he9]
                    exact Nat.beq_refl _
                  · cases a3
                · cases a3
              rw [e5]
              dsimp only
              obtain ⟨b1, b2⟩ := and_t a1
              rw [← hlen, b1, b2, a2, a7, roomA_V hr a4, a6]
              rfl
            · cases h
  unfold calA at h
  cases i
  case invokestatic ix => exact main ix 0 rfl h
  case invokevirtual ix => exact main ix 1 rfl h
  case invokespecial ix => exact main ix 2 rfl h
  all_goals cases h
set_option maxHeartbeats 4000000 in
theorem exe_V (hU : uOK aT gU) (hd : depOK aT dep FL) (hct : cfOK FL) (hΔ : ∀ c ∈ Δ, cnOK aT gT FL c) {ρ0 : List Int} {π0 : List Nat} {M0 : Mem} {Q : Option Value → Mem → Prop} {d0 : Nat}
    (Hc : ∀ pc lo st hp fl g gr fs, cut pc = true → chk pc lo st hp fl g gr fs = true → ∀ ρ π cl cst M, Pre ρ0 ρ → Pre π0 π → Two (loOK ρ π) lo cl → Two (avOK ρ π) st cst → Wd aT gT FL ρ π hp fl g gr fs M → Frm aT md M0 M → RF Q [] d0 me0 pc cl cst M)
    (Hr : ∀ v hp fl g gr fs, rtc v hp fl g gr fs = true → ∀ ρ π w M, Pre ρ0 ρ → Pre π0 π → rtOK ρ π v w → Wd aT gT FL ρ π hp fl g gr fs M → Frm aT md M0 M → Q w M) :
    ∀ n D me pc lo st fr hp fl g gr fs, exe aT gT gU dep md Δ me0 cut chk rtc n D me pc lo st fr hp fl g gr fs = true → ∀ ρ π cl cst cf M d, Pre ρ0 ρ → Pre π0 π → D ≤ d → d + cf.length = d0 → Two (loOK ρ π) lo cl → Two (avOK ρ π) st cst → Two (afOK ρ π) fr cf → Wd aT gT FL ρ π hp fl g gr fs M → Frm aT md M0 M → RF Q cf d me pc cl cst M := by
  intro n
  induction n with
  | zero => intro D me pc lo st fr hp fl g gr fs h; cases h
  | succ n ih =>
    intro D me pc lo st fr hp fl g gr fs h ρ π cl cst cf M d p0 pi0 hD hd0 hl hs hf hW hF
    have nx : ∀ (me pc D : Nat) (lo st : List AV) (fr : List AF) (hp : List HE) (fl : List FG) (g : List Iv) (gr : List Nat) (fs : List Lin), gPc pc (fun pc => match fr with
      | [] => cond (cut pc) (Nat.beq me me0 && chk pc lo st hp fl g gr fs) (exe aT gT gU dep md Δ me0 cut chk rtc n D me pc lo st [] hp fl g gr fs)
      | f :: fr => exe aT gT gU dep md Δ me0 cut chk rtc n D me pc lo st (f :: fr) hp fl g gr fs) = true → ∀ ρ π cl cst cf M d, Pre ρ0 ρ → Pre π0 π → D ≤ d → d + cf.length = d0 → Two (loOK ρ π) lo cl → Two (avOK ρ π) st cst → Two (afOK ρ π) fr cf → Wd aT gT FL ρ π hp fl g gr fs M → Frm aT md M0 M → RF Q cf d me pc cl cst M := by
      intro me pc D lo st fr hp fl g gr fs h ρ π cl cst cf M d p0 pi0 hD hd0 hl hs hf hW hF
      rw [gPc_eq] at h
      cases fr with
      | nil =>
        cases cf with
        | cons _ _ => exact hf.elim
        | nil =>
          dsimp only at h
          cases hcut : cut pc with
          | false =>
            rw [hcut, cond_ff] at h
            exact ih _ _ _ _ _ _ _ _ _ _ _ h ρ π cl cst [] M d p0 pi0 hD hd0 hl hs hf hW hF
          | true =>
            rw [hcut, cond_tt] at h
            obtain ⟨h1, h2⟩ := and_t h
            cases Nat.eq_of_beq_eq_true h1
            have : d = d0 := hd0
            subst this
            exact Hc pc lo st hp fl g gr fs hcut h2 ρ π cl cst M p0 pi0 hl hs hW hF
      | cons f fr => exact ih _ _ _ _ _ _ _ _ _ _ _ h ρ π cl cst cf M d p0 pi0 hD hd0 hl hs hf hW hF
    unfold exe at h
    dsimp only at h
    split at h
    · cases h
    · rename_i o y9 cc9 mx9 ret np9 kf tab hrow
      split at h
      · cases h
      · rename_i kd i hlook
        split at h
        · obtain ⟨cst', st', g', fs', ρ', e, p1, hs', hg', hf', h⟩ := aluA_V (π := π) hW.2.2.1 hW.2.2.2.2.1 hs h
          exact RF.step (gs_0 hrow hlook e) (nx _ _ _ _ _ _ _ _ _ _ _ h ρ' π cl cst' cf M d (p0.trans p1) pi0 hD hd0 (lo_mono p1 (Pre.refl _) hl) hs' (fr_mono p1 (Pre.refl _) hf) ⟨(hW.ints p1 hg').1, (hW.ints p1 hg').2.1, hg', hW.2.2.2.1, hf', hW.2.2.2.2.2⟩ hF)
        · obtain ⟨cl', cst', lo', st', g', fs', ρ', e, p1, hl', hs', hg', hf', h⟩ := locA_V hl hs hW.2.2.1 hW.2.2.2.2.1 h
          exact RF.step (gs_1 hrow hlook e) (nx _ _ _ _ _ _ _ _ _ _ _ h ρ' π cl' cst' cf M d (p0.trans p1) pi0 hD hd0 hl' hs' (fr_mono p1 (Pre.refl _) hf) ⟨(hW.ints p1 hg').1, (hW.ints p1 hg').2.1, hg', hW.2.2.2.1, hf', hW.2.2.2.2.2⟩ hF)
        · obtain ⟨pc', cst', st', g', fs', e, hs', hg', hf', h⟩ := jmpA_V (π := π) hW.2.2.1 hW.2.2.2.2.1 hs h
          exact RF.step (gs_2 hrow hlook e) (nx _ _ _ _ _ _ _ _ _ _ _ h ρ π cl cst' cf M d p0 pi0 hD hd0 hl hs' hf ⟨hW.1, hW.2.1, hg', hW.2.2.2.1, hf', hW.2.2.2.2.2⟩ hF)
        · obtain ⟨cst', M', st', hp', fl', g', gr', fs', ρ', π', e, p1, p2, hs', hW', hF', h⟩ := getA_V (ini := Nat.beq kf 2) hU hd hW hs h
          exact RF.step (gs_3 hrow hlook e) (nx _ _ _ _ _ _ _ _ _ _ _ h ρ' π' cl cst' cf M' d (p0.trans p1) (pi0.trans p2) hD hd0 (lo_mono p1 p2 hl) hs' (fr_mono p1 p2 hf) hW' (hF.trans hF'))
        · obtain ⟨cst', M', st', hp', fl', g', gr', fs', ρ', π', e, p1, p2, hs', hW', hF', h⟩ := getA_V (ini := Nat.beq kf 2) hU hd hW hs h
          exact RF.step (gs_4 hrow hlook e) (nx _ _ _ _ _ _ _ _ _ _ _ h ρ' π' cl cst' cf M' d (p0.trans p1) (pi0.trans p2) hD hd0 (lo_mono p1 p2 hl) hs' (fr_mono p1 p2 hf) hW' (hF.trans hF'))
        · cases h
        · split at h
          · cases h
          · rename_i v hv
            obtain ⟨w, e, hrt⟩ := retA_V hW.2.2.1 hW.2.2.2.2.1 hs hv
            cases fr with
            | nil =>
              cases cf with
              | cons _ _ => exact hf.elim
              | nil => exact ⟨w, M, Ev.ret (gs_6 hrow hlook e), Hr _ _ _ _ _ _ h ρ π w M p0 pi0 hrt hW hF⟩
            | cons f fr =>
              cases cf with
              | nil => exact hf.elim
              | cons c cf =>
                obtain ⟨me1, pc1, lo1, st1⟩ := f
                obtain ⟨me2, pc2, cl1, cst1⟩ := c
                obtain ⟨⟨h1, h2, h3, h4⟩, hf2⟩ := hf
                cases h1
                cases h2
                refine RF.ret (gs_6 hrow hlook e) (nx _ _ _ _ _ _ _ _ _ _ _ h ρ π cl1 _ cf M (d + 1) p0 pi0 (Nat.succ_le_succ hD) ?_ h3 ?_ hf2 hW hF)
                · rw [List.length_cons] at hd0
                  omega
                · cases v with
                  | none =>
                    cases w with
                    | none => exact h4
                    | some _ => exact hrt.elim
                  | some v =>
                    cases w with
                    | none => exact hrt.elim
                    | some w => exact Two.mk hrt h4
        · cases D with
          | zero => cases h
          | succ D =>
            obtain ⟨d', rfl⟩ : ∃ d', d = d' + 1 := ⟨d - 1, by omega⟩
            have hD' : D ≤ d' := by omega
            dsimp only at h
            split at h
            · cases h
            · rename_i id hc
              have hc := calA_V hW.2.2.2.1 hW.2.2.2.2.2 hs hc
              obtain ⟨cst', M', st', hp', fl', g', fs', ρ', e, p1, hs', hW', hF', h⟩ := natA_V hd hW hs h
              obtain ⟨hr, h⟩ := cond_t (α := Nat) h
              exact RF.step (gs_7n hrow hlook (hc _ e (roomA_V hs' hr))) (nx _ _ _ _ _ _ _ _ _ _ _ h ρ' π cl cst' cf M' _ (p0.trans p1) pi0 hD hd0 (lo_mono p1 (Pre.refl _) hl) hs' (fr_mono p1 (Pre.refl _) hf) hW' (hF.trans hF'))
            · rename_i id maxL as rest hc
              obtain ⟨ws, cr, q, hq, hm, hws, hcr, hgc⟩ := calA_V hW.2.2.2.1 hW.2.2.2.2.2 hs hc
              subst hm
              split at h
              · rename_i c9 cs9 hcn
                obtain ⟨c, hcm, h⟩ := cnS_V _ h
                rw [← hcn] at hcm
                obtain ⟨hm, hid⟩ := cnL_V hcm
                subst hid
                obtain ⟨v, M', e1, e2, st', hp', fl', g', gr', fs', ρ', π', p1, p2, hs', hW', h⟩ := cnA_V hU hd hct (hΔ c hm) hD' hq hW hws hcr h
                exact RF.evc (gs_7c hrow hlook hgc) e1 (nx _ _ _ _ _ _ _ _ _ _ _ h ρ' π' cl _ cf M' _ (p0.trans p1) (pi0.trans p2) hD hd0 (lo_mono p1 p2 hl) hs' (fr_mono p1 p2 hf) hW' (hF.trans e2))
              · rw [gSp_eq, gPc_eq] at h
                refine RF.call (gs_7c hrow hlook hgc) (ih _ _ _ _ _ _ _ _ _ _ _ h ρ π _ [] ((me, pc + 3, cl, cr) :: cf) M d' p0 pi0 hD' ?_ (padA_V _ (lcA_V _ hws)) trivial (Two.mk ⟨rfl, rfl, hl, hcr⟩ hf) hW hF)
                rw [List.length_cons]
                omega
        · cases h
end EXV
