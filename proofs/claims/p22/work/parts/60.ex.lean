/-! THE CHECKER, 11: walking a method -/
/-- a suspended caller: method, where it goes on, its locals, its stack -/
abbrev AF : Type := Nat × Nat × List AV × List AV
abbrev CF : Type := Nat × Nat × Lo × List Value
noncomputable def lcA : List AV → List AV
  | [] => []
  | v :: r => cond (avW1 v) (v :: lcA r) (v :: .inr (.inr 0) :: lcA r)
noncomputable def padA (n : Nat) (l : List AV) : List AV := l ++ List.replicate (n - l.length) (.inr (.inr 0))
theorem avW1_eq {ρ : List Int} {π : List Nat} {v : AV} {w : Value} (h : avOK ρ π v w) : gC1 w = avW1 v := by
  cases h1 : avW1 v with
  | true => exact avW1_ok h h1
  | false =>
    rcases v with L | R | n
    · cases h1
    · cases h1
    · match n, h, h1 with
      | 0, _, h1 => cases h1
      | 1, h, _ => obtain ⟨x, rfl⟩ := h; rfl
      | 2, _, h1 => cases h1
      | n + 3, _, h1 => cases h1
theorem lcA_V {ρ : List Int} {π : List Nat} : ∀ (as : List AV) {ws : List Value}, Two (avOK ρ π) as ws → Two (loOK ρ π) (lcA as) (gArgs ws) := by
  intro as
  induction as with
  | nil =>
    intro ws h
    cases ws with
    | nil => trivial
    | cons _ _ => exact h.elim
  | cons v r ih =>
    intro ws h
    obtain ⟨w, cr, rfl, hw, hr⟩ := two_c h
    show Two (loOK ρ π) (cond (avW1 v) (v :: lcA r) (v :: .inr (.inr 0) :: lcA r)) (cond (gC1 w) (some w :: gArgs cr) (some w :: none :: gArgs cr))
    rw [avW1_eq hw]
    cases avW1 v with
    | true => exact Two.mk (lo_some hw) (ih hr)
    | false => exact Two.mk (lo_some hw) (Two.mk lo_n (ih hr))
theorem rep_two {α β : Type} {P : α → β → Prop} {a : α} {b : β} (h : P a b) : ∀ n : Nat, Two P (List.replicate n a) (List.replicate n b)
  | 0 => trivial
  | n + 1 => Two.mk h (rep_two h n)
theorem padA_V {ρ : List Int} {π : List Nat} (n : Nat) {l : List AV} {cl : Lo} (h : Two (loOK ρ π) l cl) : Two (loOK ρ π) (padA n l) (gPad n cl) := by
  unfold padA gPad
  rw [h.len]
  exact h.app (rep_two lo_n _)
theorem Two.take {α β : Type} {P : α → β → Prop} : ∀ {as : List α} {bs : List β} (n : Nat), Two P as bs → Two P (as.take n) (bs.take n)
  | [], [], n, _ => by rw [List.take_nil, List.take_nil]; trivial
  | _ :: _, _ :: _, 0, _ => trivial
  | _ :: _, _ :: _, n + 1, h => Two.mk h.1 (Two.take n h.2)
  | [], _ :: _, _, h => h.elim
  | _ :: _, [], _, h => h.elim
theorem Two.drop {α β : Type} {P : α → β → Prop} : ∀ {as : List α} {bs : List β} (n : Nat), Two P as bs → Two P (as.drop n) (bs.drop n)
  | [], [], n, _ => by rw [List.drop_nil, List.drop_nil]; trivial
  | _ :: _, _ :: _, 0, h => h
  | _ :: _, _ :: _, n + 1, h => Two.drop n h.2
  | [], _ :: _, _, h => h.elim
  | _ :: _, [], _, h => h.elim
theorem Two.rev {α β : Type} {P : α → β → Prop} : ∀ {as : List α} {bs : List β}, Two P as bs → Two P as.reverse bs.reverse
  | [], [], _ => trivial
  | _ :: _, _ :: _, h => by
    rw [List.reverse_cons, List.reverse_cons]
    exact (Two.rev h.2).app (Two.mk h.1 trivial)
  | [], _ :: _, h => h.elim
  | _ :: _, [], h => h.elim
/-- the run from here comes to its return, and so do those that wait for it; at last Q -/
def RF (Q : Option Value → Mem → Prop) : List CF → Nat → Nat → Nat → Lo → List Value → Mem → Prop
  | [], d, me, pc, ls, st, M => ∃ v M', Ev none d me pc ls st M v M' 0 0 ∧ Q v M'
  | (me1, pc1, ls1, st1) :: cf, d, me, pc, ls, st, M => ∃ v M', Ev none d me pc ls st M v M' 0 0 ∧ RF Q cf (d + 1) me1 pc1 ls1 (v.toList ++ st1) M'
theorem RF.pre {Q : Option Value → Mem → Prop} {cf : List CF} {d me pc pc' : Nat} {ls ls' : Lo} {st st' : List Value} {M M1 : Mem} (h : ∀ v M', Ev none d me pc' ls' st' M1 v M' 0 0 → Ev none d me pc ls st M v M' 0 0) (k : RF Q cf d me pc' ls' st' M1) : RF Q cf d me pc ls st M := by
  cases cf with
  | nil =>
    obtain ⟨v, M', h1, h2⟩ := k
    exact ⟨v, M', h v M' h1, h2⟩
  | cons c cf =>
    obtain ⟨me1, pc1, ls1, st1⟩ := c
    obtain ⟨v, M', h1, h2⟩ := k
    exact ⟨v, M', h v M' h1, h2⟩
theorem RF.step {Q : Option Value → Mem → Prop} {cf : List CF} {d me pc pc' : Nat} {ls ls' : Lo} {st st' : List Value} {M M1 : Mem} (h : ∀ n, go none (n + 1) d me pc ls st M = go none n d me pc' ls' st' M1) (k : RF Q cf d me pc' ls' st' M1) : RF Q cf d me pc ls st M := RF.pre (fun _ _ hv => Ev.step 1 h hv) k
theorem RF.ret {Q : Option Value → Mem → Prop} {me1 pc1 : Nat} {ls1 : Lo} {st1 : List Value} {cf : List CF} {d me pc : Nat} {ls : Lo} {st : List Value} {M : Mem} {v : Option Value} (h : ∀ n, go none (n + 1) d me pc ls st M = some (v, M, 0, 0)) (k : RF Q cf (d + 1) me1 pc1 ls1 (v.toList ++ st1) M) : RF Q ((me1, pc1, ls1, st1) :: cf) d me pc ls st M := ⟨v, M, Ev.ret h, k⟩
theorem RF.call {Q : Option Value → Mem → Prop} {cf : List CF} {d me pc id : Nat} {ls ls0 : Lo} {st rest : List Value} {M : Mem} (h : ∀ n, go none (n + 1) (d + 1) me pc ls st M = gThen (go none n d id 0 ls0 [] M) (fun v M' c s => gAdd c s (go none n (d + 1) me (pc + 3) ls (v.toList ++ rest) M'))) (k : RF Q ((me, pc + 3, ls, rest) :: cf) d id 0 ls0 [] M) : RF Q cf (d + 1) me pc ls st M := by
  obtain ⟨v, M', h1, h2⟩ := k
  cases cf with
  | nil =>
    obtain ⟨v2, M2, h3, h4⟩ := h2
    exact ⟨v2, M2, Ev.call h h1 h3, h4⟩
  | cons c cf =>
    obtain ⟨me1, pc1, ls1, st1⟩ := c
    obtain ⟨v2, M2, h3, h4⟩ := h2
    exact ⟨v2, M2, Ev.call h h1 h3, h4⟩
theorem RF.evc {Q : Option Value → Mem → Prop} {cf : List CF} {d me pc id : Nat} {ls ls0 : Lo} {st rest : List Value} {M M' : Mem} {v : Option Value} (h : ∀ n, go none (n + 1) (d + 1) me pc ls st M = gThen (go none n d id 0 ls0 [] M) (fun v M' c s => gAdd c s (go none n (d + 1) me (pc + 3) ls (v.toList ++ rest) M'))) (h1 : Ev none d id 0 ls0 [] M v M' 0 0) (k : RF Q cf (d + 1) me (pc + 3) ls (v.toList ++ rest) M') : RF Q cf (d + 1) me pc ls st M := RF.call h ⟨v, M', h1, k⟩
section EX
variable (aT : List Nat) (gT : List CT) (gU : List (Option Nat)) (dep : Nat → Md) (FL : Nat → List Int → Mem → Prop) (md : Md) (Δ : List CN) (me0 : Nat)
variable (cut : Nat → Bool) (chk : Nat → List AV → List AV → List HE → List FG → List Iv → List Nat → List Lin → Bool) (rtc : Option AV → List HE → List FG → List Iv → List Nat → List Lin → Bool)
noncomputable def cnL (id : Nat) : List CN → List CN
  | [] => []
  | c :: r => cond (Nat.beq c.1 id) (c :: cnL id r) (cnL id r)
/-- one of some contracts -/
noncomputable def cnS (D : Nat) (as : List AV) (rest : List AV) (hp : List HE) (fl : List FG) (g : List Iv) (gr : List Nat) (fs : List Lin) (k : List AV → List HE → List FG → List Iv → List Nat → List Lin → Bool) : List CN → Bool
  | [] => false
  | c :: r => cnA aT gT gU dep c md D as rest hp fl g gr fs k || cnS D as rest hp fl g gr fs k r
/-- the answer's check -/
noncomputable def retA (ret : Option FieldType) (i : Instr) (st : List AV) (g : List Iv) (fs : List Lin) : Option (Option AV) := match i with
  | .return_ => match ret, st with
    | none, [] => some none
    | _, _ => none
  | .ireturn => match ret, st with
    | some .int, [.inl L] => some (some (.inl L))
    | some .boolean, [.inl L] => cond (inR g fs L 0 1) (some (some (.inl L))) none
    | _, _ => none
  | _ => none
/-- a call: resolved, its arguments, what stays -/
noncomputable def calA (i : Instr) (o : Nat) (gr : List Nat) (st : List AV) : Option (Nat ⊕ (Nat × Nat × List AV × List AV)) := match (match i with
    | .invokestatic ix => some (ix, 0)
    | .invokevirtual ix => some (ix, 1)
    | .invokespecial ix => some (ix, 2)
    | _ => none) with
  | none => none
  | some (ix, kind) => match gOwn mRes o ix with
    | none => none
    | some (id, nest, _) => match Nat.ble 1000 id with
      | true => cond (Nat.beq kind 0 && (Nat.ble 1001 id && Nat.ble id 1005)) (some (.inl id)) none
      | false => match gNth mRs id with
        | none => none
        | some (o2, _, _, maxL, _, np, kf, _) => match kind with
          | 0 => cond (Nat.beq kf 0 && (Nat.ble np st.length && (roomA (st.drop np) && Nat.ble (lcA (st.take np).reverse).length maxL))) (some (.inr (id, maxL, (st.take np).reverse, st.drop np))) none
          | k + 1 => match st.drop np with
            | .inr (.inl R) :: r => cond ((Nat.beq kf (k + 1) && (Nat.beq nest 0 || Nat.beq k 1)) && (Nat.ble np st.length && ((match rsG aT gr R with
              | some g2 => (match gNth gT g2 with
                | some (.inl (c, _)) => Nat.beq c o2
                | _ => false)
              | none => false) && (roomA r && Nat.ble (lcA (.inr (.inl R) :: (st.take np).reverse)).length maxL)))) (some (.inr (id, maxL, .inr (.inl R) :: (st.take np).reverse, r))) none
            | _ => none
/-- n: the fuel; D: how many frames may still be taken -/
noncomputable def exe (n : Nat) : Nat → Nat → Nat → List AV → List AV → List AF → List HE → List FG → List Iv → List Nat → List Lin → Bool := Nat.rec (motive := fun _ => Nat → Nat → Nat → List AV → List AV → List AF → List HE → List FG → List Iv → List Nat → List Lin → Bool) (fun _ _ _ _ _ _ _ _ _ _ _ => false) (fun _ ex D me pc lo st fr hp fl g gr fs =>
  let nx := fun (me pc : Nat) (D : Nat) (lo st : List AV) (fr : List AF) (hp : List HE) (fl : List FG) (g : List Iv) (gr : List Nat) (fs : List Lin) => gPc pc (fun pc => match fr with
    | [] => cond (cut pc) (Nat.beq me me0 && chk pc lo st hp fl g gr fs) (ex D me pc lo st [] hp fl g gr fs)
    | f :: fr => ex D me pc lo st (f :: fr) hp fl g gr fs)
  match gNth mRs me with
  | none => false
  | some (o, _, _, _, ret, _, _, tab) => match gLook tab pc with
    | none => false
    | some (kd, i) => match kd with
      | 0 => aluA i st g fs (fun st g fs => nx me (pc + gLen i) D lo st fr hp fl g gr fs)
      | 1 => locA i lo st g fs (fun lo st g fs => nx me (pc + gLen i) D lo st fr hp fl g gr fs)
      | 2 => jmpA i pc st g fs (fun pc st g fs => nx me pc D lo st fr hp fl g gr fs)
      | 3 => getA aT gT gU dep md i o st hp fl g gr fs (fun st hp fl g gr fs => nx me (pc + gLen i) D lo st fr hp fl g gr fs)
      | 4 => getA aT gT gU dep md i o st hp fl g gr fs (fun st hp fl g gr fs => nx me (pc + gLen i) D lo st fr hp fl g gr fs)
      | 5 => false
      | 6 => match retA ret i st g fs with
        | none => false
        | some v => match fr with
          | [] => rtc v hp fl g gr fs
          | (me1, pc1, lo1, st1) :: fr => nx me1 pc1 (D + 1) lo1 (v.toList ++ st1) fr hp fl g gr fs
      | 7 => match D with
        | 0 => false
        | D + 1 => match calA aT gT i o gr st with
          | none => false
          | some (.inl id) => natA aT gT dep md id st hp fl g gr fs (fun st hp fl g fs => cond (roomA st) (nx me (pc + 3) (D + 1) lo st fr hp fl g gr fs) false)
          | some (.inr (id, maxL, as, rest)) => match cnL id Δ with
            | c :: cs => cnS aT gT gU dep md D as rest hp fl g gr fs (fun st hp fl g gr fs => nx me (pc + 3) (D + 1) lo st fr hp fl g gr fs) (c :: cs)
            | [] => gSp (padA maxL (lcA as)) (fun lo2 => gPc D (fun D => ex D id 0 lo2 [] ((me, pc + 3, lo, rest) :: fr) hp fl g gr fs))
      | _ => false) n
end EX
