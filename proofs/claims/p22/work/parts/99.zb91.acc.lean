/-! RUNS TAKEN APART: what a run that returns has done -/
section BACK
variable {sc : Sta} {d me pc pc' : Nat} {ls ls' ls0 : Lo} {st st' rest : List Value} {M M1 M' : Mem} {v : Option Value} {c s : Nat}
theorem Ev.back (k : Nat) (e : ∀ n, go sc (n + k) d me pc ls st M = go sc n d me pc' ls' st' M1) (h : Ev sc d me pc ls st M v M' c s) : Ev sc d me pc' ls' st' M1 v M' c s := by
  obtain ⟨n, h⟩ := h
  exact ⟨n, (e n).symm.trans (go_mono h k)⟩
theorem Ev.retb {w : Option Value} (e : ∀ n, go sc (n + 1) d me pc ls st M = some (w, M, 0, 0)) (h : Ev sc d me pc ls st M v M' c s) : v = w ∧ M' = M := by
  obtain ⟨n, h⟩ := h
  have h2 := (e n).symm.trans (go_mono h 1)
  cases h2
  exact ⟨rfl, rfl⟩
theorem Ev.callb {id : Nat} (e : ∀ n, go sc (n + 1) (d + 1) me pc ls st M = gThen (go sc n d id 0 ls0 [] M) (fun v M' c s => gAdd c s (go sc n (d + 1) me (pc + 3) ls (v.toList ++ rest) M'))) (h : Ev sc (d + 1) me pc ls st M v M' 0 0) : ∃ v1 M1, Ev sc d id 0 ls0 [] M v1 M1 0 0 ∧ Ev sc (d + 1) me (pc + 3) ls (v1.toList ++ rest) M1 v M' 0 0 := by
  obtain ⟨n, h⟩ := h
  have h2 := (e n).symm.trans (go_mono h 1)
  obtain ⟨v1, M1, c1, s1, g1, g2⟩ := then_inv h2
  obtain ⟨c3, s3, g3, e1, e2⟩ := add_inv g2
  have a1 : c1 = 0 := by omega
  have a2 : s1 = 0 := by omega
  have a3 : c3 = 0 := by omega
  have a4 : s3 = 0 := by omega
  subst a1 a2 a3 a4
  exact ⟨v1, M1, ⟨n, g1⟩, ⟨n, g3⟩⟩
end BACK
section BACK2
variable {d me pc o np kf mx : Nat} {y : MethodName} {cc : ByteArray} {ret : Option FieldType} {tab : List (Nat × Nat × Instr)} {ls : Lo} {st : List Value} {M M' : Mem} {i : Instr} {v : Option Value} {c s : Nat}
theorem Ev.dpos (hrow : gNth mRs me = some (o, y, cc, mx, ret, np, kf, tab)) (hl : gLook tab pc = some (7, i)) (h : Ev none d me pc ls st M v M' c s) : ∃ e, d = e + 1 := by
  cases d with
  | succ e => exact ⟨e, rfl⟩
  | zero =>
    obtain ⟨n, h⟩ := h
    cases n with
    | zero => cases h
    | succ n =>
      rw [go_succ] at h
      unfold gStep at h
      rw [hrow] at h
      dsimp only at h
      rw [hl] at h
      have h : (none : Rs) = some (v, M', c, s) := h
      cases h
theorem Ev.get (hrow : gNth mRs me = some (o, y, cc, mx, ret, np, kf, tab)) (hl : gLook tab pc = some (3, i)) (h : Ev none d me pc ls st M v M' c s) : ∃ st1 M1, gGet i none o (Nat.beq kf 2) st M = some (st1, M1) ∧ Ev none d me (pc + gLen i) ls st1 M1 v M' c s := by
  obtain ⟨n, h⟩ := h
  cases n with
  | zero => cases h
  | succ n =>
    rw [go_succ] at h
    unfold gStep at h
    rw [hrow] at h
    dsimp only at h
    rw [hl] at h
    have h : (match gGet i none o (Nat.beq kf 2) st M with
      | some (st', M1) => go none n d me (pc + gLen i) ls st' M1
      | none => none) = some (v, M', c, s) := h
    split at h
    · rename_i st1 M1 e
      exact ⟨st1, M1, e, n, h⟩
    · cases h
theorem Ev.put (hrow : gNth mRs me = some (o, y, cc, mx, ret, np, kf, tab)) (hl : gLook tab pc = some (4, i)) (h : Ev none d me pc ls st M v M' c s) : ∃ st1 M1, gGet i none o (Nat.beq kf 2) st M = some (st1, M1) ∧ Ev none d me (pc + gLen i) ls st1 M1 v M' c s := by
  obtain ⟨n, h⟩ := h
  cases n with
  | zero => cases h
  | succ n =>
    rw [go_succ] at h
    unfold gStep at h
    rw [hrow] at h
    dsimp only at h
    rw [hl] at h
    have h : (match gGet i none o (Nat.beq kf 2) st M with
      | some (st', M1) => go none n d me (pc + gLen i) ls st' M1
      | none => none) = some (v, M', c, s) := h
    split at h
    · rename_i st1 M1 e
      exact ⟨st1, M1, e, n, h⟩
    · cases h
theorem Ev.alu (hrow : gNth mRs me = some (o, y, cc, mx, ret, np, kf, tab)) (hl : gLook tab pc = some (0, i)) (h : Ev none d me pc ls st M v M' c s) : ∃ st1, gAlu i st = some st1 ∧ Ev none d me (pc + gLen i) ls st1 M v M' c s := by
  obtain ⟨n, h⟩ := h
  cases n with
  | zero => cases h
  | succ n =>
    rw [go_succ] at h
    unfold gStep at h
    rw [hrow] at h
    dsimp only at h
    rw [hl] at h
    have h : (match gAlu i st with
      | some st' => go none n d me (pc + gLen i) ls st' M
      | none => none) = some (v, M', c, s) := h
    split at h
    · rename_i st1 e
      exact ⟨st1, e, n, h⟩
    · cases h
theorem Ev.retz {x : Int32} (hrow : gNth mRs me = some (o, y, cc, mx, ret, np, kf, tab)) (hl : gLook tab pc = some (6, .ireturn)) (h : Ev none d me pc ls [.int x] M v M' c s) : v = some (.int x) ∧ M' = M := by
  obtain ⟨n, h⟩ := h
  cases n with
  | zero => cases h
  | succ n =>
    rw [go_succ] at h
    unfold gStep at h
    rw [hrow] at h
    dsimp only at h
    rw [hl] at h
    have h : (match gRet ret .ireturn [.int x] with
      | some w => some (w, M, 0, 0)
      | none => none) = some (v, M', c, s) := h
    split at h
    rotate_left
    · cases h
    rename_i w e
    cases h
    refine ⟨?_, rfl⟩
    cases ret with
    | none => cases e
    | some t =>
      cases t
      case int =>
        have e : some (some (Value.int x)) = some v := e
        cases e
        rfl
      case boolean =>
        obtain ⟨-, e⟩ := cond_inv (show cond (fits .boolean (.int x)) (some (some (Value.int x))) none = some v from e)
        cases e
        rfl
      all_goals cases e
end BACK2
/-! THE SHAPE of the memory: what each cell is, whatever the numbers -/
def shF (t : FT) (v : Value) : Prop := match t with
  | .inl _ => ∃ x : Int32, v = .int x
  | .inr 0 => ∃ x : Int64, v = .long x
  | .inr (k + 1) => (∃ a, v = .ref a ∧ gNth sT a = some (k / 2)) ∨ (k % 2 = 1 ∧ v = .null)
def shC (t : CT) (e : AE) : Prop := match t with
  | .inl (ci, fs) => ∃ vs, e = .inr (ci, vs) ∧ vs.length = fs.length ∧ ∀ k ft, gNth fs k = some ft → ∃ v, gNth vs k = some v ∧ shF ft v
  | .inr (2, n, _) => ∃ l : List Int64, e = .inl (2, .inr (.inl l)) ∧ l.length = n
  | .inr (kd, n, .inl _) => ∃ l : List Int32, e = .inl (kd, .inl l) ∧ l.length = n
  | .inr (kd, n, .inr g) => ∃ l : List (Option Nat), e = .inl (kd, .inr (.inr l)) ∧ l.length = n ∧ ∀ j x, gNth l j = some x → ∃ a, x = some a ∧ gNth sT a = some g
def SH (M : Mem) : Prop := sT.length ≤ M.length ∧ ∀ a g t, gNth sT a = some g → gNth sG g = some t → ∃ e, gNth M a = some e ∧ shC t e
theorem shF_of {t : FT} {v : Value} (h : ftOK sT t v) : shF t v := by
  rcases t with ⟨lo, hi⟩ | k
  · obtain ⟨x, h, _⟩ := h
    exact ⟨x, h⟩
  · match k, h with
    | 0, h => exact h
    | k + 1, h => exact h
theorem shC_of {t : CT} {e : AE} (h : ctOK sT t e) : shC t e := by
  rcases t with ⟨ci, fs⟩ | ⟨kd, n, q⟩
  · obtain ⟨vs, h1, h2, h3⟩ := h
    refine ⟨vs, h1, h2, fun k ft hk => ?_⟩
    obtain ⟨v, v1, v2⟩ := h3 k ft hk
    exact ⟨v, v1, shF_of v2⟩
  · by_cases hk : kd = 2
    · subst hk
      exact h
    · rcases q with sg | g
      · have h' : ∃ l : List Int32, e = .inl (kd, .inl l) ∧ l.length = n ∧ ∀ j x, gNth l j = some x → ∃ p : Iv, sgAt sg j = some p ∧ p.1 ≤ x.toInt ∧ x.toInt ≤ p.2 := by
          match kd, hk, h with
          | 0, _, h => exact h
          | 1, _, h => exact h
          | n + 3, _, h => exact h
        obtain ⟨l, h1, h2, _⟩ := h'
        match kd, hk, h1 with
        | 0, _, h1 => exact ⟨l, h1, h2⟩
        | 1, _, h1 => exact ⟨l, h1, h2⟩
        | n + 3, _, h1 => exact ⟨l, h1, h2⟩
      · match kd, hk, h with
        | 0, _, h => exact h
        | 1, _, h => exact h
        | n + 3, _, h => exact h
theorem TM.sh {M : Mem} (h : TM sT sG M) : SH M := ⟨h.1, fun a g t h1 h2 => by
  obtain ⟨e, e1, e2⟩ := h.2 a g t h1 h2
  exact ⟨e, e1, shC_of e2⟩⟩
/-! WHAT A CELL HOLDS -/
noncomputable def fV (M : Mem) (a k : Nat) : Option Value := match gNth M a with
  | some (.inr (_, vs)) => gNth vs k
  | _ => none
noncomputable def zI (M : Mem) (a k : Nat) : Int32 := match fV M a k with
  | some (.int x) => x
  | _ => 0
noncomputable def fL (M : Mem) (a k : Nat) : Int64 := match fV M a k with
  | some (.long x) => x
  | _ => 0
noncomputable def fR (M : Mem) (a k : Nat) : Nat := match fV M a k with
  | some (.ref x) => x
  | _ => 0
noncomputable def zrw (M : Mem) (a : Nat) : List Int32 := match gNth M a with
  | some (.inl (_, .inl l)) => l
  | _ => []
noncomputable def roL (M : Mem) (a : Nat) : List (Option Nat) := match gNth M a with
  | some (.inl (_, .inr (.inr l))) => l
  | _ => []
noncomputable def rN (M : Mem) (a j : Nat) : Int32 := (gNth (zrw M a) j).getD 0
noncomputable def rI (M : Mem) (a : Nat) (j : Int32) : Int32 := rN M a j.toNatClampNeg
noncomputable def oN (M : Mem) (a j : Nat) : Nat := ((gNth (roL M a) j).getD none).getD 0
noncomputable def oI (M : Mem) (a : Nat) (j : Int32) : Nat := oN M a j.toNatClampNeg
noncomputable def wI (M : Mem) (a j : Nat) (x : Int32) : Mem := match gNth M a with
  | some (.inl (kd, .inl l)) => gPut M a (.inl (kd, .inl (gPut l j x)))
  | _ => M
noncomputable def wF (M : Mem) (a k : Nat) (x : Int32) : Mem := match gNth M a with
  | some (.inr (c, vs)) => (match gNth vs k with
    | some (.int _) => gPut M a (.inr (c, gPut vs k (.int x)))
    | _ => M)
  | _ => M
noncomputable def wG (M : Mem) (a k : Nat) (x : Int64) : Mem := match gNth M a with
  | some (.inr (c, vs)) => (match gNth vs k with
    | some (.long _) => gPut M a (.inr (c, gPut vs k (.long x)))
    | _ => M)
  | _ => M
noncomputable def wR (M : Mem) (a k b : Nat) : Mem := match gNth M a with
  | some (.inr (c, vs)) => gPut M a (.inr (c, gPut vs k (.ref b)))
  | _ => M
/-- the references that stay as the constructors made them -/
noncomputable def fxT : List Nat := [110, 119, 138, 147, 156, 165, 174, 183]
noncomputable def fxA : List Nat := [8, 243, 345, 441, 537]
def FX (M : Mem) : Prop := (∀ t ∈ fxT, ∀ k, k < 8 → fV M t k = some (.ref (t + 1 + k))) ∧ ∀ a ∈ fxA, (∀ k, k < 8 → fV M a (2 + k) = some (.ref (a + 1 + k))) ∧ fV M a 10 = some (.ref (a + 9)) ∧ fV M a 12 = some (.ref (a + 10)) ∧ fV M a 14 = some (.ref (a + 11))
def SQ (M : Mem) : Prop := SH M ∧ FX M
section ACC
variable {M : Mem} {a b g k ci : Nat}
noncomputable def iB (g ci k : Nat) : Bool := match gNth sG g with
  | some (.inl (c, fs)) => Nat.beq c ci && (match gNth fs k with
    | some (.inl _) => true
    | _ => false)
  | _ => false
noncomputable def lB (g ci k : Nat) : Bool := match gNth sG g with
  | some (.inl (c, fs)) => Nat.beq c ci && (match gNth fs k with
    | some (.inr 0) => true
    | _ => false)
  | _ => false
noncomputable def nB (g ci k g2 : Nat) : Bool := match gNth sG g with
  | some (.inl (c, fs)) => Nat.beq c ci && (match gNth fs k with
    | some (.inr n) => Nat.beq n (2 * g2 + 2)
    | _ => false)
  | _ => false
noncomputable def oB (g ci : Nat) : Bool := match gNth sG g with
  | some (.inl (c, _)) => Nat.beq c ci
  | _ => false
noncomputable def wB (g kd n : Nat) : Bool := match gNth sG g with
  | some (.inr (q, m, .inl _)) => !Nat.beq q 2 && (Nat.beq q kd && Nat.beq m n)
  | _ => false
theorem SH.obj (hS : SH M) (ha : gNth sT a = some g) (hB : oB g ci = true) : ∃ vs, gNth M a = some (.inr (ci, vs)) := by
  unfold oB at hB
  split at hB
  rotate_left
  · cases hB
  rename_i c fs e
  cases Nat.eq_of_beq_eq_true hB
  obtain ⟨_, e1, vs, rfl, _⟩ := hS.2 a g _ ha e
  exact ⟨vs, e1⟩
theorem SH.fi (hS : SH M) (ha : gNth sT a = some g) (hB : iB g ci k = true) : ∃ vs, gNth M a = some (.inr (ci, vs)) ∧ gNth vs k = some (.int (zI M a k)) := by
  unfold iB at hB
  split at hB
  rotate_left
  · cases hB
  rename_i c fs e
  obtain ⟨b1, b2⟩ := and_t hB
  cases Nat.eq_of_beq_eq_true b1
  obtain ⟨_, e1, vs, rfl, _, e3⟩ := hS.2 a g _ ha e
  split at b2
  rotate_left
  · cases b2
  rename_i p e2
  obtain ⟨w, w1, x, rfl⟩ := e3 k _ e2
  refine ⟨vs, e1, ?_⟩
  unfold zI fV
  rw [e1]
  dsimp only
  rw [w1]
theorem SH.fl (hS : SH M) (ha : gNth sT a = some g) (hB : lB g ci k = true) : ∃ vs, gNth M a = some (.inr (ci, vs)) ∧ gNth vs k = some (.long (fL M a k)) := by
  unfold lB at hB
  split at hB
  rotate_left
  · cases hB
  rename_i c fs e
  obtain ⟨b1, b2⟩ := and_t hB
  cases Nat.eq_of_beq_eq_true b1
  obtain ⟨_, e1, vs, rfl, _, e3⟩ := hS.2 a g _ ha e
  split at b2
  rotate_left
  · cases b2
  rename_i e2
  obtain ⟨w, w1, x, rfl⟩ := e3 k _ e2
  refine ⟨vs, e1, ?_⟩
  unfold fL fV
  rw [e1]
  dsimp only
  rw [w1]
theorem SH.fr {g2 : Nat} (hS : SH M) (ha : gNth sT a = some g) (hB : fdB g ci k g2 = true) : (∃ vs, gNth M a = some (.inr (ci, vs)) ∧ gNth vs k = some (.ref (fR M a k))) ∧ gNth sT (fR M a k) = some g2 := by
  unfold fdB at hB
  split at hB
  rotate_left
  · cases hB
  rename_i c fs e
  obtain ⟨b1, b2⟩ := and_t hB
  cases Nat.eq_of_beq_eq_true b1
  obtain ⟨_, e1, vs, rfl, _, e3⟩ := hS.2 a g _ ha e
  split at b2
  rotate_left
  · cases b2
  rename_i n e2
  cases Nat.eq_of_beq_eq_true b2
  obtain ⟨w, w1, w2⟩ := e3 k _ e2
  rcases w2 with ⟨x, rfl, hx⟩ | ⟨hk, _⟩
  · have hx : gNth sT x = some (2 * g2 / 2) := hx
    rw [Nat.mul_div_cancel_left _ (by decide : 0 < 2)] at hx
    have hf : fR M a k = x := by
      unfold fR fV
      rw [e1]
      dsimp only
      rw [w1]
    rw [hf]
    exact ⟨⟨vs, e1, w1⟩, hx⟩
  · have hk : 2 * g2 % 2 = 1 := hk
    omega
/-- a field that may be null, and is not -/
theorem SH.fn {g2 : Nat} (hS : SH M) (ha : gNth sT a = some g) (hB : nB g ci k g2 = true) (hg : g2 ≠ 0) (hx : gNth sT (fR M a k) = some g2) : ∃ vs, gNth M a = some (.inr (ci, vs)) ∧ gNth vs k = some (.ref (fR M a k)) := by
  unfold nB at hB
  split at hB
  rotate_left
  · cases hB
  rename_i c fs e
  obtain ⟨b1, b2⟩ := and_t hB
  cases Nat.eq_of_beq_eq_true b1
  obtain ⟨_, e1, vs, rfl, _, e3⟩ := hS.2 a g _ ha e
  split at b2
  rotate_left
  · cases b2
  rename_i n e2
  cases Nat.eq_of_beq_eq_true b2
  obtain ⟨w, w1, w2⟩ := e3 k _ e2
  have hf : ∀ y, gNth vs k = some y → fV M a k = some y := fun y hy => by
    unfold fV
    rw [e1]
    exact hy
  rcases w2 with ⟨x, rfl, _⟩ | ⟨_, rfl⟩
  · refine ⟨vs, e1, ?_⟩
    unfold fR
    rw [hf _ w1]
    exact w1
  · unfold fR at hx
    rw [hf _ w1] at hx
    have h0 : gNth sT 0 = some 0 := sT_00
    dsimp only at hx
    rw [h0] at hx
    cases hx
    exact absurd rfl hg
theorem SH.row {kd n : Nat} (hS : SH M) (ha : gNth sT a = some g) (hB : wB g kd n = true) : gNth M a = some (.inl (kd, .inl (zrw M a))) ∧ (zrw M a).length = n := by
  unfold wB at hB
  split at hB
  rotate_left
  · cases hB
  rename_i q m sg e
  obtain ⟨b0, hB⟩ := and_t hB
  obtain ⟨b1, b2⟩ := and_t hB
  cases Nat.eq_of_beq_eq_true b1
  cases Nat.eq_of_beq_eq_true b2
  have hq : kd ≠ 2 := by
    rintro rfl
    cases b0
  obtain ⟨ee, e1, e2⟩ := hS.2 a g _ ha e
  have h' : ∃ l : List Int32, ee = .inl (kd, .inl l) ∧ l.length = n := by
    match kd, hq, e2 with
    | 0, _, h => exact h
    | 1, _, h => exact h
    | _ + 3, _, h => exact h
  obtain ⟨l, rfl, l1⟩ := h'
  have hr : zrw M a = l := by
    unfold zrw
    rw [e1]
  rw [hr]
  exact ⟨e1, l1⟩
theorem SH.ror {kd n g2 : Nat} (hS : SH M) (ha : gNth sT a = some g) (hB : rrB g kd n g2 = true) : gNth M a = some (.inl (kd, .inr (.inr (roL M a)))) ∧ (roL M a).length = n ∧ ∀ j, j < n → gNth (roL M a) j = some (some (oN M a j)) ∧ gNth sT (oN M a j) = some g2 := by
  unfold rrB at hB
  split at hB
  rotate_left
  · cases hB
  rename_i q m h e
  obtain ⟨b0, hB⟩ := and_t hB
  obtain ⟨b1, hB⟩ := and_t hB
  obtain ⟨b2, b3⟩ := and_t hB
  cases Nat.eq_of_beq_eq_true b1
  cases Nat.eq_of_beq_eq_true b2
  cases Nat.eq_of_beq_eq_true b3
  have hq : kd ≠ 2 := by
    rintro rfl
    cases b0
  obtain ⟨ee, e1, e2⟩ := hS.2 a g _ ha e
  have h' : ∃ l : List (Option Nat), ee = .inl (kd, .inr (.inr l)) ∧ l.length = n ∧ ∀ j x, gNth l j = some x → ∃ a, x = some a ∧ gNth sT a = some g2 := by
    match kd, hq, e2 with
    | 0, _, h => exact h
    | 1, _, h => exact h
    | _ + 3, _, h => exact h
  obtain ⟨l, rfl, l1, l2⟩ := h'
  have hr : roL M a = l := by
    unfold roL
    rw [e1]
  refine ⟨by rw [hr]; exact e1, by rw [hr]; exact l1, fun j hj => ?_⟩
  have hx : ∃ x, gNth l j = some x := by
    rw [nth_eq]
    exact ⟨_, List.getElem?_eq_getElem (by omega)⟩
  obtain ⟨x, hx⟩ := hx
  obtain ⟨b, rfl, hb⟩ := l2 j x hx
  have ho : oN M a j = b := by
    unfold oN
    rw [hr, hx]
    rfl
  rw [hr, ho]
  exact ⟨hx, hb⟩
end ACC
/-! READING AND WRITING, in a run that returns -/
section RUN
variable {d me pc o np kf mx ix ty a b g g2 ci k n kd : Nat} {y : MethodName} {cc : ByteArray} {ret : Option FieldType} {tab : List (Nat × Nat × Instr)} {ls : Lo} {st : List Value} {M M' : Mem} {i : Instr} {v : Option Value} {c s : Nat} {ini : Bool} {j x z : Int32}
theorem gf_i (hS : SH M) (ha : gNth sT a = some g) (hB : iB g ci k = true) (ho : gOwn fRs o ix = some (ci, k, ty)) : gGet (.getfield ix) none o ini (.ref a :: st) M = some (.int (zI M a k) :: st, M) := by
  obtain ⟨vs, h1, h2⟩ := hS.fi ha hB
  exact gf_c ho h1 h2
theorem gf_l (hS : SH M) (ha : gNth sT a = some g) (hB : lB g ci k = true) (ho : gOwn fRs o ix = some (ci, k, ty)) : gGet (.getfield ix) none o ini (.ref a :: st) M = some (.long (fL M a k) :: st, M) := by
  obtain ⟨vs, h1, h2⟩ := hS.fl ha hB
  exact gf_c ho h1 h2
theorem gf_r (hS : SH M) (ha : gNth sT a = some g) (hB : fdB g ci k g2 = true) (ho : gOwn fRs o ix = some (ci, k, ty)) : gGet (.getfield ix) none o ini (.ref a :: st) M = some (.ref (fR M a k) :: st, M) := by
  obtain ⟨⟨vs, h1, h2⟩, _⟩ := hS.fr ha hB
  exact gf_c ho h1 h2
theorem gf_n (hS : SH M) (ha : gNth sT a = some g) (hB : nB g ci k g2 = true) (hg : g2 ≠ 0) (hx : gNth sT (fR M a k) = some g2) (ho : gOwn fRs o ix = some (ci, k, ty)) : gGet (.getfield ix) none o ini (.ref a :: st) M = some (.ref (fR M a k) :: st, M) := by
  obtain ⟨vs, h1, h2⟩ := hS.fn ha hB hg hx
  exact gf_c ho h1 h2
theorem gf_u (hS : SH M) (ha : gNth sT a = some g) (hB : fdB g ci k g2 = true) (hU : gNth sU g2 = some (some b)) (ho : gOwn fRs o ix = some (ci, k, ty)) : gGet (.getfield ix) none o ini (.ref a :: st) M = some (.ref b :: st, M) := by
  obtain ⟨⟨vs, h1, h2⟩, h3⟩ := hS.fr ha hB
  have h4 := sU_ok _ g2 b h3 hU
  rw [h4] at h2
  exact gf_c ho h1 h2
theorem gf_x (hS : SH M) (ha : gNth sT a = some g) (hB : oB g ci = true) (hx : fV M a k = some (.ref b)) (ho : gOwn fRs o ix = some (ci, k, ty)) : gGet (.getfield ix) none o ini (.ref a :: st) M = some (.ref b :: st, M) := by
  obtain ⟨vs, h1⟩ := hS.obj ha hB
  refine gf_c ho h1 ?_
  unfold fV at hx
  rw [h1] at hx
  exact hx
theorem gat_in {l : List Int32} {y : Int32} (h : gAt l j = some y) : 0 ≤ j.toInt ∧ j.toInt < (l.length : Int) ∧ gNth l j.toNatClampNeg = some y := by
  unfold gAt at h
  by_cases hj : j < 0
  · rw [decide_eq_true hj] at h
    cases h
  · rw [decide_eq_false hj] at h
    have h : gNth l j.toNatClampNeg = some y := h
    have h1 := gNth_lt _ _ _ h
    rw [Int32.lt_iff_toInt_lt] at hj
    have o : (0 : Int32).toInt = 0 := rfl
    have e : j.toNatClampNeg = j.toInt.toNat := rfl
    exact ⟨by omega, by omega, h⟩
theorem gat_ino {l : List (Option Nat)} {y : Option Nat} (h : gAt l j = some y) : 0 ≤ j.toInt ∧ j.toInt < (l.length : Int) ∧ gNth l j.toNatClampNeg = some y := by
  unfold gAt at h
  by_cases hj : j < 0
  · rw [decide_eq_true hj] at h
    cases h
  · rw [decide_eq_false hj] at h
    have h : gNth l j.toNatClampNeg = some y := h
    have h1 := gNth_lt _ _ _ h
    rw [Int32.lt_iff_toInt_lt] at hj
    have o : (0 : Int32).toInt = 0 := rfl
    have e : j.toNatClampNeg = j.toInt.toNat := rfl
    exact ⟨by omega, by omega, h⟩
theorem Ev.ial (hrow : gNth mRs me = some (o, y, cc, mx, ret, np, kf, tab)) (hl : gLook tab pc = some (3, .iaload)) (hS : SH M) (ha : gNth sT a = some g) (hB : wB g 1 n = true) (h : Ev none d me pc ls (.int j :: .ref a :: st) M v M' c s) : (0 ≤ j.toInt ∧ j.toInt < (n : Int)) ∧ Ev none d me (pc + 1) ls (.int (rI M a j) :: st) M v M' c s := by
  obtain ⟨st1, M1, e, h⟩ := Ev.get hrow hl h
  obtain ⟨h1, h2⟩ := hS.row ha hB
  have e : (match gNth M a with
    | some (.inl (1, .inl l)) => match gAt l j with
      | some x => some (Value.int x :: st, M)
      | none => none
    | _ => none) = some (st1, M1) := e
  rw [h1] at e
  have e : (match gAt (zrw M a) j with
      | some x => some (Value.int x :: st, M)
      | none => none) = some (st1, M1) := e
  cases hg : gAt (zrw M a) j with
  | none => rw [hg] at e; cases e
  | some x =>
    rw [hg] at e
    cases e
    obtain ⟨q1, q2, q3⟩ := gat_in hg
    rw [h2] at q2
    refine ⟨⟨q1, q2⟩, ?_⟩
    have hx : rI M a j = x := by
      unfold rI rN
      rw [q3]
      rfl
    rw [hx]
    exact h
theorem Ev.bal (hrow : gNth mRs me = some (o, y, cc, mx, ret, np, kf, tab)) (hl : gLook tab pc = some (3, .baload)) (hS : SH M) (ha : gNth sT a = some g) (hB : wB g kd n = true) (hk : kd = 0 ∨ kd = 3) (h : Ev none d me pc ls (.int j :: .ref a :: st) M v M' c s) : (0 ≤ j.toInt ∧ j.toInt < (n : Int)) ∧ Ev none d me (pc + 1) ls (.int (rI M a j) :: st) M v M' c s := by
  obtain ⟨st1, M1, e, h⟩ := Ev.get hrow hl h
  obtain ⟨h1, h2⟩ := hS.row ha hB
  have e : (match gNth M a with
    | some (.inl (0, .inl l)) => match gAt l j with
      | some x => some (Value.int x :: st, M)
      | none => none
    | some (.inl (3, .inl l)) => match gAt l j with
      | some x => some (Value.int x :: st, M)
      | none => none
    | _ => none) = some (st1, M1) := e
  rw [h1] at e
  have e : (match gAt (zrw M a) j with
      | some x => some (Value.int x :: st, M)
      | none => none) = some (st1, M1) := by
    rcases hk with rfl | rfl
    · exact e
    · exact e
  cases hg : gAt (zrw M a) j with
  | none => rw [hg] at e; cases e
  | some x =>
    rw [hg] at e
    cases e
    obtain ⟨q1, q2, q3⟩ := gat_in hg
    rw [h2] at q2
    refine ⟨⟨q1, q2⟩, ?_⟩
    have hx : rI M a j = x := by
      unfold rI rN
      rw [q3]
      rfl
    rw [hx]
    exact h
theorem Ev.aal (hrow : gNth mRs me = some (o, y, cc, mx, ret, np, kf, tab)) (hl : gLook tab pc = some (3, .aaload)) (hS : SH M) (ha : gNth sT a = some g) (hB : rrB g kd n g2 = true) (h : Ev none d me pc ls (.int j :: .ref a :: st) M v M' c s) : ((0 ≤ j.toInt ∧ j.toInt < (n : Int)) ∧ gNth sT (oI M a j) = some g2) ∧ Ev none d me (pc + 1) ls (.ref (oI M a j) :: st) M v M' c s := by
  obtain ⟨st1, M1, e, h⟩ := Ev.get hrow hl h
  obtain ⟨h1, h2, h3⟩ := hS.ror ha hB
  have e : (match gNth M a with
    | some (.inl (t, .inr (.inr l))) => match gAt l j with
      | some x => cond (Nat.ble 4 t && Nat.ble t 8) (some (va_rf x :: st, M)) none
      | none => none
    | _ => none) = some (st1, M1) := e
  rw [h1] at e
  have e : (match gAt (roL M a) j with
      | some x => cond (Nat.ble 4 kd && Nat.ble kd 8) (some (va_rf x :: st, M)) none
      | none => none) = some (st1, M1) := e
  cases hg : gAt (roL M a) j with
  | none => rw [hg] at e; cases e
  | some x =>
    rw [hg] at e
    obtain ⟨-, e⟩ := cond_inv e
    cases e
    obtain ⟨q1, q2, q3⟩ := gat_ino hg
    rw [h2] at q2
    have e1 : j.toNatClampNeg = j.toInt.toNat := rfl
    obtain ⟨p1, p2⟩ := h3 j.toNatClampNeg (by omega)
    cases q3.symm.trans p1
    exact ⟨⟨⟨q1, q2⟩, p2⟩, h⟩
theorem wI_eq {l : List Int32} (h : gNth M a = some (.inl (kd, .inl l))) : wI M a n x = gPut M a (.inl (kd, .inl (gPut l n x))) := by
  unfold wI
  rw [h]
theorem Ev.ias (hrow : gNth mRs me = some (o, y, cc, mx, ret, np, kf, tab)) (hl : gLook tab pc = some (4, .iastore)) (hS : SH M) (ha : gNth sT a = some g) (hB : wB g 1 n = true) (h : Ev none d me pc ls (.int x :: .int j :: .ref a :: st) M v M' c s) : (0 ≤ j.toInt ∧ j.toInt < (n : Int)) ∧ Ev none d me (pc + 1) ls st (wI M a j.toNatClampNeg x) v M' c s := by
  obtain ⟨st1, M1, e, h⟩ := Ev.put hrow hl h
  obtain ⟨h1, h2⟩ := hS.row ha hB
  have e : (match gNth M a with
    | some (.inl (1, .inl l)) => match gAt l j with
      | some _ => some (st, gPut M a (.inl (1, .inl (gPut l j.toNatClampNeg x))))
      | none => none
    | _ => none) = some (st1, M1) := e
  rw [h1] at e
  have e : (match gAt (zrw M a) j with
      | some _ => some (st, gPut M a (.inl (1, .inl (gPut (zrw M a) j.toNatClampNeg x))))
      | none => none) = some (st1, M1) := e
  cases hg : gAt (zrw M a) j with
  | none => rw [hg] at e; cases e
  | some x2 =>
    rw [hg] at e
    cases e
    obtain ⟨q1, q2, q3⟩ := gat_in hg
    rw [h2] at q2
    rw [wI_eq h1]
    exact ⟨⟨q1, q2⟩, h⟩
theorem Ev.bas0 (hrow : gNth mRs me = some (o, y, cc, mx, ret, np, kf, tab)) (hl : gLook tab pc = some (4, .bastore)) (hS : SH M) (ha : gNth sT a = some g) (hB : wB g 0 n = true) (h : Ev none d me pc ls (.int x :: .int j :: .ref a :: st) M v M' c s) : (0 ≤ j.toInt ∧ j.toInt < (n : Int)) ∧ Ev none d me (pc + 1) ls st (wI M a j.toNatClampNeg (vp_nar .byte x)) v M' c s := by
  obtain ⟨st1, M1, e, h⟩ := Ev.put hrow hl h
  obtain ⟨h1, h2⟩ := hS.row ha hB
  have e : (match gNth M a with
    | some (.inl (0, .inl l)) => match gAt l j with
      | some _ => some (st, gPut M a (.inl (0, .inl (gPut l j.toNatClampNeg (vp_nar .byte x)))))
      | none => none
    | some (.inl (3, .inl l)) => match gAt l j with
      | some _ => some (st, gPut M a (.inl (3, .inl (gPut l j.toNatClampNeg (vp_nar .boolean x)))))
      | none => none
    | _ => none) = some (st1, M1) := e
  rw [h1] at e
  have e : (match gAt (zrw M a) j with
      | some _ => some (st, gPut M a (.inl (0, .inl (gPut (zrw M a) j.toNatClampNeg (vp_nar .byte x)))))
      | none => none) = some (st1, M1) := e
  cases hg : gAt (zrw M a) j with
  | none => rw [hg] at e; cases e
  | some x2 =>
    rw [hg] at e
    cases e
    obtain ⟨q1, q2, q3⟩ := gat_in hg
    rw [h2] at q2
    rw [wI_eq h1]
    exact ⟨⟨q1, q2⟩, h⟩
theorem Ev.bas3 (hrow : gNth mRs me = some (o, y, cc, mx, ret, np, kf, tab)) (hl : gLook tab pc = some (4, .bastore)) (hS : SH M) (ha : gNth sT a = some g) (hB : wB g 3 n = true) (h : Ev none d me pc ls (.int x :: .int j :: .ref a :: st) M v M' c s) : (0 ≤ j.toInt ∧ j.toInt < (n : Int)) ∧ Ev none d me (pc + 1) ls st (wI M a j.toNatClampNeg (vp_nar .boolean x)) v M' c s := by
  obtain ⟨st1, M1, e, h⟩ := Ev.put hrow hl h
  obtain ⟨h1, h2⟩ := hS.row ha hB
  have e : (match gNth M a with
    | some (.inl (0, .inl l)) => match gAt l j with
      | some _ => some (st, gPut M a (.inl (0, .inl (gPut l j.toNatClampNeg (vp_nar .byte x)))))
      | none => none
    | some (.inl (3, .inl l)) => match gAt l j with
      | some _ => some (st, gPut M a (.inl (3, .inl (gPut l j.toNatClampNeg (vp_nar .boolean x)))))
      | none => none
    | _ => none) = some (st1, M1) := e
  rw [h1] at e
  have e : (match gAt (zrw M a) j with
      | some _ => some (st, gPut M a (.inl (3, .inl (gPut (zrw M a) j.toNatClampNeg (vp_nar .boolean x)))))
      | none => none) = some (st1, M1) := e
  cases hg : gAt (zrw M a) j with
  | none => rw [hg] at e; cases e
  | some x2 =>
    rw [hg] at e
    cases e
    obtain ⟨q1, q2, q3⟩ := gat_in hg
    rw [h2] at q2
    rw [wI_eq h1]
    exact ⟨⟨q1, q2⟩, h⟩
theorem Ev.pfi (hrow : gNth mRs me = some (o, y, cc, mx, ret, np, kf, tab)) (hl : gLook tab pc = some (4, .putfield ix)) (ho : gOwn fRs o ix = some (ci, k, ty)) (hS : SH M) (ha : gNth sT a = some g) (hB : iB g ci k = true) (h : Ev none d me pc ls (.int x :: .ref a :: st) M v M' c s) : Ev none d me (pc + 3) ls st (wF M a k x) v M' c s := by
  obtain ⟨st1, M1, e, h⟩ := Ev.put hrow hl h
  obtain ⟨vs, h1, h2⟩ := hS.fi ha hB
  have e : (match gOwn fRs o ix, gNth M a with
    | some (ci, k, _), some (.inr (c, fs)) => match Nat.beq c ci && Nat.blt k fs.length && (!gFin ci k || (Nat.beq kf 2 && Nat.beq o ci)) && fits (gTy ci k) (.int x) with
      | true => some (st, gPut M a (.inr (c, gPut fs k (.int x))))
      | _ => none
    | _, _ => none) = some (st1, M1) := e
  rw [ho, h1] at e
  have e : (match Nat.beq ci ci && Nat.blt k vs.length && (!gFin ci k || (Nat.beq kf 2 && Nat.beq o ci)) && fits (gTy ci k) (.int x) with
      | true => some (st, gPut M a (.inr (ci, gPut vs k (.int x))))
      | _ => none) = some (st1, M1) := e
  split at e
  · cases e
    have hw : wF M a k x = gPut M a (.inr (ci, gPut vs k (.int x))) := by
      unfold wF
      rw [h1]
      dsimp only
      rw [h2]
    rw [hw]
    exact h
  · cases e
theorem Ev.pfl {x : Int64} (hrow : gNth mRs me = some (o, y, cc, mx, ret, np, kf, tab)) (hl : gLook tab pc = some (4, .putfield ix)) (ho : gOwn fRs o ix = some (ci, k, ty)) (hS : SH M) (ha : gNth sT a = some g) (hB : lB g ci k = true) (h : Ev none d me pc ls (.long x :: .ref a :: st) M v M' c s) : Ev none d me (pc + 3) ls st (wG M a k x) v M' c s := by
  obtain ⟨st1, M1, e, h⟩ := Ev.put hrow hl h
  obtain ⟨vs, h1, h2⟩ := hS.fl ha hB
  have e : (match gOwn fRs o ix, gNth M a with
    | some (ci, k, _), some (.inr (c, fs)) => match Nat.beq c ci && Nat.blt k fs.length && (!gFin ci k || (Nat.beq kf 2 && Nat.beq o ci)) && fits (gTy ci k) (.long x) with
      | true => some (st, gPut M a (.inr (c, gPut fs k (.long x))))
      | _ => none
    | _, _ => none) = some (st1, M1) := e
  rw [ho, h1] at e
  have e : (match Nat.beq ci ci && Nat.blt k vs.length && (!gFin ci k || (Nat.beq kf 2 && Nat.beq o ci)) && fits (gTy ci k) (.long x) with
      | true => some (st, gPut M a (.inr (ci, gPut vs k (.long x))))
      | _ => none) = some (st1, M1) := e
  split at e
  · cases e
    have hw : wG M a k x = gPut M a (.inr (ci, gPut vs k (.long x))) := by
      unfold wG
      rw [h1]
      dsimp only
      rw [h2]
    rw [hw]
    exact h
  · cases e
theorem Ev.pfr (hrow : gNth mRs me = some (o, y, cc, mx, ret, np, kf, tab)) (hl : gLook tab pc = some (4, .putfield ix)) (ho : gOwn fRs o ix = some (ci, k, ty)) (hS : SH M) (ha : gNth sT a = some g) (hB : oB g ci = true) (h : Ev none d me pc ls (.ref b :: .ref a :: st) M v M' c s) : Ev none d me (pc + 3) ls st (wR M a k b) v M' c s := by
  obtain ⟨st1, M1, e, h⟩ := Ev.put hrow hl h
  obtain ⟨vs, h1⟩ := hS.obj ha hB
  have e : (match gOwn fRs o ix, gNth M a with
    | some (ci, k, _), some (.inr (c, fs)) => match Nat.beq c ci && Nat.blt k fs.length && (!gFin ci k || (Nat.beq kf 2 && Nat.beq o ci)) && fits (gTy ci k) (.ref b) with
      | true => some (st, gPut M a (.inr (c, gPut fs k (.ref b))))
      | _ => none
    | _, _ => none) = some (st1, M1) := e
  rw [ho, h1] at e
  have e : (match Nat.beq ci ci && Nat.blt k vs.length && (!gFin ci k || (Nat.beq kf 2 && Nat.beq o ci)) && fits (gTy ci k) (.ref b) with
      | true => some (st, gPut M a (.inr (ci, gPut vs k (.ref b))))
      | _ => none) = some (st1, M1) := e
  split at e
  · cases e
    have hw : wR M a k b = gPut M a (.inr (ci, gPut vs k (.ref b))) := by
      unfold wR
      rw [h1]
    rw [hw]
    exact h
  · cases e
/-- the class's own rows -/
noncomputable def sI (k : Nat) (j : Int32) : Int32 := match gSx none k with
  | some l => (gAt l j).getD 0
  | none => 0
theorem Ev.sal (hrow : gNth mRs me = some (o, y, cc, mx, ret, np, kf, tab)) (hl : gLook tab pc = some (3, .iaload)) (h : Ev none d me pc ls (.int j :: .retAddr k :: st) M v M' c s) : Ev none d me (pc + 1) ls (.int (sI k j) :: st) M v M' c s := by
  obtain ⟨st1, M1, e, h⟩ := Ev.get hrow hl h
  have e : (match gSx none k with
    | some l => match gAt l j with
      | some x => some (Value.int x :: st, M)
      | none => none
    | none => none) = some (st1, M1) := e
  unfold sI
  cases hk : gSx none k with
  | none => rw [hk] at e; cases e
  | some l =>
    rw [hk] at e
    have e : (match gAt l j with
      | some x => some (Value.int x :: st, M)
      | none => none) = some (st1, M1) := e
    cases hg : gAt l j with
    | none => rw [hg] at e; cases e
    | some x =>
      rw [hg] at e
      cases e
      dsimp only
      rw [hg]
      exact h
theorem Ev.cal (hrow : gNth mRs me = some (o, y, cc, mx, ret, np, kf, tab)) (hl : gLook tab pc = some (7, i)) (hn : ∀ q, gCal i o st M ≠ some (.inr q)) (h : Ev none d me pc ls st M v M' c s) : ∃ st1 M1, gCal i o st M = some (.inl (st1, M1)) ∧ Ev none d me (pc + 3) ls st1 M1 v M' c s := by
  obtain ⟨n, h⟩ := h
  cases n with
  | zero => cases h
  | succ n =>
    rw [go_succ] at h
    unfold gStep at h
    rw [hrow] at h
    dsimp only at h
    rw [hl] at h
    cases d with
    | zero =>
      have h : (none : Rs) = some (v, M', c, s) := h
      cases h
    | succ d =>
      have h : (match gCal i o st M with
        | none => none
        | some (.inl (st', M')) => go none n (d + 1) me (pc + 3) ls st' M'
        | some (.inr (id, ls0, rest)) => gThen (go none n d id 0 ls0 [] M) (fun v M' c s => gAdd c s (go none n (d + 1) me (pc + 3) ls (v.toList ++ rest) M'))) = some (v, M', c, s) := h
      split at h
      · cases h
      · rename_i st1 M1 e
        exact ⟨st1, M1, e, n, h⟩
      · rename_i e
        exact absurd e (hn _)
/-- a text's letter -/
noncomputable def cI (k : Nat) (j : Int32) : Int32 := (gAt (gTx k) j).getD 0
theorem dv_i (h : Ev none d me pc ls (.int z :: .int x :: st) M v M' c s) (hrow : gNth mRs me = some (o, y, cc, mx, ret, np, kf, tab)) (hl : gLook tab pc = some (0, .idiv)) : ¬ z = 0 ∧ Ev none d me (pc + 1) ls (.int (x / z) :: st) M v M' c s := by
  obtain ⟨st1, e, h⟩ := Ev.alu hrow hl h
  have e : (if z = 0 then none else some (Value.int (x / z) :: st)) = some st1 := e
  split at e
  · cases e
  · rename_i hz
    cases e
    exact ⟨hz, h⟩
theorem rm_i (h : Ev none d me pc ls (.int z :: .int x :: st) M v M' c s) (hrow : gNth mRs me = some (o, y, cc, mx, ret, np, kf, tab)) (hl : gLook tab pc = some (0, .irem)) : ¬ z = 0 ∧ Ev none d me (pc + 1) ls (.int (x - x / z * z) :: st) M v M' c s := by
  obtain ⟨st1, e, h⟩ := Ev.alu hrow hl h
  have e : (if z = 0 then none else some (Value.int (x - x / z * z) :: st)) = some st1 := e
  split at e
  · cases e
  · rename_i hz
    cases e
    exact ⟨hz, h⟩
theorem Ev.len (hrow : gNth mRs me = some (o, y, cc, mx, ret, np, kf, tab)) (hl : gLook tab pc = some (7, .invokevirtual ix)) (hq : ∀ st M, gCal (.invokevirtual ix) o st M = (match gNat 1006 st M with | some q => cond (Nat.beq 1 1 && gRoom q.1) (some (.inl q)) none | none => none)) (h : Ev none d me pc ls (.retAddr a :: st) M v M' c s) : Ev none d me (pc + 3) ls (.int (Int32.ofNat (gTx (a - 10)).length) :: st) M v M' c s := by
  obtain ⟨st1, M1, e, h⟩ := Ev.cal hrow hl (fun q e => by
    rw [hq] at e
    split at e
    · obtain ⟨_, e⟩ := cond_inv e
      cases e
    · cases e) h
  rw [hq] at e
  have e : (match (cond (Nat.ble 10 a && Nat.blt a 17) (some (Value.int (Int32.ofNat (gLn (gTx (a - 10)))) :: st, M)) none) with | some q => cond (Nat.beq 1 1 && gRoom q.1) (some (Sum.inl (β := Nat × Lo × List Value) q)) none | none => none) = some (.inl (st1, M1)) := e
  cases hb : (Nat.ble 10 a && Nat.blt a 17) with
  | false => rw [hb] at e; cases e
  | true =>
    rw [hb] at e
    obtain ⟨_, e⟩ := cond_inv e
    cases e
    rw [← gln_len]
    exact h
theorem Ev.cha (hrow : gNth mRs me = some (o, y, cc, mx, ret, np, kf, tab)) (hl : gLook tab pc = some (7, .invokevirtual ix)) (hq : ∀ st M, gCal (.invokevirtual ix) o st M = (match gNat 1007 st M with | some q => cond (Nat.beq 1 1 && gRoom q.1) (some (.inl q)) none | none => none)) (h : Ev none d me pc ls (.int j :: .retAddr a :: st) M v M' c s) : Ev none d me (pc + 3) ls (.int (cI (a - 10) j) :: st) M v M' c s := by
  obtain ⟨st1, M1, e, h⟩ := Ev.cal hrow hl (fun q e => by
    rw [hq] at e
    split at e
    · obtain ⟨_, e⟩ := cond_inv e
      cases e
    · cases e) h
  rw [hq] at e
  have e : (match (cond (Nat.ble 10 a && Nat.blt a 17) (match gAt (gTx (a - 10)) j with
      | some x => some (Value.int x :: st, M)
      | none => none) none) with | some q => cond (Nat.beq 1 1 && gRoom q.1) (some (Sum.inl (β := Nat × Lo × List Value) q)) none | none => none) = some (.inl (st1, M1)) := e
  cases hb : (Nat.ble 10 a && Nat.blt a 17) with
  | false => rw [hb] at e; cases e
  | true =>
    rw [hb] at e
    cases hg : gAt (gTx (a - 10)) j with
    | none => rw [hg] at e; cases e
    | some x =>
      rw [hg] at e
      obtain ⟨_, e⟩ := cond_inv e
      cases e
      unfold cI
      rw [hg]
      exact h
theorem recv_s (hS : SH M) (ha : gNth sT a = some g) (hB : oB g ci = true) : gRecv M (.ref a) ci = true := by
  obtain ⟨vs, h1⟩ := hS.obj ha hB
  exact recv_c h1
end RUN
