/-! THE CLASS'S least -/
noncomputable def prL (P : PK) : ROW := fun c => if grnB P (nI c) = true then 21 else 1
noncomputable def prC (P : PK) : ROW := fun c => if opnB P (nI c) = true then prL P c else 1000000
noncomputable def okL (P : PK) (c : Nat) : Bool := opnB P (nI c)
def edL (P : PK) : EDG := fun c o w => opnB P (nI c) = true ∧ opnB P (nI o) = true ∧ (∃ d : Nat, d < 8 ∧ besP P (nI c) (nI d) = nI o) ∧ w = prL P c
def LP6 (M : Mem) : Prop := ∀ k, k < 32 → oN M 196 k = 197 + k
noncomputable def jnR (M : Mem) : Nat → ROW := fun s => rwI M (197 + s)
def jnWq (b : Nat) : Prop := 197 ≤ b ∧ b ≤ 228
def ENDq (P : PK) (n : Nat) (t : Nat → Nat) (M : Mem) : Prop := ∀ i, i < n → rN M 344 i = nI (t i) ∧ t i < clsP P ∧ opnB P (nI (t i)) = true
def LKq (T : TS) (P : PK) (n : Nat) (t : Nat → Nat) (M : Mem) : Prop := STA 8 T P M ∧ LP6 M ∧ (∀ c, c < clsP P → rwI M 195 c = prC P c) ∧ ENDq P n t M
noncomputable def meV (x a b p : Int) : Int := if a < 1000000 ∧ b < 1000000 then (if a + b - p < x then a + b - p else x) else x
def PSt (N m : Nat) (pr : ROW) (t : Nat → Nat) (C : Nat → ROW) (s p : Nat) (row : ROW) : Prop := ∀ c, c < N → (0 ≤ row c ∧ row c ≤ 1000000) ∧ (∀ i, i < m → s = 2 ^ i → c = t i → row c ≤ pr c) ∧ (∀ p' q', Spl s p' q' → p < p' → row c ≤ C p' c + C q' c - pr c) ∧ (row c = 1000000 ∨ (∃ i, i < m ∧ s = 2 ^ i ∧ c = t i ∧ row c = pr c) ∨ ∃ p' q', Spl s p' q' ∧ row c = C p' c + C q' c - pr c)
theorem shl_n : ∀ i, i < 6 → ((1 : Int32) <<< (nI i &&& 31)) = nI (2 ^ i) := by decide +kernel
set_option maxRecDepth 100000 in
theorem and_n : ∀ a, a < 64 → ∀ b, b < 64 → (nI a &&& nI b) = nI (a &&& b) := by decide +kernel
set_option maxRecDepth 100000 in
theorem xor_n : ∀ a, a < 64 → ∀ b, b < 64 → (nI a ^^^ nI b) = nI (a ^^^ b) := by decide +kernel
set_option maxRecDepth 100000 in
theorem not_n : ∀ s, s < 64 → ∀ p, p < 64 → p &&& s = p → (nI s &&& (nI p ^^^ (-1))) = nI (s - p) := by decide +kernel
set_option maxRecDepth 100000 in
theorem g197_all : ((List.range 32).all (fun k => match gNth sT (197 + k) with
  | some g => Nat.beq g 43
  | none => false)) = true := by decide +kernel
section CLES
variable {e n m s p i k r cn : Nat} {T : TS} {P : PK} {PI : Nat → PK} {t : Nat → Nat} {C : Nat → ROW} {M M0 M1 M' : Mem} {v : Option Value} {o : Nat → Int32}
theorem g197 (h : k < 32) : gNth sT (197 + k) = some 43 := by
  have q := List.all_eq_true.mp g197_all k (List.mem_range.mpr h)
  cases e : gNth sT (197 + k) with
  | none => rw [e] at q; cases q
  | some g =>
    rw [e] at q
    exact congrArg some (Nat.eq_of_beq_eq_true q)
theorem nI_m1 (h : 0 < s) (h2 : s < 100000) : nI s - 1 = nI (s - 1) := Int32.toInt_inj.mp (by rw [i32_m1 (by rw [nI_toInt (by omega)]; omega), nI_toInt (by omega), nI_toInt (by omega)]; omega)
theorem prL_r (c : Nat) : 1 ≤ prL P c ∧ prL P c ≤ 21 := by
  unfold prL
  split <;> decide
theorem edL_w {c o : Nat} {w : Int} (h : edL P c o w) : w = prL P c := h.2.2.2
theorem edL_s (hw : wh4 P) {c o : Nat} {w : Int} (hc : c < clsP P) (ho : o < clsP P) (h : edL P c o w) : edL P o c (prL P o) := by
  obtain ⟨h1, h2, ⟨d, d8, hd⟩, _⟩ := h
  exact ⟨h2, h1, ⟨(d + 4) % 8, Nat.mod_lt _ (by decide), bes_sym hw hc ho d8 hd⟩, rfl⟩
theorem edC_L {c o : Nat} {w : Int} : edC P (prC P) 0 0 c o w ↔ opnB P (nI c) = true ∧ (∃ d : Nat, d < 8 ∧ besP P (nI c) (nI d) = nI o) ∧ w = prL P c := by
  unfold edC prC
  have hp := prL_r (P := P) c
  constructor
  · rintro ⟨h1, d, d8, hd, hw⟩
    by_cases q : opnB P (nI c) = true
    · rw [if_pos q] at hw
      refine ⟨q, ⟨d, d8, hd⟩, ?_⟩
      rw [hw]
      split <;> omega
    · rw [if_neg q] at h1
      exact absurd h1 (by decide)
  · rintro ⟨h1, ⟨d, d8, hd⟩, hw⟩
    rw [if_pos h1]
    refine ⟨by omega, d, d8, hd, ?_⟩
    rw [hw]
    split <;> omega
theorem edL_C {c o : Nat} {w : Int} : edL P c o w ↔ edC P (prC P) 0 0 c o w ∧ okL P o = true := by
  rw [edC_L]
  exact ⟨fun h => ⟨⟨h.1, h.2.2.1, h.2.2.2⟩, h.2.1⟩, fun h => ⟨h.1.1, h.2, h.1.2.1, h.1.2.2⟩⟩
theorem LKq.fz (hD : okD P) (h : LKq T P n t M) (hS : SQ M') (hF : FZ noF jnWq noO M M') : LKq T P n t M' := by
  obtain ⟨h1, h2, h3, h4⟩ := h
  refine ⟨h1.nt hD hS (hF.more (fun _ _ q => q.elim) (fun b q => Or.inl (by unfold jnWq at q; omega)) (fun _ q => q.elim)), fun k hk => (hF.on (fun q => q)).trans (h2 k hk), fun c hc => ?_, fun i hi => ?_⟩
  · have e : rwI M' 195 c = rwI M 195 c := by
      unfold rwI
      rw [hF.rn (by unfold jnWq; omega)]
    rw [e]
    exact h3 c hc
  · obtain ⟨a, b⟩ := h4 i hi
    exact ⟨(hF.rn (by unfold jnWq; omega)).trans a, b⟩
theorem aw_jn (hs : s < 32) (hF : FZ noF (aW (197 + s)) noO M M') : FZ noF jnWq noO M M' := hF.more (fun _ _ q => q) (fun b q => by have q : b = 197 + s := q; unfold jnWq; omega) (fun _ q => q)
theorem jn_ne (hF : FZ noF (aW (197 + s)) noO M M') (hp : ¬ p = s) : jnR M' p = jnR M p := funext (fun c => by
  unfold jnR rwI
  rw [hF.rn (fun q => by have q : 197 + p = 197 + s := q; omega)])
theorem oi6 (h : LP6 M) (hs : s < 32) : oI M 196 (nI s) = 197 + s := by
  unfold oI
  rw [cl_n (nI_toInt (by omega))]
  exact h s hs
theorem g6n (hw : wh4 P) (hX : STA 8 T P M) : G_6 M 8 = nI (clsP P) := by
  obtain ⟨_, c256, _⟩ := cls_int hw
  exact Int32.toInt_inj.mp (by rw [g6_ok hw hX.2.2.1.1 hX.2.2.1.2.1, nI_toInt (by omega)])
/-- the prices -/
theorem lsc_a (hD : okD P) {nz : Int32} : ∀ (r cn : Nat) (M : Mem), cn + r = clsP P → STA 8 T P M → LP6 M → ENDq P n t M → (∀ c, c < cn → rwI M 195 c = prC P c) → Ev none e 21 11 [some (.ref 192), some (.ref 344), some (.int nz), some (.ref 8), some (.int (nI cn)), none, none] [] M v M' 0 0 → ∃ M2, LKq T P n t M2 ∧ Ev none e 21 70 [some (.ref 192), some (.ref 344), some (.int nz), some (.ref 8), some (.int (nz - 1)), some (.int 1), none] [] M2 v M' 0 0 := by
  have hw := hD.1
  obtain ⟨_, c256, _⟩ := cls_int hw
  intro r
  induction r with
  | zero =>
    intro cn M hr hX h6 hE hp H
    have hg := g6_ok hw hX.2.2.1.1 hX.2.2.1.2.1
    rcases lsc_11 hX.1.1.1 H with ⟨_, H⟩ | ⟨a1, _⟩ | ⟨a1, _⟩ | ⟨a1, _⟩
    · exact ⟨M, ⟨hX, h6, fun c hc => hp c (by omega), hE⟩, H⟩
    all_goals exact absurd (Int32.le_iff_toInt_le.mpr (by rw [hg, nI_toInt (by omega)]; omega)) a1
  | succ r ih =>
    intro cn M hr hX h6 hE hp H
    have hg := g6_ok hw hX.2.2.1.1 hX.2.2.1.2.1
    have hc : cn < clsP P := by omega
    obtain ⟨ic, tc, c2⟩ := nIin hw hc
    have eo : G_7 M 8 (nI cn) = bI (opnB P (nI cn)) := g7L hX.cel ic
    have eg : G_8 M 8 (nI cn) = bI (grnB P (nI cn)) := g8L hX.cel ic
    have hS := hX.1.1.1
    have nx : ∀ (z : Int32), z.toInt = prC P cn → Ev none e 21 11 [some (.ref 192), some (.ref 344), some (.int nz), some (.ref 8), some (.int (nI cn + 1)), none, none] [] (wI M 195 (nI cn).toNatClampNeg z) v M' 0 0 → ∃ M2, LKq T P n t M2 ∧ Ev none e 21 70 [some (.ref 192), some (.ref 344), some (.int nz), some (.ref 8), some (.int (nz - 1)), some (.int 1), none] [] M2 v M' 0 0 := fun z hz H => by
      rw [cl_n tc, nI_p1 (by omega)] at H
      have F : FZ netF netW netW M (wI M 195 cn z) := FZ.wI (by unfold netW; omega)
      have F2 : FZ noF (fun b => b = 195) noO M (wI M 195 cn z) := FZ.wI rfl
      exact ih (cn + 1) _ (by omega) (hX.nt hD hS.ki F) (fun k hk => (F2.on (fun q => q)).trans (h6 k hk)) (fun i hi => ⟨(F2.rn (by omega)).trans (hE i hi).1, (hE i hi).2⟩) (fun c hc => by
        by_cases q : c = cn
        · rw [q, pw_eq hS c2]
          exact hz
        · have e : rwI (wI M 195 cn z) 195 c = rwI M 195 c := by
            unfold rwI
            rw [rN_wI_ne (fun y => q y.2)]
          rw [e]
          exact hp c (by omega)) H
    rcases lsc_11 hS H with ⟨a1, _⟩ | ⟨_, a2, _, H⟩ | ⟨_, a2, a3, _, H⟩ | ⟨_, a2, a3, _, H⟩
    · have := Int32.le_iff_toInt_le.mp a1
      rw [hg, tc] at this
      omega
    · rw [eo, bI_0] at a2
      exact nx 1000000 (by unfold prC; rw [a2]; rfl) H
    · rw [eo, bI_0, Bool.not_eq_false] at a2
      rw [eg, bI_0] at a3
      exact nx 1 (by unfold prC prL; rw [a2, a3]; rfl) H
    · rw [eo, bI_0, Bool.not_eq_false] at a2
      rw [eg, bI_0, Bool.not_eq_false] at a3
      exact nx 21 (by unfold prC prL; rw [a2, a3]; rfl) H
/-- two parts meet -/
theorem mee_l (hD : okD P) (hs : s < 32) {A B : Nat} (hA : gNth sT A = some 43) (hB : gNth sT B = some 43) (nA : ¬ A = 197 + s) (nB : ¬ B = 197 + s) {pz : Int32} (bA : bnR (clsP P) (rwI M0 A)) (bB : bnR (clsP P) (rwI M0 B)) (b0 : bnR (clsP P) (rwI M0 (197 + s))) : ∀ (r cn : Nat) (M : Mem), cn + r = clsP P → LKq T P n t M → FZ noF (aW (197 + s)) noO M0 M → (∀ c, c < cn → rwI M (197 + s) c = meV (rwI M0 (197 + s) c) (rwI M0 A c) (rwI M0 B c) (prC P c)) → (∀ c, cn ≤ c → rwI M (197 + s) c = rwI M0 (197 + s) c) → Ev none e 22 20 [some (.ref 192), some (.int (nI s)), some (.int pz), some (.ref A), some (.ref B), some (.int (nI cn))] [] M v M' 0 0 → v = none ∧ LKq T P n t M' ∧ FZ noF (aW (197 + s)) noO M0 M' ∧ ∀ c, c < clsP P → rwI M' (197 + s) c = meV (rwI M0 (197 + s) c) (rwI M0 A c) (rwI M0 B c) (prC P c) := by
  have hw := hD.1
  obtain ⟨_, c256, _⟩ := cls_int hw
  have tF : (1000000 : Int32).toInt = 1000000 := rfl
  intro r
  induction r with
  | zero =>
    intro cn M hr hK hF h1 h2 H
    have hX := hK.1
    have hg := g6_ok hw hX.2.2.1.1 hX.2.2.1.2.1
    rcases mee_20 hX.1.1.1 hA hB hX.1.1.2.1 H with ⟨_, r1, r2⟩ | ⟨a1, _⟩ | ⟨a1, _⟩ | ⟨a1, _⟩
    · rw [r2]
      exact ⟨r1, hK, hF, fun c hc => h1 c (by omega)⟩
    all_goals exact absurd (Int32.le_iff_toInt_le.mpr (by rw [hg, nI_toInt (by omega)]; omega)) a1
  | succ r ih =>
    intro cn M hr hK hF h1 h2 H
    have hX := hK.1
    have hS := hX.1.1.1
    have hg := g6_ok hw hX.2.2.1.1 hX.2.2.1.2.1
    have hc : cn < clsP P := by omega
    obtain ⟨ic, tc, c2⟩ := nIin hw hc
    have rA : (rI M A (nI cn)).toInt = rwI M0 A cn := by
      rw [rI_n tc, hF.rn nA]
      rfl
    have rB : (rI M B (nI cn)).toInt = rwI M0 B cn := by
      rw [rI_n tc, hF.rn nB]
      rfl
    have r0 : (rI M (197 + s) (nI cn)).toInt = rwI M0 (197 + s) cn := by
      rw [rI_n tc]
      exact h2 cn (Nat.le_refl _)
    have rp : (rI M 195 (nI cn)).toInt = prC P cn := by
      rw [rI_n tc]
      exact hK.2.2.1 cn hc
    have gA := bA cn hc
    have gB := bB cn hc
    have g0 := b0 cn hc
    have gp : 0 ≤ prC P cn ∧ prC P cn ≤ 1000000 := by
      unfold prC
      have := prL_r (P := P) cn
      split <;> omega
    -- nothing is written
    have stay : meV (rwI M0 (197 + s) cn) (rwI M0 A cn) (rwI M0 B cn) (prC P cn) = rwI M0 (197 + s) cn → Ev none e 22 20 [some (.ref 192), some (.int (nI s)), some (.int pz), some (.ref A), some (.ref B), some (.int (nI cn + 1))] [] M v M' 0 0 → v = none ∧ LKq T P n t M' ∧ FZ noF (aW (197 + s)) noO M0 M' ∧ ∀ c, c < clsP P → rwI M' (197 + s) c = meV (rwI M0 (197 + s) c) (rwI M0 A c) (rwI M0 B c) (prC P c) := fun hv H => by
      rw [nI_p1 (by omega)] at H
      refine ih (cn + 1) M (by omega) hK hF (fun c hc => ?_) (fun c hc => h2 c (by omega)) H
      by_cases z : c = cn
      · rw [z, hv]
        exact h2 cn (Nat.le_refl _)
      · exact h1 c (by omega)
    rcases mee_20 hS hA hB hX.1.1.2.1 H with ⟨a1, _⟩ | ⟨_, a2, _, H⟩ | ⟨_, a2, a3, _, _, H⟩ | ⟨_, a2, a3, _, _, _, _, _, _, _, _, _, H⟩
    · have := Int32.le_iff_toInt_le.mp a1
      rw [hg, tc] at this
      omega
    · have a2 := Int32.le_iff_toInt_le.mp a2
      refine stay ?_ H
      unfold meV
      rw [if_neg (by omega)]
    · have a3 := Int32.le_iff_toInt_le.mp a3
      refine stay ?_ H
      unfold meV
      rw [if_neg (by omega)]
    · rw [Int32.le_iff_toInt_le] at a2 a3
      rw [oi6 hK.2.1 hs, cl_n tc, nI_p1 (by omega)] at H
      have sm : (rI M A (nI cn) + rI M B (nI cn) - rI M 195 (nI cn)).toInt = rwI M0 A cn + rwI M0 B cn - prC P cn := by
        have q : (rI M A (nI cn) + rI M B (nI cn)).toInt = rwI M0 A cn + rwI M0 B cn := by rw [i32_add (by omega) (by omega), rA, rB]
        rw [i32_sub (by omega) (by omega), q, rp]
      obtain ⟨z, ez⟩ : ∃ z, z = (if rI M A (nI cn) + rI M B (nI cn) - rI M 195 (nI cn) < rI M (197 + s) (nI cn) then rI M A (nI cn) + rI M B (nI cn) - rI M 195 (nI cn) else rI M (197 + s) (nI cn)) := ⟨_, rfl⟩
      rw [← ez] at H
      have zt : z.toInt = meV (rwI M0 (197 + s) cn) (rwI M0 A cn) (rwI M0 B cn) (prC P cn) := by
        unfold meV
        rw [if_pos (show rwI M0 A cn < 1000000 ∧ rwI M0 B cn < 1000000 by omega), ez]
        by_cases q : rI M A (nI cn) + rI M B (nI cn) - rI M 195 (nI cn) < rI M (197 + s) (nI cn)
        · rw [if_pos q]
          have q := Int32.lt_iff_toInt_lt.mp q
          rw [if_pos (by omega), sm]
        · rw [if_neg q]
          rw [Int32.lt_iff_toInt_lt] at q
          rw [if_neg (by omega), r0]
      have F1 : FZ noF (aW (197 + s)) noO M (wI M (197 + s) cn z) := FZ.wI rfl
      refine ih (cn + 1) _ (by omega) (hK.fz hD hS.ki (aw_jn hs F1)) (hF.trans F1) (fun c hc => ?_) (fun c hc => ?_) H
      · by_cases y : c = cn
        · rw [y, rw_eq hS (g197 hs) c2, zt]
        · rw [rw_ne y]
          exact h1 c (by omega)
      · rw [rw_ne (by omega)]
        exact h2 c (by omega)
theorem mee_ok (hD : okD P) (hs : s < 32) (hsp : Spl s p (s - p)) (hps : p &&& s = p) (hK : LKq T P n t M) (bA : bnR (clsP P) (jnR M p)) (bB : bnR (clsP P) (jnR M (s - p))) (b0 : bnR (clsP P) (jnR M s)) (H : Ev none e 22 0 [some (.ref 192), some (.int (nI s)), some (.int (nI p)), none, none, none] [] M v M' 0 0) : v = none ∧ LKq T P n t M' ∧ FZ noF (aW (197 + s)) noO M M' ∧ ∀ c, c < clsP P → jnR M' s c = meV (jnR M s c) (jnR M p c) (jnR M (s - p) c) (prC P c) := by
  have h1 := hsp.1
  have h2 := hsp.2.1
  obtain ⟨_, _, H⟩ := mee_0 hK.1.1.1.1 hK.1.1.1.2.1 H
  rw [xor_n s (by omega) p (by omega), (sub_ok (by omega) hps).2.1.1, oi6 hK.2.1 (by omega), oi6 hK.2.1 (by omega)] at H
  exact mee_l hD hs (g197 (by omega)) (g197 (by omega)) (by omega) (by omega) bA bB b0 (clsP P) 0 M (by omega) hK (FZ.refl _) (fun c hc => absurd hc (Nat.not_lt_zero c)) (fun _ _ => rfl) H
/-- a part more -/
theorem PSt.step {N : Nat} {pr prx : ROW} {row row2 : ROW} {p : Nat} (hs64 : s < 64) (h : PSt N m pr t C s p row) (hp0 : 0 < p) (hps : p &&& s = p) (low : ∀ c, c < N → pr c ≤ C p c ∧ pr c ≤ C (s - p) c) (hx : ∀ c, c < N → C p c < 1000000 → prx c = pr c) (hp : ∀ c, c < N → 1 ≤ pr c ∧ pr c ≤ 21) (hsp : Spl s p (s - p)) (e : ∀ c, c < N → row2 c = meV (row c) (C p c) (C (s - p) c) (prx c)) : PSt N m pr t C s ((p - 1) &&& s) row2 := fun c hc => by
  obtain ⟨⟨h1, h2⟩, h3, h4, h5⟩ := h c hc
  obtain ⟨l1, l2⟩ := low c hc
  have hpc := hp c hc
  have e := e c hc
  have two : (row2 c = row c ∧ row c ≤ C p c + C (s - p) c - pr c) ∨ (row2 c = C p c + C (s - p) c - pr c ∧ C p c + C (s - p) c - pr c < row c) := by
    unfold meV at e
    by_cases q : C p c < 1000000 ∧ C (s - p) c < 1000000
    · rw [if_pos q, hx c hc q.1] at e
      by_cases q2 : C p c + C (s - p) c - pr c < row c
      · rw [if_pos q2] at e
        exact Or.inr ⟨e, q2⟩
      · rw [if_neg q2] at e
        exact Or.inl ⟨e, by omega⟩
    · rw [if_neg q] at e
      exact Or.inl ⟨e, by omega⟩
  refine ⟨by omega, fun i hi i1 i2 => by have := h3 i hi i1 i2; omega, fun p' q' hs hlt => ?_, ?_⟩
  · obtain ⟨g1, g2, g3⟩ := spl_sub hs64 hs
    by_cases y : p' = p
    · rw [g3, y]
      omega
    · have := (sub_ok hs64 hps).2.2 p' g1
      have := h4 p' q' hs (by omega)
      omega
  · rcases two with ⟨q, _⟩ | ⟨q, _⟩
    · rw [q]
      exact h5
    · exact Or.inr (Or.inr ⟨p, s - p, hsp, q⟩)
theorem PSt.fin {N : Nat} {pr : ROW} {row : ROW} (h : PSt N m pr t C s 0 row) : StC N m 1000000 pr t C s row := fun c hc => by
  obtain ⟨⟨h1, h2⟩, h3, h4, h5⟩ := h c hc
  exact ⟨h2, h3, fun p q hs => h4 p q hs hs.1, h5⟩
/-- what stands for the sets before s -/
theorem jn_all (hw : wh4 P) (hy : SyC (edL P) (clsP P) m 1000000 (prL P) t C s) (ht : ∀ i, i < m → opnB P (nI (t i)) = true) : (∀ p, 0 < p → p < s → bnR (clsP P) (C p) ∧ ∀ c, c < clsP P → prL P c ≤ C p c) ∧ ∀ p, 0 < p → p < s → ∀ c, c < clsP P → C p c < 1000000 → prC P c = prL P c := by
  have hE : ∀ c o w, c < clsP P → o < clsP P → edL P c o w → w = prL P c := fun c o w _ _ h => edL_w h
  have hp : ∀ c, c < clsP P → 1 ≤ prL P c ∧ prL P c ≤ 21 := fun c _ => prL_r c
  have low := sy_low hE hp (by decide) hy
  refine ⟨fun p p0 ps => ⟨fun c hc => ⟨?_, sy_hi hy p0 ps hc⟩, fun c hc => low p p0 ps c hc⟩, fun p p0 ps c hc hlt => ?_⟩
  · have := low p p0 ps c hc
    have := hp c hc
    omega
  · unfold prC
    by_cases q : opnB P (nI c) = true
    · rw [if_pos q]
    · have := sy_non (ok := okL P) hE hp (by decide) (fun c o w _ _ h => h.1) ht hy p p0 ps c hc (Bool.eq_false_iff.mpr q)
      omega
/-- the parts of s, then the way over the CELLS -/
theorem lsc_p (hD : okD P) (hm : m ≤ 5) (hs : s < 2 ^ m) (s0 : 0 < s) {nz lz : Int32} : ∀ (p : Nat) (M : Mem), p &&& s = p → p < s → LKq T P n t M → m ≤ n → SyC (edL P) (clsP P) m 1000000 (prL P) t (jnR M) s → PSt (clsP P) m (prL P) t (jnR M) s p (jnR M s) → Ev none e 21 146 [some (.ref 192), some (.ref 344), some (.int nz), some (.ref 8), some (.int lz), some (.int (nI s)), some (.int (nI p))] [] M v M' 0 0 → ∃ M2 pz, LKq T P n t M2 ∧ SyC (edL P) (clsP P) m 1000000 (prL P) t (jnR M2) (s + 1) ∧ Ev none e 21 70 [some (.ref 192), some (.ref 344), some (.int nz), some (.ref 8), some (.int lz), some (.int (nI (s + 1))), some (.int pz)] [] M2 v M' 0 0 := by
  have hw := hD.1
  have k32 : 2 ^ m ≤ 32 := by
    have := Nat.pow_le_pow_right (n := 2) (by decide) hm
    omega
  have t0 : (0 : Int32).toInt = 0 := rfl
  intro p
  induction p using Nat.strongRecOn with
  | ind p ih =>
    intro M hps hlt hK hmn hy hP H
    have tp : (nI p).toInt = (p : Int) := nI_toInt (by omega)
    have hto : ∀ i, i < m → opnB P (nI (t i)) = true := fun i hi => (hK.2.2.2 i (by omega)).2.2
    obtain ⟨j1, j2⟩ := jn_all hw hy hto
    rcases lsc_146 hK.1.1.1.1 H with ⟨a1, _, e1, v1, M1, _, H1, H⟩ | ⟨a1, e1, v1, M1, _, H1, H⟩
    · have p0 : p = 0 := by
        have := Int32.le_iff_toInt_le.mp a1
        omega
      subst p0
      rw [oi6 hK.2.1 (by omega)] at H1
      have hS := hK.1.1.1.1
      have st := hP.fin
      have hN : NB P (prC P) M := ⟨hS, hK.1.1.2.2.2.2.1, fun c hc => ⟨hK.2.2.1 c hc, by
        unfold prC
        have := prL_r (P := P) c
        split <;> omega⟩⟩
      have b0 : bnR (clsP P) (rwI M (197 + s)) := fun c hc => (hP c hc).1
      obtain ⟨q1, q2, q3, q4, q5⟩ := spr_w hw hN (by rw [hK.1.1.1.2.1]; exact g6n hw hK.1) (g197 (by omega)) (by decide) (by decide) b0 (fun c o w _ _ h => by
        have h := edC_L.mp h
        rw [h.2.2]
        exact (prL_r c).1) H1
      rw [q1] at H
      have hS1 := q2.1
      have H := lsc_184 hS1 H
      rw [nI_p1 (by omega)] at H
      refine ⟨M1, _, hK.fz hD hS1 (aw_jn (by omega) q4), fun x x0 xs => ?_, H⟩
      by_cases y : x = s
      · rw [y]
        refine ⟨jnR M s, st.congr (fun p hp c hc => by rw [jn_ne q4 (by omega)]), ?_⟩
        exact GfE.nar (F := 1000000) (ok := okL P) q5 (fun c o w _ _ h => by
          have h := edC_L.mp h
          rw [h.2.2]
          have := (prL_r (P := P) c).1
          omega) (fun c o w _ _ h => (edC_L.mp h).1) (fun c o w _ _ => edL_C) (fun c hc => (hP c hc).1.2) (fun c hc hn => by
          obtain ⟨⟨_, g2⟩, _, _, g5⟩ := hP c hc
          rcases g5 with g | ⟨i, hi, _, ec, _⟩ | ⟨x, z, hsp, g⟩
          · exact g
          · have := hto i hi
            rw [← ec] at this
            unfold okL at hn
            rw [hn] at this
            cases this
          · have g : rwI M (197 + s) c = jnR M x c + jnR M z c - prL P c := g
            have hE : ∀ c o w, c < clsP P → o < clsP P → edL P c o w → w = prL P c := fun c o w _ _ h => edL_w h
            have non := sy_non (ok := okL P) hE (fun c _ => prL_r c) (by decide) (fun c o w _ _ h => h.1) hto hy
            have n1 := non x hsp.1 (by have := hsp.2.1; have := hsp.2.2.2; omega) c hc hn
            have n2 := non z hsp.2.1 (by have := hsp.1; have := hsp.2.2.2; omega) c hc hn
            have := (prL_r (P := P) c).2
            have g2 : rwI M (197 + s) c ≤ 1000000 := g2
            omega)
      · obtain ⟨st2, a2, g2⟩ := hy x x0 (by omega)
        rw [jn_ne q4 y]
        exact ⟨st2, a2.congr (fun p hp c hc => by rw [jn_ne q4 (by omega)]), g2⟩
    · have p0 : 0 < p := by
        rw [Int32.le_iff_toInt_le] at a1
        omega
      have hsp := sub_spl (by omega) hps p0 hlt
      obtain ⟨q1, q2, q3, q4⟩ := mee_ok hD (by omega) hsp hps hK (j1 p p0 hlt).1 (j1 (s - p) hsp.2.1 (by omega)).1 (fun c hc => (hP c hc).1) H1
      rw [q1] at H
      have H := lsc_159 q2.1.1.1.1 H
      obtain ⟨⟨u1, u2⟩, _, _⟩ := sub_ok (show s < 64 by omega) hps
      have u2 := u2 p0
      rw [nI_m1 p0 (by omega), and_n (p - 1) (by omega) s (by omega)] at H
      have ec : ∀ x, x < s → jnR M1 x = jnR M x := fun x hx => jn_ne q3 (by omega)
      refine ih _ u2 M1 u1 (by omega) q2 hmn (hy.congr (fun x hx c _ => by rw [ec x hx])) ?_ H
      have stp := hP.step (by omega) p0 hps (fun c hc => ⟨(j1 p p0 hlt).2 c hc, (j1 (s - p) hsp.2.1 (by omega)).2 c hc⟩) (fun c hc hl => j2 p p0 hlt c hc hl) (fun c _ => prL_r c) hsp q4
      intro c hc
      obtain ⟨g1, g2, g3, g4⟩ := stp c hc
      refine ⟨g1, g2, fun p' q' hs' hl => ?_, ?_⟩
      · have := hs'.1
        have := hs'.2.1
        have := hs'.2.2.2
        rw [ec p' (by omega), ec q' (by omega)]
        exact g3 p' q' hs' hl
      · rcases g4 with g4 | g4 | ⟨p', q', hs', g4⟩
        · exact Or.inl g4
        · exact Or.inr (Or.inl g4)
        · have := hs'.1
          have := hs'.2.1
          have := hs'.2.2.2
          exact Or.inr (Or.inr ⟨p', q', hs', by rw [ec p' (by omega), ec q' (by omega)]; exact g4⟩)
/-- the DOORS of s -/
theorem lsc_i (hD : okD P) (hm : m ≤ 5) (hs : s < 2 ^ m) (s0 : 0 < s) {nz : Int32} : ∀ (r i : Nat) (M : Mem), i + r = m → LKq T P n t M → m ≤ n → SyC (edL P) (clsP P) m 1000000 (prL P) t (jnR M) s → (∀ c, c < clsP P → (0 ≤ jnR M s c ∧ jnR M s c ≤ 1000000) ∧ (∀ j, j < i → s = 2 ^ j → c = t j → jnR M s c ≤ prL P c) ∧ (jnR M s c = 1000000 ∨ ∃ j, j < m ∧ s = 2 ^ j ∧ c = t j ∧ jnR M s c = prL P c)) → Ev none e 21 94 [some (.ref 192), some (.ref 344), some (.int nz), some (.ref 8), some (.int (nI m)), some (.int (nI s)), some (.int (nI i))] [] M v M' 0 0 → ∃ M2 pz, LKq T P n t M2 ∧ SyC (edL P) (clsP P) m 1000000 (prL P) t (jnR M2) (s + 1) ∧ Ev none e 21 70 [some (.ref 192), some (.ref 344), some (.int nz), some (.ref 8), some (.int (nI m)), some (.int (nI (s + 1))), some (.int pz)] [] M2 v M' 0 0 := by
  have hw := hD.1
  obtain ⟨_, c256, _⟩ := cls_int hw
  have k32 : 2 ^ m ≤ 32 := by
    have := Nat.pow_le_pow_right (n := 2) (by decide) hm
    omega
  have tm : (nI m).toInt = (m : Int) := nI_toInt (by omega)
  intro r
  induction r with
  | zero =>
    intro i M hi hK hmn hy hR H
    have ti : (nI i).toInt = (i : Int) := nI_toInt (by omega)
    rcases lsc_94 hK.1.1.1.1 H with ⟨_, H⟩ | ⟨a1, _⟩ | ⟨a1, _⟩
    · rw [nI_m1 s0 (by omega), and_n (s - 1) (by omega) s (by omega)] at H
      have sss : s &&& s = s := Nat.and_self s
      obtain ⟨⟨u1, u2⟩, _, u3⟩ := sub_ok (show s < 64 by omega) sss
      refine lsc_p hD hm hs s0 _ M u1 (u2 s0) hK hmn hy (fun c hc => ?_) H
      obtain ⟨g1, g2, g3⟩ := hR c hc
      refine ⟨g1, fun j hj => g2 j (by omega), fun p' q' hs' hl => ?_, ?_⟩
      · obtain ⟨x1, x2, _⟩ := spl_sub (by omega) hs'
        have := u3 p' x1 x2
        omega
      · rcases g3 with g3 | g3
        · exact Or.inl g3
        · exact Or.inr (Or.inl g3)
    all_goals exact absurd (Int32.le_iff_toInt_le.mpr (by omega)) a1
  | succ r ih =>
    intro i M hi hK hmn hy hR H
    have ti : (nI i).toInt = (i : Int) := nI_toInt (by omega)
    rcases lsc_94 hK.1.1.1.1 H with ⟨a1, _⟩ | ⟨_, a2, _, _, _, _, _, H⟩ | ⟨_, a2, H⟩
    · have := Int32.le_iff_toInt_le.mp a1
      omega
    · rw [shl_n i (by omega)] at a2
      have es : s = 2 ^ i := by
        have hl : 2 ^ i < 2 ^ m := Nat.pow_lt_pow_right (by decide) (by omega)
        have q := congrArg Int32.toInt a2
        rw [nI_toInt (by omega), nI_toInt (by omega)] at q
        omega
      obtain ⟨e1, e2, e3⟩ := hK.2.2.2 i (by omega)
      have tt : (nI (t i)).toInt = (t i : Int) := nI_toInt (by omega)
      have er : rI M 344 (nI i) = nI (t i) := (rI_n ti).trans e1
      rw [er, oi6 hK.2.1 (by omega), cl_n tt, rI_n tt, nI_p1 (by omega)] at H
      have hS := hK.1.1.1.1
      have F1 : FZ noF (aW (197 + s)) noO M (wI M (197 + s) (t i) (rN M 195 (t i))) := FZ.wI rfl
      have vt : (rN M 195 (t i)).toInt = prL P (t i) := by
        have q := hK.2.2.1 (t i) e2
        have q : (rN M 195 (t i)).toInt = prC P (t i) := q
        rw [q]
        unfold prC
        rw [if_pos e3]
      have pr := prL_r (P := P) (t i)
      have ne : ∀ x, x < s → jnR (wI M (197 + s) (t i) (rN M 195 (t i))) x = jnR M x := fun x hx => jn_ne F1 (by omega)
      refine ih (i + 1) _ (by omega) (hK.fz hD hS.ki (aw_jn (by omega) F1)) hmn (hy.congr (fun x hx c _ => by rw [ne x hx])) (fun c hc => ?_) H
      have rw1 : ∀ c, c < clsP P → jnR (wI M (197 + s) (t i) (rN M 195 (t i))) s c = if c = t i then prL P (t i) else jnR M s c := fun c hc => by
        by_cases y : c = t i
        · rw [if_pos y, y]
          exact (rw_eq hS (g197 (by omega)) (by omega) _).trans vt
        · rw [if_neg y]
          exact rw_ne y
      rw [rw1 c hc]
      obtain ⟨g1, g2, g3⟩ := hR c hc
      by_cases y : c = t i
      · rw [if_pos y, y]
        exact ⟨by omega, fun j _ _ hj => by rw [hj]; exact Int.le_refl _, Or.inr ⟨i, by omega, es, rfl, rfl⟩⟩
      · rw [if_neg y]
        refine ⟨g1, fun j hj j1 j2 => ?_, g3⟩
        by_cases z : j = i
        · rw [z] at j2
          exact absurd j2 y
        · exact g2 j (by omega) j1 j2
    · rw [shl_n i (by omega)] at a2
      rw [nI_p1 (by omega)] at H
      refine ih (i + 1) M (by omega) hK hmn hy (fun c hc => ?_) H
      obtain ⟨g1, g2, g3⟩ := hR c hc
      refine ⟨g1, fun j hj j1 j2 => ?_, g3⟩
      by_cases z : j = i
      · rw [z] at j1
        exact absurd (by rw [j1]) a2
      · exact g2 j (by omega) j1 j2
/-- the sets -/
theorem lsc_s (hD : okD P) (hm : m ≤ 5) (hmn : m < n) {nz : Int32} : ∀ (r s : Nat) (M : Mem) (o6 : Option Value), s + r = 2 ^ m → 0 < s → LKq T P n t M → SyC (edL P) (clsP P) m 1000000 (prL P) t (jnR M) s → Ev none e 21 70 [some (.ref 192), some (.ref 344), some (.int nz), some (.ref 8), some (.int (nI m)), some (.int (nI s)), o6] [] M v M' 0 0 → ∃ (C : Nat → ROW) (y : Int32), SyC (edL P) (clsP P) m 1000000 (prL P) t C (2 ^ m) ∧ v = some (.int y) ∧ ((C (2 ^ m - 1) (t m) < 1000000 ∧ y.toInt = C (2 ^ m - 1) (t m)) ∨ (¬ C (2 ^ m - 1) (t m) < 1000000 ∧ y = -1)) := by
  have hw := hD.1
  obtain ⟨_, c256, _⟩ := cls_int hw
  have k32 : 2 ^ m ≤ 32 := by
    have := Nat.pow_le_pow_right (n := 2) (by decide) hm
    omega
  have tm : (nI m).toInt = (m : Int) := nI_toInt (by omega)
  have tF : (1000000 : Int32).toInt = 1000000 := rfl
  have t2 : (nI (2 ^ m)).toInt = ((2 ^ m : Nat) : Int) := nI_toInt (by omega)
  have p0 := Nat.two_pow_pos m
  intro r
  induction r with
  | zero =>
    intro s M o6 hr hs hK hy H
    have ts : (nI s).toInt = (s : Int) := nI_toInt (by omega)
    have es : s = 2 ^ m := by omega
    obtain ⟨e1, e2, e3⟩ := hK.2.2.2 m hmn
    have tt : (nI (t m)).toInt = (t m : Int) := nI_toInt (by omega)
    have er : rI M 344 (nI m) = nI (t m) := (rI_n tm).trans e1
    have H := lsc_70 hK.1.1.1.1 H
    rw [shl_n m (by omega), nI_m1 p0 (by omega), oi6 hK.2.1 (by omega), er, rI_n tt] at H
    rw [es] at hy
    rcases H with ⟨_, a2, _, _, _, r1, _⟩ | ⟨_, a2, _, _, _, r1, _⟩ | ⟨a1, _⟩
    · have a2 := Int32.lt_iff_toInt_lt.mp a2
      exact ⟨jnR M, _, hy, r1, Or.inl ⟨a2, rfl⟩⟩
    · rw [Int32.lt_iff_toInt_lt] at a2
      exact ⟨jnR M, _, hy, r1, Or.inr ⟨a2, rfl⟩⟩
    · exact absurd (Int32.le_iff_toInt_le.mpr (by omega)) a1
  | succ r ih =>
    intro s M o6 hr hs hK hy H
    have ts : (nI s).toInt = (s : Int) := nI_toInt (by omega)
    have H := lsc_70 hK.1.1.1.1 H
    rw [shl_n m (by omega)] at H
    rcases H with ⟨a1, _⟩ | ⟨a1, _⟩ | ⟨_, _, H⟩
    · have := Int32.le_iff_toInt_le.mp a1
      omega
    · have := Int32.le_iff_toInt_le.mp a1
      omega
    · rw [oi6 hK.2.1 (by omega)] at H
      have hS := hK.1.1.1.1
      have F1 : FZ noF (aW (197 + s)) noO M (wA M (197 + s) 1000000) := FZ.wA rfl
      have S1 : SQ (wA M (197 + s) 1000000) := hS.ka
      have ne : ∀ x, x < s → jnR (wA M (197 + s) 1000000) x = jnR M x := fun x hx => jn_ne F1 (by omega)
      have rw1 : ∀ c, c < clsP P → jnR (wA M (197 + s) 1000000) s c = 1000000 := fun c hc => by
        have q := rN_wA_eq (x := 1000000) hS.1 (g197 (k := s) (by omega)) qw_43 (show c < 256 by omega)
        exact congrArg Int32.toInt q
      obtain ⟨M2, pz, K2, y2, H⟩ := lsc_i hD hm (by omega) hs m 0 _ (by omega) (hK.fz hD S1 (aw_jn (by omega) F1)) (by omega) (hy.congr (fun x hx c _ => by rw [ne x hx])) (fun c hc => by
        rw [rw1 c hc]
        exact ⟨by decide, fun j hj => absurd hj (Nat.not_lt_zero j), Or.inl rfl⟩) H
      exact ih (s + 1) M2 _ (by omega) (by omega) K2 y2 H
theorem lsc_ok (hD : okD P) (hm : m ≤ 5) (hX : STA 8 T P M) (h6 : LP6 M) (hE : ENDq P (m + 1) t M) (H : Ev none e 21 0 [some (.ref 192), some (.ref 344), some (.int (nI (m + 1))), none, none, none, none] [] M v M' 0 0) : ∃ (C : Nat → ROW) (y : Int32), SyC (edL P) (clsP P) m 1000000 (prL P) t C (2 ^ m) ∧ v = some (.int y) ∧ ((C (2 ^ m - 1) (t m) < 1000000 ∧ y.toInt = C (2 ^ m - 1) (t m)) ∨ (¬ C (2 ^ m - 1) (t m) < 1000000 ∧ y = -1)) := by
  obtain ⟨M2, K2, H⟩ := lsc_a hD (clsP P) 0 M (by omega) hX h6 hE (fun c hc => absurd hc (Nat.not_lt_zero c)) (lsc_0 hX.1.1.1 hX.1.1.2.1 H)
  rw [nI_m1 (by omega) (by omega), show m + 1 - 1 = m by omega] at H
  have p0 := Nat.two_pow_pos m
  exact lsc_s hD hm (by omega) (2 ^ m - 1) 1 M2 none (by omega) (by decide) K2 (fun s h1 h2 => by omega) H
end CLES
