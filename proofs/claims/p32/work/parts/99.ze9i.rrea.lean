/-! THE REFERENCE'S reading of the SNOW -/
def TRD (W : Nat → List Nat) (i : Nat) (M : Mem) : Prop := ∀ q, q < i → ∀ c, c < 256 → rN M 659 (256 * q + c) = nI (ocN (W q) c)
def rqF (a k : Nat) : Prop := a = 633 ∧ (k ≤ 4 ∨ (34 ≤ k ∧ k ≤ 39) ∨ k = 60)
def rqW (a : Nat) : Prop := a = 649 ∨ a = 657 ∨ a = 659
def rxF (a k : Nat) : Prop := a = 633 ∧ k = 62
def rxW (a : Nat) : Prop := 660 ≤ a ∧ a ≤ 662
/-- tellings among the first x numbers -/
def SXq (W : Nat → List Nat) (n : Nat) (L : ROWq) (x : Nat) (t : Nat → Nat) : Prop := gdTl W n 0 L t ∧ ∃ y, y < x ∧ ∀ j, j < n → t j = dgX y j
noncomputable def cnX (W : Nat → List Nat) (n : Nat) (L : ROWq) (x : Nat) : Nat := suN (fun y => if goX W n 0 L y = true then 1 else 0) x
section RREA
variable {e k i j m n r c : Nat} {W : Nat → List Nat} {L : ROWq} {l : List Nat} {T : TS} {P : PK} {M M0 M1 M' : Mem} {v : Option Value} {a b h s az mz xz lz : Int32} {o : Nat → Int32} {x y : Nat}
theorem KEPR.refl : KEPR M M := ⟨rfl, fun _ => ⟨rfl, rfl⟩⟩
theorem KEPR.trans (h1 : KEPR M M1) (h2 : KEPR M1 M') : KEPR M M' := ⟨h2.1.trans h1.1, fun j => ⟨(h2.2 j).1.trans (h1.2 j).1, (h2.2 j).2.trans (h1.2 j).2⟩⟩
theorem KEPR.fz {F : Nat → Nat → Prop} {V O : Nat → Prop} (hF : FZ F V O M M') (f : ¬ F 633 62) (w1 : ¬ V 660) (w2 : ¬ V 661) : KEPR M M' := ⟨hF.fi f, fun _ => ⟨hF.rn w1, hF.rn w2⟩⟩
theorem RST.rq (h : RST T P M) (hS : SQ M') (hF : FZ rqF rqW noO M M') : RST T P M' := h.fz hS hF (fun k h1 h2 q => by unfold rqF at q; omega) (fun a ha q => by unfold rqW at q; omega)
theorem RST.rx (h : RST T P M) (hS : SQ M') (hF : FZ rxF rxW noO M M') : RST T P M' := h.fz hS hF (fun k h1 h2 q => by unfold rxF at q; omega) (fun a ha q => by unfold rxW at q; omega)
theorem ix659 (hi : i < 5) (hc : c < 256) : (256 * nI i + nI c).toInt = ((256 * i + c : Nat) : Int) := by
  have ti : (nI i).toInt = (i : Int) := nI_toInt (by omega)
  have tc : (nI c).toInt = (c : Int) := nI_toInt (by omega)
  have t256 : (256 : Int32).toInt = 256 := rfl
  have q : (256 * nI i).toInt = 256 * (i : Int) := by rw [i32_mul (by rw [t256, ti]; omega) (by rw [t256, ti]; omega), t256, ti]
  rw [i32_add (by omega) (by omega), q, tc]
  omega
theorem l659 (hS : SQ M) : (zrw M 659).length = 1280 := (hS.1.row qa_659 qw_87).2
/-- the row of WAY i is emptied -/
theorem rz_l (i5 : i < 5) {nz : Int32} : ∀ (r c : Nat) (M : Mem), c + r = 256 → SQ M → (∀ q, q < c → rN M 659 (256 * i + q) = 0) → Ev none e 242 111 [some (.ref 633), some (.int nz), some (.int (nI i)), some (.int (nI c)), none, none, none] [] M v M' 0 0 → ∃ M1, SQ M1 ∧ FZ noF (fun a => a = 659) noO M M1 ∧ (∀ p, p < 256 * i → rN M1 659 p = rN M 659 p) ∧ (∀ q, q < 256 → rN M1 659 (256 * i + q) = 0) ∧ Ev none e 242 139 [some (.ref 633), some (.int nz), some (.int (nI i)), some (.int 1), none, none, none] [] M1 v M' 0 0 := by
  have t256 : (256 : Int32).toInt = 256 := rfl
  intro r
  induction r with
  | zero =>
    intro c M hc hS hz H
    have tc : (nI c).toInt = (c : Int) := nI_toInt (by omega)
    rcases rrd_111 hS H with ⟨_, H⟩ | ⟨a1, _⟩
    · exact ⟨M, hS, FZ.refl _, fun _ _ => rfl, fun q hq => hz q (by omega), H⟩
    · exact absurd (Int32.le_iff_toInt_le.mpr (by omega)) a1
  | succ r ih =>
    intro c M hc hS hz H
    have tc : (nI c).toInt = (c : Int) := nI_toInt (by omega)
    rcases rrd_111 hS H with ⟨a1, _⟩ | ⟨_, _, H⟩
    · have := Int32.le_iff_toInt_le.mp a1
      omega
    · rw [cl_n (ix659 i5 (by omega)), nI_p1 (by omega)] at H
      have F1 : FZ noF (fun a => a = 659) noO M (wI M 659 (256 * i + c) 0) := FZ.wI rfl
      have len := l659 hS
      obtain ⟨M1, q1, q2, q3, q4, q5⟩ := ih (c + 1) _ (by omega) hS.ki (fun q hq => by
        by_cases z : q = c
        · rw [z]
          exact rN_wI_eq (by omega)
        · rw [rN_wI_ne (by omega)]
          exact hz q (by omega)) H
      exact ⟨M1, q1, F1.trans q2, fun p hp => (q3 p hp).trans (rN_wI_ne (by omega)), q4, q5⟩
/-- the steps of WAY i are counted -/
theorem rt_l (i5 : i < 5) {nz : Int32} {w : List Int32} (hw : w.length ≤ 201) (hl : ∀ m y, l[m]? = some y → w[m + 1]? = some (nI y) ∧ y < 256) (hlen : l.length + 1 = w.length) : ∀ (l2 : List Nat) (m : Nat) (f : Nat → Nat) (M : Mem), l.drop m = l2 → m ≤ l.length → SQ M → (zI M 633 60).toInt = (w.length : Int) → (∀ j y, w[j]? = some y → rN M 657 j = y) → (∀ c, c < 256 → rN M 659 (256 * i + c) = nI (f c) ∧ f c + ocN l2 c = ocN l c) → Ev none e 242 139 [some (.ref 633), some (.int nz), some (.int (nI i)), some (.int (nI (m + 1))), none, none, none] [] M v M' 0 0 → ∃ (M1 : Mem) (cz : Int32), SQ M1 ∧ FZ noF (fun a => a = 659) noO M M1 ∧ (∀ p, p < 256 * i → rN M1 659 p = rN M 659 p) ∧ (∀ c, c < 256 → rN M1 659 (256 * i + c) = nI (ocN l c)) ∧ Ev none e 242 38 [some (.ref 633), some (.int nz), some (.int (nI (i + 1))), some (.int cz), none, none, none] [] M1 v M' 0 0 := by
  intro l2
  induction l2 with
  | nil =>
    intro m f M hl2 hm hS h60 hrow hf H
    have tm : (nI (m + 1)).toInt = ((m + 1 : Nat) : Int) := nI_toInt (by omega)
    have hml : l.length ≤ m := List.drop_eq_nil_iff.mp hl2
    rcases rrd_139 hS H with ⟨_, H⟩ | ⟨a1, _⟩
    · rw [nI_p1 (by omega)] at H
      refine ⟨M, _, hS, FZ.refl _, fun _ _ => rfl, fun c hc => ?_, H⟩
      obtain ⟨g1, g2⟩ := hf c hc
      have g2 : f c + 0 = ocN l c := g2
      rw [g1, ← g2, Nat.add_zero]
    · exact absurd (Int32.le_iff_toInt_le.mpr (by omega)) a1
  | cons y l2 ih =>
    intro m f M hl2 hm hS h60 hrow hf H
    obtain ⟨hmy, hl3, hml⟩ := drop_at (W := fun _ => l) (i := 0) hl2
    obtain ⟨g1, g2⟩ := hl m y hmy
    have tm : (nI (m + 1)).toInt = ((m + 1 : Nat) : Int) := nI_toInt (by omega)
    have er : rI M 657 (nI (m + 1)) = nI y := (rI_n tm).trans (hrow _ _ g1)
    rcases rrd_139 hS H with ⟨a1, _⟩ | ⟨_, _, _, _, H⟩
    · have := Int32.le_iff_toInt_le.mp a1
      omega
    · have ix := ix659 i5 g2
      rw [er, cl_n ix, rI_n ix, nI_p1 (by omega)] at H
      obtain ⟨h1, h2⟩ := hf y g2
      have h2 : f y + (ocN l2 y + (if y = y then 1 else 0)) = ocN l y := h2
      have hle : ocN l y ≤ l.length := cn_le
      rw [if_pos rfl] at h2
      rw [h1, nI_p1 (by omega)] at H
      have F1 : FZ noF (fun a => a = 659) noO M (wI M 659 (256 * i + y) (nI (f y + 1))) := FZ.wI rfl
      have len := l659 hS
      obtain ⟨M1, cz, q1, q2, q3, q4, q5⟩ := ih (m + 1) (fun c => f c + (if y = c then 1 else 0)) _ hl3 (by omega) hS.ki ((fI_wI).symm ▸ h60) (fun j z hj => (rN_wI_ne (by omega)).trans (hrow j z hj)) (fun c hc => by
        obtain ⟨b1, b2⟩ := hf c hc
        have b2 : f c + (ocN l2 c + (if y = c then 1 else 0)) = ocN l c := b2
        refine ⟨?_, by show f c + (if y = c then 1 else 0) + ocN l2 c = ocN l c; omega⟩
        by_cases z : y = c
        · rw [← z, if_pos rfl]
          exact rN_wI_eq (by omega)
        · rw [rN_wI_ne (by omega), if_neg z]
          exact b1) H
      exact ⟨M1, cz, q1, F1.trans q2, fun p hp => (q3 p hp).trans (rN_wI_ne (by omega)), q4, q5⟩
theorem wN_of (h : ¬ wayN P a b s) : inD P a ∧ inD P b ∧ ¬ a = b ∧ inX s 0 5 := by
  unfold wayN at h
  by_cases h1 : inD P a
  · by_cases h2 : inD P b
    · by_cases h3 : a = b
      · exact absurd (Or.inr (Or.inr (Or.inl h3))) h
      · by_cases h4 : inX s 0 5
        · exact ⟨h1, h2, h3, h4⟩
        · exact absurd (Or.inr (Or.inr (Or.inr h4))) h
    · exact absurd (Or.inr (Or.inl h2)) h
  · exact absurd (Or.inl h1) h
/-- the WAYS, one by one -/
theorem rrd_l (hD : okD P) (hK : okK P) (hu : unD P) (n5 : n ≤ 5) : ∀ (r i : Nat) (o3 : Option Value) (M : Mem), i + r = n → RST T P M → TRD (wsW T P o) i M → (∀ q, q < i → goW T P o q) → (∀ j, j < 3 * n → rN M 634 j &&& 255 = o j) → Ev none e 242 38 [some (.ref 633), some (.int (nI n)), some (.int (nI i)), o3, none, none, none] [] M v M' 0 0 → ((¬ ∀ q, q < n → goW T P o q) ∧ v = some (.int (-1)) ∧ FZ rqF rqW noO M M') ∨ ((∀ q, q < n → goW T P o q) ∧ ∃ M1, RST T P M1 ∧ TRD (wsW T P o) n M1 ∧ FZ rqF rqW noO M M1 ∧ Ev none e 242 184 [some (.ref 633), some (.int (nI n)), some (.int 1), some (.int 0), none, none, none] [] M1 v M' 0 0) := by
  have tn : (nI n).toInt = (n : Int) := nI_toInt (by omega)
  intro r
  induction r with
  | zero =>
    intro i o3 M hi hR hT hg ht H
    have ti : (nI i).toInt = (i : Int) := nI_toInt (by omega)
    rcases rrd_38 hR.1 H with ⟨_, H⟩ | ⟨a1, _⟩ | ⟨a1, _⟩
    · exact Or.inr ⟨fun q hq => hg q (by omega), M, hR, fun q hq => hT q (by omega), FZ.refl _, H⟩
    all_goals exact absurd (Int32.le_iff_toInt_le.mpr (by omega)) a1
  | succ r ih =>
    intro i o3 M hi hR hT hg ht H
    have ti : (nI i).toInt = (i : Int) := nI_toInt (by omega)
    have t3 : (3 : Int32).toInt = 3 := rfl
    have t2 : (2 : Int32).toInt = 2 := rfl
    have t0 : (0 : Int32).toInt = 0 := rfl
    have p0 : (3 * nI i).toInt = ((3 * i : Nat) : Int) := by rw [i32_mul (by rw [t3, ti]; omega) (by rw [t3, ti]; omega), t3, ti]; omega
    have p1 : (3 * nI i + 1).toInt = ((3 * i + 1 : Nat) : Int) := by rw [i32_p1 (by omega), p0]; omega
    have p2 : (3 * nI i + 2).toInt = ((3 * i + 2 : Nat) : Int) := by rw [i32_add (by omega) (by omega), p0, t2]; omega
    have e0 : G_142 M (3 * nI i) = o (3 * i) := by unfold G_142; rw [rI_n p0]; exact ht _ (by omega)
    have e1' : G_142 M (3 * nI i + 1) = o (3 * i + 1) := by unfold G_142; rw [rI_n p1]; exact ht _ (by omega)
    have e2' : G_142 M (3 * nI i + 2) = o (3 * i + 2) := by unfold G_142; rw [rI_n p2]; exact ht _ (by omega)
    rcases rrd_38 hR.1 H with ⟨a1, _⟩ | ⟨_, a1, r1, r2⟩ | ⟨_, a1, e1, v1, M1, _, H1, H⟩
    · have := Int32.le_iff_toInt_le.mp a1
      omega
    · rw [e0, e1', e2', g239_ok hR hD] at a1
      rw [r2]
      exact Or.inl ⟨fun q => (q i (by omega)).1 a1, r1, FZ.refl _⟩
    · rw [e0, e1', e2', g239_ok hR hD] at a1
      rw [e0, e1', e2'] at H1
      obtain ⟨ia, ib, hab, ih9⟩ := wN_of a1
      obtain ⟨q1, R1, F1, z60, row⟩ := rwk_ok hR hD hK hu ia ib hab ih9 H1
      have F1' : FZ rqF rqW noO M M1 := F1.more (fun a k q => by unfold rwF at q; unfold rqF; omega) (fun a q => by unfold rwW at q; unfold rqW; omega) (fun _ q => q)
      rcases q1 with ⟨wb, yz, yv, yt⟩ | ⟨wb, yv⟩
      · rw [yv] at H
        rcases rrd_104 R1.1 H with ⟨_, H⟩ | ⟨b1, _⟩
        · have lw := snW_len (T := T) (P := P) (a := o (3 * i)) (b := o (3 * i + 1)) (h := o (3 * i + 2))
          have l200 := snW_200 (T := T) (P := P) (a := o (3 * i)) (b := o (3 * i + 1)) (h := o (3 * i + 2))
          obtain ⟨M2, S2, F2, k2, z2, H⟩ := rz_l (i := i) (by omega) 256 0 M1 rfl R1.1 (fun q hq => absurd hq (Nat.not_lt_zero q)) H
          obtain ⟨M3, cz, S3, F3, k3, z3, H⟩ := rt_l (i := i) (l := wsW T P o i) (w := (wayL T P (o (3 * i)) (o (3 * i + 1)) (o (3 * i + 2))).1) (by omega) (by omega) (fun m y hm => by
            obtain ⟨z, g1, g2, _, g4⟩ := snW_c hD ia ib hm
            exact ⟨by rw [← g2]; exact g1, g4⟩) lw (wsW T P o i) 0 (fun _ => 0) M2 rfl (Nat.zero_le _) S2 ((F2.fi (fun q => q)).symm ▸ z60) (fun j y hj => (F2.rn (by omega)).trans (row j y hj)) (fun c hc => ⟨z2 c hc, Nat.zero_add _⟩) H
          have F23 : FZ rqF rqW noO M1 M3 := (F2.trans F3).more (fun _ _ q => q.elim) (fun a q => Or.inr (Or.inr q)) (fun _ q => q)
          have FF := F1'.trans F23
          have R3 := R1.rq S3 F23
          have u := ih (i + 1) _ M3 (by omega) R3 (fun q hq c hc => by
            by_cases z : q = i
            · rw [z]
              exact z3 c hc
            · rw [k3 _ (by omega), k2 _ (by omega), F1.rn (by unfold rwW; omega)]
              exact hT q (by omega) c hc) (fun q hq => by
            by_cases z : q = i
            · rw [z]
              exact ⟨a1, wb⟩
            · exact hg q (by omega)) (fun j hj => by
            rw [FF.rn (by unfold rqW; omega)]
            exact ht j hj) H
          rcases u with ⟨u1, u2, u3⟩ | ⟨u1, N, u2, u3, u4, u5⟩
          · exact Or.inl ⟨u1, u2, FF.trans u3⟩
          · exact Or.inr ⟨u1, N, u2, u3, FF.trans u4, u5⟩
        · have lw := snW_len (T := T) (P := P) (a := o (3 * i)) (b := o (3 * i + 1)) (h := o (3 * i + 2))
          exact absurd (Int32.le_iff_toInt_le.mpr (by omega)) b1
      · rw [yv] at H
        rcases rrd_104 R1.1 H with ⟨b1, _⟩ | ⟨_, r1, r2⟩
        · exact absurd b1 (by decide)
        · rw [r2]
          refine Or.inl ⟨fun q => ?_, r1, F1'⟩
          have := (q i (by omega)).2
          rw [wb] at this
          cases this
/-- ten to the n -/
theorem rp_l (n5 : n ≤ 5) (hS : SQ M) : ∀ (r k : Nat) (az : Int32), k + r = n → az.toInt = ((10 ^ k : Nat) : Int) → Ev none e 242 184 [some (.ref 633), some (.int (nI n)), some (.int az), some (.int (nI k)), none, none, none] [] M v M' 0 0 → ∃ az : Int32, az.toInt = ((10 ^ n : Nat) : Int) ∧ Ev none e 242 205 [some (.ref 633), some (.int (nI n)), some (.int az), some (.int 0), some (.int 0), none, none] [] M v M' 0 0 := by
  have tn : (nI n).toInt = (n : Int) := nI_toInt (by omega)
  intro r
  induction r with
  | zero =>
    intro k az hk ha H
    have tk : (nI k).toInt = (k : Int) := nI_toInt (by omega)
    rcases rrd_184 hS H with ⟨_, H⟩ | ⟨a1, _⟩
    · exact ⟨az, by rw [ha, show k = n by omega], H⟩
    · exact absurd (Int32.le_iff_toInt_le.mpr (by omega)) a1
  | succ r ih =>
    intro k az hk ha H
    have tk : (nI k).toInt = (k : Int) := nI_toInt (by omega)
    rcases rrd_184 hS H with ⟨a1, _⟩ | ⟨_, H⟩
    · have := Int32.le_iff_toInt_le.mp a1
      omega
    · rw [nI_p1 (by omega)] at H
      have t10 : (10 : Int32).toInt = 10 := rfl
      have hp : 10 ^ k ≤ 10 ^ 5 := Nat.pow_le_pow_right (by decide) (by omega)
      have h5 : (10 : Nat) ^ 5 = 100000 := rfl
      rw [h5] at hp
      have e2 : (az * 10).toInt = ((10 ^ (k + 1) : Nat) : Int) := by
        rw [Nat.pow_succ]
        generalize 10 ^ k = N at ha hp ⊢
        rw [i32_mul (by rw [ha, t10]; omega) (by rw [ha, t10]; omega), ha, t10]
        omega
      exact ih (k + 1) _ (by omega) e2 H
/-- the digits of x -/
theorem rdg_l (n5 : n ≤ 5) (hx : x < 100000) : ∀ (r j : Nat) (lz : Int32) (M : Mem), j + r = n → SQ M → lz.toInt = (shX x j : Int) → (∀ q, q < j → rN M 662 q = nI (dgX x q)) → Ev none e 242 218 [some (.ref 633), some (.int (nI n)), some (.int az), some (.int mz), some (.int xz), some (.int lz), some (.int (nI j))] [] M v M' 0 0 → ∃ (lz : Int32) (M1 : Mem), SQ M1 ∧ FZ noF (fun a => a = 662) noO M M1 ∧ (∀ q, q < n → rN M1 662 q = nI (dgX x q)) ∧ ∃ e1 v1 M2, e = e1 + 1 ∧ Ev none e1 243 0 [some (.ref 633), some (.int (nI n)), none, none, none] [] M1 v1 M2 0 0 ∧ Ev none e 242 254 [some (.ref 633), some (.int (nI n)), some (.int az), some (.int mz), some (.int xz), some (.int lz), some (.int (nI n))] (v1.toList ++ []) M2 v M' 0 0 := by
  have tn : (nI n).toInt = (n : Int) := nI_toInt (by omega)
  have shl : ∀ j, shX x j ≤ x := fun j => by
    induction j with
    | zero => exact Nat.le_refl _
    | succ j ih =>
      show shX x j / 10 ≤ x
      omega
  intro r
  induction r with
  | zero =>
    intro j lz M hj hS hl hd H
    have ej : j = n := by omega
    subst ej
    rcases rrd_218 hS H with ⟨_, H⟩ | ⟨a1, _⟩
    · exact ⟨lz, M, hS, FZ.refl _, hd, H⟩
    · exact absurd (Int32.le_iff_toInt_le.mpr (Int.le_refl _)) a1
  | succ r ih =>
    intro j lz M hj hS hl hd H
    have tj : (nI j).toInt = (j : Int) := nI_toInt (by omega)
    rcases rrd_218 hS H with ⟨a1, _⟩ | ⟨_, _, H⟩
    · have := Int32.le_iff_toInt_le.mp a1
      omega
    · have hsl := shl j
      have t10 : (10 : Int32).toInt = 10 := rfl
      have d1 : (lz / 10).toInt = ((shX x j / 10 : Nat) : Int) := by
        rw [i32_div (by decide), hl, t10]
        exact (Int.ofNat_tdiv (shX x j) 10).symm
      have d2 : (lz / 10 * 10).toInt = ((shX x j / 10 * 10 : Nat) : Int) := by
        rw [i32_mul (by rw [d1, t10]; omega) (by rw [d1, t10]; omega), d1, t10]
        omega
      have d3 : lz - lz / 10 * 10 = nI (dgX x j) := by
        refine nI_iq ?_ (by have := dgX_9 (x := x) (j := j); omega)
        rw [i32_sub (by omega) (by omega), hl, d2]
        unfold dgX
        omega
      rw [cl_n tj, d3, nI_p1 (by omega)] at H
      have F1 : FZ noF (fun a => a = 662) noO M (wI M 662 j (nI (dgX x j))) := FZ.wI rfl
      have len : (zrw M 662).length = 5 := (hS.1.row qa_662 qw_90).2
      obtain ⟨lz2, M1, q1, q2, q3, q4⟩ := ih (j + 1) _ _ (by omega) hS.ki d1 (fun q hq => by
        by_cases z : q = j
        · rw [z]
          exact rN_wI_eq (by omega)
        · rw [rN_wI_ne (by omega)]
          exact hd q (by omega)) H
      exact ⟨lz2, M1, q1, F1.trans q2, q3, q4⟩
/-- one CELL: what the digits leave of it -/
theorem isc_l (n5 : n ≤ 5) (hS : SQ M) (hT : TRD W n M) (hd : ∀ q, q < n → rN M 662 q = nI (dgX x q)) (hW : ∀ q, q < n → (W q).length ≤ 200) (c256 : c < 256) (hL : 0 ≤ L c ∧ L c ≤ 4000000) : ∀ (r j : Nat) (wz : Int32), j + r = n → wz.toInt = L c - (suN (fun q => dgX x q * ocN (W (0 + q)) c) j : Int) → Ev none e 243 21 [some (.ref 633), some (.int (nI n)), some (.int (nI c)), some (.int wz), some (.int (nI j))] [] M v M' 0 0 → (lvX W n 0 L x c = 0 ∧ ∃ o3 o4, Ev none e 243 2 [some (.ref 633), some (.int (nI n)), some (.int (nI (c + 1))), o3, o4] [] M v M' 0 0) ∨ (¬ lvX W n 0 L x c = 0 ∧ v = some (.int 0) ∧ M' = M) := by
  have tn : (nI n).toInt = (n : Int) := nI_toInt (by omega)
  have sb : ∀ j, j ≤ n → suN (fun q => dgX x q * ocN (W (0 + q)) c) j ≤ j * 1800 := fun j hj => suN_le j 1800 (fun q hq => by
    have h1 := dgX_9 (x := x) (j := q)
    have h2 : ocN (W (0 + q)) c ≤ 200 := Nat.le_trans cn_le (by rw [Nat.zero_add]; exact hW q (by omega))
    exact Nat.le_trans (Nat.mul_le_mul h1 h2) (by decide))
  intro r
  induction r with
  | zero =>
    intro j wz hj hw H
    have tj : (nI j).toInt = (j : Int) := nI_toInt (by omega)
    have el : wz.toInt = lvX W n 0 L x c := by rw [hw, lvX_eq, show j = n by omega]
    have t0 : (0 : Int32).toInt = 0 := rfl
    rcases isn_21 hS H with ⟨_, a2, H⟩ | ⟨_, a2, r1, r2⟩ | ⟨a1, _⟩
    · rw [nI_p1 (by omega)] at H
      rw [a2] at el
      exact Or.inl ⟨by rw [← el]; rfl, _, _, H⟩
    · exact Or.inr ⟨fun q => a2 (Int32.toInt_inj.mp (by rw [el, q]; rfl)), r1, r2⟩
    · exact absurd (Int32.le_iff_toInt_le.mpr (by omega)) a1
  | succ r ih =>
    intro j wz hj hw H
    have tj : (nI j).toInt = (j : Int) := nI_toInt (by omega)
    rcases isn_21 hS H with ⟨a1, _⟩ | ⟨a1, _⟩ | ⟨_, _, _, H⟩
    · have := Int32.le_iff_toInt_le.mp a1
      omega
    · have := Int32.le_iff_toInt_le.mp a1
      omega
    · have ix := ix659 (i := j) (c := c) (by omega) c256
      rw [rI_n tj, rI_n ix, hd j (by omega), hT j (by omega) c c256, nI_p1 (by omega)] at H
      have h1 := dgX_9 (x := x) (j := j)
      have h2 : ocN (W j) c ≤ 200 := Nat.le_trans cn_le (hW j (by omega))
      have t1 : (nI (dgX x j)).toInt = (dgX x j : Int) := nI_toInt (by omega)
      have t2 : (nI (ocN (W j) c)).toInt = (ocN (W j) c : Int) := nI_toInt (by omega)
      have hm : dgX x j * ocN (W j) c ≤ 1800 := Nat.le_trans (Nat.mul_le_mul h1 h2) (by decide)
      have ec : (dgX x j : Int) * (ocN (W j) c : Int) = ((dgX x j * ocN (W j) c : Nat) : Int) := (Int.natCast_mul _ _).symm
      have pm : (nI (dgX x j) * nI (ocN (W j) c)).toInt = ((dgX x j * ocN (W j) c : Nat) : Int) := by
        rw [i32_mul (by rw [t1, t2, ec]; omega) (by rw [t1, t2, ec]; omega), t1, t2, ec]
      have hs := sb j (by omega)
      have ej : suN (fun q => dgX x q * ocN (W (0 + q)) c) (j + 1) = suN (fun q => dgX x q * ocN (W (0 + q)) c) j + dgX x j * ocN (W j) c := by
        show _ + dgX x j * ocN (W (0 + j)) c = _
        rw [Nat.zero_add]
      refine ih (j + 1) _ (by omega) ?_ H
      rw [i32_sub (by omega) (by omega), hw, pm, ej]
      omega
/-- whether the digits of x are a telling -/
theorem isn_l (hR : RST T P M) (hP : okA P) (n5 : n ≤ 5) (hT : TRD W n M) (hd : ∀ q, q < n → rN M 662 q = nI (dgX x q)) (hW : ∀ q, q < n → (W q).length ≤ 200 ∧ ∀ y, y ∈ W q → y < clsP P) : ∀ (r c : Nat) (o3 o4 : Option Value), c + r = clsP P → (∀ d, d < c → lvX W n 0 (snL P) x d = 0) → Ev none e 243 2 [some (.ref 633), some (.int (nI n)), some (.int (nI c)), o3, o4] [] M v M' 0 0 → v = some (.int (bI (goX W n 0 (snL P) x))) ∧ M' = M := by
  have hw := hP.1.1
  obtain ⟨_, c256, _⟩ := cls_int hw
  have g4 : (G_144 M).toInt = (clsP P : Int) := g144_ok hR hw
  intro r
  induction r with
  | zero =>
    intro c o3 o4 hc hz H
    have tc : (nI c).toInt = (c : Int) := nI_toInt (by omega)
    rcases isn_2 hR.1 H with ⟨_, r1, r2⟩ | ⟨a1, _⟩
    · have : goX W n 0 (snL P) x = true := (zroB_iff 256).mpr (fun d hd2 => by
        by_cases q : d < c
        · exact hz d q
        · rw [lvX_eq, suN_0 n (fun j hj => by rw [Nat.zero_add, cn_not (fun q2 => by have := (hW j hj).2 d q2; omega), Nat.mul_zero])]
          unfold snL
          rw [if_neg (by omega)]
          rfl)
      rw [this]
      exact ⟨r1, r2⟩
    · exact absurd (Int32.le_iff_toInt_le.mpr (by omega)) a1
  | succ r ih =>
    intro c o3 o4 hc hz H
    have tc : (nI c).toInt = (c : Int) := nI_toInt (by omega)
    rcases isn_2 hR.1 H with ⟨a1, _⟩ | ⟨_, H⟩
    · have := Int32.le_iff_toInt_le.mp a1
      omega
    · obtain ⟨h1, h2⟩ := inC.nat hw (k := c) (by omega)
      have eg : G_146 M (nI c) 6 = P (522 + 7 * c + 6) := by
        rw [r_cell hR hw h1 (fn := 6) rfl (by decide)]
        unfold cE cX
        rw [h2]
      have sL : snL P c = (P (522 + 7 * c + 6)).toInt := by unfold snL; rw [if_pos (by omega)]
      rw [eg] at H
      rcases isc_l n5 hR.1 hT hd (fun q hq => (hW q hq).1) (by omega) (snL_rng hP c) n 0 _ (by omega) (by show _ = snL P c - ((0 : Nat) : Int); rw [sL]; omega) H with ⟨q1, o3', o4', H⟩ | ⟨q1, r1, r2⟩
      · exact ih (c + 1) o3' o4' (by omega) (fun d hd2 => by
          by_cases z : d = c
          · rw [z]
            exact q1
          · exact hz d (by omega)) H
      · have : goX W n 0 (snL P) x = false := by
          cases q : goX W n 0 (snL P) x with
          | false => rfl
          | true => exact absurd ((zroB_iff 256).mp q c (by omega)) q1
        rw [this]
        exact ⟨r1, r2⟩
/-- a telling found: the least and the greatest -/
theorem rmx_l (n5 : n ≤ 5) (mb : Bool) (hm : mz = 0 ↔ mb = true) : ∀ (r j : Nat) (M : Mem), j + r = n → SQ M → FZ noF (fun a => a = 660 ∨ a = 661) noO M0 M → (∀ q, q < j → rN M 660 q = (if mb = true then rN M0 662 q else if rN M0 660 q ≤ rN M0 662 q then rN M0 660 q else rN M0 662 q) ∧ rN M 661 q = (if mb = true then rN M0 662 q else if rN M0 662 q ≤ rN M0 661 q then rN M0 661 q else rN M0 662 q)) → (∀ q, j ≤ q → rN M 660 q = rN M0 660 q ∧ rN M 661 q = rN M0 661 q) → Ev none e 242 272 [some (.ref 633), some (.int (nI n)), some (.int az), some (.int mz), some (.int xz), some (.int lz), some (.int (nI j))] [] M v M' 0 0 → ∃ M1, SQ M1 ∧ FZ noF (fun a => a = 660 ∨ a = 661) noO M0 M1 ∧ (∀ q, q < n → rN M1 660 q = (if mb = true then rN M0 662 q else if rN M0 660 q ≤ rN M0 662 q then rN M0 660 q else rN M0 662 q) ∧ rN M1 661 q = (if mb = true then rN M0 662 q else if rN M0 662 q ≤ rN M0 661 q then rN M0 661 q else rN M0 662 q)) ∧ Ev none e 242 205 [some (.ref 633), some (.int (nI n)), some (.int az), some (.int (mz + 1)), some (.int (xz + 1)), some (.int lz), some (.int (nI n))] [] M1 v M' 0 0 := by
  have tn : (nI n).toInt = (n : Int) := nI_toInt (by omega)
  intro r
  induction r with
  | zero =>
    intro j M hj hS hF hq1 hq2 H
    have ej : j = n := by omega
    subst ej
    rcases rrd_272 hS H with ⟨_, H⟩ | ⟨a1, _⟩ | ⟨a1, _⟩ | ⟨a1, _⟩ | ⟨a1, _⟩ | ⟨a1, _⟩
    · exact ⟨M, hS, hF, hq1, H⟩
    all_goals exact absurd (Int32.le_iff_toInt_le.mpr (Int.le_refl _)) a1
  | succ r ih =>
    intro j M hj hS hF hq1 hq2 H
    have tj : (nI j).toInt = (j : Int) := nI_toInt (by omega)
    obtain ⟨g0, g1⟩ := hq2 j (Nat.le_refl _)
    have g2 : rN M 662 j = rN M0 662 j := hF.rn (by omega)
    have nx : ∀ A B : Int32, A = (if mb = true then rN M0 662 j else if rN M0 660 j ≤ rN M0 662 j then rN M0 660 j else rN M0 662 j) → B = (if mb = true then rN M0 662 j else if rN M0 662 j ≤ rN M0 661 j then rN M0 661 j else rN M0 662 j) → Ev none e 242 272 [some (.ref 633), some (.int (nI n)), some (.int az), some (.int mz), some (.int xz), some (.int lz), some (.int (nI j + 1))] [] (wI (wI M 660 (nI j).toNatClampNeg A) 661 (nI j).toNatClampNeg B) v M' 0 0 → ∃ M1, SQ M1 ∧ FZ noF (fun a => a = 660 ∨ a = 661) noO M0 M1 ∧ (∀ q, q < n → rN M1 660 q = (if mb = true then rN M0 662 q else if rN M0 660 q ≤ rN M0 662 q then rN M0 660 q else rN M0 662 q) ∧ rN M1 661 q = (if mb = true then rN M0 662 q else if rN M0 662 q ≤ rN M0 661 q then rN M0 661 q else rN M0 662 q)) ∧ Ev none e 242 205 [some (.ref 633), some (.int (nI n)), some (.int az), some (.int (mz + 1)), some (.int (xz + 1)), some (.int lz), some (.int (nI n))] [] M1 v M' 0 0 := fun A B hA hB H => by
      rw [cl_n tj, nI_p1 (by omega)] at H
      have S1 : SQ (wI M 660 j A) := hS.ki
      have l0 : (zrw M 660).length = 5 := (hS.1.row qa_660 qw_88).2
      have l1 : (zrw (wI M 660 j A) 661).length = 5 := (S1.1.row qa_661 qw_89).2
      have F2 : FZ noF (fun a => a = 660 ∨ a = 661) noO M (wI (wI M 660 j A) 661 j B) := (FZ.wI (Or.inl rfl)).trans (FZ.wI (Or.inr rfl))
      refine ih (j + 1) _ (by omega) S1.ki (hF.trans F2) (fun q hq => ?_) (fun q hq => ?_) H
      · by_cases z : q = j
        · rw [z, rN_wI_ne (by omega), rN_wI_eq (by omega), rN_wI_eq (by omega)]
          exact ⟨hA, hB⟩
        · rw [rN_wI_ne (by omega), rN_wI_ne (by omega), rN_wI_ne (by omega), rN_wI_ne (by omega)]
          exact hq1 q (by omega)
      · rw [rN_wI_ne (by omega), rN_wI_ne (by omega), rN_wI_ne (by omega), rN_wI_ne (by omega)]
        exact hq2 q (by omega)
    rcases rrd_272 hS H with ⟨a1, _⟩ | ⟨_, a2, _, _, _, _, H⟩ | ⟨_, a2, c1, c2, _, _, _, _, _, _, _, _, H⟩ | ⟨_, a2, c1, c2, _, _, _, _, _, _, _, _, H⟩ | ⟨_, a2, c1, c2, _, _, _, _, _, _, _, _, H⟩ | ⟨_, a2, c1, c2, _, _, _, _, _, _, _, _, H⟩
    · have := Int32.le_iff_toInt_le.mp a1
      omega
    · rw [rI_n tj, g2] at H
      exact nx _ _ (by rw [if_pos (hm.mp a2)]) (by rw [if_pos (hm.mp a2)]) H
    · rw [rI_n tj, rI_n tj, g0, g2] at c1
      rw [rI_n tj, rI_n tj, g1, g2] at c2
      rw [rI_n tj, rI_n tj, g0, g1] at H
      exact nx _ _ (by rw [if_neg (fun q => a2 (hm.mpr q)), if_pos c1]) (by rw [if_neg (fun q => a2 (hm.mpr q)), if_pos c2]) H
    · rw [rI_n tj, rI_n tj, g0, g2] at c1
      rw [rI_n tj, rI_n tj, g1, g2] at c2
      rw [rI_n tj, rI_n tj, g0, g2] at H
      exact nx _ _ (by rw [if_neg (fun q => a2 (hm.mpr q)), if_pos c1]) (by rw [if_neg (fun q => a2 (hm.mpr q)), if_neg c2]) H
    · rw [rI_n tj, rI_n tj, g0, g2] at c1
      rw [rI_n tj, rI_n tj, g1, g2] at c2
      rw [rI_n tj, rI_n tj, g1, g2] at H
      exact nx _ _ (by rw [if_neg (fun q => a2 (hm.mpr q)), if_neg c1]) (by rw [if_neg (fun q => a2 (hm.mpr q)), if_pos c2]) H
    · rw [rI_n tj, rI_n tj, g0, g2] at c1
      rw [rI_n tj, rI_n tj, g1, g2] at c2
      rw [rI_n tj, g2] at H
      exact nx _ _ (by rw [if_neg (fun q => a2 (hm.mpr q)), if_neg c1]) (by rw [if_neg (fun q => a2 (hm.mpr q)), if_neg c2]) H
end RREA
