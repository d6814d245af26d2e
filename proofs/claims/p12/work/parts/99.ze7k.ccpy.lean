/-! THE CLASS'S copy -/
def LAN (L : Nat) (P : PK) (M : Mem) : Prop := PKs L P M ∧ PKt L P M ∧ LCel L P M ∧ LST L P M ∧ ∀ c, inC P c → rI M (L + 8) c = crdP P c (P 157).toInt.toNat
def cpF (L a _k : Nat) : Prop := L ≤ a ∧ a < L + 96
def cpW (L a : Nat) : Prop := L + 1 ≤ a ∧ a ≤ L + 9
section CPY
variable {e L Ot : Nat} {T : TS} {P : PK} {M M1 M' N : Mem} {v : Option Value} {n i k b B : Nat}
theorem STA.lan (h : STA L T P M) (hl : LST L P M) : LAN L P M := ⟨h.2.2.1, h.2.2.2.1, h.cel, hl, h.crd⟩
theorem ld_rowB (hL : gNth sT L = some 8) : ∀ f, 1 ≤ f → f ≤ 9 → ∃ g m, gNth sT (L + f) = some g ∧ wB g 1 m = true := by
  intro f h1 h9
  match f, h1, h9 with
  | 1, _, _ => exact ⟨_, _, fx_h2 hL, qw_9⟩
  | 2, _, _ => exact ⟨_, _, fx_h3 hL, qw_10⟩
  | 3, _, _ => exact ⟨_, _, fx_h4 hL, qw_11⟩
  | 4, _, _ => exact ⟨_, _, fx_h5 hL, qw_12⟩
  | 5, _, _ => exact ⟨_, _, fx_h6 hL, qw_13⟩
  | 6, _, _ => exact ⟨_, _, fx_h7 hL, qw_14⟩
  | 7, _, _ => exact ⟨_, _, fx_h8 hL, qw_15⟩
  | 8, _, _ => exact ⟨_, _, fx_h9 hL, qw_16⟩
  | 9, _, _ => exact ⟨_, _, fx_h10 hL, qw_17⟩
/-- the rows up to the s-th are copied -/
def CPs (L Ot : Nat) (M : Mem) (s : Nat) (N : Mem) : Prop := (∀ f, 1 ≤ f → f ≤ s → ∀ j, rN N (L + f) j = rN M (Ot + f) j) ∧ FZ (cpF L) (cpW L) noO M N
theorem CPs.next {s : Nat} (h : CPs L Ot M s N) (hS : SQ N) (hL : gNth sT L = some 8) (hO : gNth sT Ot = some 8) (hne : L ≠ Ot) (hs : s < 9) : CPs L Ot M (s + 1) (wC N (Ot + (s + 1)) (L + (s + 1))) := by
  have h1 := ld_cases hL
  have h2 := ld_cases hO
  refine ⟨fun f f1 f2 j => ?_, h.2.trans (FZ.wC ⟨by omega, by omega⟩)⟩
  by_cases hf : f = s + 1
  · subst hf
    obtain ⟨g, m, q1, q2⟩ := ld_rowB hL (s + 1) (by omega) (by omega)
    rw [rN_wC_eq hS.1 q1 q2]
    exact h.2.rn (by unfold cpW; omega)
  · rw [rN_wC_ne (by omega)]
    exact h.1 f f1 (by omega) j
theorem CPs.fld {s : Nat} (h : CPs L Ot M s N) (k : Nat) (x : Int32) : CPs L Ot M s (wF N L k x) := ⟨fun f f1 f2 j => by rw [rN_wF]; exact h.1 f f1 f2 j, h.2.trans (FZ.wF ⟨by omega, by omega⟩)⟩
theorem cpy_1 (hS : SQ M) (hL : gNth sT L = some 8) (hO : gNth sT Ot = some 8) (hne : L ≠ Ot) (H : Ev none e 13 0 [some (.ref L), some (.ref Ot), none] [] M v M' 0 0) : ∃ M1, SQ M1 ∧ CPs L Ot M 9 M1 ∧ (zI M1 L 0 = zI M Ot 0 ∧ zI M1 L 1 = zI M Ot 1 ∧ zI M1 L 11 = zI M Ot 11 ∧ zI M1 L 13 = zI M Ot 13) ∧ Ev none e 13 177 [some (.ref L), some (.ref Ot), some (.int 0)] [] M1 v M' 0 0 := by
  have h1 := ld_cases hL
  have h2 := ld_cases hO
  have h0 : CPs L Ot M 0 M := ⟨fun f f1 f2 => by omega, FZ.refl _⟩
  have H := cpy_0 hS hL hO H
  have a1 := h0.fld 0 (zI M Ot 0)
  have s1 := hS.kf (a := L) (k := 0) (x := zI M Ot 0)
  have H := cpy_8 s1 hL hO H
  have e1 : zI (wF M L 0 (zI M Ot 0)) Ot 1 = zI M Ot 1 := fI_wF_ne (by omega)
  rw [e1] at H
  have a2 := a1.fld 1 (zI M Ot 1)
  have s2 := s1.kf (a := L) (k := 1) (x := zI M Ot 1)
  obtain ⟨N2, eN2⟩ : ∃ N2, N2 = wF (wF M L 0 (zI M Ot 0)) L 1 (zI M Ot 1) := ⟨_, rfl⟩
  rw [← eN2] at a2 s2 H
  have z0 : zI N2 L 0 = zI M Ot 0 := by rw [eN2, fI_wF_ne (by omega)]; exact fI_wF_eq hS.1 hL qi_8_0
  have z1 : zI N2 L 1 = zI M Ot 1 := by rw [eN2]; exact fI_wF_eq s1.1 hL qi_8_1
  have st : ∀ (s : Nat) (N : Mem), CPs L Ot M s N → SQ N → (∀ k, zI N L k = zI N2 L k) → s < 9 → CPs L Ot M (s + 1) (wC N (Ot + (s + 1)) (L + (s + 1))) ∧ SQ (wC N (Ot + (s + 1)) (L + (s + 1))) ∧ ∀ k, zI (wC N (Ot + (s + 1)) (L + (s + 1))) L k = zI N2 L k := fun s N c q z hs => by
    obtain ⟨g, m, q1, q2⟩ := ld_rowB hL (s + 1) (by omega) (by omega)
    obtain ⟨g', m', q3, q4⟩ := ld_rowB hO (s + 1) (by omega) (by omega)
    have hm : m' = m := by
      have e : ∀ f, 1 ≤ f → f ≤ 9 → ∀ {A B : Nat}, gNth sT A = some 8 → gNth sT B = some 8 → (zrw N (A + f)).length = (zrw N (B + f)).length := fun f f1 f9 A B hA hB => by
        match f, f1, f9 with
        | 1, _, _ => exact (q.1.row (fx_h2 hA) qw_9).2.trans (q.1.row (fx_h2 hB) qw_9).2.symm
        | 2, _, _ => exact (q.1.row (fx_h3 hA) qw_10).2.trans (q.1.row (fx_h3 hB) qw_10).2.symm
        | 3, _, _ => exact (q.1.row (fx_h4 hA) qw_11).2.trans (q.1.row (fx_h4 hB) qw_11).2.symm
        | 4, _, _ => exact (q.1.row (fx_h5 hA) qw_12).2.trans (q.1.row (fx_h5 hB) qw_12).2.symm
        | 5, _, _ => exact (q.1.row (fx_h6 hA) qw_13).2.trans (q.1.row (fx_h6 hB) qw_13).2.symm
        | 6, _, _ => exact (q.1.row (fx_h7 hA) qw_14).2.trans (q.1.row (fx_h7 hB) qw_14).2.symm
        | 7, _, _ => exact (q.1.row (fx_h8 hA) qw_15).2.trans (q.1.row (fx_h8 hB) qw_15).2.symm
        | 8, _, _ => exact (q.1.row (fx_h9 hA) qw_16).2.trans (q.1.row (fx_h9 hB) qw_16).2.symm
        | 9, _, _ => exact (q.1.row (fx_h10 hA) qw_17).2.trans (q.1.row (fx_h10 hB) qw_17).2.symm
      have := e (s + 1) (by omega) (by omega) hO hL
      rw [(q.1.row q3 q4).2, (q.1.row q1 q2).2] at this
      exact this
    exact ⟨c.next q hL hO hne hs, q.kc q3 (hm ▸ q4) q1 q2, fun k => by rw [fI_wC]; exact z k⟩
  obtain ⟨c1, u1, y1⟩ := st 0 N2 ⟨fun f f1 f2 => by omega, a2.2⟩ s2 (fun _ => rfl) (by decide)
  have H := cpy_16 s2 hL hO H
  obtain ⟨c2, u2, y2⟩ := st 1 _ c1 u1 y1 (by decide)
  have H := cpy_32 u1 hL hO H
  obtain ⟨c3, u3, y3⟩ := st 2 _ c2 u2 y2 (by decide)
  have H := cpy_48 u2 hL hO H
  obtain ⟨c4, u4, y4⟩ := st 3 _ c3 u3 y3 (by decide)
  have H := cpy_64 u3 hL hO H
  obtain ⟨c5, u5, y5⟩ := st 4 _ c4 u4 y4 (by decide)
  have H := cpy_80 u4 hL hO H
  obtain ⟨c6, u6, y6⟩ := st 5 _ c5 u5 y5 (by decide)
  have H := cpy_96 u5 hL hO H
  obtain ⟨c7, u7, y7⟩ := st 6 _ c6 u6 y6 (by decide)
  have H := cpy_112 u6 hL hO H
  obtain ⟨c8, u8, y8⟩ := st 7 _ c7 u7 y7 (by decide)
  have H := cpy_128 u7 hL hO H
  obtain ⟨c9, u9, y9⟩ := st 8 _ c8 u8 y8 (by decide)
  have H := cpy_144 u8 hL hO H
  obtain ⟨N9, eN9⟩ : ∃ N9, N9 = wC (wC (wC (wC (wC (wC (wC (wC (wC N2 (Ot + (0 + 1)) (L + (0 + 1))) (Ot + (1 + 1)) (L + (1 + 1))) (Ot + (2 + 1)) (L + (2 + 1))) (Ot + (3 + 1)) (L + (3 + 1))) (Ot + (4 + 1)) (L + (4 + 1))) (Ot + (5 + 1)) (L + (5 + 1))) (Ot + (6 + 1)) (L + (6 + 1))) (Ot + (7 + 1)) (L + (7 + 1))) (Ot + (8 + 1)) (L + (8 + 1)) := ⟨_, rfl⟩
  rw [← eN9] at c9 u9 y9
  have H : Ev none e 13 159 [some (.ref L), some (.ref Ot), none] [] N9 v M' 0 0 := by rw [eN9]; exact H
  have fo : ∀ k, zI N9 Ot k = zI M Ot k := fun k => c9.2.fi (by unfold cpF; omega)
  have H := cpy_159 u9 hL hO H
  rw [fo] at H
  have H := cpy_167 u9.kf hL hO H
  have e13 : zI (wF N9 L 11 (zI M Ot 11)) Ot 13 = zI M Ot 13 := (fI_wF_ne (by omega)).trans (fo 13)
  rw [e13] at H
  refine ⟨_, u9.kf.kf, (c9.fld 11 _).fld 13 _, ⟨?_, ?_, ?_, ?_⟩, H⟩
  · rw [fI_wF_ne (by omega), fI_wF_ne (by omega), y9]; exact z0
  · rw [fI_wF_ne (by omega), fI_wF_ne (by omega), y9]; exact z1
  · rw [fI_wF_ne (by omega)]; exact fI_wF_eq u9.1 hL qi_8_11
  · exact fI_wF_eq u9.kf.1 hL qi_8_13
def wiF (L a _k : Nat) : Prop := L + 12 ≤ a ∧ a < L + 36
theorem cpy_2 (hL : gNth sT L = some 8) (hO : gNth sT Ot = some 8) (hne : L ≠ Ot) (hn : n ≤ 24) : ∀ (r k : Nat) (kz : Int32) (N : Mem), SQ N → WXr L N → WXr Ot N → (zI N L 13).toInt = (n : Int) → kz.toInt = (k : Int) → k + r = n → Ev none e 13 177 [some (.ref L), some (.ref Ot), some (.int kz)] [] N v M' 0 0 → ∃ N1 jz, SQ N1 ∧ FZ (wiF L) noO noO N N1 ∧ (∀ i f, k ≤ i → i < n → f < 6 → zI N1 (L + 12 + i) f = zI N (Ot + 12 + i) f) ∧ (∀ i f, i < k → zI N1 (L + 12 + i) f = zI N (L + 12 + i) f) ∧ Ev none e 13 206 [some (.ref L), some (.ref Ot), some (.int jz)] [] N1 v M' 0 0 := by
  have h1 := ld_cases hL
  have h2 := ld_cases hO
  intro r
  induction r with
  | zero =>
    intro k kz N hS hx hxO h13 hk hkr H
    rcases cpy_177 hS hL hO H with ⟨_, H⟩ | ⟨a1, _⟩
    · exact ⟨N, _, hS, FZ.refl _, fun i f h3 h4 => by omega, fun _ _ _ => rfl, H⟩
    · exact absurd (Int32.le_iff_toInt_le.mpr (by omega)) a1
  | succ r ih =>
    intro k kz N hS hx hxO h13 hk hkr H
    rcases cpy_177 hS hL hO H with ⟨a1, _⟩ | ⟨_, _, _, e1, v1, N1, rfl, H1, H⟩
    · have := Int32.le_iff_toInt_le.mp a1
      omega
    · have o1 : oI N (L + 10) kz = L + 12 + k := by unfold oI; rw [cl_n hk]; exact hx k (by omega)
      have o2 : oI N (Ot + 10) kz = Ot + 12 + k := by unfold oI; rw [cl_n hk]; exact hxO k (by omega)
      have t1 := wi_t hS.1 hL hx (k := k) (by omega)
      have t2 := wi_t hS.1 hO hxO (k := k) (by omega)
      rw [o1, o2] at H1
      obtain ⟨rfl, q2⟩ := cpx_0 hS t1 t2 H1
      have hF : FZ (fun a _ => a = L + 12 + k) noO noO N N1 := by
        rw [q2]
        exact (((((FZ.wF (F := fun a _ => a = L + 12 + k) rfl).trans (FZ.wF rfl)).trans (FZ.wF rfl)).trans (FZ.wF rfl)).trans (FZ.wF rfl)).trans (FZ.wF rfl)
      have hS1 : SQ N1 := by rw [q2]; exact hS.kf.kf.kf.kf.kf.kf
      have hz : ∀ f, f < 6 → zI N1 (L + 12 + k) f = zI N (Ot + 12 + k) f := fun f hf => by
        rw [q2]
        match f, hf with
        | 0, _ => rw [fI_wF_ne (by omega), fI_wF_ne (by omega), fI_wF_ne (by omega), fI_wF_ne (by omega), fI_wF_ne (by omega)]; exact fI_wF_eq hS.1 t1 qi_20_0
        | 1, _ => rw [fI_wF_ne (by omega), fI_wF_ne (by omega), fI_wF_ne (by omega), fI_wF_ne (by omega)]; exact fI_wF_eq hS.kf.1 t1 qi_20_1
        | 2, _ => rw [fI_wF_ne (by omega), fI_wF_ne (by omega), fI_wF_ne (by omega)]; exact fI_wF_eq hS.kf.kf.1 t1 qi_20_2
        | 3, _ => rw [fI_wF_ne (by omega), fI_wF_ne (by omega)]; exact fI_wF_eq hS.kf.kf.kf.1 t1 qi_20_3
        | 4, _ => rw [fI_wF_ne (by omega)]; exact fI_wF_eq hS.kf.kf.kf.kf.1 t1 qi_20_4
        | 5, _ => exact fI_wF_eq hS.kf.kf.kf.kf.kf.1 t1 qi_20_5
      have H := cpy_200 hS1 hL hO H
      obtain ⟨N2, jz, r1, r2, r3, r4, r5⟩ := ih (k + 1) (kz + 1) N1 hS1 (fun j hj => by rw [hF.on (fun q => q)]; exact hx j hj) (fun j hj => by rw [hF.on (fun q => q)]; exact hxO j hj) (by rw [hF.fi (by omega)]; exact h13) (by rw [i32_p1 (by omega)]; omega) (by omega) H
      refine ⟨N2, jz, r1, (hF.more (fun a _ q => ⟨by omega, by omega⟩) (fun _ q => q) (fun _ q => q)).trans r2, fun i f h3 h4 h5 => ?_, fun i f h3 => ?_, r5⟩
      · by_cases hik : i = k
        · subst hik
          rw [r4 i f (by omega), hz f h5]
        · rw [r3 i f (by omega) h4 h5]
          exact hF.fi (by omega)
      · rw [r4 i f (by omega)]
        exact hF.fi (by omega)
def wlF (L a _k : Nat) : Prop := L + 36 ≤ a ∧ a < L + 96
theorem cpy_3 (hL : gNth sT L = some 8) (hO : gNth sT Ot = some 8) (hne : L ≠ Ot) (hn : n ≤ 60) : ∀ (r k : Nat) (kz : Int32) (N : Mem), SQ N → WKs L N → WKs Ot N → (zI N L 15).toInt = (n : Int) → kz.toInt = (k : Int) → k + r = n → Ev none e 13 216 [some (.ref L), some (.ref Ot), some (.int kz)] [] N v M' 0 0 → ∃ N1 jz, SQ N1 ∧ FZ (wlF L) noO noO N N1 ∧ (∀ i f, k ≤ i → i < n → f < 5 → zI N1 (oN N (L + 11) i) f = zI N (oN N (Ot + 11) i) f) ∧ (∀ i f, i < k → zI N1 (oN N (L + 11) i) f = zI N (oN N (L + 11) i) f) ∧ Ev none e 13 245 [some (.ref L), some (.ref Ot), some (.int jz)] [] N1 v M' 0 0 := by
  have h1 := ld_cases hL
  have h2 := ld_cases hO
  intro r
  induction r with
  | zero =>
    intro k kz N hS hx hxO h13 hk hkr H
    rcases cpy_216 hS hL hO H with ⟨_, H⟩ | ⟨a1, _⟩
    · exact ⟨N, _, hS, FZ.refl _, fun i f h3 h4 => by omega, fun _ _ _ => rfl, H⟩
    · exact absurd (Int32.le_iff_toInt_le.mpr (by omega)) a1
  | succ r ih =>
    intro k kz N hS hx hxO h13 hk hkr H
    rcases cpy_216 hS hL hO H with ⟨a1, _⟩ | ⟨_, _, _, e1, v1, N1, rfl, H1, H⟩
    · have := Int32.le_iff_toInt_le.mp a1
      omega
    · have o1 : oI N (L + 11) kz = oN N (L + 11) k := by unfold oI; rw [cl_n hk]
      have o2 : oI N (Ot + 11) kz = oN N (Ot + 11) k := by unfold oI; rw [cl_n hk]
      have t1 := wk_t hS.1 hL (j := k) (by omega)
      have t2 := wk_t hS.1 hO (j := k) (by omega)
      have b1 := hx.2 k (by omega)
      have b2 := hxO.2 k (by omega)
      rw [o1, o2] at H1
      obtain ⟨rfl, q2⟩ := cpb_0 hS t1 t2 H1
      obtain ⟨A, eA⟩ : ∃ A, A = oN N (L + 11) k := ⟨_, rfl⟩
      obtain ⟨D, eD⟩ : ∃ D, D = oN N (Ot + 11) k := ⟨_, rfl⟩
      rw [← eA] at q2 t1 b1
      rw [← eD] at q2 t2 b2
      have hF : FZ (fun a _ => a = A) noO noO N N1 := by
        rw [q2]
        exact ((((FZ.wF (F := fun a _ => a = A) rfl).trans (FZ.wF rfl)).trans (FZ.wF rfl)).trans (FZ.wF rfl)).trans (FZ.wF rfl)
      have hS1 : SQ N1 := by rw [q2]; exact hS.kf.kf.kf.kf.kf
      have hz : ∀ f, f < 5 → zI N1 A f = zI N D f := fun f hf => by
        rw [q2]
        match f, hf with
        | 0, _ => rw [fI_wF_ne (by omega), fI_wF_ne (by omega), fI_wF_ne (by omega), fI_wF_ne (by omega)]; exact fI_wF_eq hS.1 t1 qi_21_0
        | 1, _ => rw [fI_wF_ne (by omega), fI_wF_ne (by omega), fI_wF_ne (by omega)]; exact fI_wF_eq hS.kf.1 t1 qi_21_1
        | 2, _ => rw [fI_wF_ne (by omega), fI_wF_ne (by omega)]; exact fI_wF_eq hS.kf.kf.1 t1 qi_21_2
        | 3, _ => rw [fI_wF_ne (by omega)]; exact fI_wF_eq hS.kf.kf.kf.1 t1 qi_21_3
        | 4, _ => exact fI_wF_eq hS.kf.kf.kf.kf.1 t1 qi_21_4
      have H := cpy_239 hS1 hL hO H
      have oo : ∀ a i, oN N1 a i = oN N a i := fun a i => hF.on (fun q => q)
      obtain ⟨N2, jz, r1, r2, r3, r4, r5⟩ := ih (k + 1) (kz + 1) N1 hS1 (hx.fz hF (fun q => q)) (hxO.fz hF (fun q => q)) (by rw [hF.fi (by omega)]; exact h13) (by rw [i32_p1 (by omega)]; omega) (by omega) H
      refine ⟨N2, jz, r1, (hF.more (fun a _ q => ⟨by omega, by omega⟩) (fun _ q => q) (fun _ q => q)).trans r2, fun i f h3 h4 h5 => ?_, fun i f h3 => ?_, r5⟩
      · by_cases hik : i = k
        · subst hik
          have := r4 i f (by omega)
          rw [oo] at this
          rw [this, ← eA, ← eD, hz f h5]
        · have := r3 i f (by omega) h4 h5
          rw [oo, oo] at this
          rw [this]
          have bi := hxO.2 i (by omega)
          exact hF.fi (by omega)
      · have := r4 i f (by omega)
        rw [oo] at this
        rw [this]
        refine hF.fi (fun q => ?_)
        rw [eA] at q
        have := hx.1 i k (by omega) (by omega) q
        omega
theorem WKs.on (h : WKs L M) (ho : ∀ j, oN M' (L + 11) j = oN M (L + 11) j) : WKs L M' := ⟨fun j k hj hk q => h.1 j k hj hk (by rw [ho, ho] at q; exact q), fun k hk => by rw [ho]; exact h.2 k hk⟩
/-- one land becomes the other -/
theorem copy_ok (hS : SQ M) (hL : gNth sT L = some 8) (hO : gNth sT Ot = some 8) (hne : L ≠ Ot) (hD : okD P) (hK : okK P) (hx : WXr L M) (hxO : WXr Ot M) (hk : WKs L M) (hkO : WKs Ot M) (hA : LAN Ot P M) (H : Ev none e 13 0 [some (.ref L), some (.ref Ot), none] [] M v M' 0 0) : v = none ∧ SQ M' ∧ FZ (cpF L) (cpW L) noO M M' ∧ LAN L P M' := by
  have h1 := ld_cases hL
  have h2 := ld_cases hO
  obtain ⟨⟨a0, a1, ⟨a2, a3⟩, a4, a5⟩, ⟨b1, b2, b3, b4⟩, hC, ⟨l1, l2⟩, hcr⟩ := hA
  obtain ⟨k0, k60, _⟩ := hK
  have n0 := hD.2.2.1
  have n24 := hD.2.2.2.1
  obtain ⟨M1, S1, ⟨r1, F1⟩, ⟨z0, z1, z11, z13⟩, H⟩ := cpy_1 hS hL hO hne H
  have O1 : ∀ k, zI M1 Ot k = zI M Ot k := fun k => F1.fi (by unfold cpF; omega)
  have o1 : ∀ a j, oN M1 a j = oN M a j := fun a j => F1.on (fun q => q)
  obtain ⟨M2, jz, S2, F2, w1, _, H⟩ := cpy_2 (n := (P 12).toInt.toNat) hL hO hne (by omega) (P 12).toInt.toNat 0 0 M1 S1 (fun k hk => by rw [o1]; exact hx k hk) (fun k hk => by rw [o1]; exact hxO k hk) (by rw [z13, a4]; omega) rfl (by omega) H
  have H := cpy_206 S2 hL hO H
  have O2 : ∀ k, zI M2 Ot k = zI M Ot k := fun k => (F2.fi (by unfold wiF; omega)).trans (O1 k)
  rw [O2] at H
  obtain ⟨N3, e3⟩ : ∃ N3, N3 = wF M2 L 15 (zI M Ot 15) := ⟨_, rfl⟩
  have S3 : SQ N3 := by rw [e3]; exact S2.kf
  have F3 : FZ (fun a k => a = L ∧ k = 15) noO noO M2 N3 := by rw [e3]; exact FZ.wF ⟨rfl, rfl⟩
  have z15 : zI N3 L 15 = zI M Ot 15 := by rw [e3]; exact fI_wF_eq S2.1 hL qi_8_15
  rw [← e3] at H
  have o3 : ∀ a j, oN N3 a j = oN M a j := fun a j => (F3.on (fun q => q)).trans ((F2.on (fun q => q)).trans (o1 a j))
  obtain ⟨M4, jz', S4, F4, k1, _, H⟩ := cpy_3 (n := (P 157).toInt.toNat) hL hO hne (by omega) (P 157).toInt.toNat 0 0 N3 S3 (hk.on (fun j => o3 _ j)) (hkO.on (fun j => o3 _ j)) (by rw [z15, l1]; omega) rfl (by omega) H
  have O4 : ∀ k, zI M4 Ot k = zI M Ot k := fun k => (F4.fi (by unfold wlF; omega)).trans ((F3.fi (by omega)).trans (O2 k))
  have H := cpy_245 S4 hL hO H
  rw [O4] at H
  have H := cpy_253 S4.kf hL hO H
  have e17 : zI (wF M4 L 16 (zI M Ot 16)) Ot 17 = zI M Ot 17 := (fI_wF_ne (by omega)).trans (O4 17)
  rw [e17] at H
  have H := cpy_261 S4.kf.kf hL hO H
  have e18 : zI (wF (wF M4 L 16 (zI M Ot 16)) L 17 (zI M Ot 17)) Ot 18 = zI M Ot 18 := (fI_wF_ne (by omega)).trans ((fI_wF_ne (by omega)).trans (O4 18))
  rw [e18] at H
  obtain ⟨hv, eM⟩ := cpy_269 S4.kf.kf.kf hL hO H
  have e19 : zI (wF (wF (wF M4 L 16 (zI M Ot 16)) L 17 (zI M Ot 17)) L 18 (zI M Ot 18)) Ot 19 = zI M Ot 19 := (fI_wF_ne (by omega)).trans ((fI_wF_ne (by omega)).trans ((fI_wF_ne (by omega)).trans (O4 19)))
  rw [e19] at eM
  have S5 : SQ M' := by rw [eM]; exact S4.kf.kf.kf.kf
  have F5 : FZ (fun a k => a = L ∧ 16 ≤ k) noO noO M4 M' := by
    rw [eM]
    exact (((FZ.wF (F := fun a k => a = L ∧ 16 ≤ k) ⟨rfl, by decide⟩).trans (FZ.wF ⟨rfl, by decide⟩)).trans (FZ.wF ⟨rfl, by decide⟩)).trans (FZ.wF ⟨rfl, by decide⟩)
  have y16 : zI M' L 16 = zI M Ot 16 := by
    rw [eM, fI_wF_ne (by omega), fI_wF_ne (by omega), fI_wF_ne (by omega)]
    exact fI_wF_eq S4.1 hL qi_8_16
  have y17 : zI M' L 17 = zI M Ot 17 := by
    rw [eM, fI_wF_ne (by omega), fI_wF_ne (by omega)]
    exact fI_wF_eq S4.kf.1 hL qi_8_17
  have y18 : zI M' L 18 = zI M Ot 18 := by
    rw [eM, fI_wF_ne (by omega)]
    exact fI_wF_eq S4.kf.kf.1 hL qi_8_18
  have y19 : zI M' L 19 = zI M Ot 19 := by
    rw [eM]
    exact fI_wF_eq S4.kf.kf.kf.1 hL qi_8_19
  have zL : ∀ k, k < 15 → zI M' L k = zI M1 L k := fun k hk => (F5.fi (by omega)).trans ((F4.fi (by unfold wlF; omega)).trans ((F3.fi (by omega)).trans (F2.fi (by unfold wiF; omega))))
  have rr : ∀ f, 1 ≤ f → f ≤ 9 → ∀ j, rN M' (L + f) j = rN M (Ot + f) j := fun f f1 f9 j => (F5.rn (fun q => q)).trans ((F4.rn (fun q => q)).trans ((F3.rn (fun q => q)).trans ((F2.rn (fun q => q)).trans (r1 f f1 f9 j))))
  have oM : ∀ a j, oN M' a j = oN M a j := fun a j => (F5.on (fun q => q)).trans ((F4.on (fun q => q)).trans (o3 a j))
  refine ⟨hv, S5, F1.trans ((F2.more (fun a _ q => ⟨Nat.le_trans (by omega) q.1, Nat.lt_of_lt_of_le q.2 (by omega)⟩) (fun _ q => q.elim) (fun _ q => q)).trans ((F3.more (fun a _ q => ⟨Nat.le_of_eq q.1.symm, by have := q.1; omega⟩) (fun _ q => q.elim) (fun _ q => q)).trans ((F4.more (fun a _ q => ⟨Nat.le_trans (by omega) q.1, q.2⟩) (fun _ q => q.elim) (fun _ q => q)).trans (F5.more (fun a _ q => ⟨Nat.le_of_eq q.1.symm, by have := q.1; omega⟩) (fun _ q => q.elim) (fun _ q => q))))), ⟨(zL 0 (by decide)).trans (z0.trans a0), (zL 1 (by decide)).trans (z1.trans a1), ⟨(zL 11 (by decide)).trans (z11.trans a2), fun d hd => (rr 9 (by decide) (by decide) d).trans (a3 d hd)⟩, (zL 13 (by decide)).trans (z13.trans a4), fun k hk f hf => ?_⟩, ⟨y16.trans b1, y17.trans b2, y18.trans b3, y19.trans b4⟩, fun k f hk hf => ?_, ⟨?_, fun k hkk => ?_⟩, fun c hc => (rr 8 (by decide) (by decide) _).trans (hcr c hc)⟩
  · rw [F5.fi (by omega), F4.fi (by unfold wlF; omega), F3.fi (by omega), w1 k f (Nat.zero_le _) hk hf, F1.fi (by unfold cpF; omega)]
    exact a5 k hk f hf
  · have := rr (1 + f) (by omega) (by omega) k
    rw [← Nat.add_assoc, ← Nat.add_assoc] at this
    exact this.trans (hC k f hk hf)
  · exact (F5.fi (by omega)).trans ((F4.fi (by unfold wlF; omega)).trans (z15.trans l1))
  · have wf : ∀ f, f < 5 → zI M' (oN M' (L + 11) k) f = zI M (oN M (Ot + 11) k) f := fun f hf => by
      have b1 := hk.2 k (by omega)
      have b2 := hkO.2 k (by omega)
      have q := k1 k f (Nat.zero_le _) hkk hf
      rw [o3, o3] at q
      rw [oM, F5.fi (by omega), q, F3.fi (by omega), F2.fi (by unfold wiF; omega), F1.fi (by unfold cpF; omega)]
    obtain ⟨q0, q1, q2, q3, q4⟩ := l2 k hkk
    exact ⟨(wf 0 (by decide)).trans q0, (wf 1 (by decide)).trans q1, (wf 2 (by decide)).trans q2, (wf 3 (by decide)).trans q3, (wf 4 (by decide)).trans q4⟩
/-- a land that is left alone -/
theorem LAN.fz {F : Nat → Nat → Prop} {W O : Nat → Prop} (h : LAN L P M) (hF : FZ F W O M M') (f0 : ∀ a k, L ≤ a → a < L + 96 → ¬ F a k) (w0 : ∀ a, L + 1 ≤ a → a ≤ L + 9 → ¬ W a) (o0 : ¬ O (L + 11)) (hk : WKs L M) (n24 : (P 12).toInt ≤ 24) (k60 : (P 157).toInt ≤ 60) : LAN L P M' := by
  obtain ⟨⟨a0, a1, ⟨a2, a3⟩, a4, a5⟩, ⟨b1, b2, b3, b4⟩, hC, ⟨l1, l2⟩, hcr⟩ := h
  have zL : ∀ k, zI M' L k = zI M L k := fun k => hF.fi (f0 _ _ (by omega) (by omega))
  have rr : ∀ f, 1 ≤ f → f ≤ 9 → ∀ j, rN M' (L + f) j = rN M (L + f) j := fun f f1 f9 j => hF.rn (w0 _ (by omega) (by omega))
  refine ⟨⟨(zL 0).trans a0, (zL 1).trans a1, ⟨(zL 11).trans a2, fun d hd => (rr 9 (by decide) (by decide) d).trans (a3 d hd)⟩, (zL 13).trans a4, fun k hk f hf => (hF.fi (f0 _ _ (by omega) (by omega))).trans (a5 k hk f hf)⟩, ⟨(zL 16).trans b1, (zL 17).trans b2, (zL 18).trans b3, (zL 19).trans b4⟩, fun k f hk hf => ?_, ⟨(zL 15).trans l1, fun k hkk => ?_⟩, fun c hc => (rr 8 (by decide) (by decide) _).trans (hcr c hc)⟩
  · have := rr (1 + f) (by omega) (by omega) k
    rw [← Nat.add_assoc] at this
    exact this.trans (hC k f hk hf)
  · have b := hk.2 k (by omega)
    have wf : ∀ f, zI M' (oN M' (L + 11) k) f = zI M (oN M (L + 11) k) f := fun f => by
      rw [hF.on o0]
      exact hF.fi (f0 _ _ (by omega) (by omega))
    obtain ⟨q0, q1, q2, q3, q4⟩ := l2 k hkk
    exact ⟨(wf 0).trans q0, (wf 1).trans q1, (wf 2).trans q2, (wf 3).trans q3, (wf 4).trans q4⟩
end CPY
/-! THE CLASS'S renew: a new park -/
def byI (b : Int32) (f : Nat) : Int32 := if f = 0 then b - b / 8 * 8 else if f = 1 then b / 8 - b / 8 / 2 * 2 else if f = 2 then b / 16 else 0
/-- the PARK that the tape told -/
noncomputable def parP (wi de : Int32) (o : Nat → Int32) : PK := fun j => if j = 0 then wi else if j = 1 then de else if 522 ≤ j ∧ (j - 522) / 7 < wi.toInt.toNat * de.toInt.toNat then byI (o ((j - 522) / 7)) ((j - 522) % 7) else 0
theorem by_all : (List.range 256).all (fun n => decide ((nI n &&& 7) = byI (nI n) 0 ∧ ((nI n >>> ((3 : Int32) &&& 31)) &&& 1) = byI (nI n) 1 ∧ (nI n >>> ((4 : Int32) &&& 31)) = byI (nI n) 2)) = true := by decide +kernel
theorem by_bits {b : Int32} (h : 0 ≤ b.toInt ∧ b.toInt < 256) : (b &&& 7) = byI b 0 ∧ ((b >>> ((3 : Int32) &&& 31)) &&& 1) = byI b 1 ∧ (b >>> ((4 : Int32) &&& 31)) = byI b 2 := by
  have hb : b = nI b.toInt.toNat := Int32.toInt_inj.mp (by rw [nI_toInt (by omega)]; omega)
  have q := of_decide_eq_true (List.all_eq_true.mp by_all b.toInt.toNat (List.mem_range.mpr (by omega)))
  rw [← hb] at q
  exact q
def rnW (L a : Nat) : Prop := L + 1 ≤ a ∧ a ≤ L + 3
def rn2 (L a : Nat) : Prop := L + 4 ≤ a ∧ a ≤ L + 8
def rnF (L a k : Nat) : Prop := a = L ∧ (k ≤ 1 ∨ 11 ≤ k)
section RNW
variable {e L : Nat} {P : PK} {M M1 M' N : Mem} {v : Option Value} {n i k b B : Nat} {wi de : Int32}
theorem rnw_lp (hL : gNth sT L = some 8) (hn : n ≤ 256) : ∀ (r k : Nat) (kz : Int32) (c5 : Option Value) (N : Mem), SQ N → (zI N L 0 * zI N L 1).toInt = (n : Int) → kz.toInt = (k : Int) → k + r = n → Ev none e 12 13 [some (.ref L), some (.int wi), some (.int de), some (.ref 1), some (.int kz), c5] [] N v M' 0 0 → ∃ N1 jz c6, SQ N1 ∧ FZ noF (rnW L) noO N N1 ∧ (∀ j, k ≤ j → j < n → rN N1 (L + 1) j = rN N 2 j &&& 7 ∧ rN N1 (L + 2) j = (rN N 2 j >>> ((3 : Int32) &&& 31)) &&& 1 ∧ rN N1 (L + 3) j = rN N 2 j >>> ((4 : Int32) &&& 31)) ∧ (∀ f j, j < k → rN N1 (L + f) j = rN N (L + f) j) ∧ Ev none e 12 86 [some (.ref L), some (.int wi), some (.int de), some (.ref 1), some (.int jz), c6] [] N1 v M' 0 0 := by
  have h1 := ld_cases hL
  intro r
  induction r with
  | zero =>
    intro k kz c5 N hS hm hk hkr H
    rcases rnw_13 hS hL H with ⟨_, H⟩ | ⟨a1, _⟩ | ⟨a1, _⟩
    · exact ⟨N, _, _, hS, FZ.refl _, fun j h3 h4 => by omega, fun _ _ _ => rfl, H⟩
    · exact absurd (Int32.le_iff_toInt_le.mpr (by omega)) a1
    · exact absurd (Int32.le_iff_toInt_le.mpr (by omega)) a1
  | succ r ih =>
    intro k kz c5 N hS hm hk hkr H
    have t256 : (256 : Int32).toInt = 256 := rfl
    rcases rnw_13 hS hL H with ⟨a1, _⟩ | ⟨_, a1, _⟩ | ⟨_, _, _, _, _, _, H⟩
    · have := Int32.le_iff_toInt_le.mp a1
      omega
    · have := Int32.le_iff_toInt_le.mp a1
      omega
    · rw [cl_n hk] at H
      have e2 : rI N 2 kz = rN N 2 k := rI_n hk
      rw [e2] at H
      obtain ⟨N1, eN⟩ : ∃ N1, N1 = wI (wI (wI N (L + 1) k (rN N 2 k &&& 7)) (L + 2) k ((rN N 2 k >>> ((3 : Int32) &&& 31)) &&& 1)) (L + 3) k (rN N 2 k >>> ((4 : Int32) &&& 31)) := ⟨_, rfl⟩
      rw [← eN] at H
      have hS1 : SQ N1 := by rw [eN]; exact hS.ki.ki.ki
      have hF : FZ noF (rnW L) noO N N1 := by
        rw [eN]
        exact ((FZ.wI (W := rnW L) ⟨by omega, by omega⟩).trans (FZ.wI ⟨by omega, by omega⟩)).trans (FZ.wI ⟨by omega, by omega⟩)
      have l1 : k < (zrw N (L + 1)).length := by rw [(hS.1.row (fx_h2 hL) qw_9).2]; omega
      have l2 : k < (zrw (wI N (L + 1) k (rN N 2 k &&& 7)) (L + 2)).length := by rw [(hS.ki.1.row (fx_h3 hL) qw_10).2]; omega
      have l3 : k < (zrw (wI (wI N (L + 1) k (rN N 2 k &&& 7)) (L + 2) k ((rN N 2 k >>> ((3 : Int32) &&& 31)) &&& 1)) (L + 3)).length := by rw [(hS.ki.ki.1.row (fx_h4 hL) qw_11).2]; omega
      have y1 : rN N1 (L + 1) k = rN N 2 k &&& 7 := by rw [eN, rN_wI_ne (by omega), rN_wI_ne (by omega)]; exact rN_wI_eq l1
      have y2 : rN N1 (L + 2) k = (rN N 2 k >>> ((3 : Int32) &&& 31)) &&& 1 := by rw [eN, rN_wI_ne (by omega)]; exact rN_wI_eq l2
      have y3 : rN N1 (L + 3) k = rN N 2 k >>> ((4 : Int32) &&& 31) := by rw [eN]; exact rN_wI_eq l3
      have yo : ∀ f j, j ≠ k → rN N1 (L + f) j = rN N (L + f) j := fun f j hj => by rw [eN, rN_wI_ne (by omega), rN_wI_ne (by omega), rN_wI_ne (by omega)]
      have b2 : ∀ j, rN N1 2 j = rN N 2 j := fun j => hF.rn (by unfold rnW; omega)
      obtain ⟨N2, jz, c6, r1, r2, r3, r4, r5⟩ := ih (k + 1) (kz + 1) _ N1 hS1 (by rw [hF.fi (fun q => q), hF.fi (fun q => q)]; exact hm) (by rw [i32_p1 (by omega)]; omega) (by omega) H
      refine ⟨N2, jz, c6, r1, hF.trans r2, fun j h3 h4 => ?_, fun f j h3 => ?_, r5⟩
      · by_cases hjk : j = k
        · subst hjk
          rw [r4 1 j (by omega), r4 2 j (by omega), r4 3 j (by omega)]
          exact ⟨y1, y2, y3⟩
        · have q := r3 j (by omega) h4
          rw [b2] at q
          exact q
      · rw [r4 f j (by omega)]
        exact yo f j (by omega)
theorem parP_c {o : Nat → Int32} {k f : Nat} (hk : k < wi.toInt.toNat * de.toInt.toNat) (hf : f < 7) : parP wi de o (522 + 7 * k + f) = byI (o k) f := by
  have h1 : (522 + 7 * k + f - 522) / 7 = k := by omega
  have h2 : (522 + 7 * k + f - 522) % 7 = f := by omega
  unfold parP
  rw [if_neg (by omega), if_neg (by omega), h1, h2, if_pos ⟨by omega, hk⟩]
theorem parP_z {o : Nat → Int32} {j : Nat} (h2 : 2 ≤ j) (h5 : j < 522) : parP wi de o j = 0 := by
  unfold parP
  rw [if_neg (by omega), if_neg (by omega), if_neg (by omega)]
theorem parP_cong {o o' : Nat → Int32} (h : ∀ k, k < wi.toInt.toNat * de.toInt.toNat → o k = o' k) : parP wi de o = parP wi de o' := by
  funext j
  unfold parP
  by_cases h0 : j = 0
  · rw [if_pos h0, if_pos h0]
  · rw [if_neg h0, if_neg h0]
    by_cases h1 : j = 1
    · rw [if_pos h1, if_pos h1]
    · rw [if_neg h1, if_neg h1]
      by_cases h2 : 522 ≤ j ∧ (j - 522) / 7 < wi.toInt.toNat * de.toInt.toNat
      · rw [if_pos h2, if_pos h2, h _ h2.2]
      · rw [if_neg h2, if_neg h2]
theorem parP_0 {o : Nat → Int32} : parP wi de o 0 = wi := rfl
theorem parP_1 {o : Nat → Int32} : parP wi de o 1 = de := rfl
theorem parP_wh {o : Nat → Int32} (hw : 4 ≤ wi.toInt ∧ wi.toInt ≤ 16) (hd : 4 ≤ de.toInt ∧ de.toInt ≤ 16) : wh4 (parP wi de o) := ⟨hw.1, hw.2, hd.1, hd.2⟩
theorem parP_D {o : Nat → Int32} (hw : 4 ≤ wi.toInt ∧ wi.toInt ≤ 16) (hd : 4 ≤ de.toInt ∧ de.toInt ≤ 16) : okD (parP wi de o) ∧ okK (parP wi de o) := by
  have z2 : parP wi de o 2 = 0 := parP_z (by decide) (by decide)
  have z12 : parP wi de o 12 = 0 := parP_z (by decide) (by decide)
  have z157 : parP wi de o 157 = 0 := parP_z (by decide) (by decide)
  have z0 : (0 : Int32).toInt = 0 := rfl
  refine ⟨⟨parP_wh hw hd, ⟨by rw [z2]; decide, by rw [z2]; decide, fun d hd => ?_⟩, by rw [z12]; decide, by rw [z12]; decide, fun k hk => ?_⟩, by rw [z157]; decide, by rw [z157]; decide, fun k hk => ?_⟩
  · rw [z2, z0] at hd
    exact absurd hd (Nat.not_lt_zero _)
  · rw [z12, z0] at hk
    exact absurd hk (Nat.not_lt_zero _)
  · rw [z157, z0] at hk
    exact absurd hk (Nat.not_lt_zero _)
theorem by_rng {b : Int32} (h : 0 ≤ b.toInt ∧ b.toInt < 256) : (0 ≤ (byI b 0).toInt ∧ (byI b 0).toInt ≤ 7) ∧ 0 ≤ (byI b 1).toInt ∧ (byI b 1).toInt ≤ 1 ∧ 0 ≤ (byI b 2).toInt ∧ (byI b 2).toInt ≤ 15 := by
  have hb : b = nI b.toInt.toNat := Int32.toInt_inj.mp (by rw [nI_toInt (by omega)]; omega)
  have q : (List.range 256).all (fun n => decide ((0 ≤ (byI (nI n) 0).toInt ∧ (byI (nI n) 0).toInt ≤ 7) ∧ 0 ≤ (byI (nI n) 1).toInt ∧ (byI (nI n) 1).toInt ≤ 1 ∧ 0 ≤ (byI (nI n) 2).toInt ∧ (byI (nI n) 2).toInt ≤ 15)) = true := by decide +kernel
  have q := of_decide_eq_true (List.all_eq_true.mp q b.toInt.toNat (List.mem_range.mpr (by omega)))
  rw [← hb] at q
  exact q
theorem parP_E {o : Nat → Int32} (ho : ∀ k, k < wi.toInt.toNat * de.toInt.toNat → (0 ≤ (o k).toInt ∧ (o k).toInt < 256) ∧ ¬ byI (o k) 0 = 7) : okE B (parP wi de o) := by
  intro c hc
  have e : ∀ f, f < 7 → cE (parP wi de o) f c = byI (o c.toInt.toNat) f := fun f hf => parP_c hc.2 hf
  obtain ⟨h1, h2⟩ := ho _ hc.2
  obtain ⟨⟨r1, r2⟩, r3, r4, r5, r6⟩ := by_rng h1
  have t7 : (7 : Int32).toInt = 7 := rfl
  have n7 : (byI (o c.toInt.toNat) 0).toInt ≠ 7 := fun q => h2 (Int32.toInt_inj.mp (q.trans t7.symm))
  have z : ∀ f, 3 ≤ f → byI (o c.toInt.toNat) f = 0 := fun f hf => by
    unfold byI
    rw [if_neg (by omega), if_neg (by omega), if_neg (by omega)]
  have z0 : (0 : Int32).toInt = 0 := rfl
  unfold okC1
  rw [e 0 (by decide), e 2 (by decide), e 3 (by decide), e 4 (by decide), e 5 (by decide), e 6 (by decide), z 3 (by decide), z 4 (by decide), z 5 (by decide), z 6 (by decide), z0]
  omega
theorem renew_ok (hS : SQ M) (hL : gNth sT L = some 8) (hw : 4 ≤ wi.toInt ∧ wi.toInt ≤ 16) (hd : 4 ≤ de.toInt ∧ de.toInt ≤ 16) (ho : ∀ k, k < wi.toInt.toNat * de.toInt.toNat → 0 ≤ (rN M 2 k).toInt ∧ (rN M 2 k).toInt < 256) (H : Ev none e 12 0 [some (.ref L), some (.int wi), some (.int de), some (.ref 1), none, none] [] M v M' 0 0) : v = none ∧ SQ M' ∧ FZ (rnF L) (cpW L) noO M M' ∧ LAN L (parP wi de (rN M 2)) M' := by
  have h1 := ld_cases hL
  obtain ⟨w, ew⟩ : ∃ w, w = wi.toInt.toNat := ⟨_, rfl⟩
  obtain ⟨dd, ed⟩ : ∃ dd, dd = de.toInt.toNat := ⟨_, rfl⟩
  have hwd : w * dd ≤ 16 * 16 := Nat.mul_le_mul (by omega) (by omega)
  have H := rnw_0 hS hL H
  obtain ⟨N, eN⟩ : ∃ N, N = wF (wF M L 0 wi) L 1 de := ⟨_, rfl⟩
  have F0 : FZ (fun a k => a = L ∧ k ≤ 1) noO noO M N := by
    rw [eN]
    exact (FZ.wF (F := fun a k => a = L ∧ k ≤ 1) ⟨rfl, by decide⟩).trans (FZ.wF ⟨rfl, by decide⟩)
  have S0 : SQ N := by rw [eN]; exact hS.kf.kf
  have z0 : zI N L 0 = wi := by rw [eN, fI_wF_ne (by omega)]; exact fI_wF_eq hS.1 hL qi_8_0
  have z1 : zI N L 1 = de := by rw [eN]; exact fI_wF_eq hS.kf.1 hL qi_8_1
  rw [← eN] at H
  obtain ⟨c1, c2, _⟩ := cls_int (parP_wh (o := rN M 2) hw hd)
  have cw : clsP (parP wi de (rN M 2)) = w * dd := by rw [ew, ed]; rfl
  rw [cw] at c1
  rw [parP_0, parP_1] at c1
  have mm : (zI N L 0 * zI N L 1).toInt = ((w * dd : Nat) : Int) := by
    rw [z0, z1, i32_mul (by omega) (by omega)]
    exact c1.symm
  obtain ⟨N1, jz, c6, S1, F1, g1, _, H⟩ := rnw_lp hL (n := w * dd) (by omega) (w * dd) 0 0 none N S0 mm rfl (by omega) H
  obtain ⟨hv, eM⟩ := rnw_86 S1 hL H
  obtain ⟨X, eX⟩ : ∃ X, X = wA (wA (wA (wA (wA N1 (L + 4) 0) (L + 5) 0) (L + 6) 0) (L + 7) 0) (L + 8) 0 := ⟨_, rfl⟩
  have SX : SQ X := by rw [eX]; exact S1.ka.ka.ka.ka.ka
  have FX : FZ noF (rn2 L) noO N1 X := by
    rw [eX]
    exact ((((FZ.wA (W := rn2 L) ⟨by omega, by omega⟩).trans (FZ.wA ⟨by omega, by omega⟩)).trans (FZ.wA ⟨by omega, by omega⟩)).trans (FZ.wA ⟨by omega, by omega⟩)).trans (FZ.wA ⟨by omega, by omega⟩)
  have x4 : ∀ j, j < 256 → rN X (L + 4) j = 0 := fun j hj => by
    rw [eX, rN_wA_ne (by omega), rN_wA_ne (by omega), rN_wA_ne (by omega), rN_wA_ne (by omega)]
    exact rN_wA_eq S1.1 (fx_h5 hL) qw_12 hj
  have x5 : ∀ j, j < 256 → rN X (L + 5) j = 0 := fun j hj => by
    rw [eX, rN_wA_ne (by omega), rN_wA_ne (by omega), rN_wA_ne (by omega)]
    exact rN_wA_eq S1.ka.1 (fx_h6 hL) qw_13 hj
  have x6 : ∀ j, j < 256 → rN X (L + 6) j = 0 := fun j hj => by
    rw [eX, rN_wA_ne (by omega), rN_wA_ne (by omega)]
    exact rN_wA_eq S1.ka.ka.1 (fx_h7 hL) qw_14 hj
  have x7 : ∀ j, j < 256 → rN X (L + 7) j = 0 := fun j hj => by
    rw [eX, rN_wA_ne (by omega)]
    exact rN_wA_eq S1.ka.ka.ka.1 (fx_h8 hL) qw_15 hj
  have x8 : ∀ j, j < 256 → rN X (L + 8) j = 0 := fun j hj => by
    rw [eX]
    exact rN_wA_eq S1.ka.ka.ka.ka.1 (fx_h9 hL) qw_16 hj
  rw [← eX] at eM
  have S7 : SQ M' := by rw [eM]; exact SX.kf.kf.kf.kf.kf.kf.kf
  have F7 : FZ (fun a k => a = L ∧ 11 ≤ k) noO noO X M' := by
    rw [eM]
    exact ((((((FZ.wF (F := fun a k => a = L ∧ 11 ≤ k) ⟨rfl, by decide⟩).trans (FZ.wF ⟨rfl, by decide⟩)).trans (FZ.wF ⟨rfl, by decide⟩)).trans (FZ.wF ⟨rfl, by decide⟩)).trans (FZ.wF ⟨rfl, by decide⟩)).trans (FZ.wF ⟨rfl, by decide⟩)).trans (FZ.wF ⟨rfl, by decide⟩)
  have y11 : zI M' L 11 = 0 := by
    rw [eM, fI_wF_ne (by omega), fI_wF_ne (by omega), fI_wF_ne (by omega), fI_wF_ne (by omega), fI_wF_ne (by omega), fI_wF_ne (by omega)]
    exact fI_wF_eq SX.1 hL qi_8_11
  have y13 : zI M' L 13 = 0 := by
    rw [eM, fI_wF_ne (by omega), fI_wF_ne (by omega), fI_wF_ne (by omega), fI_wF_ne (by omega), fI_wF_ne (by omega)]
    exact fI_wF_eq SX.kf.1 hL qi_8_13
  have y15 : zI M' L 15 = 0 := by
    rw [eM, fI_wF_ne (by omega), fI_wF_ne (by omega), fI_wF_ne (by omega), fI_wF_ne (by omega)]
    exact fI_wF_eq SX.kf.kf.1 hL qi_8_15
  have y16 : zI M' L 16 = 0 := by
    rw [eM, fI_wF_ne (by omega), fI_wF_ne (by omega), fI_wF_ne (by omega)]
    exact fI_wF_eq SX.kf.kf.kf.1 hL qi_8_16
  have y17 : zI M' L 17 = 0 := by
    rw [eM, fI_wF_ne (by omega), fI_wF_ne (by omega)]
    exact fI_wF_eq SX.kf.kf.kf.kf.1 hL qi_8_17
  have y18 : zI M' L 18 = 0 := by
    rw [eM, fI_wF_ne (by omega)]
    exact fI_wF_eq SX.kf.kf.kf.kf.kf.1 hL qi_8_18
  have y19 : zI M' L 19 = 0 := by
    rw [eM]
    exact fI_wF_eq SX.kf.kf.kf.kf.kf.kf.1 hL qi_8_19
  have zz : ∀ j, 2 ≤ j → j < 522 → parP wi de (rN M 2) j = 0 := fun j h2 h5 => parP_z h2 h5
  have i0 : (0 : Int32).toInt = 0 := rfl
  refine ⟨hv, S7, (F0.more (fun a k q => ⟨q.1, Or.inl q.2⟩) (fun _ q => q.elim) (fun _ q => q)).trans ((F1.more (fun _ _ q => q.elim) (fun a q => ⟨q.1, Nat.le_trans q.2 (by omega)⟩) (fun _ q => q)).trans ((FX.more (fun _ _ q => q.elim) (fun a q => ⟨Nat.le_trans (by omega) q.1, Nat.le_trans q.2 (by omega)⟩) (fun _ q => q)).trans (F7.more (fun a k q => ⟨q.1, Or.inr q.2⟩) (fun _ q => q.elim) (fun _ q => q)))), ⟨?_, ?_, ⟨by rw [y11, zz 2 (by decide) (by decide)], fun d hd => ?_⟩, by rw [y13, zz 12 (by decide) (by decide)], fun k hk => ?_⟩, ⟨by rw [y16, zz 518 (by decide) (by decide)], by rw [y17, zz 519 (by decide) (by decide)], by rw [y18, zz 520 (by decide) (by decide)], by rw [y19, zz 521 (by decide) (by decide)]⟩, fun k f hk hf => ?_, ⟨by rw [y15, zz 157 (by decide) (by decide)], fun k hk => ?_⟩, fun c hc => ?_⟩
  · exact (F7.fi (by omega)).trans ((FX.fi (fun q => q)).trans ((F1.fi (fun q => q)).trans z0))
  · exact (F7.fi (by omega)).trans ((FX.fi (fun q => q)).trans ((F1.fi (fun q => q)).trans z1))
  · rw [zz 2 (by decide) (by decide), i0] at hd
    exact absurd hd (Nat.not_lt_zero _)
  · rw [zz 12 (by decide) (by decide), i0] at hk
    exact absurd hk (Nat.not_lt_zero _)
  · have hk2 : k < wi.toInt.toNat * de.toInt.toNat := hk
    rw [parP_c hk2 hf]
    obtain ⟨q1, q2, q3⟩ := g1 k (Nat.zero_le _) (by rw [ew, ed]; exact hk2)
    have e2 : rN N 2 k = rN M 2 k := F0.rn (fun q => q)
    rw [e2] at q1 q2 q3
    obtain ⟨u1, u2, u3⟩ := by_bits (ho k hk2)
    have k256 : k < 256 := by rw [cw] at hk c2; omega
    match f, hf with
    | 0, _ => exact (F7.rn (fun q => q)).trans ((FX.rn (by unfold rn2; omega)).trans (q1.trans u1))
    | 1, _ => exact (F7.rn (fun q => q)).trans ((FX.rn (by unfold rn2; omega)).trans (q2.trans u2))
    | 2, _ => exact (F7.rn (fun q => q)).trans ((FX.rn (by unfold rn2; omega)).trans (q3.trans u3))
    | 3, _ => exact (F7.rn (fun q => q)).trans (x4 k k256)
    | 4, _ => exact (F7.rn (fun q => q)).trans (x5 k k256)
    | 5, _ => exact (F7.rn (fun q => q)).trans (x6 k k256)
    | 6, _ => exact (F7.rn (fun q => q)).trans (x7 k k256)
  · rw [zz 157 (by decide) (by decide), i0] at hk
    exact absurd hk (Nat.not_lt_zero _)
  · rw [zz 157 (by decide) (by decide), i0]
    have hc2 := hc.2
    have hc0 := hc.1
    rw [cw] at hc2 c2
    have e : rI M' (L + 8) c = rN M' (L + 8) c.toInt.toNat := rI_n (by omega)
    rw [e]
    exact (F7.rn (fun q => q)).trans (x8 _ (by omega))
end RNW
/-! THE CLASS'S shape, enter -/
def gdC (wi de : Int32) (M : Mem) (i : Nat) : Prop := rN M 106 i = nI i - nI i / wi * wi ∧ rN M 107 i = nI i / wi ∧ ∀ j, j < 8 → rN M 108 (8 * i + j) = besI wi de (nI i) (nI j)
/-- the rows of the grid are those of its size -/
def GRI (M : Mem) : Prop := ∀ i, i < (zI M 105 3).toInt.toNat * (zI M 105 4).toInt.toNat → gdC (zI M 105 3) (zI M 105 4) M i
def shgW (a : Nat) : Prop := 106 ≤ a ∧ a ≤ 108
def shgF (a k : Nat) : Prop := a = 105 ∧ 3 ≤ k
theorem sI_all : (List.range 8).all (fun n => decide (sI 1 (nI n) = eastI (nI n) ∧ sI 2 (nI n) = southI (nI n))) = true := by decide +kernel
theorem sI_es {d : Int32} {k : Nat} (hd : d.toInt = (k : Int)) (hk : k < 8) : d = nI k ∧ sI 1 d = eastI d ∧ sI 2 d = southI d := by
  have e : d = nI k := Int32.toInt_inj.mp (by rw [nI_toInt (by omega)]; exact hd)
  have q := of_decide_eq_true (List.all_eq_true.mp sI_all k (List.mem_range.mpr hk))
  rw [e]
  exact ⟨rfl, q⟩
section SHPE
variable {e L : Nat} {T : TS} {P : PK} {M M1 M' N : Mem} {v : Option Value} {n i k b B : Nat} {wi de c d : Int32}
theorem g2_bes (h6 : rI M 106 c = c - c / zI M 105 3 * zI M 105 3) (h7 : rI M 107 c = c / zI M 105 3) (h1 : sI 1 d = eastI d) (h2 : sI 2 d = southI d) : G_2 M (rI M 106 c + sI 1 d) (rI M 107 c + sI 2 d) = besI (zI M 105 3) (zI M 105 4) c d := by
  have o : ¬ ((1 : Int32) = 0) := by decide
  unfold G_2 G_126 besI
  rw [h6, h7, h1, h2]
  by_cases a1 : c - c / zI M 105 3 * zI M 105 3 + eastI d < 0
  · rw [if_pos a1, if_pos a1, if_pos rfl]
  · rw [if_neg a1, if_neg a1]
    by_cases a2 : zI M 105 3 - 1 < c - c / zI M 105 3 * zI M 105 3 + eastI d
    · rw [if_pos a2, if_pos a2, if_pos rfl]
    · rw [if_neg a2, if_neg a2, if_neg o]
      by_cases a3 : c / zI M 105 3 + southI d < 0
      · rw [if_pos a3, if_pos a3, if_pos rfl]
      · rw [if_neg a3, if_neg a3]
        by_cases a4 : zI M 105 4 - 1 < c / zI M 105 3 + southI d
        · rw [if_pos a4, if_pos a4, if_pos rfl]
        · rw [if_neg a4, if_neg a4, if_neg o]
theorem gdC.fz {F : Nat → Nat → Prop} {W O : Nat → Prop} (h : gdC wi de M i) (hF : FZ F W O M M') (hw : ∀ a, 106 ≤ a → a ≤ 108 → ¬ W a) : gdC wi de M' i := ⟨(hF.rn (hw _ (by decide) (by decide))).trans h.1, (hF.rn (hw _ (by decide) (by decide))).trans h.2.1, fun j hj => (hF.rn (hw _ (by decide) (by decide))).trans (h.2.2 j hj)⟩
theorem GRI.fz {F : Nat → Nat → Prop} {W O : Nat → Prop} (h : GRI M) (hF : FZ F W O M M') (h3 : ¬ F 105 3) (h4 : ¬ F 105 4) (hw : ∀ a, 106 ≤ a → a ≤ 108 → ¬ W a) : GRI M' := by
  have e3 : zI M' 105 3 = zI M 105 3 := hF.fi h3
  have e4 : zI M' 105 4 = zI M 105 4 := hF.fi h4
  unfold GRI
  rw [e3, e4]
  exact fun i hi => (h i hi).fz hF hw
theorem shp_in {i : Nat} (hi : i < 256) {cz : Int32} (hc : cz.toInt = (i : Int)) {w h : Int32} : ∀ (r k : Nat) (dz : Int32) (N : Mem), SQ N → zI N 105 3 = w → zI N 105 4 = h → rI N 106 cz = cz - cz / w * w → rI N 107 cz = cz / w → dz.toInt = (k : Int) → k + r = 8 → Ev none e 1 76 [some (.ref 105), some (.int wi), some (.int de), some (.int cz), some (.int dz)] [] N v M' 0 0 → ∃ N1 d1, SQ N1 ∧ FZ noF (fun a => a = 108) noO N N1 ∧ (∀ j, k ≤ j → j < 8 → rN N1 108 (8 * i + j) = besI w h cz (nI j)) ∧ (∀ j, ¬ (8 * i + k ≤ j ∧ j < 8 * i + 8) → rN N1 108 j = rN N 108 j) ∧ Ev none e 1 29 [some (.ref 105), some (.int wi), some (.int de), some (.int (cz + 1)), some (.int d1)] [] N1 v M' 0 0 := by
  have t8 : (8 : Int32).toInt = 8 := rfl
  intro r
  induction r with
  | zero =>
    intro k dz N hS e3 e4 h6 h7 hk hkr H
    rcases shp_76 hS H with ⟨_, H⟩ | ⟨a1, _⟩
    · exact ⟨N, _, hS, FZ.refl _, fun j h3 h4 => by omega, fun _ _ => rfl, H⟩
    · exact absurd (Int32.le_iff_toInt_le.mpr (by omega)) a1
  | succ r ih =>
    intro k dz N hS e3 e4 h6 h7 hk hkr H
    rcases shp_76 hS H with ⟨a1, _⟩ | ⟨_, _, _, _, H⟩
    · have := Int32.le_iff_toInt_le.mp a1
      omega
    · obtain ⟨ed, s1, s2⟩ := sI_es hk (by omega)
      have h6' : rI N 106 cz = cz - cz / zI N 105 3 * zI N 105 3 := by rw [e3]; exact h6
      have h7' : rI N 107 cz = cz / zI N 105 3 := by rw [e3]; exact h7
      rw [g2_bes h6' h7' s1 s2, e3, e4] at H
      have m8 : (8 * cz).toInt = 8 * cz.toInt := i32_mul (by rw [t8]; omega) (by rw [t8]; omega)
      have ix : (8 * cz + dz).toNatClampNeg = 8 * i + k := cl_n (by rw [i32_add (by omega) (by omega), m8]; omega)
      rw [ix] at H
      obtain ⟨N1, eN⟩ : ∃ N1, N1 = wI N 108 (8 * i + k) (besI w h cz dz) := ⟨_, rfl⟩
      rw [← eN] at H
      have hS1 : SQ N1 := by rw [eN]; exact hS.ki
      have hF : FZ noF (fun a => a = 108) noO N N1 := by rw [eN]; exact FZ.wI (W := fun a => a = 108) rfl
      have y : rN N1 108 (8 * i + k) = besI w h cz (nI k) := by
        rw [eN, ← ed]
        exact rN_wI_eq (by rw [(hS.1.row qa_108 qw_26).2]; omega)
      have yo : ∀ j, j ≠ 8 * i + k → rN N1 108 j = rN N 108 j := fun j hj => by rw [eN, rN_wI_ne (fun q => hj q.2)]
      have g6 : rI N1 106 cz = rI N 106 cz := hF.rn (by omega)
      have g7 : rI N1 107 cz = rI N 107 cz := hF.rn (by omega)
      obtain ⟨N2, d1, r1, r2, r3, r4, r5⟩ := ih (k + 1) (dz + 1) N1 hS1 ((hF.fi (fun q => q)).trans e3) ((hF.fi (fun q => q)).trans e4) (g6.trans h6) (g7.trans h7) (by rw [i32_p1 (by omega)]; omega) (by omega) H
      refine ⟨N2, d1, r1, hF.trans r2, fun j h3 h4 => ?_, fun j h3 => ?_, r5⟩
      · by_cases hjk : j = k
        · subst hjk
          rw [r4 _ (by omega)]
          exact y
        · exact r3 j (by omega) h4
      · rw [r4 j (by omega)]
        exact yo j (by omega)
theorem shp_out {w h : Int32} (hw : 4 ≤ w.toInt ∧ w.toInt ≤ 16) (hn : n ≤ 256) : ∀ (r k : Nat) (cz : Int32) (c4 : Option Value) (N : Mem), SQ N → zI N 105 3 = w → zI N 105 4 = h → (zI N 105 3 * zI N 105 4).toInt = (n : Int) → cz.toInt = (k : Int) → k + r = n → (∀ i, i < k → gdC w h N i) → Ev none e 1 29 [some (.ref 105), some (.int wi), some (.int de), some (.int cz), c4] [] N v M' 0 0 → v = none ∧ SQ M' ∧ FZ noF shgW noO N M' ∧ ∀ i, i < n → gdC w h M' i := by
  intro r
  induction r with
  | zero =>
    intro k cz c4 N hS e3 e4 hm hk hkr hg H
    have hkn : k = n := by omega
    rcases shp_29 hS H with ⟨_, hv, rfl⟩ | ⟨a1, _⟩ | ⟨a1, _⟩
    · exact ⟨hv, hS, FZ.refl _, fun i hi => hg i (by omega)⟩
    · exact absurd (Int32.le_iff_toInt_le.mpr (by omega)) a1
    · exact absurd (Int32.le_iff_toInt_le.mpr (by omega)) a1
  | succ r ih =>
    intro k cz c4 N hS e3 e4 hm hk hkr hg H
    have t256 : (256 : Int32).toInt = 256 := rfl
    rcases shp_29 hS H with ⟨a1, _⟩ | ⟨_, a1, _⟩ | ⟨_, _, _, _, _, _, H⟩
    · have := Int32.le_iff_toInt_le.mp a1
      omega
    · have := Int32.le_iff_toInt_le.mp a1
      omega
    · rw [cl_n hk, e3] at H
      have ec : cz = nI k := Int32.toInt_inj.mp (by rw [nI_toInt (by omega)]; exact hk)
      obtain ⟨N1, eN⟩ : ∃ N1, N1 = wI (wI N 106 k (cz - cz / w * w)) 107 k (cz / w) := ⟨_, rfl⟩
      rw [← eN] at H
      have hS1 : SQ N1 := by rw [eN]; exact hS.ki.ki
      have hF : FZ noF (fun a => a = 106 ∨ a = 107) noO N N1 := by
        rw [eN]
        exact (FZ.wI (W := fun a => a = 106 ∨ a = 107) (Or.inl rfl)).trans (FZ.wI (Or.inr rfl))
      have y6 : rN N1 106 k = cz - cz / w * w := by
        rw [eN, rN_wI_ne (by omega)]
        exact rN_wI_eq (by rw [(hS.1.row qa_106 qw_24).2]; omega)
      have y7 : rN N1 107 k = cz / w := by
        rw [eN]
        exact rN_wI_eq (by rw [(hS.ki.1.row qa_107 qw_25).2]; omega)
      have yo : ∀ j, j ≠ k → rN N1 106 j = rN N 106 j ∧ rN N1 107 j = rN N 107 j := fun j hj => by
        rw [eN, rN_wI_ne (by omega), rN_wI_ne (by omega), rN_wI_ne (by omega), rN_wI_ne (by omega)]
        exact ⟨rfl, rfl⟩
      have x3 : zI N1 105 3 = w := (hF.fi (fun q => q)).trans e3
      have x4 : zI N1 105 4 = h := (hF.fi (fun q => q)).trans e4
      obtain ⟨N2, d1, r1, r2, r3, r4, H⟩ := shp_in (by omega) hk 8 0 0 N1 hS1 x3 x4 ((rI_n hk).trans y6) ((rI_n hk).trans y7) rfl rfl H
      have z3 : zI N2 105 3 = w := (r2.fi (fun q => q)).trans x3
      have z4 : zI N2 105 4 = h := (r2.fi (fun q => q)).trans x4
      have hg2 : ∀ i, i < k + 1 → gdC w h N2 i := fun i hi => by
        have p6 : rN N2 106 i = rN N1 106 i := r2.rn (by omega)
        have p7 : rN N2 107 i = rN N1 107 i := r2.rn (by omega)
        by_cases hik : i = k
        · subst hik
          refine ⟨?_, ?_, fun j hj => ?_⟩
          · rw [p6, y6, ec]
          · rw [p7, y7, ec]
          · rw [r3 j (Nat.zero_le _) hj, ec]
        · obtain ⟨g1, g2, g3⟩ := hg i (by omega)
          obtain ⟨o6, o7⟩ := yo i hik
          refine ⟨p6.trans (o6.trans g1), p7.trans (o7.trans g2), fun j hj => ?_⟩
          rw [r4 _ (by omega)]
          have : rN N1 108 (8 * i + j) = rN N 108 (8 * i + j) := hF.rn (by omega)
          exact this.trans (g3 j hj)
      obtain ⟨u1, u2, u3, u4⟩ := ih (k + 1) (cz + 1) _ N2 r1 z3 z4 (by rw [z3, z4, ← e3, ← e4]; exact hm) (by rw [i32_p1 (by omega)]; omega) (by omega) hg2 H
      exact ⟨u1, u2, (hF.more (fun _ _ q => q) (fun a q => by unfold shgW; omega) (fun _ q => q)).trans ((r2.more (fun _ _ q => q) (fun a q => by unfold shgW; omega) (fun _ q => q)).trans u3), u4⟩
theorem shape_ok (hS : SQ M) (hw : 4 ≤ wi.toInt ∧ wi.toInt ≤ 16) (hd : 4 ≤ de.toInt ∧ de.toInt ≤ 16) (hG : GRI M) (H : Ev none e 1 0 [some (.ref 105), some (.int wi), some (.int de), none, none] [] M v M' 0 0) : v = none ∧ SQ M' ∧ FZ shgF shgW noO M M' ∧ GRI M' ∧ zI M' 105 3 = wi ∧ zI M' 105 4 = de := by
  have go : ∀ c4, Ev none e 1 29 [some (.ref 105), some (.int wi), some (.int de), some (.int 0), c4] [] (wF (wF M 105 3 wi) 105 4 de) v M' 0 0 → v = none ∧ SQ M' ∧ FZ shgF shgW noO M M' ∧ GRI M' ∧ zI M' 105 3 = wi ∧ zI M' 105 4 = de := fun c4 H => by
    obtain ⟨N, eN⟩ : ∃ N, N = wF (wF M 105 3 wi) 105 4 de := ⟨_, rfl⟩
    rw [← eN] at H
    have hS1 : SQ N := by rw [eN]; exact hS.kf.kf
    have hF : FZ shgF noO noO M N := by
      rw [eN]
      exact (FZ.wF (F := shgF) ⟨rfl, by decide⟩).trans (FZ.wF ⟨rfl, by decide⟩)
    have e3 : zI N 105 3 = wi := by rw [eN, fI_wF_ne (by omega)]; exact fI_wF_eq hS.1 qa_105 qi_23_3
    have e4 : zI N 105 4 = de := by rw [eN]; exact fI_wF_eq hS.kf.1 qa_105 qi_23_4
    obtain ⟨c1, c2, _⟩ := cls_int (parP_wh (o := rN M 2) hw hd)
    have cw : clsP (parP wi de (rN M 2)) = wi.toInt.toNat * de.toInt.toNat := rfl
    rw [cw] at c1 c2
    rw [parP_0, parP_1] at c1
    obtain ⟨u1, u2, u3, u4⟩ := shp_out hw (n := wi.toInt.toNat * de.toInt.toNat) (by omega) (wi.toInt.toNat * de.toInt.toNat) 0 0 c4 N hS1 e3 e4 (by rw [e3, e4, i32_mul (by omega) (by omega)]; exact c1.symm) rfl (by omega) (fun i hi => absurd hi (Nat.not_lt_zero _)) H
    have x3 : zI M' 105 3 = wi := (u3.fi (fun q => q)).trans e3
    have x4 : zI M' 105 4 = de := (u3.fi (fun q => q)).trans e4
    refine ⟨u1, u2, (hF.more (fun _ _ q => q) (fun _ q => q.elim) (fun _ q => q)).trans (u3.more (fun _ _ q => q.elim) (fun _ q => q) (fun _ q => q)), ?_, x3, x4⟩
    unfold GRI
    rw [x3, x4]
    exact u4
  rcases shp_0 hS H with ⟨h3, h4, hv, rfl⟩ | ⟨_, _, H⟩ | ⟨_, H⟩
  · exact ⟨hv, hS, FZ.refl _, hG, h3.symm, h4.symm⟩
  · exact go _ H
  · exact go _ H
theorem GRI.grd (hG : GRI M) (hw : wh4 P) (h3 : zI M 105 3 = P 0) (h4 : zI M 105 4 = P 1) : GRD P M := by
  intro c hc
  obtain ⟨i, ei⟩ : ∃ i, i = c.toInt.toNat := ⟨_, rfl⟩
  have h0 := hc.1
  have h1 := hc.2
  obtain ⟨_, c256, _⟩ := cls_int hw
  have ci : c.toInt = (i : Int) := by omega
  have ec : c = nI i := Int32.toInt_inj.mp (by rw [nI_toInt (by omega)]; exact ci)
  unfold GRI at hG
  rw [h3, h4] at hG
  obtain ⟨g1, g2, g3⟩ := hG i (by rw [ei]; exact h1)
  refine ⟨(rI_n ci).trans (by rw [ec]; exact g1), (rI_n ci).trans (by rw [ec]; exact g2), fun d d0 d1 => ?_⟩
  obtain ⟨k, ek⟩ : ∃ k, k = d.toInt.toNat := ⟨_, rfl⟩
  have dk : d.toInt = (k : Int) := by omega
  have ed : d = nI k := Int32.toInt_inj.mp (by rw [nI_toInt (by omega)]; exact dk)
  have t8 : (8 : Int32).toInt = 8 := rfl
  have m8 : (8 * c).toInt = 8 * c.toInt := i32_mul (by rw [t8]; omega) (by rw [t8]; omega)
  have ix : (8 * c + d).toInt = ((8 * i + k : Nat) : Int) := by rw [i32_add (by omega) (by omega), m8]; omega
  rw [rI_n ix, g3 k (by omega)]
  unfold besP
  rw [← ec, ← ed]
/-- what enter asks of the texts -/
def TXc (T : TS) (M : Mem) : Prop := (TXT M (fR M 104 2) (T 0) ∧ LW (T 0)) ∧ ∀ h, h < 6 → TXT M (oN M 109 h) (T (h + 1)) ∧ LW (T (h + 1))
def enF (a k : Nat) : Prop := shgF a k ∨ (a = 104 ∧ 7 ≤ k)
def enW (a : Nat) : Prop := shgW a ∨ a = 128
theorem enter_ok (hS : SQ M) (hL : gNth sT L = some 8) (hw : wh4 P) (hn : ∀ c, inC P c → nnC P c) (hG : GRI M) (hX : SXc M) (hT : TXc T M) (hA : LAN L P M) (hx : WXr L M) (hk : WKs L M) (n24 : (P 12).toInt ≤ 24) (k60 : (P 157).toInt ≤ 60) (H : Ev none e 54 0 [some (.ref 104), some (.ref L)] [] M v M' 0 0) : v = none ∧ STA L T P M' ∧ LST L P M' ∧ FZ enF enW noO M M' ∧ GRI M' ∧ zI M' 105 3 = P 0 ∧ zI M' 105 4 = P 1 ∧ WFl (-1) [] M' := by
  have hl := ld_cases hL
  obtain ⟨e1, v1, M1, rfl, H1, H⟩ := ent_0 hS hL H
  have S0 : SQ (wR M 104 7 L) := hS.kr_22_7 hL
  obtain ⟨N0, eN0⟩ : ∃ N0, N0 = wR M 104 7 L := ⟨_, rfl⟩
  rw [← eN0] at S0 H1
  have F0 : FZ (fun a k => a = 104 ∧ k = 7) noO noO M N0 := by rw [eN0]; exact FZ.wR ⟨rfl, rfl⟩
  have r0 : fR N0 104 7 = L := by rw [eN0]; exact fR_wR_eq hS.1 qa_104 qk_22_7
  rw [hA.1.1, hA.1.2.1] at H1
  obtain ⟨hv1, S1, F1, G1, z3, z4⟩ := shape_ok S0 ⟨hw.1, hw.2.1⟩ ⟨hw.2.2.1, hw.2.2.2⟩ (hG.fz F0 (by omega) (by omega) (fun _ _ _ q => q)) H1
  rw [hv1] at H
  obtain ⟨hv, eM⟩ := ent_26 S1 hL H
  obtain ⟨X, eX⟩ : ∃ X, X = wF (wF (wF M1 104 8 0) 104 9 (-1)) 104 10 0 := ⟨_, rfl⟩
  rw [← eX] at eM
  have SX : SQ X := by rw [eX]; exact S1.kf.kf.kf
  have FX : FZ (fun a k => a = 104 ∧ 8 ≤ k) noO noO M1 X := by
    rw [eX]
    exact ((FZ.wF (F := fun a k => a = 104 ∧ 8 ≤ k) ⟨rfl, by decide⟩).trans (FZ.wF ⟨rfl, by decide⟩)).trans (FZ.wF ⟨rfl, by decide⟩)
  have x8 : zI X 104 8 = 0 := by rw [eX, fI_wF_ne (by omega), fI_wF_ne (by omega)]; exact fI_wF_eq S1.1 qa_104 qi_22_8
  have x9 : zI X 104 9 = -1 := by rw [eX, fI_wF_ne (by omega)]; exact fI_wF_eq S1.kf.1 qa_104 qi_22_9
  have x10 : zI X 104 10 = 0 := by rw [eX]; exact fI_wF_eq S1.kf.kf.1 qa_104 qi_22_10
  have eM2 : M' = wA X 128 (-1) := eM
  have SM : SQ M' := by rw [eM2]; exact SX.ka
  have FM : FZ noF (fun a => a = 128) noO X M' := by rw [eM2]; exact FZ.wA (W := fun a => a = 128) rfl
  have y128 : ∀ j, j < 1536 → rN M' 128 j = -1 := fun j hj => by rw [eM2]; exact rN_wA_eq SX.1 qa_128 qw_37 hj
  have FA : FZ enF enW noO M M' := (F0.more (fun a k q => Or.inr ⟨q.1, by omega⟩) (fun _ q => q.elim) (fun _ q => q)).trans ((F1.more (fun a k q => Or.inl q) (fun a q => Or.inl q) (fun _ q => q)).trans ((FX.more (fun a k q => Or.inr ⟨q.1, by omega⟩) (fun _ q => q.elim) (fun _ q => q)).trans (FM.more (fun _ _ q => q.elim) (fun a q => Or.inr q) (fun _ q => q))))
  have r7 : fR M' 104 7 = L := (FM.fr (fun q => q)).trans ((FX.fr (by omega)).trans ((F1.fr (by unfold shgF; omega)).trans r0))
  have r2 : fR M' 104 2 = fR M 104 2 := FA.fr (by unfold enF shgF; omega)
  have lan : LAN L P M' := hA.fz FA (fun a k a1 a2 => by unfold enF shgF; omega) (fun a a1 a2 => by unfold enW shgW; omega) (fun q => q) hk n24 k60
  obtain ⟨⟨t1, t2⟩, t3⟩ := hT
  have ht : gNth sT (fR M 104 2) = some 28 := law_t hS.1
  have tf : ∀ t, gNth sT t = some 28 → (∀ k, ¬ enF t k) ∧ ∀ k, 1 ≤ k → k ≤ 8 → ¬ enW (t + k) := fun t ht => by
    have := tx_cases ht
    exact ⟨fun k => by unfold enF shgF; omega, fun k k1 k8 => by unfold enW shgW; omega⟩
  have T0 : TXT M' (fR M' 104 2) (T 0) := by rw [r2]; exact t1.fz FA (tf _ ht).1 (tf _ ht).2
  have TH : ∀ h, h < 6 → TXT M' (oN M' 109 h) (T (h + 1)) ∧ LW (T (h + 1)) := fun h hh => by
    rw [FA.on (fun q => q)]
    have q := tf _ (hab_t hS.1 hh)
    exact ⟨(t3 h hh).1.fz FA q.1 q.2, (t3 h hh).2⟩
  have q34 : zI M' 105 3 = P 0 ∧ zI M' 105 4 = P 1 := ⟨(FM.fi (fun q => q)).trans ((FX.fi (by omega)).trans z3), (FM.fi (fun q => q)).trans ((FX.fi (by omega)).trans z4)⟩
  have GM : GRI M' := (G1.fz FX (by omega) (by omega) (fun _ _ _ q => q)).fz FM (fun q => q) (fun q => q) (fun a _ _ => by omega)
  refine ⟨hv, ⟨⟨⟨SM, r7, hL, ?_, ?_, ?_, lan.2.2.1⟩, hw, hn, fun m hm => (FA.on (fun q => q)).trans (hX m hm), GM.grd hw q34.1 q34.2, ⟨T0, t2⟩, TH, lan.2.2.2.2⟩, vc_new y128 hw, lan.1, lan.2.1, fun k hk => (FA.on (fun q => q)).trans (hx k hk), hk.on (fun j => FA.on (fun q => q)), (FM.fi (fun q => q)).trans x8⟩, lan.2.2.2.1, FA, GM, q34.1, q34.2, ?_⟩
  · exact T0.2.2.1
  · exact T0.2.2.2.1
  · exact T0.2.2.2.2.1
  · refine ⟨(FM.fi (fun q => q)).trans x9, (FM.fi (fun q => q)).trans (x10.trans ?_)⟩
    rw [decide_eq_false (by simp)]
    rfl
end SHPE
/-! THE CLASS'S game: pieces of its calls on the live land (made by gwal4.py) -/
theorem hsd_0 {e : Nat} {M M' : Mem} {v : Option Value} {c : Int32} {L : Nat} (hS : SQ M) (a_L : gNth sT L = some 8) (H : Ev none e 9 0 [some (.ref L), some (.int c), none] [] M v M' 0 0) : Ev none e 9 2 [some (.ref L), some (.int c), some (.int 0)] [] M v M' 0 0 := by
  have H : Ev none e 9 2 [some (.ref L), some (.int c), some (.int 0)] [] M v M' 0 0 := Ev.back 2 (fun n => rfl) H
  have HF := H
  exact HF
theorem hsd_2 {e : Nat} {M M' : Mem} {v : Option Value} {c k : Int32} {L : Nat} (hS : SQ M) (a_L : gNth sT L = some 8) (H : Ev none e 9 2 [some (.ref L), some (.int c), some (.int k)] [] M v M' 0 0) : ((zI M L 11) ≤ k ∧ v = some (.int 0) ∧ M' = M) ∨ (¬ ((zI M L 11) ≤ k) ∧ (rI M (L + 9) k) = c ∧ (0 ≤ k.toInt ∧ k.toInt < 9) ∧ v = some (.int 1) ∧ M' = M) ∨ (¬ ((zI M L 11) ≤ k) ∧ ¬ ((rI M (L + 9) k) = c) ∧ (0 ≤ k.toInt ∧ k.toInt < 9) ∧ Ev none e 9 2 [some (.ref L), some (.int c), some (.int (k + 1))] [] M v M' 0 0) := by
  have H : Ev none e 9 4 [some (.ref L), some (.int c), some (.int k)] [.ref L, .int k] M v M' 0 0 := Ev.back 2 (fun n => rfl) H
  have H : Ev none e 9 7 [some (.ref L), some (.int c), some (.int k)] [.int (zI M L 11), .int k] M v M' 0 0 := Ev.back 1 (gs_3 rfl rfl (gf_i hS.1 a_L qi_8_11 rfl)) H
  have H : Ev none e 9 (if (zI M L 11) ≤ k then 28 else 10) [some (.ref L), some (.int c), some (.int k)] [] M v M' 0 0 := Ev.back 1 (fun n => rfl) H
  by_cases h1 : (zI M L 11) ≤ k
  · rw [if_pos h1] at H
    have H : Ev none e 9 29 [some (.ref L), some (.int c), some (.int k)] [.int 0] M v M' 0 0 := Ev.back 1 (fun n => rfl) H
    obtain ⟨z1, z2⟩ := Ev.retz rfl rfl H
    exact Or.inl ⟨h1, z1, z2⟩
  · rw [if_neg h1] at H
    have H : Ev none e 9 11 [some (.ref L), some (.int c), some (.int k)] [.ref L] M v M' 0 0 := Ev.back 1 (fun n => rfl) H
    have H : Ev none e 9 14 [some (.ref L), some (.int c), some (.int k)] [.ref (L + 9)] M v M' 0 0 := Ev.back 1 (gs_3 rfl rfl (gf_x hS.1 a_L qo_8 (fx_l10 hS a_L) rfl)) H
    have H : Ev none e 9 15 [some (.ref L), some (.int c), some (.int k)] [.int k, .ref (L + 9)] M v M' 0 0 := Ev.back 1 (fun n => rfl) H
    obtain ⟨b2, H⟩ := Ev.ial rfl rfl hS.1 (fx_h10 a_L) qw_17 H
    have H : Ev none e 9 16 [some (.ref L), some (.int c), some (.int k)] [.int (rI M (L + 9) k)] M v M' 0 0 := H
    have H : Ev none e 9 (if (rI M (L + 9) k) = c then 20 else 22) [some (.ref L), some (.int c), some (.int k)] [] M v M' 0 0 := Ev.back 2 (fun n => rfl) H
    by_cases h3 : (rI M (L + 9) k) = c
    · rw [if_pos h3] at H
      have H : Ev none e 9 21 [some (.ref L), some (.int c), some (.int k)] [.int 1] M v M' 0 0 := Ev.back 1 (fun n => rfl) H
      obtain ⟨z1, z2⟩ := Ev.retz rfl rfl H
      exact Or.inr (Or.inl ⟨h1, h3, b2, z1, z2⟩)
    · rw [if_neg h3] at H
      have H : Ev none e 9 2 [some (.ref L), some (.int c), some (.int (k + 1))] [] M v M' 0 0 := Ev.back 2 (fun n => rfl) H
      have HF := H
      exact Or.inr (Or.inr (⟨h1, h3, b2, HF⟩))
noncomputable def X_10 (M : Mem) (L : Nat) (c : Int32) (k : Int32) : Mem := if (G_8 (wI M (L + 1) c.toNatClampNeg k) L c) = 0 then (wI (wI M (L + 1) c.toNatClampNeg k) (L + 4) c.toNatClampNeg 0) else (wI M (L + 1) c.toNatClampNeg k)
theorem g_10 {e : Nat} {M M' : Mem} {v : Option Value} {c k : Int32} {L : Nat} (hS : SQ M) (a_L : gNth sT L = some 8) (H : Ev none e 10 0 [some (.ref L), some (.int c), some (.int k)] [] M v M' 0 0) : v = none ∧ M' = X_10 M L c k := by
  unfold X_10
  have H : Ev none e 10 1 [some (.ref L), some (.int c), some (.int k)] [.ref L] M v M' 0 0 := Ev.back 1 (fun n => rfl) H
  have H : Ev none e 10 4 [some (.ref L), some (.int c), some (.int k)] [.ref (L + 1)] M v M' 0 0 := Ev.back 1 (gs_3 rfl rfl (gf_x hS.1 a_L qo_8 (fx_l2 hS a_L) rfl)) H
  have H : Ev none e 10 6 [some (.ref L), some (.int c), some (.int k)] [.int k, .int c, .ref (L + 1)] M v M' 0 0 := Ev.back 2 (fun n => rfl) H
  obtain ⟨b1, H⟩ := Ev.ias rfl rfl hS.1 (fx_h2 a_L) qw_9 H
  obtain ⟨N2, eN2⟩ : ∃ N, N = (wI M (L + 1) c.toNatClampNeg k) := ⟨_, rfl⟩
  have hN2 : SQ N2 := by rw [eN2]; exact hS.ki
  have H : Ev none e 10 7 [some (.ref L), some (.int c), some (.int k)] [] N2 v M' 0 0 := by rw [eN2]; exact H
  have H : Ev none e 10 9 [some (.ref L), some (.int c), some (.int k)] [.int c, .ref L] N2 v M' 0 0 := Ev.back 2 (fun n => rfl) H
  obtain ⟨e1, rfl⟩ := Ev.dpos rfl rfl H
  obtain ⟨vK3, MK3, K3, H⟩ := Ev.callb (fun n_ => gs_7 rfl rfl (show gCal (.invokevirtual 63) 1 (.int c :: .ref L :: []) N2 = some (.inr (8, [some (.ref L), some (.int c)], [])) from by show @cond (Option ((List Value × Mem) ⊕ (Nat × Lo × List Value))) (true && gRecv N2 (.ref L) 1 && gRoom [] && true) (some (.inr (8, [some (.ref L), some (.int c)], []))) none = _; rw [recv_s hN2.1 a_L qo_8]; rfl)) H
  obtain ⟨pK3, qK3⟩ := g_8 hN2 a_L K3
  rw [pK3, qK3] at H
  have H : Ev none (e1 + 1) 10 12 [some (.ref L), some (.int c), some (.int k)] [.int (G_8 N2 L c)] N2 v M' 0 0 := H
  have H : Ev none (e1 + 1) 10 (if (G_8 N2 L c) = 0 then 15 else 22) [some (.ref L), some (.int c), some (.int k)] [] N2 v M' 0 0 := Ev.back 1 (fun n => rfl) H
  by_cases h4 : (G_8 N2 L c) = 0
  · rw [if_pos h4] at H
    have H : Ev none (e1 + 1) 10 16 [some (.ref L), some (.int c), some (.int k)] [.ref L] N2 v M' 0 0 := Ev.back 1 (fun n => rfl) H
    have H : Ev none (e1 + 1) 10 19 [some (.ref L), some (.int c), some (.int k)] [.ref (L + 4)] N2 v M' 0 0 := Ev.back 1 (gs_3 rfl rfl (gf_x hN2.1 a_L qo_8 (fx_l5 hN2 a_L) rfl)) H
    have H : Ev none (e1 + 1) 10 21 [some (.ref L), some (.int c), some (.int k)] [.int 0, .int c, .ref (L + 4)] N2 v M' 0 0 := Ev.back 2 (fun n => rfl) H
    obtain ⟨b5, H⟩ := Ev.ias rfl rfl hN2.1 (fx_h5 a_L) qw_12 H
    obtain ⟨N6, eN6⟩ : ∃ N, N = (wI N2 (L + 4) c.toNatClampNeg 0) := ⟨_, rfl⟩
    have hN6 : SQ N6 := by rw [eN6]; exact hN2.ki
    have H : Ev none (e1 + 1) 10 22 [some (.ref L), some (.int c), some (.int k)] [] N6 v M' 0 0 := by rw [eN6]; exact H
    obtain ⟨p1, p2⟩ := Ev.retb (fun n => rfl) H
    subst eN2 eN6
    exact ⟨p1, by rw [if_pos h4]; exact p2⟩
  · rw [if_neg h4] at H
    obtain ⟨p1, p2⟩ := Ev.retb (fun n => rfl) H
    subst eN2
    exact ⟨p1, by rw [if_neg h4]; exact p2⟩
theorem X_10_sx {M : Mem} {c k : Int32} {L : Nat} (hS : SQ M) (a_L : gNth sT L = some 8) : SQ (X_10 M L c k) := by
  unfold X_10
  split
  · exact (hS.ki).ki
  · exact hS.ki
theorem isc_0 {e : Nat} {M M' : Mem} {v : Option Value} {c : Int32} (hS : SQ M) (hLd : fR M 0 2 = 8) (H : Ev none e 127 0 [some (.ref 0), some (.int c)] [] M v M' 0 0) : v = some (.int (G_126 M c 0 ((G_6 M 8) - 1))) ∧ M' = M := by
  have H : Ev none e 127 3 [some (.ref 0), some (.int c)] [.ref 0, .int 0, .int c] M v M' 0 0 := Ev.back 3 (fun n => rfl) H
  have H : Ev none e 127 6 [some (.ref 0), some (.int c)] [.ref (fR M 0 2), .int 0, .int c] M v M' 0 0 := Ev.back 1 (gs_3 rfl rfl (gf_r hS.1 qa_0 qr_0_2 rfl)) H
  rw [hLd] at H
  obtain ⟨e1, rfl⟩ := Ev.dpos rfl rfl H
  obtain ⟨vK1, MK1, K1, H⟩ := Ev.callb (fun n_ => gs_7 rfl rfl (show gCal (.invokevirtual 211) 10 (.ref 8 :: [.int 0, .int c]) M = some (.inr (6, [some (.ref 8)], [.int 0, .int c])) from by show @cond (Option ((List Value × Mem) ⊕ (Nat × Lo × List Value))) (true && gRecv M (.ref 8) 1 && gRoom [.int 0, .int c] && true) (some (.inr (6, [some (.ref 8)], [.int 0, .int c]))) none = _; rw [recv_s hS.1 qa_8 qo_8]; rfl)) H
  obtain ⟨pK1, qK1⟩ := g_6 hS qa_8 K1
  rw [pK1, qK1] at H
  have H : Ev none (e1 + 1) 127 9 [some (.ref 0), some (.int c)] [.int (G_6 M 8), .int 0, .int c] M v M' 0 0 := H
  have H : Ev none (e1 + 1) 127 11 [some (.ref 0), some (.int c)] [.int ((G_6 M 8) - 1), .int 0, .int c] M v M' 0 0 := Ev.back 2 (fun n => rfl) H
  obtain ⟨vK2, MK2, K2, H⟩ := Ev.callb (fun n => rfl) H
  obtain ⟨pK2, qK2⟩ := g_126 hS K2
  rw [pK2, qK2] at H
  have H : Ev none (e1 + 1) 127 14 [some (.ref 0), some (.int c)] [.int (G_126 M c 0 ((G_6 M 8) - 1))] M v M' 0 0 := H
  obtain ⟨z1, z2⟩ := Ev.retz rfl rfl H
  exact ⟨z1, z2⟩
theorem isd_0 {e : Nat} {M M' : Mem} {v : Option Value} {d : Int32} (hS : SQ M) (hLd : fR M 0 2 = 8) (H : Ev none e 128 0 [some (.ref 0), some (.int d)] [] M v M' 0 0) : v = some (.int (G_126 M d 0 ((zI M 8 11) - 1))) ∧ M' = M := by
  have H : Ev none e 128 3 [some (.ref 0), some (.int d)] [.ref 0, .int 0, .int d] M v M' 0 0 := Ev.back 3 (fun n => rfl) H
  have H : Ev none e 128 6 [some (.ref 0), some (.int d)] [.ref (fR M 0 2), .int 0, .int d] M v M' 0 0 := Ev.back 1 (gs_3 rfl rfl (gf_r hS.1 qa_0 qr_0_2 rfl)) H
  rw [hLd] at H
  have H : Ev none e 128 9 [some (.ref 0), some (.int d)] [.int (zI M 8 11), .int 0, .int d] M v M' 0 0 := Ev.back 1 (gs_3 rfl rfl (gf_i hS.1 qa_8 qi_8_11 rfl)) H
  have H : Ev none e 128 11 [some (.ref 0), some (.int d)] [.int ((zI M 8 11) - 1), .int 0, .int d] M v M' 0 0 := Ev.back 2 (fun n => rfl) H
  obtain ⟨e1, rfl⟩ := Ev.dpos rfl rfl H
  obtain ⟨vK1, MK1, K1, H⟩ := Ev.callb (fun n => rfl) H
  obtain ⟨pK1, qK1⟩ := g_126 hS K1
  rw [pK1, qK1] at H
  have H : Ev none (e1 + 1) 128 14 [some (.ref 0), some (.int d)] [.int (G_126 M d 0 ((zI M 8 11) - 1))] M v M' 0 0 := H
  obtain ⟨z1, z2⟩ := Ev.retz rfl rfl H
  exact ⟨z1, z2⟩
theorem twd_0 {e : Nat} {M M' : Mem} {v : Option Value} {x y : Int32} (hS : SQ M) (hLd : fR M 0 2 = 8) (H : Ev none e 129 0 [some (.ref 0), some (.int x), some (.int y)] [] M v M' 0 0) : (∃ e1 v1 M1, e = e1 + 1 ∧ Ev none e1 128 0 [some (.ref 0), some (.int x)] [] M v1 M1 0 0 ∧ Ev none e 129 5 [some (.ref 0), some (.int x), some (.int y)] (v1.toList ++ []) M1 v M' 0 0) := by
  have H : Ev none e 129 2 [some (.ref 0), some (.int x), some (.int y)] [.int x, .ref 0] M v M' 0 0 := Ev.back 2 (fun n => rfl) H
  obtain ⟨e1, rfl⟩ := Ev.dpos rfl rfl H
  obtain ⟨vK1, MK1, K1, H⟩ := Ev.callb (fun n_ => gs_7 rfl rfl (show gCal (.invokevirtual 302) 10 (.int x :: .ref 0 :: []) M = some (.inr (128, [some (.ref 0), some (.int x)], [])) from by show @cond (Option ((List Value × Mem) ⊕ (Nat × Lo × List Value))) (true && gRecv M (.ref 0) 10 && gRoom [] && true) (some (.inr (128, [some (.ref 0), some (.int x)], []))) none = _; rw [recv_s hS.1 qa_0 qo_0]; rfl)) H
  have K1 : Ev none e1 128 0 [some (.ref 0), some (.int x)] [] M vK1 MK1 0 0 := K1
  have HF := H
  exact ⟨e1, vK1, MK1, rfl, K1, HF⟩
theorem twd_5 {e : Nat} {M M' : Mem} {v : Option Value} {x y r : Int32} (hS : SQ M) (hLd : fR M 0 2 = 8) (H : Ev none e 129 5 [some (.ref 0), some (.int x), some (.int y)] [.int r] M v M' 0 0) : (r = 0 ∧ v = some (.int 0) ∧ M' = M) ∨ (¬ (r = 0) ∧ (∃ e1 v1 M1, e = e1 + 1 ∧ Ev none e1 128 0 [some (.ref 0), some (.int y)] [] M v1 M1 0 0 ∧ Ev none e 129 13 [some (.ref 0), some (.int x), some (.int y)] (v1.toList ++ []) M1 v M' 0 0)) := by
  have H : Ev none e 129 (if r = 0 then 25 else 8) [some (.ref 0), some (.int x), some (.int y)] [] M v M' 0 0 := Ev.back 1 (fun n => rfl) H
  by_cases h1 : r = 0
  · rw [if_pos h1] at H
    have H : Ev none e 129 26 [some (.ref 0), some (.int x), some (.int y)] [.int 0] M v M' 0 0 := Ev.back 1 (fun n => rfl) H
    obtain ⟨z1, z2⟩ := Ev.retz rfl rfl H
    exact Or.inl ⟨h1, z1, z2⟩
  · rw [if_neg h1] at H
    have H : Ev none e 129 10 [some (.ref 0), some (.int x), some (.int y)] [.int y, .ref 0] M v M' 0 0 := Ev.back 2 (fun n => rfl) H
    obtain ⟨e1, rfl⟩ := Ev.dpos rfl rfl H
    obtain ⟨vK2, MK2, K2, H⟩ := Ev.callb (fun n_ => gs_7 rfl rfl (show gCal (.invokevirtual 302) 10 (.int y :: .ref 0 :: []) M = some (.inr (128, [some (.ref 0), some (.int y)], [])) from by show @cond (Option ((List Value × Mem) ⊕ (Nat × Lo × List Value))) (true && gRecv M (.ref 0) 10 && gRoom [] && true) (some (.inr (128, [some (.ref 0), some (.int y)], []))) none = _; rw [recv_s hS.1 qa_0 qo_0]; rfl)) H
    have K2 : Ev none e1 128 0 [some (.ref 0), some (.int y)] [] M vK2 MK2 0 0 := K2
    have HF := H
    exact Or.inr (⟨h1, ⟨e1, vK2, MK2, rfl, K2, HF⟩⟩)
theorem twd_13 {e : Nat} {M M' : Mem} {v : Option Value} {x y r : Int32} (hS : SQ M) (hLd : fR M 0 2 = 8) (H : Ev none e 129 13 [some (.ref 0), some (.int x), some (.int y)] [.int r] M v M' 0 0) : (r = 0 ∧ v = some (.int 0) ∧ M' = M) ∨ (¬ (r = 0) ∧ x = y ∧ v = some (.int 0) ∧ M' = M) ∨ (¬ (r = 0) ∧ ¬ (x = y) ∧ v = some (.int 1) ∧ M' = M) := by
  have H : Ev none e 129 (if r = 0 then 25 else 16) [some (.ref 0), some (.int x), some (.int y)] [] M v M' 0 0 := Ev.back 1 (fun n => rfl) H
  by_cases h1 : r = 0
  · rw [if_pos h1] at H
    have H : Ev none e 129 26 [some (.ref 0), some (.int x), some (.int y)] [.int 0] M v M' 0 0 := Ev.back 1 (fun n => rfl) H
    obtain ⟨z1, z2⟩ := Ev.retz rfl rfl H
    exact Or.inl ⟨h1, z1, z2⟩
  · rw [if_neg h1] at H
    have H : Ev none e 129 (if x = y then 25 else 21) [some (.ref 0), some (.int x), some (.int y)] [] M v M' 0 0 := Ev.back 3 (fun n => rfl) H
    by_cases h2 : x = y
    · rw [if_pos h2] at H
      have H : Ev none e 129 26 [some (.ref 0), some (.int x), some (.int y)] [.int 0] M v M' 0 0 := Ev.back 1 (fun n => rfl) H
      obtain ⟨z1, z2⟩ := Ev.retz rfl rfl H
      exact Or.inr (Or.inl ⟨h1, h2, z1, z2⟩)
    · rw [if_neg h2] at H
      have H : Ev none e 129 26 [some (.ref 0), some (.int x), some (.int y)] [.int 1] M v M' 0 0 := Ev.back 2 (fun n => rfl) H
      obtain ⟨z1, z2⟩ := Ev.retz rfl rfl H
      exact Or.inr (Or.inr (⟨h1, h2, z1, z2⟩))
theorem isw_0 {e : Nat} {M M' : Mem} {v : Option Value} {k : Int32} (hS : SQ M) (hLd : fR M 0 2 = 8) (H : Ev none e 130 0 [some (.ref 0), some (.int k)] [] M v M' 0 0) : ((G_126 M k 0 ((zI M 8 13) - 1)) = 0 ∧ v = some (.int 0) ∧ M' = M) ∨ (¬ ((G_126 M k 0 ((zI M 8 13) - 1)) = 0) ∧ (zI M (oI M (8 + 10) k) 5) = 0 ∧ (0 ≤ k.toInt ∧ k.toInt < 24) ∧ v = some (.int 0) ∧ M' = M) ∨ (¬ ((G_126 M k 0 ((zI M 8 13) - 1)) = 0) ∧ ¬ ((zI M (oI M (8 + 10) k) 5) = 0) ∧ (0 ≤ k.toInt ∧ k.toInt < 24) ∧ v = some (.int 1) ∧ M' = M) := by
  have H : Ev none e 130 3 [some (.ref 0), some (.int k)] [.ref 0, .int 0, .int k] M v M' 0 0 := Ev.back 3 (fun n => rfl) H
  have H : Ev none e 130 6 [some (.ref 0), some (.int k)] [.ref (fR M 0 2), .int 0, .int k] M v M' 0 0 := Ev.back 1 (gs_3 rfl rfl (gf_r hS.1 qa_0 qr_0_2 rfl)) H
  rw [hLd] at H
  have H : Ev none e 130 9 [some (.ref 0), some (.int k)] [.int (zI M 8 13), .int 0, .int k] M v M' 0 0 := Ev.back 1 (gs_3 rfl rfl (gf_i hS.1 qa_8 qi_8_13 rfl)) H
  have H : Ev none e 130 11 [some (.ref 0), some (.int k)] [.int ((zI M 8 13) - 1), .int 0, .int k] M v M' 0 0 := Ev.back 2 (fun n => rfl) H
  obtain ⟨e1, rfl⟩ := Ev.dpos rfl rfl H
  obtain ⟨vK1, MK1, K1, H⟩ := Ev.callb (fun n => rfl) H
  obtain ⟨pK1, qK1⟩ := g_126 hS K1
  rw [pK1, qK1] at H
  have H : Ev none (e1 + 1) 130 14 [some (.ref 0), some (.int k)] [.int (G_126 M k 0 ((zI M 8 13) - 1))] M v M' 0 0 := H
  have H : Ev none (e1 + 1) 130 (if (G_126 M k 0 ((zI M 8 13) - 1)) = 0 then 36 else 17) [some (.ref 0), some (.int k)] [] M v M' 0 0 := Ev.back 1 (fun n => rfl) H
  by_cases h2 : (G_126 M k 0 ((zI M 8 13) - 1)) = 0
  · rw [if_pos h2] at H
    have H : Ev none (e1 + 1) 130 37 [some (.ref 0), some (.int k)] [.int 0] M v M' 0 0 := Ev.back 1 (fun n => rfl) H
    obtain ⟨z1, z2⟩ := Ev.retz rfl rfl H
    exact Or.inl ⟨h2, z1, z2⟩
  · rw [if_neg h2] at H
    have H : Ev none (e1 + 1) 130 18 [some (.ref 0), some (.int k)] [.ref 0] M v M' 0 0 := Ev.back 1 (fun n => rfl) H
    have H : Ev none (e1 + 1) 130 21 [some (.ref 0), some (.int k)] [.ref (fR M 0 2)] M v M' 0 0 := Ev.back 1 (gs_3 rfl rfl (gf_r hS.1 qa_0 qr_0_2 rfl)) H
    rw [hLd] at H
    have H : Ev none (e1 + 1) 130 24 [some (.ref 0), some (.int k)] [.ref (8 + 10)] M v M' 0 0 := Ev.back 1 (gs_3 rfl rfl (gf_x hS.1 qa_8 qo_8 (fx_l12 hS qa_8) rfl)) H
    have H : Ev none (e1 + 1) 130 25 [some (.ref 0), some (.int k)] [.int k, .ref (8 + 10)] M v M' 0 0 := Ev.back 1 (fun n => rfl) H
    obtain ⟨b3, H⟩ := Ev.aal rfl rfl hS.1 (fx_h12 qa_8) qz_18 H
    have H : Ev none (e1 + 1) 130 26 [some (.ref 0), some (.int k)] [.ref (oI M (8 + 10) k)] M v M' 0 0 := H
    have H : Ev none (e1 + 1) 130 29 [some (.ref 0), some (.int k)] [.int (zI M (oI M (8 + 10) k) 5)] M v M' 0 0 := Ev.back 1 (gs_3 rfl rfl (gf_i hS.1 b3.2 qi_20_5 rfl)) H
    have H : Ev none (e1 + 1) 130 (if (zI M (oI M (8 + 10) k) 5) = 0 then 36 else 32) [some (.ref 0), some (.int k)] [] M v M' 0 0 := Ev.back 1 (fun n => rfl) H
    by_cases h4 : (zI M (oI M (8 + 10) k) 5) = 0
    · rw [if_pos h4] at H
      have H : Ev none (e1 + 1) 130 37 [some (.ref 0), some (.int k)] [.int 0] M v M' 0 0 := Ev.back 1 (fun n => rfl) H
      obtain ⟨z1, z2⟩ := Ev.retz rfl rfl H
      exact Or.inr (Or.inl ⟨h2, h4, b3.1, z1, z2⟩)
    · rw [if_neg h4] at H
      have H : Ev none (e1 + 1) 130 37 [some (.ref 0), some (.int k)] [.int 1] M v M' 0 0 := Ev.back 2 (fun n => rfl) H
      obtain ⟨z1, z2⟩ := Ev.retz rfl rfl H
      exact Or.inr (Or.inr (⟨h2, h4, b3.1, z1, z2⟩))
theorem dor_0 {e : Nat} {M M' : Mem} {v : Option Value} {c : Int32} (hS : SQ M) (hLd : fR M 0 2 = 8) (H : Ev none e 84 0 [some (.ref 0), some (.int c)] [] M v M' 0 0) : ((zI M 8 11) = 9 ∧ v = some (.int (-1)) ∧ M' = M) ∨ (¬ ((zI M 8 11) = 9) ∧ (∃ e1 v1 M1, e = e1 + 1 ∧ Ev none e1 127 0 [some (.ref 0), some (.int c)] [] M v1 M1 0 0 ∧ Ev none e 84 17 [some (.ref 0), some (.int c)] (v1.toList ++ []) M1 v M' 0 0)) := by
  have H : Ev none e 84 1 [some (.ref 0), some (.int c)] [.ref 0] M v M' 0 0 := Ev.back 1 (fun n => rfl) H
  have H : Ev none e 84 4 [some (.ref 0), some (.int c)] [.ref (fR M 0 2)] M v M' 0 0 := Ev.back 1 (gs_3 rfl rfl (gf_r hS.1 qa_0 qr_0_2 rfl)) H
  rw [hLd] at H
  have H : Ev none e 84 7 [some (.ref 0), some (.int c)] [.int (zI M 8 11)] M v M' 0 0 := Ev.back 1 (gs_3 rfl rfl (gf_i hS.1 qa_8 qi_8_11 rfl)) H
  have H : Ev none e 84 (if (zI M 8 11) = 9 then 42 else 12) [some (.ref 0), some (.int c)] [] M v M' 0 0 := Ev.back 2 (fun n => rfl) H
  by_cases h1 : (zI M 8 11) = 9
  · rw [if_pos h1] at H
    have H : Ev none e 84 43 [some (.ref 0), some (.int c)] [.int (-1)] M v M' 0 0 := Ev.back 1 (fun n => rfl) H
    obtain ⟨z1, z2⟩ := Ev.retz rfl rfl H
    exact Or.inl ⟨h1, z1, z2⟩
  · rw [if_neg h1] at H
    have H : Ev none e 84 14 [some (.ref 0), some (.int c)] [.int c, .ref 0] M v M' 0 0 := Ev.back 2 (fun n => rfl) H
    obtain ⟨e1, rfl⟩ := Ev.dpos rfl rfl H
    obtain ⟨vK2, MK2, K2, H⟩ := Ev.callb (fun n_ => gs_7 rfl rfl (show gCal (.invokevirtual 113) 10 (.int c :: .ref 0 :: []) M = some (.inr (127, [some (.ref 0), some (.int c)], [])) from by show @cond (Option ((List Value × Mem) ⊕ (Nat × Lo × List Value))) (true && gRecv M (.ref 0) 10 && gRoom [] && true) (some (.inr (127, [some (.ref 0), some (.int c)], []))) none = _; rw [recv_s hS.1 qa_0 qo_0]; rfl)) H
    have K2 : Ev none e1 127 0 [some (.ref 0), some (.int c)] [] M vK2 MK2 0 0 := K2
    have HF := H
    exact Or.inr (⟨h1, ⟨e1, vK2, MK2, rfl, K2, HF⟩⟩)
theorem dor_17 {e : Nat} {M M' : Mem} {v : Option Value} {c r : Int32} (hS : SQ M) (hLd : fR M 0 2 = 8) (H : Ev none e 84 17 [some (.ref 0), some (.int c)] [.int r] M v M' 0 0) : (r = 0 ∧ v = some (.int (-1)) ∧ M' = M) ∨ (¬ (r = 0) ∧ (G_7 M 8 c) = 0 ∧ v = some (.int (-1)) ∧ M' = M) ∨ (¬ (r = 0) ∧ ¬ ((G_7 M 8 c) = 0) ∧ (∃ e1 v1 M1, e = e1 + 1 ∧ Ev none e1 9 0 [some (.ref 8), some (.int c), none] [] M v1 M1 0 0 ∧ Ev none e 84 39 [some (.ref 0), some (.int c)] (v1.toList ++ []) M1 v M' 0 0)) := by
  have H : Ev none e 84 (if r = 0 then 42 else 20) [some (.ref 0), some (.int c)] [] M v M' 0 0 := Ev.back 1 (fun n => rfl) H
  by_cases h1 : r = 0
  · rw [if_pos h1] at H
    have H : Ev none e 84 43 [some (.ref 0), some (.int c)] [.int (-1)] M v M' 0 0 := Ev.back 1 (fun n => rfl) H
    obtain ⟨z1, z2⟩ := Ev.retz rfl rfl H
    exact Or.inl ⟨h1, z1, z2⟩
  · rw [if_neg h1] at H
    have H : Ev none e 84 21 [some (.ref 0), some (.int c)] [.ref 0] M v M' 0 0 := Ev.back 1 (fun n => rfl) H
    have H : Ev none e 84 24 [some (.ref 0), some (.int c)] [.ref (fR M 0 2)] M v M' 0 0 := Ev.back 1 (gs_3 rfl rfl (gf_r hS.1 qa_0 qr_0_2 rfl)) H
    rw [hLd] at H
    have H : Ev none e 84 25 [some (.ref 0), some (.int c)] [.int c, .ref 8] M v M' 0 0 := Ev.back 1 (fun n => rfl) H
    obtain ⟨e1, rfl⟩ := Ev.dpos rfl rfl H
    obtain ⟨vK2, MK2, K2, H⟩ := Ev.callb (fun n_ => gs_7 rfl rfl (show gCal (.invokevirtual 117) 10 (.int c :: .ref 8 :: []) M = some (.inr (7, [some (.ref 8), some (.int c)], [])) from by show @cond (Option ((List Value × Mem) ⊕ (Nat × Lo × List Value))) (true && gRecv M (.ref 8) 1 && gRoom [] && true) (some (.inr (7, [some (.ref 8), some (.int c)], []))) none = _; rw [recv_s hS.1 qa_8 qo_8]; rfl)) H
    obtain ⟨pK2, qK2⟩ := g_7 hS qa_8 K2
    rw [pK2, qK2] at H
    have H : Ev none (e1 + 1) 84 28 [some (.ref 0), some (.int c)] [.int (G_7 M 8 c)] M v M' 0 0 := H
    have H : Ev none (e1 + 1) 84 (if (G_7 M 8 c) = 0 then 42 else 31) [some (.ref 0), some (.int c)] [] M v M' 0 0 := Ev.back 1 (fun n => rfl) H
    by_cases h3 : (G_7 M 8 c) = 0
    · rw [if_pos h3] at H
      have H : Ev none (e1 + 1) 84 43 [some (.ref 0), some (.int c)] [.int (-1)] M v M' 0 0 := Ev.back 1 (fun n => rfl) H
      obtain ⟨z1, z2⟩ := Ev.retz rfl rfl H
      exact Or.inr (Or.inl ⟨h1, h3, z1, z2⟩)
    · rw [if_neg h3] at H
      have H : Ev none (e1 + 1) 84 32 [some (.ref 0), some (.int c)] [.ref 0] M v M' 0 0 := Ev.back 1 (fun n => rfl) H
      have H : Ev none (e1 + 1) 84 35 [some (.ref 0), some (.int c)] [.ref (fR M 0 2)] M v M' 0 0 := Ev.back 1 (gs_3 rfl rfl (gf_r hS.1 qa_0 qr_0_2 rfl)) H
      rw [hLd] at H
      have H : Ev none (e1 + 1) 84 36 [some (.ref 0), some (.int c)] [.int c, .ref 8] M v M' 0 0 := Ev.back 1 (fun n => rfl) H
      obtain ⟨vK4, MK4, K4, H⟩ := Ev.callb (fun n_ => gs_7 rfl rfl (show gCal (.invokevirtual 120) 10 (.int c :: .ref 8 :: []) M = some (.inr (9, [some (.ref 8), some (.int c), none], [])) from by show @cond (Option ((List Value × Mem) ⊕ (Nat × Lo × List Value))) (true && gRecv M (.ref 8) 1 && gRoom [] && true) (some (.inr (9, [some (.ref 8), some (.int c), none], []))) none = _; rw [recv_s hS.1 qa_8 qo_8]; rfl)) H
      have K4 : Ev none e1 9 0 [some (.ref 8), some (.int c), none] [] M vK4 MK4 0 0 := K4
      have HF := H
      exact Or.inr (Or.inr (⟨h1, h3, ⟨e1, vK4, MK4, rfl, K4, HF⟩⟩))
theorem dor_39 {e : Nat} {M M' : Mem} {v : Option Value} {c r : Int32} (hS : SQ M) (hLd : fR M 0 2 = 8) (H : Ev none e 84 39 [some (.ref 0), some (.int c)] [.int r] M v M' 0 0) : (r = 0 ∧ (0 ≤ (zI M 8 11).toInt ∧ (zI M 8 11).toInt < 9) ∧ v = some (.int (zI M 8 11)) ∧ M' = (wF (wI M (8 + 9) ((zI M 8 11).toNatClampNeg) c) 8 11 ((zI M 8 11) + 1))) ∨ (¬ (r = 0) ∧ v = some (.int (-1)) ∧ M' = M) := by
  have H : Ev none e 84 (if r = 0 then 44 else 42) [some (.ref 0), some (.int c)] [] M v M' 0 0 := Ev.back 1 (fun n => rfl) H
  by_cases h1 : r = 0
  · rw [if_pos h1] at H
    have H : Ev none e 84 45 [some (.ref 0), some (.int c)] [.ref 0] M v M' 0 0 := Ev.back 1 (fun n => rfl) H
    have H : Ev none e 84 48 [some (.ref 0), some (.int c)] [.ref (fR M 0 2)] M v M' 0 0 := Ev.back 1 (gs_3 rfl rfl (gf_r hS.1 qa_0 qr_0_2 rfl)) H
    rw [hLd] at H
    have H : Ev none e 84 51 [some (.ref 0), some (.int c)] [.ref (8 + 9)] M v M' 0 0 := Ev.back 1 (gs_3 rfl rfl (gf_x hS.1 qa_8 qo_8 (fx_l10 hS qa_8) rfl)) H
    have H : Ev none e 84 52 [some (.ref 0), some (.int c)] [.ref 0, .ref (8 + 9)] M v M' 0 0 := Ev.back 1 (fun n => rfl) H
    have H : Ev none e 84 55 [some (.ref 0), some (.int c)] [.ref (fR M 0 2), .ref (8 + 9)] M v M' 0 0 := Ev.back 1 (gs_3 rfl rfl (gf_r hS.1 qa_0 qr_0_2 rfl)) H
    rw [hLd] at H
    have H : Ev none e 84 58 [some (.ref 0), some (.int c)] [.int (zI M 8 11), .ref (8 + 9)] M v M' 0 0 := Ev.back 1 (gs_3 rfl rfl (gf_i hS.1 qa_8 qi_8_11 rfl)) H
    have H : Ev none e 84 59 [some (.ref 0), some (.int c)] [.int c, .int (zI M 8 11), .ref (8 + 9)] M v M' 0 0 := Ev.back 1 (fun n => rfl) H
    obtain ⟨b2, H⟩ := Ev.ias rfl rfl hS.1 (fx_h10 qa_8) qw_17 H
    obtain ⟨N3, eN3⟩ : ∃ N, N = (wI M (8 + 9) ((zI M 8 11).toNatClampNeg) c) := ⟨_, rfl⟩
    have hN3 : SQ N3 := by rw [eN3]; exact hS.ki
    have H : Ev none e 84 60 [some (.ref 0), some (.int c)] [] N3 v M' 0 0 := by rw [eN3]; exact H
    have H : Ev none e 84 61 [some (.ref 0), some (.int c)] [.ref 0] N3 v M' 0 0 := Ev.back 1 (fun n => rfl) H
    have H : Ev none e 84 64 [some (.ref 0), some (.int c)] [.ref (fR N3 0 2)] N3 v M' 0 0 := Ev.back 1 (gs_3 rfl rfl (gf_r hN3.1 qa_0 qr_0_2 rfl)) H
    rw [show fR N3 0 2 = fR M 0 2 from by rw [eN3]; exact fR_wI] at H
    rw [hLd] at H
    have H : Ev none e 84 65 [some (.ref 0), some (.int c)] [.ref 8, .ref 8] N3 v M' 0 0 := Ev.back 1 (fun n => rfl) H
    have H : Ev none e 84 68 [some (.ref 0), some (.int c)] [.int (zI N3 8 11), .ref 8] N3 v M' 0 0 := Ev.back 1 (gs_3 rfl rfl (gf_i hN3.1 qa_8 qi_8_11 rfl)) H
    rw [show zI N3 8 11 = zI M 8 11 from by rw [eN3]; exact fI_wI] at H
    have H : Ev none e 84 71 [some (.ref 0), some (.int c)] [.int ((zI M 8 11) + 1), .ref 8, .int (zI M 8 11)] N3 v M' 0 0 := Ev.back 3 (fun n => rfl) H
    obtain ⟨N5, eN5⟩ : ∃ N, N = (wF N3 8 11 ((zI M 8 11) + 1)) := ⟨_, rfl⟩
    have hN5 : SQ N5 := by rw [eN5]; exact hN3.kf
    have H : Ev none e 84 74 [some (.ref 0), some (.int c)] [.int (zI M 8 11)] N5 v M' 0 0 := by rw [eN5]; exact Ev.pfi rfl rfl rfl hN3.1 qa_8 qi_8_11 H
    obtain ⟨z1, z2⟩ := Ev.retz rfl rfl H
    subst eN3 eN5
    exact Or.inl ⟨h1, b2, z1, z2⟩
  · rw [if_neg h1] at H
    have H : Ev none e 84 43 [some (.ref 0), some (.int c)] [.int (-1)] M v M' 0 0 := Ev.back 1 (fun n => rfl) H
    obtain ⟨z1, z2⟩ := Ev.retz rfl rfl H
    exact Or.inr (⟨h1, z1, z2⟩)
theorem wis_0 {e : Nat} {M M' : Mem} {v : Option Value} {a b h ev fi : Int32} (hS : SQ M) (hLd : fR M 0 2 = 8) (H : Ev none e 89 0 [some (.ref 0), some (.int a), some (.int b), some (.int h), some (.int ev), some (.int fi), none] [] M v M' 0 0) : ((zI M 8 13) = 24 ∧ v = some (.int (-1)) ∧ M' = M) ∨ (¬ ((zI M 8 13) = 24) ∧ (∃ e1 v1 M1, e = e1 + 1 ∧ Ev none e1 129 0 [some (.ref 0), some (.int a), some (.int b)] [] M v1 M1 0 0 ∧ Ev none e 89 18 [some (.ref 0), some (.int a), some (.int b), some (.int h), some (.int ev), some (.int fi), none] (v1.toList ++ []) M1 v M' 0 0)) := by
  have H : Ev none e 89 1 [some (.ref 0), some (.int a), some (.int b), some (.int h), some (.int ev), some (.int fi), none] [.ref 0] M v M' 0 0 := Ev.back 1 (fun n => rfl) H
  have H : Ev none e 89 4 [some (.ref 0), some (.int a), some (.int b), some (.int h), some (.int ev), some (.int fi), none] [.ref (fR M 0 2)] M v M' 0 0 := Ev.back 1 (gs_3 rfl rfl (gf_r hS.1 qa_0 qr_0_2 rfl)) H
  rw [hLd] at H
  have H : Ev none e 89 7 [some (.ref 0), some (.int a), some (.int b), some (.int h), some (.int ev), some (.int fi), none] [.int (zI M 8 13)] M v M' 0 0 := Ev.back 1 (gs_3 rfl rfl (gf_i hS.1 qa_8 qi_8_13 rfl)) H
  have H : Ev none e 89 (if (zI M 8 13) = 24 then 30 else 12) [some (.ref 0), some (.int a), some (.int b), some (.int h), some (.int ev), some (.int fi), none] [] M v M' 0 0 := Ev.back 2 (fun n => rfl) H
  by_cases h1 : (zI M 8 13) = 24
  · rw [if_pos h1] at H
    have H : Ev none e 89 31 [some (.ref 0), some (.int a), some (.int b), some (.int h), some (.int ev), some (.int fi), none] [.int (-1)] M v M' 0 0 := Ev.back 1 (fun n => rfl) H
    obtain ⟨z1, z2⟩ := Ev.retz rfl rfl H
    exact Or.inl ⟨h1, z1, z2⟩
  · rw [if_neg h1] at H
    have H : Ev none e 89 15 [some (.ref 0), some (.int a), some (.int b), some (.int h), some (.int ev), some (.int fi), none] [.int b, .int a, .ref 0] M v M' 0 0 := Ev.back 3 (fun n => rfl) H
    obtain ⟨e1, rfl⟩ := Ev.dpos rfl rfl H
    obtain ⟨vK2, MK2, K2, H⟩ := Ev.callb (fun n_ => gs_7 rfl rfl (show gCal (.invokevirtual 162) 10 (.int b :: .int a :: .ref 0 :: []) M = some (.inr (129, [some (.ref 0), some (.int a), some (.int b)], [])) from by show @cond (Option ((List Value × Mem) ⊕ (Nat × Lo × List Value))) (true && gRecv M (.ref 0) 10 && gRoom [] && true) (some (.inr (129, [some (.ref 0), some (.int a), some (.int b)], []))) none = _; rw [recv_s hS.1 qa_0 qo_0]; rfl)) H
    have K2 : Ev none e1 129 0 [some (.ref 0), some (.int a), some (.int b)] [] M vK2 MK2 0 0 := K2
    have HF := H
    exact Or.inr (⟨h1, ⟨e1, vK2, MK2, rfl, K2, HF⟩⟩)
theorem wis_18 {e : Nat} {M M' : Mem} {v : Option Value} {a b h ev fi r : Int32} (hS : SQ M) (hLd : fR M 0 2 = 8) (H : Ev none e 89 18 [some (.ref 0), some (.int a), some (.int b), some (.int h), some (.int ev), some (.int fi), none] [.int r] M v M' 0 0) : (r = 0 ∧ v = some (.int (-1)) ∧ M' = M) ∨ (¬ (r = 0) ∧ (G_126 M h 0 5) = 0 ∧ v = some (.int (-1)) ∧ M' = M) ∨ (¬ (r = 0) ∧ ¬ ((G_126 M h 0 5) = 0) ∧ (G_126 M ev 1 200) = 0 ∧ v = some (.int (-1)) ∧ M' = M) ∨ (¬ (r = 0) ∧ ¬ ((G_126 M h 0 5) = 0) ∧ ¬ ((G_126 M ev 1 200) = 0) ∧ (G_126 M fi 0 60000) = 0 ∧ v = some (.int (-1)) ∧ M' = M) ∨ (¬ (r = 0) ∧ ¬ ((G_126 M h 0 5) = 0) ∧ ¬ ((G_126 M ev 1 200) = 0) ∧ ¬ ((G_126 M fi 0 60000) = 0) ∧ (0 ≤ (zI M 8 13).toInt ∧ (zI M 8 13).toInt < 24) ∧ Ev none e 89 74 [some (.ref 0), some (.int a), some (.int b), some (.int h), some (.int ev), some (.int fi), some (.ref (oI M (8 + 10) (zI M 8 13)))] [] M v M' 0 0) := by
  have H : Ev none e 89 (if r = 0 then 30 else 21) [some (.ref 0), some (.int a), some (.int b), some (.int h), some (.int ev), some (.int fi), none] [] M v M' 0 0 := Ev.back 1 (fun n => rfl) H
  by_cases h1 : r = 0
  · rw [if_pos h1] at H
    have H : Ev none e 89 31 [some (.ref 0), some (.int a), some (.int b), some (.int h), some (.int ev), some (.int fi), none] [.int (-1)] M v M' 0 0 := Ev.back 1 (fun n => rfl) H
    obtain ⟨z1, z2⟩ := Ev.retz rfl rfl H
    exact Or.inl ⟨h1, z1, z2⟩
  · rw [if_neg h1] at H
    have H : Ev none e 89 24 [some (.ref 0), some (.int a), some (.int b), some (.int h), some (.int ev), some (.int fi), none] [.int 5, .int 0, .int h] M v M' 0 0 := Ev.back 3 (fun n => rfl) H
    obtain ⟨e1, rfl⟩ := Ev.dpos rfl rfl H
    obtain ⟨vK2, MK2, K2, H⟩ := Ev.callb (fun n => rfl) H
    obtain ⟨pK2, qK2⟩ := g_126 hS K2
    rw [pK2, qK2] at H
    have H : Ev none (e1 + 1) 89 27 [some (.ref 0), some (.int a), some (.int b), some (.int h), some (.int ev), some (.int fi), none] [.int (G_126 M h 0 5)] M v M' 0 0 := H
    have H : Ev none (e1 + 1) 89 (if (G_126 M h 0 5) = 0 then 30 else 32) [some (.ref 0), some (.int a), some (.int b), some (.int h), some (.int ev), some (.int fi), none] [] M v M' 0 0 := Ev.back 1 (fun n => rfl) H
    by_cases h3 : (G_126 M h 0 5) = 0
    · rw [if_pos h3] at H
      have H : Ev none (e1 + 1) 89 31 [some (.ref 0), some (.int a), some (.int b), some (.int h), some (.int ev), some (.int fi), none] [.int (-1)] M v M' 0 0 := Ev.back 1 (fun n => rfl) H
      obtain ⟨z1, z2⟩ := Ev.retz rfl rfl H
      exact Or.inr (Or.inl ⟨h1, h3, z1, z2⟩)
    · rw [if_neg h3] at H
      have H : Ev none (e1 + 1) 89 38 [some (.ref 0), some (.int a), some (.int b), some (.int h), some (.int ev), some (.int fi), none] [.int 200, .int 1, .int ev] M v M' 0 0 := Ev.back 3 (fun n => rfl) H
      obtain ⟨vK4, MK4, K4, H⟩ := Ev.callb (fun n => rfl) H
      obtain ⟨pK4, qK4⟩ := g_126 hS K4
      rw [pK4, qK4] at H
      have H : Ev none (e1 + 1) 89 41 [some (.ref 0), some (.int a), some (.int b), some (.int h), some (.int ev), some (.int fi), none] [.int (G_126 M ev 1 200)] M v M' 0 0 := H
      have H : Ev none (e1 + 1) 89 (if (G_126 M ev 1 200) = 0 then 55 else 44) [some (.ref 0), some (.int a), some (.int b), some (.int h), some (.int ev), some (.int fi), none] [] M v M' 0 0 := Ev.back 1 (fun n => rfl) H
      by_cases h5 : (G_126 M ev 1 200) = 0
      · rw [if_pos h5] at H
        have H : Ev none (e1 + 1) 89 56 [some (.ref 0), some (.int a), some (.int b), some (.int h), some (.int ev), some (.int fi), none] [.int (-1)] M v M' 0 0 := Ev.back 1 (fun n => rfl) H
        obtain ⟨z1, z2⟩ := Ev.retz rfl rfl H
        exact Or.inr (Or.inr (Or.inl ⟨h1, h3, h5, z1, z2⟩))
      · rw [if_neg h5] at H
        have H : Ev none (e1 + 1) 89 49 [some (.ref 0), some (.int a), some (.int b), some (.int h), some (.int ev), some (.int fi), none] [.int 60000, .int 0, .int fi] M v M' 0 0 := Ev.back 3 (fun n => rfl) H
        obtain ⟨vK6, MK6, K6, H⟩ := Ev.callb (fun n => rfl) H
        obtain ⟨pK6, qK6⟩ := g_126 hS K6
        rw [pK6, qK6] at H
        have H : Ev none (e1 + 1) 89 52 [some (.ref 0), some (.int a), some (.int b), some (.int h), some (.int ev), some (.int fi), none] [.int (G_126 M fi 0 60000)] M v M' 0 0 := H
        have H : Ev none (e1 + 1) 89 (if (G_126 M fi 0 60000) = 0 then 55 else 57) [some (.ref 0), some (.int a), some (.int b), some (.int h), some (.int ev), some (.int fi), none] [] M v M' 0 0 := Ev.back 1 (fun n => rfl) H
        by_cases h7 : (G_126 M fi 0 60000) = 0
        · rw [if_pos h7] at H
          have H : Ev none (e1 + 1) 89 56 [some (.ref 0), some (.int a), some (.int b), some (.int h), some (.int ev), some (.int fi), none] [.int (-1)] M v M' 0 0 := Ev.back 1 (fun n => rfl) H
          obtain ⟨z1, z2⟩ := Ev.retz rfl rfl H
          exact Or.inr (Or.inr (Or.inr (Or.inl ⟨h1, h3, h5, h7, z1, z2⟩)))
        · rw [if_neg h7] at H
          have H : Ev none (e1 + 1) 89 58 [some (.ref 0), some (.int a), some (.int b), some (.int h), some (.int ev), some (.int fi), none] [.ref 0] M v M' 0 0 := Ev.back 1 (fun n => rfl) H
          have H : Ev none (e1 + 1) 89 61 [some (.ref 0), some (.int a), some (.int b), some (.int h), some (.int ev), some (.int fi), none] [.ref (fR M 0 2)] M v M' 0 0 := Ev.back 1 (gs_3 rfl rfl (gf_r hS.1 qa_0 qr_0_2 rfl)) H
          rw [hLd] at H
          have H : Ev none (e1 + 1) 89 64 [some (.ref 0), some (.int a), some (.int b), some (.int h), some (.int ev), some (.int fi), none] [.ref (8 + 10)] M v M' 0 0 := Ev.back 1 (gs_3 rfl rfl (gf_x hS.1 qa_8 qo_8 (fx_l12 hS qa_8) rfl)) H
          have H : Ev none (e1 + 1) 89 65 [some (.ref 0), some (.int a), some (.int b), some (.int h), some (.int ev), some (.int fi), none] [.ref 0, .ref (8 + 10)] M v M' 0 0 := Ev.back 1 (fun n => rfl) H
          have H : Ev none (e1 + 1) 89 68 [some (.ref 0), some (.int a), some (.int b), some (.int h), some (.int ev), some (.int fi), none] [.ref (fR M 0 2), .ref (8 + 10)] M v M' 0 0 := Ev.back 1 (gs_3 rfl rfl (gf_r hS.1 qa_0 qr_0_2 rfl)) H
          rw [hLd] at H
          have H : Ev none (e1 + 1) 89 71 [some (.ref 0), some (.int a), some (.int b), some (.int h), some (.int ev), some (.int fi), none] [.int (zI M 8 13), .ref (8 + 10)] M v M' 0 0 := Ev.back 1 (gs_3 rfl rfl (gf_i hS.1 qa_8 qi_8_13 rfl)) H
          obtain ⟨b8, H⟩ := Ev.aal rfl rfl hS.1 (fx_h12 qa_8) qz_18 H
          have H : Ev none (e1 + 1) 89 72 [some (.ref 0), some (.int a), some (.int b), some (.int h), some (.int ev), some (.int fi), none] [.ref (oI M (8 + 10) (zI M 8 13))] M v M' 0 0 := H
          have H : Ev none (e1 + 1) 89 74 [some (.ref 0), some (.int a), some (.int b), some (.int h), some (.int ev), some (.int fi), some (.ref (oI M (8 + 10) (zI M 8 13)))] [] M v M' 0 0 := Ev.back 1 (fun n => rfl) H
          have HF := H
          exact Or.inr (Or.inr (Or.inr (Or.inr (⟨h1, h3, h5, h7, b8.1, HF⟩))))
theorem wis_74 {e : Nat} {M M' : Mem} {v : Option Value} {a b h ev fi : Int32} {x : Nat} (hS : SQ M) (a_x : gNth sT x = some 20) (hLd : fR M 0 2 = 8) (H : Ev none e 89 74 [some (.ref 0), some (.int a), some (.int b), some (.int h), some (.int ev), some (.int fi), some (.ref x)] [] M v M' 0 0) : v = some (.int (zI M 8 13)) ∧ M' = (wF (wF (wF (wF (wF (wF (wF M x 0 a) x 1 b) x 2 h) x 3 ev) x 4 fi) x 5 1) 8 13 ((zI M 8 13) + 1)) := by
  have H : Ev none e 89 77 [some (.ref 0), some (.int a), some (.int b), some (.int h), some (.int ev), some (.int fi), some (.ref x)] [.int a, .ref x] M v M' 0 0 := Ev.back 2 (fun n => rfl) H
  obtain ⟨N2, eN2⟩ : ∃ N, N = (wF M x 0 a) := ⟨_, rfl⟩
  have hN2 : SQ N2 := by rw [eN2]; exact hS.kf
  have H : Ev none e 89 80 [some (.ref 0), some (.int a), some (.int b), some (.int h), some (.int ev), some (.int fi), some (.ref x)] [] N2 v M' 0 0 := by rw [eN2]; exact Ev.pfi rfl rfl rfl hS.1 a_x qi_20_0 H
  have H : Ev none e 89 83 [some (.ref 0), some (.int a), some (.int b), some (.int h), some (.int ev), some (.int fi), some (.ref x)] [.int b, .ref x] N2 v M' 0 0 := Ev.back 2 (fun n => rfl) H
  obtain ⟨N4, eN4⟩ : ∃ N, N = (wF N2 x 1 b) := ⟨_, rfl⟩
  have hN4 : SQ N4 := by rw [eN4]; exact hN2.kf
  have H : Ev none e 89 86 [some (.ref 0), some (.int a), some (.int b), some (.int h), some (.int ev), some (.int fi), some (.ref x)] [] N4 v M' 0 0 := by rw [eN4]; exact Ev.pfi rfl rfl rfl hN2.1 a_x qi_20_1 H
  have H : Ev none e 89 89 [some (.ref 0), some (.int a), some (.int b), some (.int h), some (.int ev), some (.int fi), some (.ref x)] [.int h, .ref x] N4 v M' 0 0 := Ev.back 2 (fun n => rfl) H
  obtain ⟨N6, eN6⟩ : ∃ N, N = (wF N4 x 2 h) := ⟨_, rfl⟩
  have hN6 : SQ N6 := by rw [eN6]; exact hN4.kf
  have H : Ev none e 89 92 [some (.ref 0), some (.int a), some (.int b), some (.int h), some (.int ev), some (.int fi), some (.ref x)] [] N6 v M' 0 0 := by rw [eN6]; exact Ev.pfi rfl rfl rfl hN4.1 a_x qi_20_2 H
  have H : Ev none e 89 96 [some (.ref 0), some (.int a), some (.int b), some (.int h), some (.int ev), some (.int fi), some (.ref x)] [.int ev, .ref x] N6 v M' 0 0 := Ev.back 2 (fun n => rfl) H
  obtain ⟨N8, eN8⟩ : ∃ N, N = (wF N6 x 3 ev) := ⟨_, rfl⟩
  have hN8 : SQ N8 := by rw [eN8]; exact hN6.kf
  have H : Ev none e 89 99 [some (.ref 0), some (.int a), some (.int b), some (.int h), some (.int ev), some (.int fi), some (.ref x)] [] N8 v M' 0 0 := by rw [eN8]; exact Ev.pfi rfl rfl rfl hN6.1 a_x qi_20_3 H
  have H : Ev none e 89 103 [some (.ref 0), some (.int a), some (.int b), some (.int h), some (.int ev), some (.int fi), some (.ref x)] [.int fi, .ref x] N8 v M' 0 0 := Ev.back 2 (fun n => rfl) H
  obtain ⟨N10, eN10⟩ : ∃ N, N = (wF N8 x 4 fi) := ⟨_, rfl⟩
  have hN10 : SQ N10 := by rw [eN10]; exact hN8.kf
  have H : Ev none e 89 106 [some (.ref 0), some (.int a), some (.int b), some (.int h), some (.int ev), some (.int fi), some (.ref x)] [] N10 v M' 0 0 := by rw [eN10]; exact Ev.pfi rfl rfl rfl hN8.1 a_x qi_20_4 H
  have H : Ev none e 89 109 [some (.ref 0), some (.int a), some (.int b), some (.int h), some (.int ev), some (.int fi), some (.ref x)] [.int 1, .ref x] N10 v M' 0 0 := Ev.back 2 (fun n => rfl) H
  obtain ⟨N12, eN12⟩ : ∃ N, N = (wF N10 x 5 1) := ⟨_, rfl⟩
  have hN12 : SQ N12 := by rw [eN12]; exact hN10.kf
  have H : Ev none e 89 112 [some (.ref 0), some (.int a), some (.int b), some (.int h), some (.int ev), some (.int fi), some (.ref x)] [] N12 v M' 0 0 := by rw [eN12]; exact Ev.pfi rfl rfl rfl hN10.1 a_x qi_20_5 H
  have H : Ev none e 89 113 [some (.ref 0), some (.int a), some (.int b), some (.int h), some (.int ev), some (.int fi), some (.ref x)] [.ref 0] N12 v M' 0 0 := Ev.back 1 (fun n => rfl) H
  have H : Ev none e 89 116 [some (.ref 0), some (.int a), some (.int b), some (.int h), some (.int ev), some (.int fi), some (.ref x)] [.ref (fR N12 0 2)] N12 v M' 0 0 := Ev.back 1 (gs_3 rfl rfl (gf_r hN12.1 qa_0 qr_0_2 rfl)) H
  rw [(((((show fR N12 0 2 = fR N10 0 2 from by rw [eN12]; exact fR_wF).trans (show fR N10 0 2 = fR N8 0 2 from by rw [eN10]; exact fR_wF)).trans (show fR N8 0 2 = fR N6 0 2 from by rw [eN8]; exact fR_wF)).trans (show fR N6 0 2 = fR N4 0 2 from by rw [eN6]; exact fR_wF)).trans (show fR N4 0 2 = fR N2 0 2 from by rw [eN4]; exact fR_wF)).trans (show fR N2 0 2 = fR M 0 2 from by rw [eN2]; exact fR_wF)] at H
  have hx13 : gNth sT (fR M 0 2) = some 8 := by rw [← (((((show fR N12 0 2 = fR N10 0 2 from by rw [eN12]; exact fR_wF).trans (show fR N10 0 2 = fR N8 0 2 from by rw [eN10]; exact fR_wF)).trans (show fR N8 0 2 = fR N6 0 2 from by rw [eN8]; exact fR_wF)).trans (show fR N6 0 2 = fR N4 0 2 from by rw [eN6]; exact fR_wF)).trans (show fR N4 0 2 = fR N2 0 2 from by rw [eN4]; exact fR_wF)).trans (show fR N2 0 2 = fR M 0 2 from by rw [eN2]; exact fR_wF)]; exact (hN12.1.fr qa_0 qr_0_2).2
  rw [hLd] at H
  have H : Ev none e 89 117 [some (.ref 0), some (.int a), some (.int b), some (.int h), some (.int ev), some (.int fi), some (.ref x)] [.ref 8, .ref 8] N12 v M' 0 0 := Ev.back 1 (fun n => rfl) H
  have H : Ev none e 89 120 [some (.ref 0), some (.int a), some (.int b), some (.int h), some (.int ev), some (.int fi), some (.ref x)] [.int (zI N12 8 13), .ref 8] N12 v M' 0 0 := Ev.back 1 (gs_3 rfl rfl (gf_i hN12.1 qa_8 qi_8_13 rfl)) H
  rw [(((((show zI N12 8 13 = zI N10 8 13 from by rw [eN12]; exact fI_wF_ne (fun q => absurd q.2 (by decide))).trans (show zI N10 8 13 = zI N8 8 13 from by rw [eN10]; exact fI_wF_ne (fun q => absurd q.2 (by decide)))).trans (show zI N8 8 13 = zI N6 8 13 from by rw [eN8]; exact fI_wF_ne (fun q => absurd q.2 (by decide)))).trans (show zI N6 8 13 = zI N4 8 13 from by rw [eN6]; exact fI_wF_ne (fun q => absurd q.2 (by decide)))).trans (show zI N4 8 13 = zI N2 8 13 from by rw [eN4]; exact fI_wF_ne (fun q => absurd q.2 (by decide)))).trans (show zI N2 8 13 = zI M 8 13 from by rw [eN2]; exact fI_wF_ne (fun q => absurd q.2 (by decide)))] at H
  have H : Ev none e 89 123 [some (.ref 0), some (.int a), some (.int b), some (.int h), some (.int ev), some (.int fi), some (.ref x)] [.int ((zI M 8 13) + 1), .ref 8, .int (zI M 8 13)] N12 v M' 0 0 := Ev.back 3 (fun n => rfl) H
  obtain ⟨N15, eN15⟩ : ∃ N, N = (wF N12 8 13 ((zI M 8 13) + 1)) := ⟨_, rfl⟩
  have hN15 : SQ N15 := by rw [eN15]; exact hN12.kf
  have H : Ev none e 89 126 [some (.ref 0), some (.int a), some (.int b), some (.int h), some (.int ev), some (.int fi), some (.ref x)] [.int (zI M 8 13)] N15 v M' 0 0 := by rw [eN15]; exact Ev.pfi rfl rfl rfl hN12.1 qa_8 qi_8_13 H
  obtain ⟨z1, z2⟩ := Ev.retz rfl rfl H
  subst eN2 eN4 eN6 eN8 eN10 eN12 eN15
  exact ⟨z1, z2⟩
theorem drp_0 {e : Nat} {M M' : Mem} {v : Option Value} {k : Int32} (hS : SQ M) (hLd : fR M 0 2 = 8) (H : Ev none e 90 0 [some (.ref 0), some (.int k)] [] M v M' 0 0) : (∃ e1 v1 M1, e = e1 + 1 ∧ Ev none e1 130 0 [some (.ref 0), some (.int k)] [] M v1 M1 0 0 ∧ Ev none e 90 5 [some (.ref 0), some (.int k)] (v1.toList ++ []) M1 v M' 0 0) := by
  have H : Ev none e 90 2 [some (.ref 0), some (.int k)] [.int k, .ref 0] M v M' 0 0 := Ev.back 2 (fun n => rfl) H
  obtain ⟨e1, rfl⟩ := Ev.dpos rfl rfl H
  obtain ⟨vK1, MK1, K1, H⟩ := Ev.callb (fun n_ => gs_7 rfl rfl (show gCal (.invokevirtual 191) 10 (.int k :: .ref 0 :: []) M = some (.inr (130, [some (.ref 0), some (.int k)], [])) from by show @cond (Option ((List Value × Mem) ⊕ (Nat × Lo × List Value))) (true && gRecv M (.ref 0) 10 && gRoom [] && true) (some (.inr (130, [some (.ref 0), some (.int k)], []))) none = _; rw [recv_s hS.1 qa_0 qo_0]; rfl)) H
  have K1 : Ev none e1 130 0 [some (.ref 0), some (.int k)] [] M vK1 MK1 0 0 := K1
  have HF := H
  exact ⟨e1, vK1, MK1, rfl, K1, HF⟩
theorem drp_5 {e : Nat} {M M' : Mem} {v : Option Value} {k r : Int32} (hS : SQ M) (hLd : fR M 0 2 = 8) (H : Ev none e 90 5 [some (.ref 0), some (.int k)] [.int r] M v M' 0 0) : (r = 0 ∧ v = some (.int 0) ∧ M' = M) ∨ (¬ (r = 0) ∧ (0 ≤ k.toInt ∧ k.toInt < 24) ∧ v = some (.int 1) ∧ M' = (wF M (oI M (8 + 10) k) 5 0)) := by
  have H : Ev none e 90 (if r = 0 then 8 else 10) [some (.ref 0), some (.int k)] [] M v M' 0 0 := Ev.back 1 (fun n => rfl) H
  by_cases h1 : r = 0
  · rw [if_pos h1] at H
    have H : Ev none e 90 9 [some (.ref 0), some (.int k)] [.int 0] M v M' 0 0 := Ev.back 1 (fun n => rfl) H
    obtain ⟨z1, z2⟩ := Ev.retz rfl rfl H
    exact Or.inl ⟨h1, z1, z2⟩
  · rw [if_neg h1] at H
    have H : Ev none e 90 11 [some (.ref 0), some (.int k)] [.ref 0] M v M' 0 0 := Ev.back 1 (fun n => rfl) H
    have H : Ev none e 90 14 [some (.ref 0), some (.int k)] [.ref (fR M 0 2)] M v M' 0 0 := Ev.back 1 (gs_3 rfl rfl (gf_r hS.1 qa_0 qr_0_2 rfl)) H
    rw [hLd] at H
    have H : Ev none e 90 17 [some (.ref 0), some (.int k)] [.ref (8 + 10)] M v M' 0 0 := Ev.back 1 (gs_3 rfl rfl (gf_x hS.1 qa_8 qo_8 (fx_l12 hS qa_8) rfl)) H
    have H : Ev none e 90 18 [some (.ref 0), some (.int k)] [.int k, .ref (8 + 10)] M v M' 0 0 := Ev.back 1 (fun n => rfl) H
    obtain ⟨b2, H⟩ := Ev.aal rfl rfl hS.1 (fx_h12 qa_8) qz_18 H
    have H : Ev none e 90 19 [some (.ref 0), some (.int k)] [.ref (oI M (8 + 10) k)] M v M' 0 0 := H
    have H : Ev none e 90 20 [some (.ref 0), some (.int k)] [.int 0, .ref (oI M (8 + 10) k)] M v M' 0 0 := Ev.back 1 (fun n => rfl) H
    obtain ⟨N4, eN4⟩ : ∃ N, N = (wF M (oI M (8 + 10) k) 5 0) := ⟨_, rfl⟩
    have hN4 : SQ N4 := by rw [eN4]; exact hS.kf
    have H : Ev none e 90 23 [some (.ref 0), some (.int k)] [] N4 v M' 0 0 := by rw [eN4]; exact Ev.pfi rfl rfl rfl hS.1 b2.2 qi_20_5 H
    have H : Ev none e 90 24 [some (.ref 0), some (.int k)] [.int 1] N4 v M' 0 0 := Ev.back 1 (fun n => rfl) H
    obtain ⟨z1, z2⟩ := Ev.retz rfl rfl H
    subst eN4
    exact Or.inr (⟨h1, b2.1, z1, z2⟩)
theorem rnn_0 {e : Nat} {M M' : Mem} {v : Option Value} {t : Int32} (hS : SQ M) (hLd : fR M 0 2 = 8) (H : Ev none e 91 0 [some (.ref 0), some (.int t)] [] M v M' 0 0) : ((G_126 M t 1 400) = 0 ∧ v = some (.int (-1)) ∧ M' = M) ∨ (¬ ((G_126 M t 1 400) = 0) ∧ ((zI M 8 16) + t) ≤ 60000 ∧ (∃ e1 v1 M1, e = e1 + 1 ∧ Ev none e1 54 0 [some (.ref 104), some (.ref 8)] [] M v1 M1 0 0 ∧ Ev none e 91 38 [some (.ref 0), some (.int t)] (v1.toList ++ []) M1 v M' 0 0)) ∨ (¬ ((G_126 M t 1 400) = 0) ∧ ¬ (((zI M 8 16) + t) ≤ 60000) ∧ v = some (.int (-1)) ∧ M' = M) := by
  have H : Ev none e 91 5 [some (.ref 0), some (.int t)] [.int 400, .int 1, .int t] M v M' 0 0 := Ev.back 3 (fun n => rfl) H
  obtain ⟨e1, rfl⟩ := Ev.dpos rfl rfl H
  obtain ⟨vK1, MK1, K1, H⟩ := Ev.callb (fun n => rfl) H
  obtain ⟨pK1, qK1⟩ := g_126 hS K1
  rw [pK1, qK1] at H
  have H : Ev none (e1 + 1) 91 8 [some (.ref 0), some (.int t)] [.int (G_126 M t 1 400)] M v M' 0 0 := H
  have H : Ev none (e1 + 1) 91 (if (G_126 M t 1 400) = 0 then 25 else 11) [some (.ref 0), some (.int t)] [] M v M' 0 0 := Ev.back 1 (fun n => rfl) H
  by_cases h2 : (G_126 M t 1 400) = 0
  · rw [if_pos h2] at H
    have H : Ev none (e1 + 1) 91 26 [some (.ref 0), some (.int t)] [.int (-1)] M v M' 0 0 := Ev.back 1 (fun n => rfl) H
    obtain ⟨z1, z2⟩ := Ev.retz rfl rfl H
    exact Or.inl ⟨h2, z1, z2⟩
  · rw [if_neg h2] at H
    have H : Ev none (e1 + 1) 91 12 [some (.ref 0), some (.int t)] [.ref 0] M v M' 0 0 := Ev.back 1 (fun n => rfl) H
    have H : Ev none (e1 + 1) 91 15 [some (.ref 0), some (.int t)] [.ref (fR M 0 2)] M v M' 0 0 := Ev.back 1 (gs_3 rfl rfl (gf_r hS.1 qa_0 qr_0_2 rfl)) H
    rw [hLd] at H
    have H : Ev none (e1 + 1) 91 18 [some (.ref 0), some (.int t)] [.int (zI M 8 16)] M v M' 0 0 := Ev.back 1 (gs_3 rfl rfl (gf_i hS.1 qa_8 qi_8_16 rfl)) H
    have H : Ev none (e1 + 1) 91 (if ((zI M 8 16) + t) ≤ 60000 then 27 else 25) [some (.ref 0), some (.int t)] [] M v M' 0 0 := Ev.back 4 (fun n => rfl) H
    by_cases h3 : ((zI M 8 16) + t) ≤ 60000
    · rw [if_pos h3] at H
      have H : Ev none (e1 + 1) 91 28 [some (.ref 0), some (.int t)] [.ref 0] M v M' 0 0 := Ev.back 1 (fun n => rfl) H
      have H : Ev none (e1 + 1) 91 31 [some (.ref 0), some (.int t)] [.ref 104] M v M' 0 0 := Ev.back 1 (gs_3 rfl rfl (gf_u hS.1 qa_0 qr_0_3 qu_22 rfl)) H
      have H : Ev none (e1 + 1) 91 32 [some (.ref 0), some (.int t)] [.ref 0, .ref 104] M v M' 0 0 := Ev.back 1 (fun n => rfl) H
      have H : Ev none (e1 + 1) 91 35 [some (.ref 0), some (.int t)] [.ref (fR M 0 2), .ref 104] M v M' 0 0 := Ev.back 1 (gs_3 rfl rfl (gf_r hS.1 qa_0 qr_0_2 rfl)) H
      rw [hLd] at H
      obtain ⟨vK4, MK4, K4, H⟩ := Ev.callb (fun n_ => gs_7 rfl rfl (show gCal (.invokevirtual 197) 10 (.ref 8 :: .ref 104 :: []) M = some (.inr (54, [some (.ref 104), some (.ref 8)], [])) from by show @cond (Option ((List Value × Mem) ⊕ (Nat × Lo × List Value))) (true && gRecv M (.ref 104) 7 && gRoom [] && true) (some (.inr (54, [some (.ref 104), some (.ref 8)], []))) none = _; rw [recv_s hS.1 qa_104 qo_22]; rfl)) H
      have K4 : Ev none e1 54 0 [some (.ref 104), some (.ref 8)] [] M vK4 MK4 0 0 := K4
      have HF := H
      exact Or.inr (Or.inl ⟨h2, h3, ⟨e1, vK4, MK4, rfl, K4, HF⟩⟩)
    · rw [if_neg h3] at H
      have H : Ev none (e1 + 1) 91 26 [some (.ref 0), some (.int t)] [.int (-1)] M v M' 0 0 := Ev.back 1 (fun n => rfl) H
      obtain ⟨z1, z2⟩ := Ev.retz rfl rfl H
      exact Or.inr (Or.inr (⟨h2, h3, z1, z2⟩))
theorem rnn_38 {e : Nat} {M M' : Mem} {v : Option Value} {t : Int32} (hS : SQ M) (H : Ev none e 91 38 [some (.ref 0), some (.int t)] [] M v M' 0 0) : (∃ e1 v1 M1, e = e1 + 1 ∧ Ev none e1 58 0 [some (.ref 104), some (.int t), none, none, none, none, none, none, none] [] M v1 M1 0 0 ∧ Ev none e 91 46 [some (.ref 0), some (.int t)] (v1.toList ++ []) M1 v M' 0 0) := by
  have H : Ev none e 91 39 [some (.ref 0), some (.int t)] [.ref 0] M v M' 0 0 := Ev.back 1 (fun n => rfl) H
  have H : Ev none e 91 42 [some (.ref 0), some (.int t)] [.ref 104] M v M' 0 0 := Ev.back 1 (gs_3 rfl rfl (gf_u hS.1 qa_0 qr_0_3 qu_22 rfl)) H
  have H : Ev none e 91 43 [some (.ref 0), some (.int t)] [.int t, .ref 104] M v M' 0 0 := Ev.back 1 (fun n => rfl) H
  obtain ⟨e1, rfl⟩ := Ev.dpos rfl rfl H
  obtain ⟨vK1, MK1, K1, H⟩ := Ev.callb (fun n_ => gs_7 rfl rfl (show gCal (.invokevirtual 200) 10 (.int t :: .ref 104 :: []) M = some (.inr (58, [some (.ref 104), some (.int t), none, none, none, none, none, none, none], [])) from by show @cond (Option ((List Value × Mem) ⊕ (Nat × Lo × List Value))) (true && gRecv M (.ref 104) 7 && gRoom [] && true) (some (.inr (58, [some (.ref 104), some (.int t), none, none, none, none, none, none, none], []))) none = _; rw [recv_s hS.1 qa_104 qo_22]; rfl)) H
  have K1 : Ev none e1 58 0 [some (.ref 104), some (.int t), none, none, none, none, none, none, none] [] M vK1 MK1 0 0 := K1
  have HF := H
  exact ⟨e1, vK1, MK1, rfl, K1, HF⟩
theorem rnn_46 {e : Nat} {M M' : Mem} {v : Option Value} {t r : Int32} (hS : SQ M) (H : Ev none e 91 46 [some (.ref 0), some (.int t)] [.int r] M v M' 0 0) : v = some (.int r) ∧ M' = M := by
  obtain ⟨z1, z2⟩ := Ev.retz rfl rfl H
  exact ⟨z1, z2⟩
theorem wkk_0 {e : Nat} {M M' : Mem} {v : Option Value} (hS : SQ M) (hLd : fR M 0 2 = 8) (H : Ev none e 92 0 [some (.ref 0)] [] M v M' 0 0) : (∃ e1 v1 M1, e = e1 + 1 ∧ Ev none e1 54 0 [some (.ref 104), some (.ref 8)] [] M v1 M1 0 0 ∧ Ev none e 92 11 [some (.ref 0)] (v1.toList ++ []) M1 v M' 0 0) := by
  have H : Ev none e 92 1 [some (.ref 0)] [.ref 0] M v M' 0 0 := Ev.back 1 (fun n => rfl) H
  have H : Ev none e 92 4 [some (.ref 0)] [.ref 104] M v M' 0 0 := Ev.back 1 (gs_3 rfl rfl (gf_u hS.1 qa_0 qr_0_3 qu_22 rfl)) H
  have H : Ev none e 92 5 [some (.ref 0)] [.ref 0, .ref 104] M v M' 0 0 := Ev.back 1 (fun n => rfl) H
  have H : Ev none e 92 8 [some (.ref 0)] [.ref (fR M 0 2), .ref 104] M v M' 0 0 := Ev.back 1 (gs_3 rfl rfl (gf_r hS.1 qa_0 qr_0_2 rfl)) H
  rw [hLd] at H
  obtain ⟨e1, rfl⟩ := Ev.dpos rfl rfl H
  obtain ⟨vK1, MK1, K1, H⟩ := Ev.callb (fun n_ => gs_7 rfl rfl (show gCal (.invokevirtual 197) 10 (.ref 8 :: .ref 104 :: []) M = some (.inr (54, [some (.ref 104), some (.ref 8)], [])) from by show @cond (Option ((List Value × Mem) ⊕ (Nat × Lo × List Value))) (true && gRecv M (.ref 104) 7 && gRoom [] && true) (some (.inr (54, [some (.ref 104), some (.ref 8)], []))) none = _; rw [recv_s hS.1 qa_104 qo_22]; rfl)) H
  have K1 : Ev none e1 54 0 [some (.ref 104), some (.ref 8)] [] M vK1 MK1 0 0 := K1
  have HF := H
  exact ⟨e1, vK1, MK1, rfl, K1, HF⟩
theorem wkk_11 {e : Nat} {M M' : Mem} {v : Option Value} (hS : SQ M) (H : Ev none e 92 11 [some (.ref 0)] [] M v M' 0 0) : (∃ e1 v1 M1, e = e1 + 1 ∧ Ev none e1 63 0 [some (.ref 104), none, none] [] M v1 M1 0 0 ∧ Ev none e 92 18 [some (.ref 0)] (v1.toList ++ []) M1 v M' 0 0) := by
  have H : Ev none e 92 12 [some (.ref 0)] [.ref 0] M v M' 0 0 := Ev.back 1 (fun n => rfl) H
  have H : Ev none e 92 15 [some (.ref 0)] [.ref 104] M v M' 0 0 := Ev.back 1 (gs_3 rfl rfl (gf_u hS.1 qa_0 qr_0_3 qu_22 rfl)) H
  obtain ⟨e1, rfl⟩ := Ev.dpos rfl rfl H
  obtain ⟨vK1, MK1, K1, H⟩ := Ev.callb (fun n_ => gs_7 rfl rfl (show gCal (.invokevirtual 204) 10 (.ref 104 :: []) M = some (.inr (63, [some (.ref 104), none, none], [])) from by show @cond (Option ((List Value × Mem) ⊕ (Nat × Lo × List Value))) (true && gRecv M (.ref 104) 7 && gRoom [] && true) (some (.inr (63, [some (.ref 104), none, none], []))) none = _; rw [recv_s hS.1 qa_104 qo_22]; rfl)) H
  have K1 : Ev none e1 63 0 [some (.ref 104), none, none] [] M vK1 MK1 0 0 := K1
  have HF := H
  exact ⟨e1, vK1, MK1, rfl, K1, HF⟩
theorem wkk_18 {e : Nat} {M M' : Mem} {v : Option Value} (hS : SQ M) (H : Ev none e 92 18 [some (.ref 0)] [] M v M' 0 0) : (∃ e1 v1 M1, e = e1 + 1 ∧ Ev none e1 57 0 [some (.ref 104), none, none] [] M v1 M1 0 0 ∧ Ev none e 92 25 [some (.ref 0)] (v1.toList ++ []) M1 v M' 0 0) := by
  have H : Ev none e 92 19 [some (.ref 0)] [.ref 0] M v M' 0 0 := Ev.back 1 (fun n => rfl) H
  have H : Ev none e 92 22 [some (.ref 0)] [.ref 104] M v M' 0 0 := Ev.back 1 (gs_3 rfl rfl (gf_u hS.1 qa_0 qr_0_3 qu_22 rfl)) H
  obtain ⟨e1, rfl⟩ := Ev.dpos rfl rfl H
  obtain ⟨vK1, MK1, K1, H⟩ := Ev.callb (fun n_ => gs_7 rfl rfl (show gCal (.invokevirtual 207) 10 (.ref 104 :: []) M = some (.inr (57, [some (.ref 104), none, none], [])) from by show @cond (Option ((List Value × Mem) ⊕ (Nat × Lo × List Value))) (true && gRecv M (.ref 104) 7 && gRoom [] && true) (some (.inr (57, [some (.ref 104), none, none], []))) none = _; rw [recv_s hS.1 qa_104 qo_22]; rfl)) H
  have K1 : Ev none e1 57 0 [some (.ref 104), none, none] [] M vK1 MK1 0 0 := K1
  have HF := H
  exact ⟨e1, vK1, MK1, rfl, K1, HF⟩
theorem wkk_25 {e : Nat} {M M' : Mem} {v : Option Value} {r : Int32} (hS : SQ M) (H : Ev none e 92 25 [some (.ref 0)] [.int r] M v M' 0 0) : v = some (.int r) ∧ M' = M := by
  obtain ⟨z1, z2⟩ := Ev.retz rfl rfl H
  exact ⟨z1, z2⟩
theorem onk_0 {e : Nat} {M M' : Mem} {v : Option Value} {t : Int32} (hS : SQ M) (H : Ev none e 134 0 [some (.ref 0), some (.int t)] [] M v M' 0 0) : (∃ e1 v1 M1, e = e1 + 1 ∧ Ev none e1 58 0 [some (.ref 104), some (.int t), none, none, none, none, none, none, none] [] M v1 M1 0 0 ∧ Ev none e 134 8 [some (.ref 0), some (.int t)] (v1.toList ++ []) M1 v M' 0 0) := by
  have H : Ev none e 134 1 [some (.ref 0), some (.int t)] [.ref 0] M v M' 0 0 := Ev.back 1 (fun n => rfl) H
  have H : Ev none e 134 4 [some (.ref 0), some (.int t)] [.ref 104] M v M' 0 0 := Ev.back 1 (gs_3 rfl rfl (gf_u hS.1 qa_0 qr_0_3 qu_22 rfl)) H
  have H : Ev none e 134 5 [some (.ref 0), some (.int t)] [.int t, .ref 104] M v M' 0 0 := Ev.back 1 (fun n => rfl) H
  obtain ⟨e1, rfl⟩ := Ev.dpos rfl rfl H
  obtain ⟨vK1, MK1, K1, H⟩ := Ev.callb (fun n_ => gs_7 rfl rfl (show gCal (.invokevirtual 200) 10 (.int t :: .ref 104 :: []) M = some (.inr (58, [some (.ref 104), some (.int t), none, none, none, none, none, none, none], [])) from by show @cond (Option ((List Value × Mem) ⊕ (Nat × Lo × List Value))) (true && gRecv M (.ref 104) 7 && gRoom [] && true) (some (.inr (58, [some (.ref 104), some (.int t), none, none, none, none, none, none, none], []))) none = _; rw [recv_s hS.1 qa_104 qo_22]; rfl)) H
  have K1 : Ev none e1 58 0 [some (.ref 104), some (.int t), none, none, none, none, none, none, none] [] M vK1 MK1 0 0 := K1
  have HF := H
  exact ⟨e1, vK1, MK1, rfl, K1, HF⟩
theorem onk_8 {e : Nat} {M M' : Mem} {v : Option Value} {t r : Int32} (hS : SQ M) (H : Ev none e 134 8 [some (.ref 0), some (.int t)] [.int r] M v M' 0 0) : (∃ e1 v1 M1, e = e1 + 1 ∧ Ev none e1 63 0 [some (.ref 104), none, none] [] M v1 M1 0 0 ∧ Ev none e 134 16 [some (.ref 0), some (.int t)] (v1.toList ++ []) M1 v M' 0 0) := by
  have H : Ev none e 134 10 [some (.ref 0), some (.int t)] [.ref 0] M v M' 0 0 := Ev.back 2 (fun n => rfl) H
  have H : Ev none e 134 13 [some (.ref 0), some (.int t)] [.ref 104] M v M' 0 0 := Ev.back 1 (gs_3 rfl rfl (gf_u hS.1 qa_0 qr_0_3 qu_22 rfl)) H
  obtain ⟨e1, rfl⟩ := Ev.dpos rfl rfl H
  obtain ⟨vK1, MK1, K1, H⟩ := Ev.callb (fun n_ => gs_7 rfl rfl (show gCal (.invokevirtual 204) 10 (.ref 104 :: []) M = some (.inr (63, [some (.ref 104), none, none], [])) from by show @cond (Option ((List Value × Mem) ⊕ (Nat × Lo × List Value))) (true && gRecv M (.ref 104) 7 && gRoom [] && true) (some (.inr (63, [some (.ref 104), none, none], []))) none = _; rw [recv_s hS.1 qa_104 qo_22]; rfl)) H
  have K1 : Ev none e1 63 0 [some (.ref 104), none, none] [] M vK1 MK1 0 0 := K1
  have HF := H
  exact ⟨e1, vK1, MK1, rfl, K1, HF⟩
theorem onk_16 {e : Nat} {M M' : Mem} {v : Option Value} {t : Int32} (hS : SQ M) (H : Ev none e 134 16 [some (.ref 0), some (.int t)] [] M v M' 0 0) : v = none ∧ M' = M := by
  obtain ⟨z1, z2⟩ := Ev.retb (fun n => rfl) H
  exact ⟨z1, z2⟩
theorem rai_0 {e : Nat} {M M' : Mem} {v : Option Value} {n : Int32} (hS : SQ M) (hLd : fR M 0 2 = 8) (H : Ev none e 93 0 [some (.ref 0), some (.int n), none, none] [] M v M' 0 0) : ((G_126 M n 1 200) = 0 ∧ v = some (.int 0) ∧ M' = M) ∨ (¬ ((G_126 M n 1 200) = 0) ∧ Ev none e 93 15 [some (.ref 0), some (.int n), some (.int 0), none] [] M v M' 0 0) := by
  have H : Ev none e 93 5 [some (.ref 0), some (.int n), none, none] [.int 200, .int 1, .int n] M v M' 0 0 := Ev.back 3 (fun n => rfl) H
  obtain ⟨e1, rfl⟩ := Ev.dpos rfl rfl H
  obtain ⟨vK1, MK1, K1, H⟩ := Ev.callb (fun n => rfl) H
  obtain ⟨pK1, qK1⟩ := g_126 hS K1
  rw [pK1, qK1] at H
  have H : Ev none (e1 + 1) 93 8 [some (.ref 0), some (.int n), none, none] [.int (G_126 M n 1 200)] M v M' 0 0 := H
  have H : Ev none (e1 + 1) 93 (if (G_126 M n 1 200) = 0 then 11 else 13) [some (.ref 0), some (.int n), none, none] [] M v M' 0 0 := Ev.back 1 (fun n => rfl) H
  by_cases h2 : (G_126 M n 1 200) = 0
  · rw [if_pos h2] at H
    have H : Ev none (e1 + 1) 93 12 [some (.ref 0), some (.int n), none, none] [.int 0] M v M' 0 0 := Ev.back 1 (fun n => rfl) H
    obtain ⟨z1, z2⟩ := Ev.retz rfl rfl H
    exact Or.inl ⟨h2, z1, z2⟩
  · rw [if_neg h2] at H
    have H : Ev none (e1 + 1) 93 15 [some (.ref 0), some (.int n), some (.int 0), none] [] M v M' 0 0 := Ev.back 2 (fun n => rfl) H
    have HF := H
    exact Or.inr (⟨h2, HF⟩)
theorem rai_15 {e : Nat} {M M' : Mem} {v : Option Value} {n c : Int32} {c3 : Option Value} (hS : SQ M) (hLd : fR M 0 2 = 8) (H : Ev none e 93 15 [some (.ref 0), some (.int n), some (.int c), c3] [] M v M' 0 0) : ((G_6 M 8) ≤ c ∧ v = some (.int 1) ∧ M' = M) ∨ (¬ ((G_6 M 8) ≤ c) ∧ (rI M (8 + 1) c) = 0 ∧ (0 ≤ c.toInt ∧ c.toInt < 256) ∧ (0 ≤ c.toInt ∧ c.toInt < 256) ∧ (0 ≤ c.toInt ∧ c.toInt < 256) ∧ Ev none e 93 15 [some (.ref 0), some (.int n), some (.int (c + 1)), some (.int (rI M (8 + 1) c))] [] (wI M (8 + 5) c.toNatClampNeg (if ((rI M (8 + 5) c) + n) < 200 then ((rI M (8 + 5) c) + n) else 200)) v M' 0 0) ∨ (¬ ((G_6 M 8) ≤ c) ∧ ¬ ((rI M (8 + 1) c) = 0) ∧ (rI M (8 + 1) c) = 2 ∧ (0 ≤ c.toInt ∧ c.toInt < 256) ∧ (0 ≤ c.toInt ∧ c.toInt < 256) ∧ (0 ≤ c.toInt ∧ c.toInt < 256) ∧ Ev none e 93 15 [some (.ref 0), some (.int n), some (.int (c + 1)), some (.int (rI M (8 + 1) c))] [] (wI M (8 + 5) c.toNatClampNeg (if ((rI M (8 + 5) c) + n) < 200 then ((rI M (8 + 5) c) + n) else 200)) v M' 0 0) ∨ (¬ ((G_6 M 8) ≤ c) ∧ ¬ ((rI M (8 + 1) c) = 0) ∧ ¬ ((rI M (8 + 1) c) = 2) ∧ (rI M (8 + 1) c) = 1 ∧ (0 ≤ c.toInt ∧ c.toInt < 256) ∧ (0 ≤ c.toInt ∧ c.toInt < 256) ∧ (0 ≤ c.toInt ∧ c.toInt < 256) ∧ Ev none e 93 15 [some (.ref 0), some (.int n), some (.int (c + 1)), some (.int (rI M (8 + 1) c))] [] (wI M (8 + 5) c.toNatClampNeg (if ((rI M (8 + 5) c) + n) < 200 then ((rI M (8 + 5) c) + n) else 200)) v M' 0 0) ∨ (¬ ((G_6 M 8) ≤ c) ∧ ¬ ((rI M (8 + 1) c) = 0) ∧ ¬ ((rI M (8 + 1) c) = 2) ∧ ¬ ((rI M (8 + 1) c) = 1) ∧ (0 ≤ c.toInt ∧ c.toInt < 256) ∧ Ev none e 93 15 [some (.ref 0), some (.int n), some (.int (c + 1)), some (.int (rI M (8 + 1) c))] [] M v M' 0 0) := by
  have H : Ev none e 93 17 [some (.ref 0), some (.int n), some (.int c), c3] [.ref 0, .int c] M v M' 0 0 := Ev.back 2 (fun n => rfl) H
  have H : Ev none e 93 20 [some (.ref 0), some (.int n), some (.int c), c3] [.ref (fR M 0 2), .int c] M v M' 0 0 := Ev.back 1 (gs_3 rfl rfl (gf_r hS.1 qa_0 qr_0_2 rfl)) H
  rw [hLd] at H
  obtain ⟨e1, rfl⟩ := Ev.dpos rfl rfl H
  obtain ⟨vK1, MK1, K1, H⟩ := Ev.callb (fun n_ => gs_7 rfl rfl (show gCal (.invokevirtual 211) 10 (.ref 8 :: [.int c]) M = some (.inr (6, [some (.ref 8)], [.int c])) from by show @cond (Option ((List Value × Mem) ⊕ (Nat × Lo × List Value))) (true && gRecv M (.ref 8) 1 && gRoom [.int c] && true) (some (.inr (6, [some (.ref 8)], [.int c]))) none = _; rw [recv_s hS.1 qa_8 qo_8]; rfl)) H
  obtain ⟨pK1, qK1⟩ := g_6 hS qa_8 K1
  rw [pK1, qK1] at H
  have H : Ev none (e1 + 1) 93 23 [some (.ref 0), some (.int n), some (.int c), c3] [.int (G_6 M 8), .int c] M v M' 0 0 := H
  have H : Ev none (e1 + 1) 93 (if (G_6 M 8) ≤ c then 82 else 26) [some (.ref 0), some (.int n), some (.int c), c3] [] M v M' 0 0 := Ev.back 1 (fun n => rfl) H
  by_cases h2 : (G_6 M 8) ≤ c
  · rw [if_pos h2] at H
    have H : Ev none (e1 + 1) 93 83 [some (.ref 0), some (.int n), some (.int c), c3] [.int 1] M v M' 0 0 := Ev.back 1 (fun n => rfl) H
    obtain ⟨z1, z2⟩ := Ev.retz rfl rfl H
    exact Or.inl ⟨h2, z1, z2⟩
  · rw [if_neg h2] at H
    have H : Ev none (e1 + 1) 93 27 [some (.ref 0), some (.int n), some (.int c), c3] [.ref 0] M v M' 0 0 := Ev.back 1 (fun n => rfl) H
    have H : Ev none (e1 + 1) 93 30 [some (.ref 0), some (.int n), some (.int c), c3] [.ref (fR M 0 2)] M v M' 0 0 := Ev.back 1 (gs_3 rfl rfl (gf_r hS.1 qa_0 qr_0_2 rfl)) H
    rw [hLd] at H
    have H : Ev none (e1 + 1) 93 33 [some (.ref 0), some (.int n), some (.int c), c3] [.ref (8 + 1)] M v M' 0 0 := Ev.back 1 (gs_3 rfl rfl (gf_x hS.1 qa_8 qo_8 (fx_l2 hS qa_8) rfl)) H
    have H : Ev none (e1 + 1) 93 34 [some (.ref 0), some (.int n), some (.int c), c3] [.int c, .ref (8 + 1)] M v M' 0 0 := Ev.back 1 (fun n => rfl) H
    obtain ⟨b3, H⟩ := Ev.ial rfl rfl hS.1 (fx_h2 qa_8) qw_9 H
    have H : Ev none (e1 + 1) 93 35 [some (.ref 0), some (.int n), some (.int c), c3] [.int (rI M (8 + 1) c)] M v M' 0 0 := H
    have H : Ev none (e1 + 1) 93 (if (rI M (8 + 1) c) = 0 then 50 else 40) [some (.ref 0), some (.int n), some (.int c), some (.int (rI M (8 + 1) c))] [] M v M' 0 0 := Ev.back 3 (fun n => rfl) H
    by_cases h4 : (rI M (8 + 1) c) = 0
    · rw [if_pos h4] at H
      have H : Ev none (e1 + 1) 93 51 [some (.ref 0), some (.int n), some (.int c), some (.int (rI M (8 + 1) c))] [.ref 0] M v M' 0 0 := Ev.back 1 (fun n => rfl) H
      have H : Ev none (e1 + 1) 93 54 [some (.ref 0), some (.int n), some (.int c), some (.int (rI M (8 + 1) c))] [.ref (fR M 0 2)] M v M' 0 0 := Ev.back 1 (gs_3 rfl rfl (gf_r hS.1 qa_0 qr_0_2 rfl)) H
      rw [hLd] at H
      have H : Ev none (e1 + 1) 93 57 [some (.ref 0), some (.int n), some (.int c), some (.int (rI M (8 + 1) c))] [.ref (8 + 5)] M v M' 0 0 := Ev.back 1 (gs_3 rfl rfl (gf_x hS.1 qa_8 qo_8 (fx_l6 hS qa_8) rfl)) H
      have H : Ev none (e1 + 1) 93 62 [some (.ref 0), some (.int n), some (.int c), some (.int (rI M (8 + 1) c))] [.ref 0, .int 200, .int c, .ref (8 + 5)] M v M' 0 0 := Ev.back 3 (fun n => rfl) H
      have H : Ev none (e1 + 1) 93 65 [some (.ref 0), some (.int n), some (.int c), some (.int (rI M (8 + 1) c))] [.ref (fR M 0 2), .int 200, .int c, .ref (8 + 5)] M v M' 0 0 := Ev.back 1 (gs_3 rfl rfl (gf_r hS.1 qa_0 qr_0_2 rfl)) H
      rw [hLd] at H
      have H : Ev none (e1 + 1) 93 68 [some (.ref 0), some (.int n), some (.int c), some (.int (rI M (8 + 1) c))] [.ref (8 + 5), .int 200, .int c, .ref (8 + 5)] M v M' 0 0 := Ev.back 1 (gs_3 rfl rfl (gf_x hS.1 qa_8 qo_8 (fx_l6 hS qa_8) rfl)) H
      have H : Ev none (e1 + 1) 93 69 [some (.ref 0), some (.int n), some (.int c), some (.int (rI M (8 + 1) c))] [.int c, .ref (8 + 5), .int 200, .int c, .ref (8 + 5)] M v M' 0 0 := Ev.back 1 (fun n => rfl) H
      obtain ⟨b5, H⟩ := Ev.ial rfl rfl hS.1 (fx_h6 qa_8) qw_13 H
      have H : Ev none (e1 + 1) 93 70 [some (.ref 0), some (.int n), some (.int c), some (.int (rI M (8 + 1) c))] [.int (rI M (8 + 5) c), .int 200, .int c, .ref (8 + 5)] M v M' 0 0 := H
      have H : Ev none (e1 + 1) 93 75 [some (.ref 0), some (.int n), some (.int c), some (.int (rI M (8 + 1) c))] [.int (if ((rI M (8 + 5) c) + n) < 200 then ((rI M (8 + 5) c) + n) else 200), .int c, .ref (8 + 5)] M v M' 0 0 := Ev.back 3 (fun n => rfl) H
      obtain ⟨b6, H⟩ := Ev.ias rfl rfl hS.1 (fx_h6 qa_8) qw_13 H
      obtain ⟨N7, eN7⟩ : ∃ N, N = (wI M (8 + 5) c.toNatClampNeg (if ((rI M (8 + 5) c) + n) < 200 then ((rI M (8 + 5) c) + n) else 200)) := ⟨_, rfl⟩
      have hN7 : SQ N7 := by rw [eN7]; exact hS.ki
      have H : Ev none (e1 + 1) 93 76 [some (.ref 0), some (.int n), some (.int c), some (.int (rI M (8 + 1) c))] [] N7 v M' 0 0 := by rw [eN7]; exact H
      have H : Ev none (e1 + 1) 93 15 [some (.ref 0), some (.int n), some (.int (c + 1)), some (.int (rI M (8 + 1) c))] [] N7 v M' 0 0 := Ev.back 2 (fun n => rfl) H
      have HF := H
      subst eN7
      exact Or.inr (Or.inl ⟨h2, h4, b3, b5, b6, HF⟩)
    · rw [if_neg h4] at H
      have H : Ev none (e1 + 1) 93 (if (rI M (8 + 1) c) = 2 then 50 else 45) [some (.ref 0), some (.int n), some (.int c), some (.int (rI M (8 + 1) c))] [] M v M' 0 0 := Ev.back 3 (fun n => rfl) H
      by_cases h8 : (rI M (8 + 1) c) = 2
      · rw [if_pos h8] at H
        have H : Ev none (e1 + 1) 93 51 [some (.ref 0), some (.int n), some (.int c), some (.int (rI M (8 + 1) c))] [.ref 0] M v M' 0 0 := Ev.back 1 (fun n => rfl) H
        have H : Ev none (e1 + 1) 93 54 [some (.ref 0), some (.int n), some (.int c), some (.int (rI M (8 + 1) c))] [.ref (fR M 0 2)] M v M' 0 0 := Ev.back 1 (gs_3 rfl rfl (gf_r hS.1 qa_0 qr_0_2 rfl)) H
        rw [hLd] at H
        have H : Ev none (e1 + 1) 93 57 [some (.ref 0), some (.int n), some (.int c), some (.int (rI M (8 + 1) c))] [.ref (8 + 5)] M v M' 0 0 := Ev.back 1 (gs_3 rfl rfl (gf_x hS.1 qa_8 qo_8 (fx_l6 hS qa_8) rfl)) H
        have H : Ev none (e1 + 1) 93 62 [some (.ref 0), some (.int n), some (.int c), some (.int (rI M (8 + 1) c))] [.ref 0, .int 200, .int c, .ref (8 + 5)] M v M' 0 0 := Ev.back 3 (fun n => rfl) H
        have H : Ev none (e1 + 1) 93 65 [some (.ref 0), some (.int n), some (.int c), some (.int (rI M (8 + 1) c))] [.ref (fR M 0 2), .int 200, .int c, .ref (8 + 5)] M v M' 0 0 := Ev.back 1 (gs_3 rfl rfl (gf_r hS.1 qa_0 qr_0_2 rfl)) H
        rw [hLd] at H
        have H : Ev none (e1 + 1) 93 68 [some (.ref 0), some (.int n), some (.int c), some (.int (rI M (8 + 1) c))] [.ref (8 + 5), .int 200, .int c, .ref (8 + 5)] M v M' 0 0 := Ev.back 1 (gs_3 rfl rfl (gf_x hS.1 qa_8 qo_8 (fx_l6 hS qa_8) rfl)) H
        have H : Ev none (e1 + 1) 93 69 [some (.ref 0), some (.int n), some (.int c), some (.int (rI M (8 + 1) c))] [.int c, .ref (8 + 5), .int 200, .int c, .ref (8 + 5)] M v M' 0 0 := Ev.back 1 (fun n => rfl) H
        obtain ⟨b9, H⟩ := Ev.ial rfl rfl hS.1 (fx_h6 qa_8) qw_13 H
        have H : Ev none (e1 + 1) 93 70 [some (.ref 0), some (.int n), some (.int c), some (.int (rI M (8 + 1) c))] [.int (rI M (8 + 5) c), .int 200, .int c, .ref (8 + 5)] M v M' 0 0 := H
        have H : Ev none (e1 + 1) 93 75 [some (.ref 0), some (.int n), some (.int c), some (.int (rI M (8 + 1) c))] [.int (if ((rI M (8 + 5) c) + n) < 200 then ((rI M (8 + 5) c) + n) else 200), .int c, .ref (8 + 5)] M v M' 0 0 := Ev.back 3 (fun n => rfl) H
        obtain ⟨b10, H⟩ := Ev.ias rfl rfl hS.1 (fx_h6 qa_8) qw_13 H
        obtain ⟨N11, eN11⟩ : ∃ N, N = (wI M (8 + 5) c.toNatClampNeg (if ((rI M (8 + 5) c) + n) < 200 then ((rI M (8 + 5) c) + n) else 200)) := ⟨_, rfl⟩
        have hN11 : SQ N11 := by rw [eN11]; exact hS.ki
        have H : Ev none (e1 + 1) 93 76 [some (.ref 0), some (.int n), some (.int c), some (.int (rI M (8 + 1) c))] [] N11 v M' 0 0 := by rw [eN11]; exact H
        have H : Ev none (e1 + 1) 93 15 [some (.ref 0), some (.int n), some (.int (c + 1)), some (.int (rI M (8 + 1) c))] [] N11 v M' 0 0 := Ev.back 2 (fun n => rfl) H
        have HF := H
        subst eN11
        exact Or.inr (Or.inr (Or.inl ⟨h2, h4, h8, b3, b9, b10, HF⟩))
      · rw [if_neg h8] at H
        have H : Ev none (e1 + 1) 93 (if (rI M (8 + 1) c) = 1 then 50 else 76) [some (.ref 0), some (.int n), some (.int c), some (.int (rI M (8 + 1) c))] [] M v M' 0 0 := Ev.back 3 (fun n => rfl) H
        by_cases h12 : (rI M (8 + 1) c) = 1
        · rw [if_pos h12] at H
          have H : Ev none (e1 + 1) 93 51 [some (.ref 0), some (.int n), some (.int c), some (.int (rI M (8 + 1) c))] [.ref 0] M v M' 0 0 := Ev.back 1 (fun n => rfl) H
          have H : Ev none (e1 + 1) 93 54 [some (.ref 0), some (.int n), some (.int c), some (.int (rI M (8 + 1) c))] [.ref (fR M 0 2)] M v M' 0 0 := Ev.back 1 (gs_3 rfl rfl (gf_r hS.1 qa_0 qr_0_2 rfl)) H
          rw [hLd] at H
          have H : Ev none (e1 + 1) 93 57 [some (.ref 0), some (.int n), some (.int c), some (.int (rI M (8 + 1) c))] [.ref (8 + 5)] M v M' 0 0 := Ev.back 1 (gs_3 rfl rfl (gf_x hS.1 qa_8 qo_8 (fx_l6 hS qa_8) rfl)) H
          have H : Ev none (e1 + 1) 93 62 [some (.ref 0), some (.int n), some (.int c), some (.int (rI M (8 + 1) c))] [.ref 0, .int 200, .int c, .ref (8 + 5)] M v M' 0 0 := Ev.back 3 (fun n => rfl) H
          have H : Ev none (e1 + 1) 93 65 [some (.ref 0), some (.int n), some (.int c), some (.int (rI M (8 + 1) c))] [.ref (fR M 0 2), .int 200, .int c, .ref (8 + 5)] M v M' 0 0 := Ev.back 1 (gs_3 rfl rfl (gf_r hS.1 qa_0 qr_0_2 rfl)) H
          rw [hLd] at H
          have H : Ev none (e1 + 1) 93 68 [some (.ref 0), some (.int n), some (.int c), some (.int (rI M (8 + 1) c))] [.ref (8 + 5), .int 200, .int c, .ref (8 + 5)] M v M' 0 0 := Ev.back 1 (gs_3 rfl rfl (gf_x hS.1 qa_8 qo_8 (fx_l6 hS qa_8) rfl)) H
          have H : Ev none (e1 + 1) 93 69 [some (.ref 0), some (.int n), some (.int c), some (.int (rI M (8 + 1) c))] [.int c, .ref (8 + 5), .int 200, .int c, .ref (8 + 5)] M v M' 0 0 := Ev.back 1 (fun n => rfl) H
          obtain ⟨b13, H⟩ := Ev.ial rfl rfl hS.1 (fx_h6 qa_8) qw_13 H
          have H : Ev none (e1 + 1) 93 70 [some (.ref 0), some (.int n), some (.int c), some (.int (rI M (8 + 1) c))] [.int (rI M (8 + 5) c), .int 200, .int c, .ref (8 + 5)] M v M' 0 0 := H
          have H : Ev none (e1 + 1) 93 75 [some (.ref 0), some (.int n), some (.int c), some (.int (rI M (8 + 1) c))] [.int (if ((rI M (8 + 5) c) + n) < 200 then ((rI M (8 + 5) c) + n) else 200), .int c, .ref (8 + 5)] M v M' 0 0 := Ev.back 3 (fun n => rfl) H
          obtain ⟨b14, H⟩ := Ev.ias rfl rfl hS.1 (fx_h6 qa_8) qw_13 H
          obtain ⟨N15, eN15⟩ : ∃ N, N = (wI M (8 + 5) c.toNatClampNeg (if ((rI M (8 + 5) c) + n) < 200 then ((rI M (8 + 5) c) + n) else 200)) := ⟨_, rfl⟩
          have hN15 : SQ N15 := by rw [eN15]; exact hS.ki
          have H : Ev none (e1 + 1) 93 76 [some (.ref 0), some (.int n), some (.int c), some (.int (rI M (8 + 1) c))] [] N15 v M' 0 0 := by rw [eN15]; exact H
          have H : Ev none (e1 + 1) 93 15 [some (.ref 0), some (.int n), some (.int (c + 1)), some (.int (rI M (8 + 1) c))] [] N15 v M' 0 0 := Ev.back 2 (fun n => rfl) H
          have HF := H
          subst eN15
          exact Or.inr (Or.inr (Or.inr (Or.inl ⟨h2, h4, h8, h12, b3, b13, b14, HF⟩)))
        · rw [if_neg h12] at H
          have H : Ev none (e1 + 1) 93 15 [some (.ref 0), some (.int n), some (.int (c + 1)), some (.int (rI M (8 + 1) c))] [] M v M' 0 0 := Ev.back 2 (fun n => rfl) H
          have HF := H
          exact Or.inr (Or.inr (Or.inr (Or.inr (⟨h2, h4, h8, h12, b3, HF⟩))))
theorem sno_0 {e : Nat} {M M' : Mem} {v : Option Value} (hS : SQ M) (hLd : fR M 0 2 = 8) (H : Ev none e 94 0 [some (.ref 0)] [] M v M' 0 0) : v = none ∧ M' = (wA M (8 + 7) 0) := by
  have H : Ev none e 94 1 [some (.ref 0)] [.ref 0] M v M' 0 0 := Ev.back 1 (fun n => rfl) H
  have H : Ev none e 94 4 [some (.ref 0)] [.ref (fR M 0 2)] M v M' 0 0 := Ev.back 1 (gs_3 rfl rfl (gf_r hS.1 qa_0 qr_0_2 rfl)) H
  rw [hLd] at H
  have H : Ev none e 94 7 [some (.ref 0)] [.ref (8 + 7)] M v M' 0 0 := Ev.back 1 (gs_3 rfl rfl (gf_x hS.1 qa_8 qo_8 (fx_l8 hS qa_8) rfl)) H
  have H : Ev none e 94 8 [some (.ref 0)] [.int 0, .ref (8 + 7)] M v M' 0 0 := Ev.back 1 (fun n => rfl) H
  have H := Ev.fil rfl rfl (fun _ _ => rfl) hS.1 (fx_h8 qa_8) qw_15 H
  obtain ⟨N1, eN1⟩ : ∃ N, N = (wA M (8 + 7) 0) := ⟨_, rfl⟩
  have hN1 : SQ N1 := by rw [eN1]; exact hS.ka
  have H : Ev none e 94 11 [some (.ref 0)] [] N1 v M' 0 0 := by rw [eN1]; exact H
  obtain ⟨z1, z2⟩ := Ev.retb (fun n => rfl) H
  subst eN1
  exact ⟨z1, z2⟩
theorem lay_0 {e : Nat} {M M' : Mem} {v : Option Value} {c k : Int32} (hS : SQ M) (hLd : fR M 0 2 = 8) (H : Ev none e 95 0 [some (.ref 0), some (.int c), some (.int k)] [] M v M' 0 0) : (∃ e1 v1 M1, e = e1 + 1 ∧ Ev none e1 127 0 [some (.ref 0), some (.int c)] [] M v1 M1 0 0 ∧ Ev none e 95 5 [some (.ref 0), some (.int c), some (.int k)] (v1.toList ++ []) M1 v M' 0 0) := by
  have H : Ev none e 95 2 [some (.ref 0), some (.int c), some (.int k)] [.int c, .ref 0] M v M' 0 0 := Ev.back 2 (fun n => rfl) H
  obtain ⟨e1, rfl⟩ := Ev.dpos rfl rfl H
  obtain ⟨vK1, MK1, K1, H⟩ := Ev.callb (fun n_ => gs_7 rfl rfl (show gCal (.invokevirtual 113) 10 (.int c :: .ref 0 :: []) M = some (.inr (127, [some (.ref 0), some (.int c)], [])) from by show @cond (Option ((List Value × Mem) ⊕ (Nat × Lo × List Value))) (true && gRecv M (.ref 0) 10 && gRoom [] && true) (some (.inr (127, [some (.ref 0), some (.int c)], []))) none = _; rw [recv_s hS.1 qa_0 qo_0]; rfl)) H
  have K1 : Ev none e1 127 0 [some (.ref 0), some (.int c)] [] M vK1 MK1 0 0 := K1
  have HF := H
  exact ⟨e1, vK1, MK1, rfl, K1, HF⟩
theorem lay_5 {e : Nat} {M M' : Mem} {v : Option Value} {c k r : Int32} (hS : SQ M) (hLd : fR M 0 2 = 8) (H : Ev none e 95 5 [some (.ref 0), some (.int c), some (.int k)] [.int r] M v M' 0 0) : (r = 0 ∧ v = some (.int 0) ∧ M' = M) ∨ (¬ (r = 0) ∧ (G_126 M k 0 6) = 0 ∧ v = some (.int 0) ∧ M' = M) ∨ (¬ (r = 0) ∧ ¬ ((G_126 M k 0 6) = 0) ∧ k = 3 ∧ (∃ e1 v1 M1, e = e1 + 1 ∧ Ev none e1 9 0 [some (.ref 8), some (.int c), none] [] M v1 M1 0 0 ∧ Ev none e 95 39 [some (.ref 0), some (.int c), some (.int k)] (v1.toList ++ []) M1 v M' 0 0)) ∨ (¬ (r = 0) ∧ ¬ ((G_126 M k 0 6) = 0) ∧ ¬ (k = 3) ∧ k = 6 ∧ (∃ e1 v1 M1, e = e1 + 1 ∧ Ev none e1 9 0 [some (.ref 8), some (.int c), none] [] M v1 M1 0 0 ∧ Ev none e 95 39 [some (.ref 0), some (.int c), some (.int k)] (v1.toList ++ []) M1 v M' 0 0)) ∨ (¬ (r = 0) ∧ ¬ ((G_126 M k 0 6) = 0) ∧ ¬ (k = 3) ∧ ¬ (k = 6) ∧ v = some (.int 1) ∧ M' = (X_10 M 8 c k)) := by
  have H : Ev none e 95 (if r = 0 then 18 else 8) [some (.ref 0), some (.int c), some (.int k)] [] M v M' 0 0 := Ev.back 1 (fun n => rfl) H
  by_cases h1 : r = 0
  · rw [if_pos h1] at H
    have H : Ev none e 95 19 [some (.ref 0), some (.int c), some (.int k)] [.int 0] M v M' 0 0 := Ev.back 1 (fun n => rfl) H
    obtain ⟨z1, z2⟩ := Ev.retz rfl rfl H
    exact Or.inl ⟨h1, z1, z2⟩
  · rw [if_neg h1] at H
    have H : Ev none e 95 12 [some (.ref 0), some (.int c), some (.int k)] [.int 6, .int 0, .int k] M v M' 0 0 := Ev.back 3 (fun n => rfl) H
    obtain ⟨e1, rfl⟩ := Ev.dpos rfl rfl H
    obtain ⟨vK2, MK2, K2, H⟩ := Ev.callb (fun n => rfl) H
    obtain ⟨pK2, qK2⟩ := g_126 hS K2
    rw [pK2, qK2] at H
    have H : Ev none (e1 + 1) 95 15 [some (.ref 0), some (.int c), some (.int k)] [.int (G_126 M k 0 6)] M v M' 0 0 := H
    have H : Ev none (e1 + 1) 95 (if (G_126 M k 0 6) = 0 then 18 else 20) [some (.ref 0), some (.int c), some (.int k)] [] M v M' 0 0 := Ev.back 1 (fun n => rfl) H
    by_cases h3 : (G_126 M k 0 6) = 0
    · rw [if_pos h3] at H
      have H : Ev none (e1 + 1) 95 19 [some (.ref 0), some (.int c), some (.int k)] [.int 0] M v M' 0 0 := Ev.back 1 (fun n => rfl) H
      obtain ⟨z1, z2⟩ := Ev.retz rfl rfl H
      exact Or.inr (Or.inl ⟨h1, h3, z1, z2⟩)
    · rw [if_neg h3] at H
      have H : Ev none (e1 + 1) 95 (if k = 3 then 31 else 25) [some (.ref 0), some (.int c), some (.int k)] [] M v M' 0 0 := Ev.back 3 (fun n => rfl) H
      by_cases h4 : k = 3
      · rw [if_pos h4] at H
        have H : Ev none (e1 + 1) 95 32 [some (.ref 0), some (.int c), some (.int k)] [.ref 0] M v M' 0 0 := Ev.back 1 (fun n => rfl) H
        have H : Ev none (e1 + 1) 95 35 [some (.ref 0), some (.int c), some (.int k)] [.ref (fR M 0 2)] M v M' 0 0 := Ev.back 1 (gs_3 rfl rfl (gf_r hS.1 qa_0 qr_0_2 rfl)) H
        rw [hLd] at H
        have H : Ev none (e1 + 1) 95 36 [some (.ref 0), some (.int c), some (.int k)] [.int c, .ref 8] M v M' 0 0 := Ev.back 1 (fun n => rfl) H
        obtain ⟨vK5, MK5, K5, H⟩ := Ev.callb (fun n_ => gs_7 rfl rfl (show gCal (.invokevirtual 120) 10 (.int c :: .ref 8 :: []) M = some (.inr (9, [some (.ref 8), some (.int c), none], [])) from by show @cond (Option ((List Value × Mem) ⊕ (Nat × Lo × List Value))) (true && gRecv M (.ref 8) 1 && gRoom [] && true) (some (.inr (9, [some (.ref 8), some (.int c), none], []))) none = _; rw [recv_s hS.1 qa_8 qo_8]; rfl)) H
        have K5 : Ev none e1 9 0 [some (.ref 8), some (.int c), none] [] M vK5 MK5 0 0 := K5
        have HF := H
        exact Or.inr (Or.inr (Or.inl ⟨h1, h3, h4, ⟨e1, vK5, MK5, rfl, K5, HF⟩⟩))
      · rw [if_neg h4] at H
        have H : Ev none (e1 + 1) 95 (if k = 6 then 31 else 56) [some (.ref 0), some (.int c), some (.int k)] [] M v M' 0 0 := Ev.back 3 (fun n => rfl) H
        by_cases h6 : k = 6
        · rw [if_pos h6] at H
          have H : Ev none (e1 + 1) 95 32 [some (.ref 0), some (.int c), some (.int k)] [.ref 0] M v M' 0 0 := Ev.back 1 (fun n => rfl) H
          have H : Ev none (e1 + 1) 95 35 [some (.ref 0), some (.int c), some (.int k)] [.ref (fR M 0 2)] M v M' 0 0 := Ev.back 1 (gs_3 rfl rfl (gf_r hS.1 qa_0 qr_0_2 rfl)) H
          rw [hLd] at H
          have H : Ev none (e1 + 1) 95 36 [some (.ref 0), some (.int c), some (.int k)] [.int c, .ref 8] M v M' 0 0 := Ev.back 1 (fun n => rfl) H
          obtain ⟨vK7, MK7, K7, H⟩ := Ev.callb (fun n_ => gs_7 rfl rfl (show gCal (.invokevirtual 120) 10 (.int c :: .ref 8 :: []) M = some (.inr (9, [some (.ref 8), some (.int c), none], [])) from by show @cond (Option ((List Value × Mem) ⊕ (Nat × Lo × List Value))) (true && gRecv M (.ref 8) 1 && gRoom [] && true) (some (.inr (9, [some (.ref 8), some (.int c), none], []))) none = _; rw [recv_s hS.1 qa_8 qo_8]; rfl)) H
          have K7 : Ev none e1 9 0 [some (.ref 8), some (.int c), none] [] M vK7 MK7 0 0 := K7
          have HF := H
          exact Or.inr (Or.inr (Or.inr (Or.inl ⟨h1, h3, h4, h6, ⟨e1, vK7, MK7, rfl, K7, HF⟩⟩)))
        · rw [if_neg h6] at H
          have H : Ev none (e1 + 1) 95 57 [some (.ref 0), some (.int c), some (.int k)] [.ref 0] M v M' 0 0 := Ev.back 1 (fun n => rfl) H
          have H : Ev none (e1 + 1) 95 60 [some (.ref 0), some (.int c), some (.int k)] [.ref (fR M 0 2)] M v M' 0 0 := Ev.back 1 (gs_3 rfl rfl (gf_r hS.1 qa_0 qr_0_2 rfl)) H
          rw [hLd] at H
          have H : Ev none (e1 + 1) 95 62 [some (.ref 0), some (.int c), some (.int k)] [.int k, .int c, .ref 8] M v M' 0 0 := Ev.back 2 (fun n => rfl) H
          obtain ⟨vK8, MK8, K8, H⟩ := Ev.callb (fun n_ => gs_7 rfl rfl (show gCal (.invokevirtual 238) 10 (.int k :: .int c :: .ref 8 :: []) M = some (.inr (10, [some (.ref 8), some (.int c), some (.int k)], [])) from by show @cond (Option ((List Value × Mem) ⊕ (Nat × Lo × List Value))) (true && gRecv M (.ref 8) 1 && gRoom [] && true) (some (.inr (10, [some (.ref 8), some (.int c), some (.int k)], []))) none = _; rw [recv_s hS.1 qa_8 qo_8]; rfl)) H
          obtain ⟨pK8, qK8⟩ := g_10 hS qa_8 K8
          rw [pK8, qK8] at H
          obtain ⟨N9, eN9⟩ : ∃ N, N = (X_10 M 8 c k) := ⟨_, rfl⟩
          have hN9 : SQ N9 := by rw [eN9]; exact X_10_sx hS qa_8
          rw [← eN9] at H
          have H : Ev none (e1 + 1) 95 65 [some (.ref 0), some (.int c), some (.int k)] [] N9 v M' 0 0 := H
          have H : Ev none (e1 + 1) 95 66 [some (.ref 0), some (.int c), some (.int k)] [.int 1] N9 v M' 0 0 := Ev.back 1 (fun n => rfl) H
          obtain ⟨z1, z2⟩ := Ev.retz rfl rfl H
          subst eN9
          exact Or.inr (Or.inr (Or.inr (Or.inr (⟨h1, h3, h4, h6, z1, z2⟩))))
theorem lay_39 {e : Nat} {M M' : Mem} {v : Option Value} {c k r : Int32} (hS : SQ M) (hLd : fR M 0 2 = 8) (H : Ev none e 95 39 [some (.ref 0), some (.int c), some (.int k)] [.int r] M v M' 0 0) : (r = 0 ∧ (rI M (8 + 8) c) ≤ 0 ∧ (0 ≤ c.toInt ∧ c.toInt < 256) ∧ v = some (.int 1) ∧ M' = (X_10 M 8 c k)) ∨ (r = 0 ∧ ¬ ((rI M (8 + 8) c) ≤ 0) ∧ (0 ≤ c.toInt ∧ c.toInt < 256) ∧ v = some (.int 0) ∧ M' = M) ∨ (¬ (r = 0) ∧ v = some (.int 0) ∧ M' = M) := by
  have H : Ev none e 95 (if r = 0 then 42 else 54) [some (.ref 0), some (.int c), some (.int k)] [] M v M' 0 0 := Ev.back 1 (fun n => rfl) H
  by_cases h1 : r = 0
  · rw [if_pos h1] at H
    have H : Ev none e 95 43 [some (.ref 0), some (.int c), some (.int k)] [.ref 0] M v M' 0 0 := Ev.back 1 (fun n => rfl) H
    have H : Ev none e 95 46 [some (.ref 0), some (.int c), some (.int k)] [.ref (fR M 0 2)] M v M' 0 0 := Ev.back 1 (gs_3 rfl rfl (gf_r hS.1 qa_0 qr_0_2 rfl)) H
    rw [hLd] at H
    have H : Ev none e 95 49 [some (.ref 0), some (.int c), some (.int k)] [.ref (8 + 8)] M v M' 0 0 := Ev.back 1 (gs_3 rfl rfl (gf_x hS.1 qa_8 qo_8 (fx_l9 hS qa_8) rfl)) H
    have H : Ev none e 95 50 [some (.ref 0), some (.int c), some (.int k)] [.int c, .ref (8 + 8)] M v M' 0 0 := Ev.back 1 (fun n => rfl) H
    obtain ⟨b2, H⟩ := Ev.ial rfl rfl hS.1 (fx_h9 qa_8) qw_16 H
    have H : Ev none e 95 51 [some (.ref 0), some (.int c), some (.int k)] [.int (rI M (8 + 8) c)] M v M' 0 0 := H
    have H : Ev none e 95 (if (rI M (8 + 8) c) ≤ 0 then 56 else 54) [some (.ref 0), some (.int c), some (.int k)] [] M v M' 0 0 := Ev.back 1 (fun n => rfl) H
    by_cases h3 : (rI M (8 + 8) c) ≤ 0
    · rw [if_pos h3] at H
      have H : Ev none e 95 57 [some (.ref 0), some (.int c), some (.int k)] [.ref 0] M v M' 0 0 := Ev.back 1 (fun n => rfl) H
      have H : Ev none e 95 60 [some (.ref 0), some (.int c), some (.int k)] [.ref (fR M 0 2)] M v M' 0 0 := Ev.back 1 (gs_3 rfl rfl (gf_r hS.1 qa_0 qr_0_2 rfl)) H
      rw [hLd] at H
      have H : Ev none e 95 62 [some (.ref 0), some (.int c), some (.int k)] [.int k, .int c, .ref 8] M v M' 0 0 := Ev.back 2 (fun n => rfl) H
      obtain ⟨e1, rfl⟩ := Ev.dpos rfl rfl H
      obtain ⟨vK4, MK4, K4, H⟩ := Ev.callb (fun n_ => gs_7 rfl rfl (show gCal (.invokevirtual 238) 10 (.int k :: .int c :: .ref 8 :: []) M = some (.inr (10, [some (.ref 8), some (.int c), some (.int k)], [])) from by show @cond (Option ((List Value × Mem) ⊕ (Nat × Lo × List Value))) (true && gRecv M (.ref 8) 1 && gRoom [] && true) (some (.inr (10, [some (.ref 8), some (.int c), some (.int k)], []))) none = _; rw [recv_s hS.1 qa_8 qo_8]; rfl)) H
      obtain ⟨pK4, qK4⟩ := g_10 hS qa_8 K4
      rw [pK4, qK4] at H
      obtain ⟨N5, eN5⟩ : ∃ N, N = (X_10 M 8 c k) := ⟨_, rfl⟩
      have hN5 : SQ N5 := by rw [eN5]; exact X_10_sx hS qa_8
      rw [← eN5] at H
      have H : Ev none (e1 + 1) 95 65 [some (.ref 0), some (.int c), some (.int k)] [] N5 v M' 0 0 := H
      have H : Ev none (e1 + 1) 95 66 [some (.ref 0), some (.int c), some (.int k)] [.int 1] N5 v M' 0 0 := Ev.back 1 (fun n => rfl) H
      obtain ⟨z1, z2⟩ := Ev.retz rfl rfl H
      subst eN5
      exact Or.inl ⟨h1, h3, b2, z1, z2⟩
    · rw [if_neg h3] at H
      have H : Ev none e 95 55 [some (.ref 0), some (.int c), some (.int k)] [.int 0] M v M' 0 0 := Ev.back 1 (fun n => rfl) H
      obtain ⟨z1, z2⟩ := Ev.retz rfl rfl H
      exact Or.inr (Or.inl ⟨h1, h3, b2, z1, z2⟩)
  · rw [if_neg h1] at H
    have H : Ev none e 95 55 [some (.ref 0), some (.int c), some (.int k)] [.int 0] M v M' 0 0 := Ev.back 1 (fun n => rfl) H
    obtain ⟨z1, z2⟩ := Ev.retz rfl rfl H
    exact Or.inr (Or.inr (⟨h1, z1, z2⟩))
theorem prk_0 {e : Nat} {M M' : Mem} {v : Option Value} {a b : Int32} (hS : SQ M) (H : Ev none e 82 0 [some (.ref 0), some (.int a), some (.int b), none] [] M v M' 0 0) : (∃ e1 v1 M1, e = e1 + 1 ∧ Ev none e1 83 0 [some (.ref 0), some (.int a), some (.int b), none] [] M v1 M1 0 0 ∧ Ev none e 82 6 [some (.ref 0), some (.int a), some (.int b), none] (v1.toList ++ []) M1 v M' 0 0) := by
  have H : Ev none e 82 3 [some (.ref 0), some (.int a), some (.int b), none] [.int b, .int a, .ref 0] M v M' 0 0 := Ev.back 3 (fun n => rfl) H
  obtain ⟨e1, rfl⟩ := Ev.dpos rfl rfl H
  obtain ⟨vK1, MK1, K1, H⟩ := Ev.callb (fun n_ => gs_7 rfl rfl (show gCal (.invokevirtual 95) 10 (.int b :: .int a :: .ref 0 :: []) M = some (.inr (83, [some (.ref 0), some (.int a), some (.int b), none], [])) from by show @cond (Option ((List Value × Mem) ⊕ (Nat × Lo × List Value))) (true && gRecv M (.ref 0) 10 && gRoom [] && true) (some (.inr (83, [some (.ref 0), some (.int a), some (.int b), none], []))) none = _; rw [recv_s hS.1 qa_0 qo_0]; rfl)) H
  have K1 : Ev none e1 83 0 [some (.ref 0), some (.int a), some (.int b), none] [] M vK1 MK1 0 0 := K1
  have HF := H
  exact ⟨e1, vK1, MK1, rfl, K1, HF⟩
theorem prk_6 {e : Nat} {M M' : Mem} {v : Option Value} {a b r : Int32} (hS : SQ M) (hLd : fR M 0 2 = 8) (H : Ev none e 82 6 [some (.ref 0), some (.int a), some (.int b), none] [.int r] M v M' 0 0) : (r = 0 ∧ v = some (.int r) ∧ M' = (wF M 1 1 0)) ∨ (¬ (r = 0) ∧ (∃ e1 v1 M1, e = e1 + 1 ∧ Ev none e1 12 0 [some (.ref 8), some (.int a), some (.int b), some (.ref 1), none, none] [] M v1 M1 0 0 ∧ Ev none e 82 24 [some (.ref 0), some (.int a), some (.int b), some (.int r)] (v1.toList ++ []) M1 v M' 0 0)) := by
  have H : Ev none e 82 (if r = 0 then 24 else 11) [some (.ref 0), some (.int a), some (.int b), some (.int r)] [] M v M' 0 0 := Ev.back 3 (fun n => rfl) H
  by_cases h1 : r = 0
  · rw [if_pos h1] at H
    have H : Ev none e 82 25 [some (.ref 0), some (.int a), some (.int b), some (.int r)] [.ref 0] M v M' 0 0 := Ev.back 1 (fun n => rfl) H
    have H : Ev none e 82 28 [some (.ref 0), some (.int a), some (.int b), some (.int r)] [.ref 1] M v M' 0 0 := Ev.back 1 (gs_3 rfl rfl (gf_u hS.1 qa_0 qr_0_0 qu_1 rfl)) H
    have H : Ev none e 82 29 [some (.ref 0), some (.int a), some (.int b), some (.int r)] [.int 0, .ref 1] M v M' 0 0 := Ev.back 1 (fun n => rfl) H
    obtain ⟨N3, eN3⟩ : ∃ N, N = (wF M 1 1 0) := ⟨_, rfl⟩
    have hN3 : SQ N3 := by rw [eN3]; exact hS.kf
    have H : Ev none e 82 32 [some (.ref 0), some (.int a), some (.int b), some (.int r)] [] N3 v M' 0 0 := by rw [eN3]; exact Ev.pfi rfl rfl rfl hS.1 qa_1 qi_1_1 H
    have H : Ev none e 82 33 [some (.ref 0), some (.int a), some (.int b), some (.int r)] [.int r] N3 v M' 0 0 := Ev.back 1 (fun n => rfl) H
    obtain ⟨z1, z2⟩ := Ev.retz rfl rfl H
    subst eN3
    exact Or.inl ⟨h1, z1, z2⟩
  · rw [if_neg h1] at H
    have H : Ev none e 82 12 [some (.ref 0), some (.int a), some (.int b), some (.int r)] [.ref 0] M v M' 0 0 := Ev.back 1 (fun n => rfl) H
    have H : Ev none e 82 15 [some (.ref 0), some (.int a), some (.int b), some (.int r)] [.ref (fR M 0 2)] M v M' 0 0 := Ev.back 1 (gs_3 rfl rfl (gf_r hS.1 qa_0 qr_0_2 rfl)) H
    rw [hLd] at H
    have H : Ev none e 82 18 [some (.ref 0), some (.int a), some (.int b), some (.int r)] [.ref 0, .int b, .int a, .ref 8] M v M' 0 0 := Ev.back 3 (fun n => rfl) H
    have H : Ev none e 82 21 [some (.ref 0), some (.int a), some (.int b), some (.int r)] [.ref 1, .int b, .int a, .ref 8] M v M' 0 0 := Ev.back 1 (gs_3 rfl rfl (gf_u hS.1 qa_0 qr_0_0 qu_1 rfl)) H
    obtain ⟨e1, rfl⟩ := Ev.dpos rfl rfl H
    obtain ⟨vK4, MK4, K4, H⟩ := Ev.callb (fun n_ => gs_7 rfl rfl (show gCal (.invokevirtual 99) 10 (.ref 1 :: .int b :: .int a :: .ref 8 :: []) M = some (.inr (12, [some (.ref 8), some (.int a), some (.int b), some (.ref 1), none, none], [])) from by show @cond (Option ((List Value × Mem) ⊕ (Nat × Lo × List Value))) (true && gRecv M (.ref 8) 1 && gRoom [] && true) (some (.inr (12, [some (.ref 8), some (.int a), some (.int b), some (.ref 1), none, none], []))) none = _; rw [recv_s hS.1 qa_8 qo_8]; rfl)) H
    have K4 : Ev none e1 12 0 [some (.ref 8), some (.int a), some (.int b), some (.ref 1), none, none] [] M vK4 MK4 0 0 := K4
    have HF := H
    exact Or.inr (⟨h1, ⟨e1, vK4, MK4, rfl, K4, HF⟩⟩)
theorem prk_24 {e : Nat} {M M' : Mem} {v : Option Value} {a b r : Int32} (hS : SQ M) (H : Ev none e 82 24 [some (.ref 0), some (.int a), some (.int b), some (.int r)] [] M v M' 0 0) : v = some (.int r) ∧ M' = (wF M 1 1 0) := by
  have H : Ev none e 82 25 [some (.ref 0), some (.int a), some (.int b), some (.int r)] [.ref 0] M v M' 0 0 := Ev.back 1 (fun n => rfl) H
  have H : Ev none e 82 28 [some (.ref 0), some (.int a), some (.int b), some (.int r)] [.ref 1] M v M' 0 0 := Ev.back 1 (gs_3 rfl rfl (gf_u hS.1 qa_0 qr_0_0 qu_1 rfl)) H
  have H : Ev none e 82 29 [some (.ref 0), some (.int a), some (.int b), some (.int r)] [.int 0, .ref 1] M v M' 0 0 := Ev.back 1 (fun n => rfl) H
  obtain ⟨N2, eN2⟩ : ∃ N, N = (wF M 1 1 0) := ⟨_, rfl⟩
  have hN2 : SQ N2 := by rw [eN2]; exact hS.kf
  have H : Ev none e 82 32 [some (.ref 0), some (.int a), some (.int b), some (.int r)] [] N2 v M' 0 0 := by rw [eN2]; exact Ev.pfi rfl rfl rfl hS.1 qa_1 qi_1_1 H
  have H : Ev none e 82 33 [some (.ref 0), some (.int a), some (.int b), some (.int r)] [.int r] N2 v M' 0 0 := Ev.back 1 (fun n => rfl) H
  obtain ⟨z1, z2⟩ := Ev.retz rfl rfl H
  subst eN2
  exact ⟨z1, z2⟩
theorem img_0 {e : Nat} {M M' : Mem} {v : Option Value} {k : Int32} (hS : SQ M) (hLd : fR M 0 2 = 8) (H : Ev none e 123 0 [some (.ref 0), some (.int k)] [] M v M' 0 0) : ((G_126 M k 0 2) = 0 ∧ v = some (.int 0) ∧ M' = M) ∨ (¬ ((G_126 M k 0 2) = 0) ∧ (0 ≤ k.toInt ∧ k.toInt < 3) ∧ (∃ e1 v1 M1, e = e1 + 1 ∧ Ev none e1 13 0 [some (.ref (oI M 339 k)), some (.ref 8), none] [] M v1 M1 0 0 ∧ Ev none e 123 24 [some (.ref 0), some (.int k)] (v1.toList ++ []) M1 v M' 0 0)) := by
  have H : Ev none e 123 3 [some (.ref 0), some (.int k)] [.int 2, .int 0, .int k] M v M' 0 0 := Ev.back 3 (fun n => rfl) H
  obtain ⟨e1, rfl⟩ := Ev.dpos rfl rfl H
  obtain ⟨vK1, MK1, K1, H⟩ := Ev.callb (fun n => rfl) H
  obtain ⟨pK1, qK1⟩ := g_126 hS K1
  rw [pK1, qK1] at H
  have H : Ev none (e1 + 1) 123 6 [some (.ref 0), some (.int k)] [.int (G_126 M k 0 2)] M v M' 0 0 := H
  have H : Ev none (e1 + 1) 123 (if (G_126 M k 0 2) = 0 then 9 else 11) [some (.ref 0), some (.int k)] [] M v M' 0 0 := Ev.back 1 (fun n => rfl) H
  by_cases h2 : (G_126 M k 0 2) = 0
  · rw [if_pos h2] at H
    have H : Ev none (e1 + 1) 123 10 [some (.ref 0), some (.int k)] [.int 0] M v M' 0 0 := Ev.back 1 (fun n => rfl) H
    obtain ⟨z1, z2⟩ := Ev.retz rfl rfl H
    exact Or.inl ⟨h2, z1, z2⟩
  · rw [if_neg h2] at H
    have H : Ev none (e1 + 1) 123 12 [some (.ref 0), some (.int k)] [.ref 0] M v M' 0 0 := Ev.back 1 (fun n => rfl) H
    have H : Ev none (e1 + 1) 123 15 [some (.ref 0), some (.int k)] [.ref 339] M v M' 0 0 := Ev.back 1 (gs_3 rfl rfl (gf_u hS.1 qa_0 qr_0_7 qu_56 rfl)) H
    have H : Ev none (e1 + 1) 123 16 [some (.ref 0), some (.int k)] [.int k, .ref 339] M v M' 0 0 := Ev.back 1 (fun n => rfl) H
    obtain ⟨b3, H⟩ := Ev.aal rfl rfl hS.1 qa_339 qz_56 H
    have H : Ev none (e1 + 1) 123 17 [some (.ref 0), some (.int k)] [.ref (oI M 339 k)] M v M' 0 0 := H
    have H : Ev none (e1 + 1) 123 18 [some (.ref 0), some (.int k)] [.ref 0, .ref (oI M 339 k)] M v M' 0 0 := Ev.back 1 (fun n => rfl) H
    have H : Ev none (e1 + 1) 123 21 [some (.ref 0), some (.int k)] [.ref (fR M 0 2), .ref (oI M 339 k)] M v M' 0 0 := Ev.back 1 (gs_3 rfl rfl (gf_r hS.1 qa_0 qr_0_2 rfl)) H
    rw [hLd] at H
    obtain ⟨vK4, MK4, K4, H⟩ := Ev.callb (fun n_ => gs_7 rfl rfl (show gCal (.invokevirtual 390) 10 (.ref 8 :: .ref (oI M 339 k) :: []) M = some (.inr (13, [some (.ref (oI M 339 k)), some (.ref 8), none], [])) from by show @cond (Option ((List Value × Mem) ⊕ (Nat × Lo × List Value))) (true && gRecv M (.ref (oI M 339 k)) 1 && gRoom [] && true) (some (.inr (13, [some (.ref (oI M 339 k)), some (.ref 8), none], []))) none = _; rw [recv_s hS.1 b3.2 qo_8]; rfl)) H
    have K4 : Ev none e1 13 0 [some (.ref (oI M 339 k)), some (.ref 8), none] [] M vK4 MK4 0 0 := K4
    have HF := H
    exact Or.inr (⟨h2, b3.1, ⟨e1, vK4, MK4, rfl, K4, HF⟩⟩)
theorem img_24 {e : Nat} {M M' : Mem} {v : Option Value} {k : Int32} (hS : SQ M) (H : Ev none e 123 24 [some (.ref 0), some (.int k)] [] M v M' 0 0) : (0 ≤ k.toInt ∧ k.toInt < 3) ∧ v = some (.int 1) ∧ M' = (wI M 340 k.toNatClampNeg (vp_nar .boolean 1)) := by
  have H : Ev none e 123 25 [some (.ref 0), some (.int k)] [.ref 0] M v M' 0 0 := Ev.back 1 (fun n => rfl) H
  have H : Ev none e 123 28 [some (.ref 0), some (.int k)] [.ref 340] M v M' 0 0 := Ev.back 1 (gs_3 rfl rfl (gf_u hS.1 qa_0 qr_0_8 qu_57 rfl)) H
  have H : Ev none e 123 30 [some (.ref 0), some (.int k)] [.int 1, .int k, .ref 340] M v M' 0 0 := Ev.back 2 (fun n => rfl) H
  obtain ⟨b1, H⟩ := Ev.bas3 rfl rfl hS.1 qa_340 qw_57 H
  obtain ⟨N2, eN2⟩ : ∃ N, N = (wI M 340 k.toNatClampNeg (vp_nar .boolean 1)) := ⟨_, rfl⟩
  have hN2 : SQ N2 := by rw [eN2]; exact hS.ki
  have H : Ev none e 123 31 [some (.ref 0), some (.int k)] [] N2 v M' 0 0 := by rw [eN2]; exact H
  have H : Ev none e 123 32 [some (.ref 0), some (.int k)] [.int 1] N2 v M' 0 0 := Ev.back 1 (fun n => rfl) H
  obtain ⟨z1, z2⟩ := Ev.retz rfl rfl H
  subst eN2
  exact ⟨b1, z1, z2⟩
theorem rst_0 {e : Nat} {M M' : Mem} {v : Option Value} {k : Int32} (hS : SQ M) (hLd : fR M 0 2 = 8) (H : Ev none e 124 0 [some (.ref 0), some (.int k)] [] M v M' 0 0) : ((G_126 M k 0 2) = 0 ∧ v = some (.int 0) ∧ M' = M) ∨ (¬ ((G_126 M k 0 2) = 0) ∧ (rI M 340 k) = 0 ∧ (0 ≤ k.toInt ∧ k.toInt < 3) ∧ v = some (.int 0) ∧ M' = M) ∨ (¬ ((G_126 M k 0 2) = 0) ∧ ¬ ((rI M 340 k) = 0) ∧ (0 ≤ k.toInt ∧ k.toInt < 3) ∧ (0 ≤ k.toInt ∧ k.toInt < 3) ∧ (∃ e1 v1 M1, e = e1 + 1 ∧ Ev none e1 13 0 [some (.ref 8), some (.ref (oI M 339 k)), none] [] M v1 M1 0 0 ∧ Ev none e 124 33 [some (.ref 0), some (.int k)] (v1.toList ++ []) M1 v M' 0 0)) := by
  have H : Ev none e 124 3 [some (.ref 0), some (.int k)] [.int 2, .int 0, .int k] M v M' 0 0 := Ev.back 3 (fun n => rfl) H
  obtain ⟨e1, rfl⟩ := Ev.dpos rfl rfl H
  obtain ⟨vK1, MK1, K1, H⟩ := Ev.callb (fun n => rfl) H
  obtain ⟨pK1, qK1⟩ := g_126 hS K1
  rw [pK1, qK1] at H
  have H : Ev none (e1 + 1) 124 6 [some (.ref 0), some (.int k)] [.int (G_126 M k 0 2)] M v M' 0 0 := H
  have H : Ev none (e1 + 1) 124 (if (G_126 M k 0 2) = 0 then 18 else 9) [some (.ref 0), some (.int k)] [] M v M' 0 0 := Ev.back 1 (fun n => rfl) H
  by_cases h2 : (G_126 M k 0 2) = 0
  · rw [if_pos h2] at H
    have H : Ev none (e1 + 1) 124 19 [some (.ref 0), some (.int k)] [.int 0] M v M' 0 0 := Ev.back 1 (fun n => rfl) H
    obtain ⟨z1, z2⟩ := Ev.retz rfl rfl H
    exact Or.inl ⟨h2, z1, z2⟩
  · rw [if_neg h2] at H
    have H : Ev none (e1 + 1) 124 10 [some (.ref 0), some (.int k)] [.ref 0] M v M' 0 0 := Ev.back 1 (fun n => rfl) H
    have H : Ev none (e1 + 1) 124 13 [some (.ref 0), some (.int k)] [.ref 340] M v M' 0 0 := Ev.back 1 (gs_3 rfl rfl (gf_u hS.1 qa_0 qr_0_8 qu_57 rfl)) H
    have H : Ev none (e1 + 1) 124 14 [some (.ref 0), some (.int k)] [.int k, .ref 340] M v M' 0 0 := Ev.back 1 (fun n => rfl) H
    obtain ⟨b3, H⟩ := Ev.bal rfl rfl hS.1 qa_340 qw_57 (Or.inr rfl) H
    have H : Ev none (e1 + 1) 124 15 [some (.ref 0), some (.int k)] [.int (rI M 340 k)] M v M' 0 0 := H
    have H : Ev none (e1 + 1) 124 (if (rI M 340 k) = 0 then 18 else 20) [some (.ref 0), some (.int k)] [] M v M' 0 0 := Ev.back 1 (fun n => rfl) H
    by_cases h4 : (rI M 340 k) = 0
    · rw [if_pos h4] at H
      have H : Ev none (e1 + 1) 124 19 [some (.ref 0), some (.int k)] [.int 0] M v M' 0 0 := Ev.back 1 (fun n => rfl) H
      obtain ⟨z1, z2⟩ := Ev.retz rfl rfl H
      exact Or.inr (Or.inl ⟨h2, h4, b3, z1, z2⟩)
    · rw [if_neg h4] at H
      have H : Ev none (e1 + 1) 124 21 [some (.ref 0), some (.int k)] [.ref 0] M v M' 0 0 := Ev.back 1 (fun n => rfl) H
      have H : Ev none (e1 + 1) 124 24 [some (.ref 0), some (.int k)] [.ref (fR M 0 2)] M v M' 0 0 := Ev.back 1 (gs_3 rfl rfl (gf_r hS.1 qa_0 qr_0_2 rfl)) H
      rw [hLd] at H
      have H : Ev none (e1 + 1) 124 25 [some (.ref 0), some (.int k)] [.ref 0, .ref 8] M v M' 0 0 := Ev.back 1 (fun n => rfl) H
      have H : Ev none (e1 + 1) 124 28 [some (.ref 0), some (.int k)] [.ref 339, .ref 8] M v M' 0 0 := Ev.back 1 (gs_3 rfl rfl (gf_u hS.1 qa_0 qr_0_7 qu_56 rfl)) H
      have H : Ev none (e1 + 1) 124 29 [some (.ref 0), some (.int k)] [.int k, .ref 339, .ref 8] M v M' 0 0 := Ev.back 1 (fun n => rfl) H
      obtain ⟨b5, H⟩ := Ev.aal rfl rfl hS.1 qa_339 qz_56 H
      have H : Ev none (e1 + 1) 124 30 [some (.ref 0), some (.int k)] [.ref (oI M 339 k), .ref 8] M v M' 0 0 := H
      obtain ⟨vK6, MK6, K6, H⟩ := Ev.callb (fun n_ => gs_7 rfl rfl (show gCal (.invokevirtual 390) 10 (.ref (oI M 339 k) :: .ref 8 :: []) M = some (.inr (13, [some (.ref 8), some (.ref (oI M 339 k)), none], [])) from by show @cond (Option ((List Value × Mem) ⊕ (Nat × Lo × List Value))) (true && gRecv M (.ref 8) 1 && gRoom [] && true) (some (.inr (13, [some (.ref 8), some (.ref (oI M 339 k)), none], []))) none = _; rw [recv_s hS.1 qa_8 qo_8]; rfl)) H
      have K6 : Ev none e1 13 0 [some (.ref 8), some (.ref (oI M 339 k)), none] [] M vK6 MK6 0 0 := K6
      have HF := H
      exact Or.inr (Or.inr (⟨h2, h4, b3, b5.1, ⟨e1, vK6, MK6, rfl, K6, HF⟩⟩))
theorem rst_33 {e : Nat} {M M' : Mem} {v : Option Value} {k : Int32} (hS : SQ M) (H : Ev none e 124 33 [some (.ref 0), some (.int k)] [] M v M' 0 0) : v = some (.int 1) ∧ M' = M := by
  have H : Ev none e 124 34 [some (.ref 0), some (.int k)] [.int 1] M v M' 0 0 := Ev.back 1 (fun n => rfl) H
  obtain ⟨z1, z2⟩ := Ev.retz rfl rfl H
  exact ⟨z1, z2⟩
theorem opc_0 {e : Nat} {M M' : Mem} {v : Option Value} (hS : SQ M) (hLd : fR M 0 2 = 8) (hTr : fR M 0 6 = 243) (H : Ev none e 133 0 [some (.ref 0)] [] M v M' 0 0) : (∃ e1 v1 M1, e = e1 + 1 ∧ Ev none e1 13 0 [some (.ref 243), some (.ref 8), none] [] M v1 M1 0 0 ∧ Ev none e 133 11 [some (.ref 0)] (v1.toList ++ []) M1 v M' 0 0) := by
  have H : Ev none e 133 1 [some (.ref 0)] [.ref 0] M v M' 0 0 := Ev.back 1 (fun n => rfl) H
  have H : Ev none e 133 4 [some (.ref 0)] [.ref (fR M 0 6)] M v M' 0 0 := Ev.back 1 (gs_3 rfl rfl (gf_r hS.1 qa_0 qr_0_6 rfl)) H
  rw [hTr] at H
  have H : Ev none e 133 5 [some (.ref 0)] [.ref 0, .ref 243] M v M' 0 0 := Ev.back 1 (fun n => rfl) H
  have H : Ev none e 133 8 [some (.ref 0)] [.ref (fR M 0 2), .ref 243] M v M' 0 0 := Ev.back 1 (gs_3 rfl rfl (gf_r hS.1 qa_0 qr_0_2 rfl)) H
  rw [hLd] at H
  obtain ⟨e1, rfl⟩ := Ev.dpos rfl rfl H
  obtain ⟨vK1, MK1, K1, H⟩ := Ev.callb (fun n_ => gs_7 rfl rfl (show gCal (.invokevirtual 390) 10 (.ref 8 :: .ref 243 :: []) M = some (.inr (13, [some (.ref 243), some (.ref 8), none], [])) from by show @cond (Option ((List Value × Mem) ⊕ (Nat × Lo × List Value))) (true && gRecv M (.ref 243) 1 && gRoom [] && true) (some (.inr (13, [some (.ref 243), some (.ref 8), none], []))) none = _; rw [recv_s hS.1 qa_243 qo_8]; rfl)) H
  have K1 : Ev none e1 13 0 [some (.ref 243), some (.ref 8), none] [] M vK1 MK1 0 0 := K1
  have HF := H
  exact ⟨e1, vK1, MK1, rfl, K1, HF⟩
theorem opc_11 {e : Nat} {M M' : Mem} {v : Option Value} (hS : SQ M) (hLd : fR M 0 2 = 8) (hTr : fR M 0 6 = 243) (H : Ev none e 133 11 [some (.ref 0)] [] M v M' 0 0) : (∃ e1 v1 M1, e = e1 + 1 ∧ Ev none e1 54 0 [some (.ref 104), some (.ref 243)] [] M v1 M1 0 0 ∧ Ev none e 133 22 [some (.ref 0)] (v1.toList ++ []) M1 v M' 0 0) := by
  have H : Ev none e 133 12 [some (.ref 0)] [.ref 0] M v M' 0 0 := Ev.back 1 (fun n => rfl) H
  have H : Ev none e 133 15 [some (.ref 0)] [.ref 104] M v M' 0 0 := Ev.back 1 (gs_3 rfl rfl (gf_u hS.1 qa_0 qr_0_3 qu_22 rfl)) H
  have H : Ev none e 133 16 [some (.ref 0)] [.ref 0, .ref 104] M v M' 0 0 := Ev.back 1 (fun n => rfl) H
  have H : Ev none e 133 19 [some (.ref 0)] [.ref (fR M 0 6), .ref 104] M v M' 0 0 := Ev.back 1 (gs_3 rfl rfl (gf_r hS.1 qa_0 qr_0_6 rfl)) H
  rw [hTr] at H
  obtain ⟨e1, rfl⟩ := Ev.dpos rfl rfl H
  obtain ⟨vK1, MK1, K1, H⟩ := Ev.callb (fun n_ => gs_7 rfl rfl (show gCal (.invokevirtual 197) 10 (.ref 243 :: .ref 104 :: []) M = some (.inr (54, [some (.ref 104), some (.ref 243)], [])) from by show @cond (Option ((List Value × Mem) ⊕ (Nat × Lo × List Value))) (true && gRecv M (.ref 104) 7 && gRoom [] && true) (some (.inr (54, [some (.ref 104), some (.ref 243)], []))) none = _; rw [recv_s hS.1 qa_104 qo_22]; rfl)) H
  have K1 : Ev none e1 54 0 [some (.ref 104), some (.ref 243)] [] M vK1 MK1 0 0 := K1
  have HF := H
  exact ⟨e1, vK1, MK1, rfl, K1, HF⟩
theorem opc_22 {e : Nat} {M M' : Mem} {v : Option Value} (hS : SQ M) (H : Ev none e 133 22 [some (.ref 0)] [] M v M' 0 0) : v = none ∧ M' = M := by
  obtain ⟨z1, z2⟩ := Ev.retb (fun n => rfl) H
  exact ⟨z1, z2⟩
/-! THE CLASS'S state between calls -/
def imgA (k : Nat) : Nat := 345 + 96 * k
def GFX (M : Mem) : Prop := fR M 0 2 = 8 ∧ fR M 0 6 = 243 ∧ ∀ k, k < 3 → oN M 339 k = imgA k
def okA (P : PK) : Prop := okD P ∧ okK P ∧ (0 ≤ (P 518).toInt ∧ (P 518).toInt ≤ 60000) ∧ okE (60 * (P 518).toInt.toNat) P
def CST (T : TS) (P : PK) (PI : Nat → PK) (M : Mem) : Prop := SQ M ∧ GFX M ∧ TXc T M ∧ SXc M ∧ GRI M ∧ (∀ L, gNth sT L = some 8 → WXr L M ∧ WKs L M) ∧ (okA P ∧ LAN 8 P M) ∧ ∀ k, k < 3 → ¬ rN M 340 k = 0 → okA (PI k) ∧ LAN (imgA k) (PI k) M
theorem lnd_8 : gNth sT 8 = some 8 := by decide +kernel
theorem lnd_tr : gNth sT 243 = some 8 := by decide +kernel
theorem lnd_im : ∀ k, k < 3 → gNth sT (imgA k) = some 8 := by decide +kernel
section CCAL
variable {e B L : Nat} {T : TS} {P P' Q : PK} {PI : Nat → PK} {M M1 M' : Mem} {v : Option Value} {c k d x a b h ev fi t : Int32} {n i j : Nat} {F : Nat → Nat → Prop} {W O : Nat → Prop}
theorem okA.n24 (h : okA P) : (P 12).toInt ≤ 24 := h.1.2.2.2.1
theorem okA.k60 (h : okA P) : (P 157).toInt ≤ 60 := h.2.1.2.1
theorem TXc.fz (h : TXc T M) (hS : SH M) (hF : FZ F W O M M') (f2 : ¬ F 104 2) (ft : ∀ t, gNth sT t = some 28 → (∀ k, ¬ F t k) ∧ ∀ k, 1 ≤ k → k ≤ 8 → ¬ W (t + k)) (o : ¬ O 109) : TXc T M' := by
  obtain ⟨⟨t1, t2⟩, t3⟩ := h
  have e2 : fR M' 104 2 = fR M 104 2 := hF.fr f2
  refine ⟨⟨?_, t2⟩, fun h hh => ?_⟩
  · have q := ft _ (law_t hS)
    rw [e2]
    exact t1.fz hF q.1 q.2
  · have q := ft _ (hab_t hS hh)
    rw [hF.on o]
    exact ⟨(t3 h hh).1.fz hF q.1 q.2, (t3 h hh).2⟩
/-- what leaves the whole state alone -/
theorem CST.scr (h : CST T P PI M) (hS : SQ M') (hF : FZ F W O M M') (f0 : ¬ F 0 2 ∧ ¬ F 0 6 ∧ ¬ F 104 2) (fl : ∀ L, gNth sT L = some 8 → ¬ L = 243 → (∀ a k, L ≤ a → a < L + 96 → ¬ F a k) ∧ ∀ a, L + 1 ≤ a → a ≤ L + 9 → ¬ W a) (ft : ∀ t, gNth sT t = some 28 → (∀ k, ¬ F t k) ∧ ∀ k, 1 ≤ k → k ≤ 8 → ¬ W (t + k)) (o : ¬ O 109 ∧ ¬ O 129 ∧ ¬ O 339) (ol : ∀ L, gNth sT L = some 8 → ¬ L = 243 → ¬ O (L + 11)) (hX : ∀ L, gNth sT L = some 8 → WXr L M' ∧ WKs L M') (hG : GRI M') (w : ¬ W 340) : CST T P PI M' := by
  obtain ⟨a1, ⟨a2, a3, a4⟩, a5, a6, a7, a8, ⟨a9, a10⟩, a11⟩ := h
  have n8 : ¬ (8 : Nat) = 243 := by decide
  refine ⟨hS, ⟨(hF.fr f0.1).trans a2, (hF.fr f0.2.1).trans a3, fun k hk => (hF.on o.2.2).trans (a4 k hk)⟩, a5.fz a1.1 hF f0.2.2 ft o.1, fun m hm => (hF.on o.2.1).trans (a6 m hm), hG, hX, ⟨a9, a10.fz hF (fl 8 lnd_8 n8).1 (fl 8 lnd_8 n8).2 (ol 8 lnd_8 n8) (a8 8 lnd_8).2 a9.n24 a9.k60⟩, fun k hk hr => ?_⟩
  have er : rN M' 340 k = rN M 340 k := hF.rn w
  rw [er] at hr
  obtain ⟨b1, b2⟩ := a11 k hk hr
  have hi := lnd_im k hk
  have ni : ¬ imgA k = 243 := by unfold imgA; omega
  exact ⟨b1, b2.fz hF (fl _ hi ni).1 (fl _ hi ni).2 (ol _ hi ni) (a8 _ hi).2 b1.n24 b1.k60⟩
/-- a change of the live land -/
theorem CST.live (h : CST T P PI M) (hS : SQ M') (hF : FZ (cpF 8) (cpW 8) noO M M') (ok : okA Q) (hA : LAN 8 Q M') : CST T Q PI M' := by
  obtain ⟨a1, ⟨a2, a3, a4⟩, a5, a6, a7, a8, ⟨a9, a10⟩, a11⟩ := h
  refine ⟨hS, ⟨(hF.fr (by unfold cpF; omega)).trans a2, (hF.fr (by unfold cpF; omega)).trans a3, fun k hk => (hF.on (fun q => q)).trans (a4 k hk)⟩, a5.fz a1.1 hF (by unfold cpF; omega) (fun t ht => ?_) (fun q => q), fun m hm => (hF.on (fun q => q)).trans (a6 m hm), a7.fz hF (by unfold cpF; omega) (by unfold cpF; omega) (fun a _ _ => by unfold cpW; omega), fun L hL => ⟨fun k hk => (hF.on (fun q => q)).trans ((a8 L hL).1 k hk), (a8 L hL).2.on (fun j => hF.on (fun q => q))⟩, ⟨ok, hA⟩, fun k hk hr => ?_⟩
  · have := tx_cases ht
    exact ⟨fun k => by unfold cpF; omega, fun k k1 k8 => by unfold cpW; omega⟩
  · have er : rN M' 340 k = rN M 340 k := hF.rn (by unfold cpW; omega)
    rw [er] at hr
    obtain ⟨b1, b2⟩ := a11 k hk hr
    have hi := lnd_im k hk
    exact ⟨b1, b2.fz hF (fun a k q1 q2 => by unfold imgA at q1; unfold cpF; omega) (fun a q1 q2 => by unfold imgA at q1; unfold cpW; omega) (fun q => q) (a8 _ hi).2 b1.n24 b1.k60⟩
theorem g7L (hC : LCel L P M) (hc : inC P c) : G_7 M L c = bI (opnB P c) := by
  have e : rI M (L + 1) c = cE P 0 c := hC.at hc (f := 0) (by decide)
  unfold G_7 opnB
  rw [e]
  by_cases h3 : cE P 0 c = 3
  · rw [if_pos h3, decide_eq_true h3]; rfl
  · rw [if_neg h3, decide_eq_false h3]
    by_cases h6 : cE P 0 c = 6
    · rw [if_pos h6, decide_eq_true h6]; rfl
    · rw [if_neg h6, decide_eq_false h6]; rfl
theorem g126_R {lo hi : Int32} : G_126 M x lo hi = 0 ↔ ¬ inX x lo hi := by
  unfold G_126 inX
  by_cases h1 : x < lo
  · rw [if_pos h1]
    exact ⟨fun _ r => by have := Int32.lt_iff_toInt_lt.mp h1; omega, fun _ => rfl⟩
  · rw [if_neg h1]
    by_cases h2 : hi < x
    · rw [if_pos h2]
      exact ⟨fun _ r => by have := Int32.lt_iff_toInt_lt.mp h2; omega, fun _ => rfl⟩
    · rw [if_neg h2]
      have n1 : ¬ x.toInt < lo.toInt := fun q => h1 (Int32.lt_iff_toInt_lt.mpr q)
      have n2 : ¬ hi.toInt < x.toInt := fun q => h2 (Int32.lt_iff_toInt_lt.mpr q)
      exact ⟨fun q => absurd q (by decide), fun q => absurd ⟨by omega, by omega⟩ q⟩
theorem isc_ok (hA : LAN 8 P M) (hw : wh4 P) : G_126 M c 0 (G_6 M 8 - 1) = 0 ↔ ¬ inC P c := by
  obtain ⟨_, c256, c16⟩ := cls_int hw
  have hg := g6_ok hw hA.1.1 hA.1.2.1
  have e1 : (G_6 M 8 - 1).toInt = (clsP P : Int) - 1 := by rw [i32_m1 (by omega)]; omega
  rw [g126_R]
  unfold inX inC
  have t0 : (0 : Int32).toInt = 0 := rfl
  rw [e1, t0]
  constructor
  · exact fun q r => q ⟨r.1, by omega⟩
  · exact fun q r => q ⟨r.1, by omega⟩
theorem hsd_l (hS : SQ M) (hL : gNth sT L = some 8) (hA : LAN L P M) (n9 : (P 2).toInt ≤ 9) : ∀ (n k : Nat) (kz : Int32), kz.toInt = (k : Int) → (k : Int) + (n : Int) = (P 2).toInt → Ev none e 9 2 [some (.ref L), some (.int c), some (.int kz)] [] M v M' 0 0 → M' = M ∧ v = some (.int (bI (hdP P c n k))) := by
  have e2 : zI M L 11 = P 2 := hA.1.2.2.1.1
  intro n
  induction n with
  | zero =>
    intro k kz hk hn H
    rcases hsd_2 hS hL H with ⟨_, r1, r2⟩ | ⟨a1, _⟩ | ⟨a1, _⟩
    · exact ⟨r2, r1⟩
    all_goals exact absurd (Int32.le_iff_toInt_le.mpr (by rw [e2]; omega)) a1
  | succ n ih =>
    intro k kz hk hn H
    have er : rI M (L + 9) kz = P (3 + k) := (rI_n hk).trans (hA.1.2.2.1.2 k (by omega))
    unfold hdP
    rcases hsd_2 hS hL H with ⟨a1, _⟩ | ⟨_, a2, _, r1, r2⟩ | ⟨_, a2, _, H⟩
    · have := Int32.le_iff_toInt_le.mp a1
      rw [e2] at this
      omega
    · rw [er] at a2
      rw [if_pos a2]
      exact ⟨r2, r1⟩
    · rw [er] at a2
      rw [if_neg a2]
      exact ih (k + 1) (kz + 1) (by rw [i32_p1 (by omega)]; omega) (by omega) H
theorem hsd_ok (hS : SQ M) (hL : gNth sT L = some 8) (hA : LAN L P M) (hD : okD P) (H : Ev none e 9 0 [some (.ref L), some (.int c), none] [] M v M' 0 0) : M' = M ∧ v = some (.int (bI (hasP P c))) := hsd_l hS hL hA hD.2.1.2.1 (P 2).toInt.toNat 0 0 rfl (by have := hD.2.1.1; omega) (hsd_0 hS hL H)
theorem okA.lo (h : okA P) (hD : okD Q) (hK : okK Q) (h0 : Q 0 = P 0) (h1 : Q 1 = P 1) (hs : ∀ j, 518 ≤ j → Q j = P j) : okA Q := by
  obtain ⟨a1, a2, a3, a4⟩ := h
  have e := hs 518 (by decide)
  refine ⟨hD, hK, by rw [e]; exact a3, ?_⟩
  rw [e]
  exact a4.sb h0 h1 (fun j hj => hs j (by omega))
/-- a land: what changed is told -/
theorem LAN.lo (hA : LAN L P M) (hF : FZ F W O M M') (h0 : Q 0 = P 0) (h1 : Q 1 = P 1) (hs : ∀ j, 157 ≤ j → Q j = P j) (fp : ∀ a k, L ≤ a → a < L + 96 → F a k → (a = L ∧ (k = 11 ∨ k = 13)) ∨ (L + 12 ≤ a ∧ a < L + 36)) (fw : ∀ a, W a → a = L + 9 ∨ a < L + 1 ∨ L + 9 < a) (o0 : ¬ O (L + 11)) (hk : WKs L M) (k60 : (P 157).toInt ≤ 60) (hd : zI M' L 11 = Q 2 ∧ ∀ d, d < (Q 2).toInt.toNat → rN M' (L + 9) d = Q (3 + d)) (hw : zI M' L 13 = Q 12 ∧ ∀ k, k < (Q 12).toInt.toNat → ∀ f, f < 6 → zI M' (L + 12 + k) f = Q (13 + 6 * k + f)) : LAN L Q M' := by
  obtain ⟨⟨a0, a1, _, _, _⟩, ⟨b1, b2, b3, b4⟩, hC, ⟨l1, l2⟩, hcr⟩ := hA
  have zL : ∀ k, k ≠ 11 → k ≠ 13 → zI M' L k = zI M L k := fun k n1 n3 => hF.fi (fun q => by have := fp L k (by omega) (by omega) q; omega)
  have rr : ∀ f, 1 ≤ f → f ≤ 8 → ∀ j, rN M' (L + f) j = rN M (L + f) j := fun f f1 f8 j => hF.rn (fun q => by have := fw _ q; omega)
  have e157 := hs 157 (by decide)
  refine ⟨⟨(zL 0 (by decide) (by decide)).trans (a0.trans h0.symm), (zL 1 (by decide) (by decide)).trans (a1.trans h1.symm), hd, hw.1, hw.2⟩, ⟨(zL 16 (by decide) (by decide)).trans (b1.trans (hs _ (by decide)).symm), (zL 17 (by decide) (by decide)).trans (b2.trans (hs _ (by decide)).symm), (zL 18 (by decide) (by decide)).trans (b3.trans (hs _ (by decide)).symm), (zL 19 (by decide) (by decide)).trans (b4.trans (hs _ (by decide)).symm)⟩, fun k f hk hf => ?_, ⟨(zL 15 (by decide) (by decide)).trans (l1.trans e157.symm), fun k hkk => ?_⟩, fun c hc => ?_⟩
  · rw [cls_eq h0 h1] at hk
    have q := rr (1 + f) (by omega) (by omega) k
    rw [← Nat.add_assoc] at q
    exact q.trans ((hC k f hk hf).trans (hs _ (by omega)).symm)
  · rw [e157] at hkk
    have bq := hk.2 k (by omega)
    rw [hF.on o0]
    exact (l2 k hkk).eq (fun f _ => hF.fi (fun q => by have := fp _ _ (by omega) (by omega) q; omega)) (fun j hj => hs _ (by omega))
  · rw [inC.eq h0 h1] at hc
    have q : rI M' (L + 8) c = rI M (L + 8) c := rr 8 (by decide) (by decide) _
    rw [q, e157, hcr c hc]
    exact (crd_congr _ (fun k hk => hs _ (by omega))).symm
end CCAL
/-! THE CLASS'S door, wish, drop, snow -/
section CDOR
variable {e B L : Nat} {T : TS} {P P' Q : PK} {PI : Nat → PK} {M M1 M' : Mem} {v : Option Value} {c k d x a b h ev fi t : Int32} {n i j : Nat}
theorem CST.sq (h : CST T P PI M) : SQ M := h.1
theorem CST.ld (h : CST T P PI M) : fR M 0 2 = 8 := h.2.1.1
theorem CST.ok (h : CST T P PI M) : okA P := h.2.2.2.2.2.2.1.1
theorem CST.lan (h : CST T P PI M) : LAN 8 P M := h.2.2.2.2.2.2.1.2
theorem CST.wx (h : CST T P PI M) : WXr 8 M := (h.2.2.2.2.2.1 8 lnd_8).1
theorem CST.wk (h : CST T P PI M) : WKs 8 M := (h.2.2.2.2.2.1 8 lnd_8).2
theorem door_ok (h : CST T P PI M) (H : Ev none e 84 0 [some (.ref 0), some (.int c)] [] M v M' 0 0) : (dorN P c ∧ v = some (.int (-1)) ∧ M' = M) ∨ (¬ dorN P c ∧ v = some (.int (P 2)) ∧ CST T (dorP P c) PI M') := by
  have hS := h.sq
  have hA := h.lan
  have hD := h.ok.1
  have hw := hD.1
  have z11 : zI M 8 11 = P 2 := hA.1.2.2.1.1
  unfold dorN
  rcases dor_0 hS h.ld H with ⟨a1, r1, r2⟩ | ⟨a1, e1, v1, M1, _, H1, H⟩
  · rw [z11] at a1
    exact Or.inl ⟨Or.inl a1, r1, r2⟩
  · rw [z11] at a1
    obtain ⟨rv, rm⟩ := isc_0 hS h.ld H1
    rw [rv, rm] at H
    rcases dor_17 hS h.ld H with ⟨a2, q1, q2⟩ | ⟨a2, a3, q1, q2⟩ | ⟨a2, a3, e2, v2, M2, _, H2, H⟩
    · rw [isc_ok hA hw] at a2
      exact Or.inl ⟨Or.inr (Or.inl a2), q1, q2⟩
    · rw [isc_ok hA hw, Classical.not_not] at a2
      rw [g7L hA.2.2.1 a2, bI_0] at a3
      exact Or.inl ⟨Or.inr (Or.inr (Or.inl a3)), q1, q2⟩
    · rw [isc_ok hA hw, Classical.not_not] at a2
      rw [g7L hA.2.2.1 a2, bI_0] at a3
      obtain ⟨rm2, rv2⟩ := hsd_ok hS lnd_8 hA hD H2
      rw [rv2, rm2] at H
      rcases dor_39 hS h.ld H with ⟨a4, _, q1, q2⟩ | ⟨a4, q1, q2⟩
      · rw [bI_0] at a4
        rw [z11] at q1 q2
        obtain ⟨b1, b2, b3, b4⟩ := hD.dor a1 a2
        have b0 := hD.2.1.1
        have b9 := hD.2.1.2.1
        have t9 : (9 : Int32).toInt = 9 := rfl
        have n9 : (P 2).toInt ≠ 9 := fun q => a1 (Int32.toInt_inj.mp (q.trans t9.symm))
        obtain ⟨m, em⟩ : ∃ m, m = (P 2).toInt.toNat := ⟨_, rfl⟩
        have ix : (P 2).toNatClampNeg = m := cl_n (by omega)
        rw [ix] at q2
        have hF : FZ (fun a k => a = 8 ∧ k = 11) (fun a => a = 17) noO M M' := by
          rw [q2]
          exact (FZ.wI (F := fun a k => a = 8 ∧ k = 11) (W := fun a => a = 17) rfl).trans (FZ.wF ⟨rfl, rfl⟩)
        have S' : SQ M' := by rw [q2]; exact hS.ki.kf
        have d2 : dorP P c 2 = P 2 + 1 := up_eq
        have d2i : (dorP P c 2).toInt = (P 2).toInt + 1 := by rw [d2]; exact i32_p1 (by omega)
        refine Or.inr ⟨fun q => ?_, q1, h.live S' (hF.more (fun a k q => by unfold cpF; omega) (fun a q => by unfold cpW; omega) (fun _ q => q)) (h.ok.lo b1 (h.ok.2.1.wis b3 b4 (by rw [b2 12 (by decide)]; omega) (fun j hj => b2 j (by omega))) b3 b4 (fun j hj => b2 j (by omega))) (hA.lo hF b3 b4 (fun j hj => b2 j (by omega)) (fun a k _ _ q => Or.inl ⟨q.1, Or.inl q.2⟩) (fun a q => Or.inl q) (fun q => q) h.wk h.ok.k60 ⟨?_, fun d hd => ?_⟩ ⟨?_, fun k hk f hf => ?_⟩)⟩
        · rcases q with q | q | q | q
          · exact a1 q
          · exact q a2
          · exact a3 q
          · rw [a4] at q; cases q
        · rw [d2, q2]
          exact fI_wF_eq hS.ki.1 lnd_8 qi_8_11
        · rw [q2, rN_wF]
          unfold dorP
          rw [← em, up_ne (by omega)]
          by_cases hdm : d = m
          · rw [hdm, up_eq]
            exact rN_wI_eq (by rw [(hS.1.row (fx_h10 lnd_8) qw_17).2]; omega)
          · rw [up_ne (by omega), rN_wI_ne (by omega)]
            exact hA.1.2.2.1.2 d (by omega)
        · rw [b2 12 (by decide), hF.fi (by omega)]
          exact hA.1.2.2.2.1
        · rw [b2 12 (by decide)] at hk
          rw [b2 _ (by omega), hF.fi (by omega)]
          exact hA.1.2.2.2.2 k hk f hf
      · rw [bI_0, Bool.not_eq_false] at a4
        exact Or.inl ⟨Or.inr (Or.inr (Or.inr a4)), q1, q2⟩
theorem wx_oI (hx : WXr L M) {kz : Int32} (h0 : 0 ≤ kz.toInt) (h1 : kz.toInt < 24) : oI M (L + 10) kz = L + 12 + kz.toInt.toNat := by
  unfold oI
  rw [cl_n (kn := kz.toInt.toNat) (by omega)]
  exact hx _ (by omega)
theorem isw_ok (h : CST T P PI M) (H : Ev none e 130 0 [some (.ref 0), some (.int k)] [] M v M' 0 0) : M' = M ∧ ((isW P k ∧ v = some (.int 1)) ∨ (¬ isW P k ∧ v = some (.int 0))) := by
  have hS := h.sq
  have hA := h.lan
  have hD := h.ok.1
  have z13 : zI M 8 13 = P 12 := hA.1.2.2.2.1
  have b0 := hD.2.2.1
  have b24 := hD.2.2.2.1
  have e1 : (P 12 - 1).toInt = (P 12).toInt - 1 := i32_m1 (by omega)
  have t0 : (0 : Int32).toInt = 0 := rfl
  unfold isW
  rcases isw_0 hS h.ld H with ⟨a1, r1, r2⟩ | ⟨a1, a2, _, r1, r2⟩ | ⟨a1, a2, _, r1, r2⟩
  · rw [z13, g126_R] at a1
    unfold inX at a1
    rw [e1, t0] at a1
    exact ⟨r2, Or.inr ⟨fun q => a1 ⟨q.1.1, by omega⟩, r1⟩⟩
  · rw [z13, g126_R, Classical.not_not] at a1
    unfold inX at a1
    rw [e1, t0] at a1
    rw [wx_oI h.wx (by omega) (by omega), hA.1.2.2.2.2 _ (by omega) 5 (by decide)] at a2
    exact ⟨r2, Or.inr ⟨fun q => by rw [q.2] at a2; exact absurd a2 (by decide), r1⟩⟩
  · rw [z13, g126_R, Classical.not_not] at a1
    unfold inX at a1
    rw [e1, t0] at a1
    rw [wx_oI h.wx (by omega) (by omega), hA.1.2.2.2.2 _ (by omega) 5 (by decide)] at a2
    rcases (hD.2.2.2.2 k.toInt.toNat (by omega)).2.2.2.2 with q | q
    · exact absurd q a2
    · exact ⟨r2, Or.inl ⟨⟨⟨by omega, by omega⟩, q⟩, r1⟩⟩
theorem wi_t' (hS : SH M) (hx : WXr 8 M) {k : Nat} (hk : k < 24) : gNth sT (8 + 12 + k) = some 20 := wi_t hS lnd_8 hx hk
theorem drop_ok (h : CST T P PI M) (H : Ev none e 90 0 [some (.ref 0), some (.int k)] [] M v M' 0 0) : (¬ isW P k ∧ v = some (.int 0) ∧ M' = M) ∨ (isW P k ∧ v = some (.int 1) ∧ CST T (drpP P k) PI M') := by
  have hS := h.sq
  have hA := h.lan
  have hD := h.ok.1
  obtain ⟨e1, v1, M1, _, H1, H⟩ := drp_0 hS h.ld H
  obtain ⟨rm, rv⟩ := isw_ok h H1
  rw [rm] at H
  rcases rv with ⟨hW, rv⟩ | ⟨hW, rv⟩
  · rw [rv] at H
    rcases drp_5 hS h.ld H with ⟨a1, _⟩ | ⟨_, _, r1, r2⟩
    · exact absurd a1 (by decide)
    · obtain ⟨m, em⟩ : ∃ m, m = k.toInt.toNat := ⟨_, rfl⟩
      have w1 := hW.1
      have b24 := hD.2.2.2.1
      rw [wx_oI h.wx (by omega) (by omega), ← em] at r2
      obtain ⟨b1, b2⟩ := hD.drp (k := k) w1
      rw [← em] at b2
      have hF : FZ (fun a f => a = 8 + 12 + m ∧ f = 5) noO noO M M' := by
        rw [r2]
        exact FZ.wF (F := fun a f => a = 8 + 12 + m ∧ f = 5) ⟨rfl, rfl⟩
      have S' : SQ M' := by rw [r2]; exact hS.kf
      have b3 := b2 0 (by omega)
      have b4 := b2 1 (by omega)
      refine Or.inr ⟨hW, r1, h.live S' (hF.more (fun a k q => by unfold cpF; omega) (fun a q => q.elim) (fun _ q => q)) (h.ok.lo b1 (h.ok.2.1.wis b3 b4 (by rw [b2 12 (by omega)]; omega) (fun j hj => b2 j (by omega))) b3 b4 (fun j hj => b2 j (by omega))) (hA.lo hF b3 b4 (fun j hj => b2 j (by omega)) (fun a k _ _ q => Or.inr (by omega)) (fun a q => q.elim) (fun q => q) h.wk h.ok.k60 ⟨?_, fun d hd => ?_⟩ ⟨?_, fun i hi f hf => ?_⟩)⟩
      · rw [b2 2 (by omega), hF.fi (by omega)]
        exact hA.1.2.2.1.1
      · rw [b2 2 (by omega)] at hd
        have := hD.2.1.2.1
        rw [b2 _ (by omega)]
        exact (hF.rn (fun q => q)).trans (hA.1.2.2.1.2 d hd)
      · rw [b2 12 (by omega), hF.fi (by omega)]
        exact hA.1.2.2.2.1
      · rw [b2 12 (by omega)] at hi
        by_cases hif : i = m ∧ f = 5
        · rw [hif.1, hif.2, r2]
          have e5 : drpP P k (13 + 6 * m + 5) = 0 := by rw [em]; exact up_eq
          rw [e5]
          exact fI_wF_eq hS.1 (wi_t' hS.1 h.wx (by omega)) qi_20_5
        · rw [b2 _ (by omega), hF.fi (by omega)]
          exact hA.1.2.2.2.2 i hi f hf
  · rw [rv] at H
    rcases drp_5 hS h.ld H with ⟨_, r1, r2⟩ | ⟨a1, _⟩
    · exact Or.inl ⟨hW, r1, r2⟩
    · exact absurd rfl a1
end CDOR
/-! THE CLASS'S rain, snow, lay, park, image, restore -/
section CRAI
variable {e B L : Nat} {T : TS} {P P' Q : PK} {PI : Nat → PK} {M M0 M1 M' : Mem} {v : Option Value} {c k d x a b t : Int32} {n i j : Nat} {F : Nat → Nat → Prop} {W O : Nat → Prop}
/-- a land whose cells alone change -/
theorem LAN.hi (hA : LAN L P M) (hF : FZ noF W noO M M') (hs : hiS P Q) (fw : ∀ a, W a → L + 1 ≤ a ∧ a ≤ L + 7) (hl : LCel L Q M') (hD : okD P) (k60 : (P 157).toInt ≤ 60) : LAN L Q M' := by
  have d9 := hD.2.1.2.1
  have d24 := hD.2.2.2.1
  obtain ⟨⟨a0, a1, ⟨a2, a3⟩, a4, a5⟩, ⟨b1, b2, b3, b4⟩, hC, ⟨l1, l2⟩, hcr⟩ := hA
  have zL : ∀ a k, zI M' a k = zI M a k := fun a k => hF.fi (fun q => q)
  have e157 := hs 157 (by decide)
  have e0 := hs 0 (by decide)
  have e1 := hs 1 (by decide)
  have w8 : ¬ W (L + 8) := fun q => by have := fw _ q; omega
  have w9 : ¬ W (L + 9) := fun q => by have := fw _ q; omega
  refine ⟨⟨(zL _ _).trans (a0.trans e0.symm), (zL _ _).trans (a1.trans e1.symm), ⟨(zL _ _).trans (a2.trans (hs 2 (by decide)).symm), fun d hd => ?_⟩, (zL _ _).trans (a4.trans (hs 12 (by decide)).symm), fun k hk f hf => ?_⟩, ⟨(zL _ _).trans (b1.trans (hs _ (by decide)).symm), (zL _ _).trans (b2.trans (hs _ (by decide)).symm), (zL _ _).trans (b3.trans (hs _ (by decide)).symm), (zL _ _).trans (b4.trans (hs _ (by decide)).symm)⟩, hl, ⟨(zL _ _).trans (l1.trans e157.symm), fun k hkk => ?_⟩, fun c hc => ?_⟩
  · rw [hs 2 (by decide)] at hd
    rw [hF.rn w9, a3 d hd]
    exact (hs _ (by omega)).symm
  · rw [hs 12 (by decide)] at hk
    rw [zL, a5 k hk f hf]
    exact (hs _ (by omega)).symm
  · rw [e157] at hkk
    rw [hF.on (fun q => q)]
    exact (l2 k hkk).eq (fun f _ => zL _ _) (fun j hj => hs _ (by omega))
  · rw [inC.eq e0 e1] at hc
    have q : rI M' (L + 8) c = rI M (L + 8) c := hF.rn w8
    rw [q, e157, hcr c hc]
    exact (crd_congr _ (fun k hk => hs _ (by omega))).symm
theorem okA.hi (h : okA P) (hs : hiS P Q) (hE : okE (60 * (P 518).toInt.toNat) Q) : okA Q := by
  obtain ⟨a1, a2, a3, a4⟩ := h
  have e := hs 518 (by decide)
  exact ⟨hs.D a1, hs.K a2, by rw [e]; exact a3, by rw [e]; exact hE⟩
theorem CST.hi (h : CST T P PI M) (hS : SQ M') (hF : FZ noF W noO M M') (fw : ∀ a, W a → 9 ≤ a ∧ a ≤ 15) (hs : hiS P Q) (hl : LCel 8 Q M') (hE : okE (60 * (P 518).toInt.toNat) Q) : CST T Q PI M' := h.live hS (hF.more (fun _ _ q => q.elim) (fun a q => by have := fw a q; unfold cpW; omega) (fun _ q => q)) (h.ok.hi hs hE) (h.lan.hi hF hs (fun a q => by have := fw a q; omega) hl h.ok.1 h.ok.k60)
theorem rai_l (hw : wh4 P) (hx : inX x 1 200) (M0 : Mem) : ∀ (n : Nat) (c : Int32) (Q : PK) (M : Mem) (c3 : Option Value), SQ M → fR M 0 2 = 8 → zI M 8 0 = P 0 → zI M 8 1 = P 1 → LCel 8 Q M → hiS P Q → okE B Q → FZ noF (fun a => a = 13) noO M0 M → 0 ≤ c.toInt → c.toInt + (n : Int) = (clsP P : Int) → Ev none e 93 15 [some (.ref 0), some (.int x), some (.int c), c3] [] M v M' 0 0 → v = some (.int 1) ∧ SQ M' ∧ LCel 8 (raiP x n c Q) M' ∧ hiS P (raiP x n c Q) ∧ okE B (raiP x n c Q) ∧ FZ noF (fun a => a = 13) noO M0 M' := by
  obtain ⟨_, c256, _⟩ := cls_int hw
  intro n
  induction n with
  | zero =>
    intro c Q M c3 hS hL z0 z1 hC hs hE hF hc hn H
    have hg := g6_ok hw z0 z1
    rcases rai_15 hS hL H with ⟨_, r1, r2⟩ | ⟨a1, _⟩ | ⟨a1, _⟩ | ⟨a1, _⟩ | ⟨a1, _⟩
    · exact ⟨r1, r2 ▸ hS, r2 ▸ hC, hs, hE, r2 ▸ hF⟩
    all_goals exact absurd (Int32.le_iff_toInt_le.mpr (by omega)) a1
  | succ n ih =>
    intro c Q M c3 hS hL z0 z1 hC hs hE hF hc hn H
    have hg := g6_ok hw z0 z1
    have hcP : inC P c := ⟨hc, by omega⟩
    have hcQ : inC Q c := (inC.hi hs).mpr hcP
    have hwQ : wh4 Q := hw.eq (hs 0 (by decide)) (hs 1 (by decide))
    have e1 : (c + 1).toInt = c.toInt + 1 := i32_p1 (by omega)
    have k0 : rI M (8 + 1) c = cE Q 0 c := hC.at hcQ (f := 0) (by decide)
    have k4 : rI M (8 + 5) c = cE Q 4 c := hC.at hcQ (f := 4) (by decide)
    obtain ⟨⟨u0, u6⟩, _⟩ := hE c hcQ
    have t3 : (3 : Int32).toInt = 3 := rfl
    have yes : cE Q 0 c < 3 → Ev none e 93 15 [some (.ref 0), some (.int x), some (.int (c + 1)), some (.int (rI M (8 + 1) c))] [] (wI M (8 + 5) c.toNatClampNeg (if rI M (8 + 5) c + x < 200 then rI M (8 + 5) c + x else 200)) v M' 0 0 → v = some (.int 1) ∧ SQ M' ∧ LCel 8 (raiP x (n + 1) c Q) M' ∧ hiS P (raiP x (n + 1) c Q) ∧ okE B (raiP x (n + 1) c Q) ∧ FZ noF (fun a => a = 13) noO M0 M' := fun h3 H => by
      rw [k4] at H
      have hr : ra1P Q x c = uPk Q (cX 4 c) (if cE Q 4 c + x < 200 then cE Q 4 c + x else 200) := by unfold ra1P; rw [if_pos h3]
      have hu : LCel 8 (ra1P Q x c) (wI M (8 + 5) c.toNatClampNeg (if cE Q 4 c + x < 200 then cE Q 4 c + x else 200)) := by
        rw [hr]
        exact hC.up hS lnd_8 hwQ hcQ (f := 4) (by decide)
      have hF' : FZ noF (fun a => a = 13) noO M (wI M (8 + 5) c.toNatClampNeg (if cE Q 4 c + x < 200 then cE Q 4 c + x else 200)) := FZ.wI rfl
      exact ih (c + 1) (ra1P Q x c) _ _ hS.ki ((hF'.fr (fun q => q)).trans hL) ((hF'.fi (fun q => q)).trans z0) ((hF'.fi (fun q => q)).trans z1) hu (fun j hj => (ra1_hi j hj).trans (hs j hj)) (hE.ra1 hcQ hx) (hF.trans hF') (by omega) (by omega) H
    have lt3 : ∀ y : Int32, y.toInt < 3 → cE Q 0 c = y → cE Q 0 c < 3 := fun y hy q => Int32.lt_iff_toInt_lt.mpr (by rw [q]; omega)
    rcases rai_15 hS hL H with ⟨a1, _⟩ | ⟨_, a2, _, _, _, H⟩ | ⟨_, _, a2, _, _, _, H⟩ | ⟨_, _, _, a2, _, _, _, H⟩ | ⟨_, a2, a3, a4, _, H⟩
    · have := Int32.le_iff_toInt_le.mp a1
      omega
    · rw [k0] at a2
      exact yes (lt3 0 (by decide) a2) H
    · rw [k0] at a2
      exact yes (lt3 2 (by decide) a2) H
    · rw [k0] at a2
      exact yes (lt3 1 (by decide) a2) H
    · rw [k0] at a2 a3 a4
      have n3 : ¬ cE Q 0 c < 3 := fun q => by
        have q := Int32.lt_iff_toInt_lt.mp q
        have i0 : (0 : Int32).toInt = 0 := rfl
        have i1 : (1 : Int32).toInt = 1 := rfl
        have i2 : (2 : Int32).toInt = 2 := rfl
        have m0 : (cE Q 0 c).toInt ≠ 0 := fun r => a2 (Int32.toInt_inj.mp (r.trans i0.symm))
        have m1 : (cE Q 0 c).toInt ≠ 1 := fun r => a4 (Int32.toInt_inj.mp (r.trans i1.symm))
        have m2 : (cE Q 0 c).toInt ≠ 2 := fun r => a3 (Int32.toInt_inj.mp (r.trans i2.symm))
        omega
      have hr : ra1P Q x c = Q := by unfold ra1P; rw [if_neg n3]
      have q := ih (c + 1) Q M _ hS hL z0 z1 hC hs hE hF (by omega) (by omega) H
      have hun : raiP x (n + 1) c Q = raiP x n (c + 1) Q := by
        show raiP x n (c + 1) (ra1P Q x c) = _
        rw [hr]
      rw [hun]
      exact q
theorem rain_ok (h : CST T P PI M) (H : Ev none e 93 0 [some (.ref 0), some (.int x), none, none] [] M v M' 0 0) : (¬ inX x 1 200 ∧ v = some (.int 0) ∧ M' = M) ∨ (inX x 1 200 ∧ v = some (.int 1) ∧ CST T (raiP x (clsP P) 0 P) PI M') := by
  have hA := h.lan
  rcases rai_0 h.sq h.ld H with ⟨a1, r1, r2⟩ | ⟨a1, H⟩
  · rw [g126_R] at a1
    exact Or.inl ⟨a1, r1, r2⟩
  · rw [g126_R, Classical.not_not] at a1
    have t0 : (0 : Int32).toInt = 0 := rfl
    obtain ⟨r1, r2, r3, r4, r5, r6⟩ := rai_l h.ok.1.1 a1 M (clsP P) 0 P M none h.sq h.ld hA.1.1 hA.1.2.1 hA.2.2.1 (fun _ _ => rfl) h.ok.2.2.2 (FZ.refl _) (by decide) (by omega) H
    exact Or.inr ⟨a1, r1, h.hi r2 r6 (fun a q => by omega) r4 r3 r5⟩
theorem okE.zer {f : Nat} (hf : f = 5 ∨ f = 6) (hw : wh4 P) (hE : okE B P) : okE B (zerP f (clsP P) 0 P) := fun c hc => by
  obtain ⟨_, c256, _⟩ := cls_int hw
  have t0 : (0 : Int32).toInt = 0 := rfl
  obtain ⟨zE, zL⟩ := zer_E (f := f) (by omega) (clsP P) 0 P (by decide) (by omega)
  have hs : hiS P (zerP f (clsP P) 0 P) := zL
  have hc := (inC.hi hs).mp hc
  obtain ⟨a1, a2, a3, a4, a5, a6, a7⟩ := hE c hc
  unfold okC1
  rw [zE 0 c (by decide) hc.1, zE 2 c (by decide) hc.1, zE 3 c (by decide) hc.1, zE 4 c (by decide) hc.1, zE 5 c (by decide) hc.1, zE 6 c (by decide) hc.1, if_neg (fun q => by omega), if_neg (fun q => by omega), if_neg (fun q => by omega), if_neg (fun q => by omega)]
  refine ⟨a1, a2, a3, a4, ?_, ?_⟩
  · split
    · rw [t0]; omega
    · exact a5
  · split
    · rw [t0]; omega
    · exact ⟨a6, a7⟩
theorem snow_ok (h : CST T P PI M) (H : Ev none e 94 0 [some (.ref 0)] [] M v M' 0 0) : v = none ∧ CST T (zerP 6 (clsP P) 0 P) PI M' := by
  have hw := h.ok.1.1
  obtain ⟨_, c256, _⟩ := cls_int hw
  have t0 : (0 : Int32).toInt = 0 := rfl
  obtain ⟨zE, zL⟩ := zer_E (f := 6) (by decide) (clsP P) 0 P (by decide) (by omega)
  have hs : hiS P (zerP 6 (clsP P) 0 P) := zL
  obtain ⟨r1, r2⟩ := sno_0 h.sq h.ld H
  have S' : SQ M' := by rw [r2]; exact h.sq.ka
  have hF : FZ noF (fun a => a = 15) noO M M' := by rw [r2]; exact FZ.wA (W := fun a => a = 15) rfl
  refine ⟨r1, h.hi S' hF (fun a q => by omega) hs (fun k f hk hf => ?_) (h.ok.2.2.2.zer (Or.inr rfl) hw)⟩
  rw [cls_eq (hs 0 (by decide)) (hs 1 (by decide))] at hk
  rw [cE_nat hw hk (zerP 6 (clsP P) 0 P) f, zE f (nI k) hf (by rw [nI_toInt (by omega)]; omega)]
  by_cases hf6 : f = 6
  · subst hf6
    rw [if_pos ⟨rfl, by rw [nI_toInt (by omega)]; omega, by rw [nI_toInt (by omega)]; omega⟩, r2]
    exact rN_wA_eq h.sq.1 (fx_h8 lnd_8) qw_15 (by omega)
  · rw [if_neg (fun q => hf6 q.1), ← cE_nat hw hk P f]
    rw [hF.rn (by omega)]
    exact h.lan.2.2.1 k f hk hf
theorem g8L (hC : LCel L P M) (hc : inC P c) : G_8 M L c = bI (grnB P c) := by
  have e : rI M (L + 1) c = cE P 0 c := hC.at hc (f := 0) (by decide)
  unfold G_8 grnB
  rw [e]
  by_cases h3 : cE P 0 c = 0
  · rw [if_pos h3, decide_eq_true h3]; rfl
  · rw [if_neg h3, decide_eq_false h3]
    by_cases h6 : cE P 0 c = 2
    · rw [if_pos h6, decide_eq_true h6]; rfl
    · rw [if_neg h6, decide_eq_false h6]; rfl
theorem x10_ok (hS : SQ M) (hL : gNth sT L = some 8) (hC : LCel L P M) (hw : wh4 P) (hc : inC P c) : SQ (X_10 M L c k) ∧ LCel L (layP P c k) (X_10 M L c k) ∧ FZ noF (fun a => a = L + 1 ∨ a = L + 4) noO M (X_10 M L c k) := by
  have u1 : LCel L (uPk P (cX 0 c) k) (wI M (L + 1) c.toNatClampNeg k) := hC.up hS hL hw hc (f := 0) (by decide)
  have hs : hiS P (uPk P (cX 0 c) k) := fun j hj => up_ne (by have := cX_ge (f := 0) (c := c); omega)
  have hc1 : inC (uPk P (cX 0 c) k) c := (inC.hi hs).mpr hc
  have hw1 : wh4 (uPk P (cX 0 c) k) := hw.eq (hs 0 (by decide)) (hs 1 (by decide))
  have e0 : cE (uPk P (cX 0 c) k) 0 c = k := up_eq
  have hg := g8L u1 hc1
  have hF : FZ noF (fun a => a = L + 1 ∨ a = L + 4) noO M (wI M (L + 1) c.toNatClampNeg k) := FZ.wI (Or.inl rfl)
  unfold X_10 layP
  rw [hg]
  unfold grnB
  rw [e0]
  by_cases hk : k = 0 ∨ k = 2
  · rw [if_pos hk, if_neg (fun q => by rw [bI_0] at q; rcases hk with r | r <;> simp [r] at q)]
    exact ⟨hS.ki, u1, hF⟩
  · have n0 : ¬ k = 0 := fun q => hk (Or.inl q)
    have n2 : ¬ k = 2 := fun q => hk (Or.inr q)
    rw [if_neg hk, decide_eq_false n0, decide_eq_false n2, if_pos (show bI (false || false) = 0 from rfl)]
    exact ⟨hS.ki.ki, u1.up hS.ki hL hw1 hc1 (f := 3) (by decide), hF.trans (FZ.wI (Or.inr rfl))⟩
end CRAI
/-! THE CLASS'S wish, lay -/
section CWIS
variable {e B L : Nat} {T : TS} {P P' Q : PK} {PI : Nat → PK} {M M1 M' : Mem} {v : Option Value} {c k d x a b h ev fi t : Int32} {n i j : Nat}
theorem isd_ok (hC : CST T P PI M) : G_126 M d 0 (zI M 8 11 - 1) = 0 ↔ ¬ inD P d := by
  have hD := hC.ok.1
  have z11 : zI M 8 11 = P 2 := hC.lan.1.2.2.1.1
  have h0 := hD.2.1.1
  have e1 : (P 2 - 1).toInt = (P 2).toInt - 1 := i32_m1 (by omega)
  have t0 : (0 : Int32).toInt = 0 := rfl
  rw [z11, g126_R]
  unfold inX inD
  rw [e1, t0]
  exact ⟨fun q r => q ⟨r.1, by omega⟩, fun q r => q ⟨r.1, by omega⟩⟩
theorem twd_ok (hC : CST T P PI M) (H : Ev none e 129 0 [some (.ref 0), some (.int a), some (.int b)] [] M v M' 0 0) : M' = M ∧ ((inD P a ∧ inD P b ∧ ¬ a = b ∧ v = some (.int 1)) ∨ ((¬ inD P a ∨ ¬ inD P b ∨ a = b) ∧ v = some (.int 0))) := by
  have hS := hC.sq
  obtain ⟨e1, v1, M1, _, H1, H⟩ := twd_0 hS hC.ld H
  obtain ⟨rv, rm⟩ := isd_0 hS hC.ld H1
  rw [rv, rm] at H
  rcases twd_5 hS hC.ld H with ⟨a1, r1, r2⟩ | ⟨a1, e2, v2, M2, _, H2, H⟩
  · rw [isd_ok hC] at a1
    exact ⟨r2, Or.inr ⟨Or.inl a1, r1⟩⟩
  · rw [isd_ok hC, Classical.not_not] at a1
    obtain ⟨rv, rm⟩ := isd_0 hS hC.ld H2
    rw [rv, rm] at H
    rcases twd_13 hS hC.ld H with ⟨a2, r1, r2⟩ | ⟨a2, a3, r1, r2⟩ | ⟨a2, a3, r1, r2⟩
    · rw [isd_ok hC] at a2
      exact ⟨r2, Or.inr ⟨Or.inr (Or.inl a2), r1⟩⟩
    · exact ⟨r2, Or.inr ⟨Or.inr (Or.inr a3), r1⟩⟩
    · rw [isd_ok hC, Classical.not_not] at a2
      exact ⟨r2, Or.inl ⟨a1, a2, a3, r1⟩⟩
theorem wish_ok (hC : CST T P PI M) (H : Ev none e 89 0 [some (.ref 0), some (.int a), some (.int b), some (.int h), some (.int ev), some (.int fi), none] [] M v M' 0 0) : (wisN P a b h ev fi ∧ v = some (.int (-1)) ∧ M' = M) ∨ (¬ wisN P a b h ev fi ∧ v = some (.int (P 12)) ∧ CST T (wisP P a b h ev fi) PI M') := by
  have hS := hC.sq
  have hA := hC.lan
  have hD := hC.ok.1
  have z13 : zI M 8 13 = P 12 := hA.1.2.2.2.1
  have b0 := hD.2.2.1
  have b24 := hD.2.2.2.1
  unfold wisN
  rcases wis_0 hS hC.ld H with ⟨a1, r1, r2⟩ | ⟨a1, e1, v1, M1, _, H1, H⟩
  · rw [z13] at a1
    exact Or.inl ⟨Or.inl a1, r1, r2⟩
  · rw [z13] at a1
    obtain ⟨rm, rv⟩ := twd_ok hC H1
    rw [rm] at H
    rcases rv with ⟨ia, ib, nab, rv⟩ | ⟨no, rv⟩
    · rw [rv] at H
      rcases wis_18 hS hC.ld H with ⟨q, _⟩ | ⟨_, a2, r1, r2⟩ | ⟨_, _, a2, r1, r2⟩ | ⟨_, _, _, a2, r1, r2⟩ | ⟨_, a2, a3, a4, _, H⟩
      · exact absurd q (by decide)
      · rw [g126_R] at a2
        exact Or.inl ⟨Or.inr (Or.inr (Or.inr (Or.inr (Or.inl a2)))), r1, r2⟩
      · rw [g126_R] at a2
        exact Or.inl ⟨Or.inr (Or.inr (Or.inr (Or.inr (Or.inr (Or.inl a2))))), r1, r2⟩
      · rw [g126_R] at a2
        exact Or.inl ⟨Or.inr (Or.inr (Or.inr (Or.inr (Or.inr (Or.inr a2))))), r1, r2⟩
      · rw [g126_R, Classical.not_not] at a2 a3 a4
        have t24 : (24 : Int32).toInt = 24 := rfl
        have n24 : (P 12).toInt ≠ 24 := fun q => a1 (Int32.toInt_inj.mp (q.trans t24.symm))
        obtain ⟨m, em⟩ : ∃ m, m = (P 12).toInt.toNat := ⟨_, rfl⟩
        rw [z13, wx_oI hC.wx (by omega) (by omega), ← em] at H
        have tx := wi_t' hS.1 hC.wx (k := m) (by omega)
        obtain ⟨r1, r2⟩ := wis_74 hS tx hC.ld H
        rw [z13] at r1 r2
        obtain ⟨b1, b2, b3, b4⟩ := hD.wis a1 ia ib a2 a3 (fi := fi)
        have d12 : (wisP P a b h ev fi 12).toInt = (P 12).toInt + 1 := by rw [b3]; exact i32_p1 (by omega)
        have e0 := b4 0 (by decide)
        have e1' := b4 1 (by decide)
        have hF : FZ (fun a k => a = 8 + 12 + m ∨ (a = 8 ∧ k = 13)) noO noO M M' := by
          rw [r2]
          exact ((((((FZ.wF (F := fun a k => a = 8 + 12 + m ∨ (a = 8 ∧ k = 13)) (Or.inl rfl)).trans (FZ.wF (Or.inl rfl))).trans (FZ.wF (Or.inl rfl))).trans (FZ.wF (Or.inl rfl))).trans (FZ.wF (Or.inl rfl))).trans (FZ.wF (Or.inl rfl))).trans (FZ.wF (Or.inr ⟨rfl, rfl⟩))
        have S' : SQ M' := by rw [r2]; exact hS.kf.kf.kf.kf.kf.kf.kf
        refine Or.inr ⟨fun q => ?_, r1, hC.live S' (hF.more (fun a k q => by unfold cpF; omega) (fun a q => q.elim) (fun _ q => q)) (hC.ok.lo b1 (hC.ok.2.1.wis e0 e1' (by omega) b2) e0 e1' (fun j hj => b2 j (by omega))) (hA.lo hF e0 e1' b2 (fun a k _ _ q => by omega) (fun a q => q.elim) (fun q => q) hC.wk hC.ok.k60 ⟨?_, fun d hd => ?_⟩ ⟨?_, fun i hi f hf => ?_⟩)⟩
        · rcases q with q | q | q | q | q | q | q
          · exact a1 q
          · exact q ia
          · exact q ib
          · exact nab q
          · exact q a2
          · exact q a3
          · exact q a4
        · rw [b4 2 (by decide), hF.fi (by omega)]
          exact hA.1.2.2.1.1
        · rw [b4 2 (by decide)] at hd
          have := hD.2.1.2.1
          rw [b4 _ (by omega)]
          exact (hF.rn (fun q => q)).trans (hA.1.2.2.1.2 d hd)
        · rw [b3, r2]
          exact fI_wF_eq hS.kf.kf.kf.kf.kf.kf.1 lnd_8 qi_8_13
        · have hq : wisP P a b h ev fi (13 + 6 * i + f) = wiQ P m a b h ev fi (13 + 6 * i + f) := by
            rw [em]
            exact up_ne (by omega)
          rw [hq]
          by_cases him : i = m
          · rw [him]
            obtain ⟨i0, i1, i2, i3, i4, i5⟩ := wiQ_i (P := P) (k := m) (a := a) (b := b) (h := h) (ev := ev) (fi := fi)
            match f, hf with
            | 0, _ => rw [r2, fI_wF_ne (by omega), fI_wF_ne (by omega), fI_wF_ne (by omega), fI_wF_ne (by omega), fI_wF_ne (by omega), fI_wF_ne (by omega)]; exact (fI_wF_eq hS.1 tx qi_20_0).trans i0.symm
            | 1, _ => rw [r2, fI_wF_ne (by omega), fI_wF_ne (by omega), fI_wF_ne (by omega), fI_wF_ne (by omega), fI_wF_ne (by omega)]; exact (fI_wF_eq hS.kf.1 tx qi_20_1).trans i1.symm
            | 2, _ => rw [r2, fI_wF_ne (by omega), fI_wF_ne (by omega), fI_wF_ne (by omega), fI_wF_ne (by omega)]; exact (fI_wF_eq hS.kf.kf.1 tx qi_20_2).trans i2.symm
            | 3, _ => rw [r2, fI_wF_ne (by omega), fI_wF_ne (by omega), fI_wF_ne (by omega)]; exact (fI_wF_eq hS.kf.kf.kf.1 tx qi_20_3).trans i3.symm
            | 4, _ => rw [r2, fI_wF_ne (by omega), fI_wF_ne (by omega)]; exact (fI_wF_eq hS.kf.kf.kf.kf.1 tx qi_20_4).trans i4.symm
            | 5, _ => rw [r2, fI_wF_ne (by omega)]; exact (fI_wF_eq hS.kf.kf.kf.kf.kf.1 tx qi_20_5).trans i5.symm
          · rw [wiQ_o (by omega), hF.fi (by omega)]
            exact hA.1.2.2.2.2 i (by omega) f hf
    · rw [rv] at H
      rcases wis_18 hS hC.ld H with ⟨_, r1, r2⟩ | ⟨q, _⟩ | ⟨q, _⟩ | ⟨q, _⟩ | ⟨q, _⟩
      · refine Or.inl ⟨?_, r1, r2⟩
        rcases no with q | q | q
        · exact Or.inr (Or.inl q)
        · exact Or.inr (Or.inr (Or.inl q))
        · exact Or.inr (Or.inr (Or.inr (Or.inl q)))
      all_goals exact absurd rfl q
theorem lay_ok (hC : CST T P PI M) (H : Ev none e 95 0 [some (.ref 0), some (.int c), some (.int k)] [] M v M' 0 0) : (layN P c k ∧ v = some (.int 0) ∧ M' = M) ∨ (¬ layN P c k ∧ v = some (.int 1) ∧ CST T (layP P c k) PI M') := by
  have hS := hC.sq
  have hA := hC.lan
  have hD := hC.ok.1
  have hw := hD.1
  have hK := hC.ok.2.1
  have fin : inC P c → inX k 0 6 → M' = X_10 M 8 c k → CST T (layP P c k) PI M' := fun ic ik r2 => by
    obtain ⟨x1, x2, x3⟩ := x10_ok (k := k) hS lnd_8 hA.2.2.1 hw ic
    rw [r2]
    exact hC.hi x1 x3 (fun a q => by omega) lay_hi x2 (hC.ok.2.2.2.lay ic ik)
  obtain ⟨e1, v1, M1, _, H1, H⟩ := lay_0 hS hC.ld H
  obtain ⟨rv, rm⟩ := isc_0 hS hC.ld H1
  rw [rv, rm] at H
  have dr : ∀ M2 v2 e2, (k = 3 ∨ k = 6) → inC P c → inX k 0 6 → Ev none e2 9 0 [some (.ref 8), some (.int c), none] [] M v2 M2 0 0 → Ev none e 95 39 [some (.ref 0), some (.int c), some (.int k)] (v2.toList ++ []) M2 v M' 0 0 → (layN P c k ∧ v = some (.int 0) ∧ M' = M) ∨ (¬ layN P c k ∧ v = some (.int 1) ∧ CST T (layP P c k) PI M') := fun M2 v2 e2 hk ic ik H2 H => by
    obtain ⟨rm2, rv2⟩ := hsd_ok hS lnd_8 hA hD H2
    rw [rv2, rm2] at H
    have hcr : rI M (8 + 8) c = crdP P c (P 157).toInt.toNat := hA.2.2.2.2 c ic
    have z0 : (0 : Int32).toInt = 0 := rfl
    rcases lay_39 hS hC.ld H with ⟨a1, a2, _, r1, r2⟩ | ⟨a1, a2, _, r1, r2⟩ | ⟨a1, r1, r2⟩
    · rw [bI_0] at a1
      rw [hcr] at a2
      have a2 := Int32.le_iff_toInt_le.mp a2
      refine Or.inr ⟨fun q => ?_, r1, fin ic ik r2⟩
      rcases q with q | q | ⟨_, q | q⟩
      · exact q ic
      · exact q ik
      · rw [a1] at q; cases q
      · rw [← wth_crd hK.2.1] at q
        have := Int32.lt_iff_toInt_lt.mp q
        omega
    · rw [hcr] at a2
      have a2' : ¬ (crdP P c (P 157).toInt.toNat).toInt ≤ (0 : Int32).toInt := fun s => a2 (Int32.le_iff_toInt_le.mpr s)
      have hp : 0 < crdP P c (P 157).toInt.toNat := Int32.lt_iff_toInt_lt.mpr (by omega)
      exact Or.inl ⟨Or.inr (Or.inr ⟨hk, Or.inr ((wth_crd hK.2.1).mp hp)⟩), r1, r2⟩
    · rw [bI_0, Bool.not_eq_false] at a1
      exact Or.inl ⟨Or.inr (Or.inr ⟨hk, Or.inl a1⟩), r1, r2⟩
  rcases lay_5 hS hC.ld H with ⟨a1, r1, r2⟩ | ⟨a1, a2, r1, r2⟩ | ⟨a1, a2, a3, e2, v2, M2, _, H2, H⟩ | ⟨a1, a2, _, a3, e2, v2, M2, _, H2, H⟩ | ⟨a1, a2, a3, a4, r1, r2⟩
  · rw [isc_ok hA hw] at a1
    exact Or.inl ⟨Or.inl a1, r1, r2⟩
  · rw [g126_R] at a2
    exact Or.inl ⟨Or.inr (Or.inl a2), r1, r2⟩
  · rw [isc_ok hA hw, Classical.not_not] at a1
    rw [g126_R, Classical.not_not] at a2
    exact dr _ _ _ (Or.inl a3) a1 a2 H2 H
  · rw [isc_ok hA hw, Classical.not_not] at a1
    rw [g126_R, Classical.not_not] at a2
    exact dr _ _ _ (Or.inr a3) a1 a2 H2 H
  · rw [isc_ok hA hw, Classical.not_not] at a1
    rw [g126_R, Classical.not_not] at a2
    refine Or.inr ⟨fun q => ?_, r1, fin a1 a2 r2⟩
    rcases q with q | q | ⟨q | q, _⟩
    · exact q a1
    · exact q a2
    · exact a3 q
    · exact a4 q
end CWIS
