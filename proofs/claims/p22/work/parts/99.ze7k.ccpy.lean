/-! THE CLASS'S copy -/
def LAN (L : Nat) (P : PK) (M : Mem) : Prop := PKs L P M ∧ PKt L P M ∧ LCel L P M ∧ LST L P M ∧ ∀ c, inC P c → rI M (L + 8) c = crdP P c (P 157).toInt.toNat
def cpF (L a _k : Nat) : Prop := L ≤ a ∧ a < L + 96
def cpW (L a : Nat) : Prop := L + 1 ≤ a ∧ a ≤ L + 9
section CPY
variable {e L Ot : Nat} {T : TS} {P : PK} {M M1 M' N : Mem} {v : Option Value} {n i k b B : Nat}
theorem STA.lan (h : STA L T P M) (hl : LST L P M) : LAN L P M := ⟨h.2.2.1, h.2.2.2.1, h.cel, hl, h.crd⟩
theorem ld_rowB (hL : gNth sT L = some 8) : ∀ f, 1 ≤ f → f ≤ 9 → ∃ g m, gNth sT (L + f) = some g ∧ wB g 1 m = true := by
  intro f h1 h9
  match f, h1, h9 with
  | 1, _, _ => exact ⟨_, _, fx_h2 hL, qw_9⟩
  | 2, _, _ => exact ⟨_, _, fx_h3 hL, qw_10⟩
  | 3, _, _ => exact ⟨_, _, fx_h4 hL, qw_11⟩
  | 4, _, _ => exact ⟨_, _, fx_h5 hL, qw_12⟩
  | 5, _, _ => exact ⟨_, _, fx_h6 hL, qw_13⟩
  | 6, _, _ => exact ⟨_, _, fx_h7 hL, qw_14⟩
  | 7, _, _ => exact ⟨_, _, fx_h8 hL, qw_15⟩
  | 8, _, _ => exact ⟨_, _, fx_h9 hL, qw_16⟩
  | 9, _, _ => exact ⟨_, _, fx_h10 hL, qw_17⟩
/-- the rows up to the s-th are copied -/
def CPs (L Ot : Nat) (M : Mem) (s : Nat) (N : Mem) : Prop := (∀ f, 1 ≤ f → f ≤ s → ∀ j, rN N (L + f) j = rN M (Ot + f) j) ∧ FZ (cpF L) (cpW L) noO M N
theorem CPs.next {s : Nat} (h : CPs L Ot M s N) (hS : SQ N) (hL : gNth sT L = some 8) (hO : gNth sT Ot = some 8) (hne : L ≠ Ot) (hs : s < 9) : CPs L Ot M (s + 1) (wC N (Ot + (s + 1)) (L + (s + 1))) := by
  have h1 := ld_cases hL
  have h2 := ld_cases hO
  refine ⟨fun f f1 f2 j => ?_, h.2.trans (FZ.wC ⟨by omega, by omega⟩)⟩
  by_cases hf : f = s + 1
  · subst hf
    obtain ⟨g, m, q1, q2⟩ := ld_rowB hL (s + 1) (by omega) (by omega)
    rw [rN_wC_eq hS.1 q1 q2]
    exact h.2.rn (by unfold cpW; omega)
  · rw [rN_wC_ne (by omega)]
    exact h.1 f f1 (by omega) j
theorem CPs.fld {s : Nat} (h : CPs L Ot M s N) (k : Nat) (x : Int32) : CPs L Ot M s (wF N L k x) := ⟨fun f f1 f2 j => by rw [rN_wF]; exact h.1 f f1 f2 j, h.2.trans (FZ.wF ⟨by omega, by omega⟩)⟩
theorem cpy_1 (hS : SQ M) (hL : gNth sT L = some 8) (hO : gNth sT Ot = some 8) (hne : L ≠ Ot) (H : Ev none e 13 0 [some (.ref L), some (.ref Ot), none] [] M v M' 0 0) : ∃ M1, SQ M1 ∧ CPs L Ot M 9 M1 ∧ (zI M1 L 0 = zI M Ot 0 ∧ zI M1 L 1 = zI M Ot 1 ∧ zI M1 L 11 = zI M Ot 11 ∧ zI M1 L 13 = zI M Ot 13) ∧ Ev none e 13 177 [some (.ref L), some (.ref Ot), some (.int 0)] [] M1 v M' 0 0 := by
  have h1 := ld_cases hL
  have h2 := ld_cases hO
  have h0 : CPs L Ot M 0 M := ⟨fun f f1 f2 => by omega, FZ.refl _⟩
  have H := cpy_0 hS hL hO H
  have a1 := h0.fld 0 (zI M Ot 0)
  have s1 := hS.kf (a := L) (k := 0) (x := zI M Ot 0)
  have H := cpy_8 s1 hL hO H
  have e1 : zI (wF M L 0 (zI M Ot 0)) Ot 1 = zI M Ot 1 := fI_wF_ne (by omega)
  rw [e1] at H
  have a2 := a1.fld 1 (zI M Ot 1)
  have s2 := s1.kf (a := L) (k := 1) (x := zI M Ot 1)
  obtain ⟨N2, eN2⟩ : ∃ N2, N2 = wF (wF M L 0 (zI M Ot 0)) L 1 (zI M Ot 1) := ⟨_, rfl⟩
  rw [← eN2] at a2 s2 H
  have z0 : zI N2 L 0 = zI M Ot 0 := by rw [eN2, fI_wF_ne (by omega)]; exact fI_wF_eq hS.1 hL qi_8_0
  have z1 : zI N2 L 1 = zI M Ot 1 := by rw [eN2]; exact fI_wF_eq s1.1 hL qi_8_1
  have st : ∀ (s : Nat) (N : Mem), CPs L Ot M s N → SQ N → (∀ k, zI N L k = zI N2 L k) → s < 9 → CPs L Ot M (s + 1) (wC N (Ot + (s + 1)) (L + (s + 1))) ∧ SQ (wC N (Ot + (s + 1)) (L + (s + 1))) ∧ ∀ k, zI (wC N (Ot + (s + 1)) (L + (s + 1))) L k = zI N2 L k := fun s N c q z hs => by
    obtain ⟨g, m, q1, q2⟩ := ld_rowB hL (s + 1) (by omega) (by omega)
    obtain ⟨g', m', q3, q4⟩ := ld_rowB hO (s + 1) (by omega) (by omega)
    have hm : m' = m := by
      have e : ∀ f, 1 ≤ f → f ≤ 9 → ∀ {A B : Nat}, gNth sT A = some 8 → gNth sT B = some 8 → (zrw N (A + f)).length = (zrw N (B + f)).length := fun f f1 f9 A B hA hB => by
        match f, f1, f9 with
        | 1, _, _ => exact (q.1.row (fx_h2 hA) qw_9).2.trans (q.1.row (fx_h2 hB) qw_9).2.symm
        | 2, _, _ => exact (q.1.row (fx_h3 hA) qw_10).2.trans (q.1.row (fx_h3 hB) qw_10).2.symm
        | 3, _, _ => exact (q.1.row (fx_h4 hA) qw_11).2.trans (q.1.row (fx_h4 hB) qw_11).2.symm
        | 4, _, _ => exact (q.1.row (fx_h5 hA) qw_12).2.trans (q.1.row (fx_h5 hB) qw_12).2.symm
        | 5, _, _ => exact (q.1.row (fx_h6 hA) qw_13).2.trans (q.1.row (fx_h6 hB) qw_13).2.symm
        | 6, _, _ => exact (q.1.row (fx_h7 hA) qw_14).2.trans (q.1.row (fx_h7 hB) qw_14).2.symm
        | 7, _, _ => exact (q.1.row (fx_h8 hA) qw_15).2.trans (q.1.row (fx_h8 hB) qw_15).2.symm
        | 8, _, _ => exact (q.1.row (fx_h9 hA) qw_16).2.trans (q.1.row (fx_h9 hB) qw_16).2.symm
        | 9, _, _ => exact (q.1.row (fx_h10 hA) qw_17).2.trans (q.1.row (fx_h10 hB) qw_17).2.symm
      have := e (s + 1) (by omega) (by omega) hO hL
      rw [(q.1.row q3 q4).2, (q.1.row q1 q2).2] at this
      exact this
    exact ⟨c.next q hL hO hne hs, q.kc q3 (hm ▸ q4) q1 q2, fun k => by rw [fI_wC]; exact z k⟩
  obtain ⟨c1, u1, y1⟩ := st 0 N2 ⟨fun f f1 f2 => by omega, a2.2⟩ s2 (fun _ => rfl) (by decide)
  have H := cpy_16 s2 hL hO H
  obtain ⟨c2, u2, y2⟩ := st 1 _ c1 u1 y1 (by decide)
  have H := cpy_32 u1 hL hO H
  obtain ⟨c3, u3, y3⟩ := st 2 _ c2 u2 y2 (by decide)
  have H := cpy_48 u2 hL hO H
  obtain ⟨c4, u4, y4⟩ := st 3 _ c3 u3 y3 (by decide)
  have H := cpy_64 u3 hL hO H
  obtain ⟨c5, u5, y5⟩ := st 4 _ c4 u4 y4 (by decide)
  have H := cpy_80 u4 hL hO H
  obtain ⟨c6, u6, y6⟩ := st 5 _ c5 u5 y5 (by decide)
  have H := cpy_96 u5 hL hO H
  obtain ⟨c7, u7, y7⟩ := st 6 _ c6 u6 y6 (by decide)
  have H := cpy_112 u6 hL hO H
  obtain ⟨c8, u8, y8⟩ := st 7 _ c7 u7 y7 (by decide)
  have H := cpy_128 u7 hL hO H
  obtain ⟨c9, u9, y9⟩ := st 8 _ c8 u8 y8 (by decide)
  have H := cpy_144 u8 hL hO H
  obtain ⟨N9, eN9⟩ : ∃ N9, N9 = wC (wC (wC (wC (wC (wC (wC (wC (wC N2 (Ot + (0 + 1)) (L + (0 + 1))) (Ot + (1 + 1)) (L + (1 + 1))) (Ot + (2 + 1)) (L + (2 + 1))) (Ot + (3 + 1)) (L + (3 + 1))) (Ot + (4 + 1)) (L + (4 + 1))) (Ot + (5 + 1)) (L + (5 + 1))) (Ot + (6 + 1)) (L + (6 + 1))) (Ot + (7 + 1)) (L + (7 + 1))) (Ot + (8 + 1)) (L + (8 + 1)) := ⟨_, rfl⟩
  rw [← eN9] at c9 u9 y9
  have H : Ev none e 13 159 [some (.ref L), some (.ref Ot), none] [] N9 v M' 0 0 := by rw [eN9]; exact H
  have fo : ∀ k, zI N9 Ot k = zI M Ot k := fun k => c9.2.fi (by unfold cpF; omega)
  have H := cpy_159 u9 hL hO H
  rw [fo] at H
  have H := cpy_167 u9.kf hL hO H
  have e13 : zI (wF N9 L 11 (zI M Ot 11)) Ot 13 = zI M Ot 13 := (fI_wF_ne (by omega)).trans (fo 13)
  rw [e13] at H
  refine ⟨_, u9.kf.kf, (c9.fld 11 _).fld 13 _, ⟨?_, ?_, ?_, ?_⟩, H⟩
  · rw [fI_wF_ne (by omega), fI_wF_ne (by omega), y9]; exact z0
  · rw [fI_wF_ne (by omega), fI_wF_ne (by omega), y9]; exact z1
  · rw [fI_wF_ne (by omega)]; exact fI_wF_eq u9.1 hL qi_8_11
  · exact fI_wF_eq u9.kf.1 hL qi_8_13
def wiF (L a _k : Nat) : Prop := L + 12 ≤ a ∧ a < L + 36
theorem cpy_2 (hL : gNth sT L = some 8) (hO : gNth sT Ot = some 8) (hne : L ≠ Ot) (hn : n ≤ 24) : ∀ (r k : Nat) (kz : Int32) (N : Mem), SQ N → WXr L N → WXr Ot N → (zI N L 13).toInt = (n : Int) → kz.toInt = (k : Int) → k + r = n → Ev none e 13 177 [some (.ref L), some (.ref Ot), some (.int kz)] [] N v M' 0 0 → ∃ N1 jz, SQ N1 ∧ FZ (wiF L) noO noO N N1 ∧ (∀ i f, k ≤ i → i < n → f < 6 → zI N1 (L + 12 + i) f = zI N (Ot + 12 + i) f) ∧ (∀ i f, i < k → zI N1 (L + 12 + i) f = zI N (L + 12 + i) f) ∧ Ev none e 13 206 [some (.ref L), some (.ref Ot), some (.int jz)] [] N1 v M' 0 0 := by
  have h1 := ld_cases hL
  have h2 := ld_cases hO
  intro r
  induction r with
  | zero =>
    intro k kz N hS hx hxO h13 hk hkr H
    rcases cpy_177 hS hL hO H with ⟨_, H⟩ | ⟨a1, _⟩
    · exact ⟨N, _, hS, FZ.refl _, fun i f h3 h4 => by omega, fun _ _ _ => rfl, H⟩
    · exact absurd (Int32.le_iff_toInt_le.mpr (by omega)) a1
  | succ r ih =>
    intro k kz N hS hx hxO h13 hk hkr H
    rcases cpy_177 hS hL hO H with ⟨a1, _⟩ | ⟨_, _, _, e1, v1, N1, rfl, H1, H⟩
    · have := Int32.le_iff_toInt_le.mp a1
      omega
    · have o1 : oI N (L + 10) kz = L + 12 + k := by unfold oI; rw [cl_n hk]; exact hx k (by omega)
      have o2 : oI N (Ot + 10) kz = Ot + 12 + k := by unfold oI; rw [cl_n hk]; exact hxO k (by omega)
      have t1 := wi_t hS.1 hL hx (k := k) (by omega)
      have t2 := wi_t hS.1 hO hxO (k := k) (by omega)
      rw [o1, o2] at H1
      obtain ⟨rfl, q2⟩ := cpx_0 hS t1 t2 H1
      have hF : FZ (fun a _ => a = L + 12 + k) noO noO N N1 := by
        rw [q2]
        exact (((((FZ.wF (F := fun a _ => a = L + 12 + k) rfl).trans (FZ.wF rfl)).trans (FZ.wF rfl)).trans (FZ.wF rfl)).trans (FZ.wF rfl)).trans (FZ.wF rfl)
      have hS1 : SQ N1 := by rw [q2]; exact hS.kf.kf.kf.kf.kf.kf
      have hz : ∀ f, f < 6 → zI N1 (L + 12 + k) f = zI N (Ot + 12 + k) f := fun f hf => by
        rw [q2]
        match f, hf with
        | 0, _ => rw [fI_wF_ne (by omega), fI_wF_ne (by omega), fI_wF_ne (by omega), fI_wF_ne (by omega), fI_wF_ne (by omega)]; exact fI_wF_eq hS.1 t1 qi_20_0
        | 1, _ => rw [fI_wF_ne (by omega), fI_wF_ne (by omega), fI_wF_ne (by omega), fI_wF_ne (by omega)]; exact fI_wF_eq hS.kf.1 t1 qi_20_1
        | 2, _ => rw [fI_wF_ne (by omega), fI_wF_ne (by omega), fI_wF_ne (by omega)]; exact fI_wF_eq hS.kf.kf.1 t1 qi_20_2
        | 3, _ => rw [fI_wF_ne (by omega), fI_wF_ne (by omega)]; exact fI_wF_eq hS.kf.kf.kf.1 t1 qi_20_3
        | 4, _ => rw [fI_wF_ne (by omega)]; exact fI_wF_eq hS.kf.kf.kf.kf.1 t1 qi_20_4
        | 5, _ => exact fI_wF_eq hS.kf.kf.kf.kf.kf.1 t1 qi_20_5
      have H := cpy_200 hS1 hL hO H
      obtain ⟨N2, jz, r1, r2, r3, r4, r5⟩ := ih (k + 1) (kz + 1) N1 hS1 (fun j hj => by rw [hF.on (fun q => q)]; exact hx j hj) (fun j hj => by rw [hF.on (fun q => q)]; exact hxO j hj) (by rw [hF.fi (by omega)]; exact h13) (by rw [i32_p1 (by omega)]; omega) (by omega) H
      refine ⟨N2, jz, r1, (hF.more (fun a _ q => ⟨by omega, by omega⟩) (fun _ q => q) (fun _ q => q)).trans r2, fun i f h3 h4 h5 => ?_, fun i f h3 => ?_, r5⟩
      · by_cases hik : i = k
        · subst hik
          rw [r4 i f (by omega), hz f h5]
        · rw [r3 i f (by omega) h4 h5]
          exact hF.fi (by omega)
      · rw [r4 i f (by omega)]
        exact hF.fi (by omega)
def wlF (L a _k : Nat) : Prop := L + 36 ≤ a ∧ a < L + 96
theorem cpy_3 (hL : gNth sT L = some 8) (hO : gNth sT Ot = some 8) (hne : L ≠ Ot) (hn : n ≤ 60) : ∀ (r k : Nat) (kz : Int32) (N : Mem), SQ N → WKs L N → WKs Ot N → (zI N L 15).toInt = (n : Int) → kz.toInt = (k : Int) → k + r = n → Ev none e 13 216 [some (.ref L), some (.ref Ot), some (.int kz)] [] N v M' 0 0 → ∃ N1 jz, SQ N1 ∧ FZ (wlF L) noO noO N N1 ∧ (∀ i f, k ≤ i → i < n → f < 5 → zI N1 (oN N (L + 11) i) f = zI N (oN N (Ot + 11) i) f) ∧ (∀ i f, i < k → zI N1 (oN N (L + 11) i) f = zI N (oN N (L + 11) i) f) ∧ Ev none e 13 245 [some (.ref L), some (.ref Ot), some (.int jz)] [] N1 v M' 0 0 := by
  have h1 := ld_cases hL
  have h2 := ld_cases hO
  intro r
  induction r with
  | zero =>
    intro k kz N hS hx hxO h13 hk hkr H
    rcases cpy_216 hS hL hO H with ⟨_, H⟩ | ⟨a1, _⟩
    · exact ⟨N, _, hS, FZ.refl _, fun i f h3 h4 => by omega, fun _ _ _ => rfl, H⟩
    · exact absurd (Int32.le_iff_toInt_le.mpr (by omega)) a1
  | succ r ih =>
    intro k kz N hS hx hxO h13 hk hkr H
    rcases cpy_216 hS hL hO H with ⟨a1, _⟩ | ⟨_, _, _, e1, v1, N1, rfl, H1, H⟩
    · have := Int32.le_iff_toInt_le.mp a1
      omega
    · have o1 : oI N (L + 11) kz = oN N (L + 11) k := by unfold oI; rw [cl_n hk]
      have o2 : oI N (Ot + 11) kz = oN N (Ot + 11) k := by unfold oI; rw [cl_n hk]
      have t1 := wk_t hS.1 hL (j := k) (by omega)
      have t2 := wk_t hS.1 hO (j := k) (by omega)
      have b1 := hx.2 k (by omega)
      have b2 := hxO.2 k (by omega)
      rw [o1, o2] at H1
      obtain ⟨rfl, q2⟩ := cpb_0 hS t1 t2 H1
      obtain ⟨A, eA⟩ : ∃ A, A = oN N (L + 11) k := ⟨_, rfl⟩
      obtain ⟨D, eD⟩ : ∃ D, D = oN N (Ot + 11) k := ⟨_, rfl⟩
      rw [← eA] at q2 t1 b1
      rw [← eD] at q2 t2 b2
      have hF : FZ (fun a _ => a = A) noO noO N N1 := by
        rw [q2]
        exact ((((FZ.wF (F := fun a _ => a = A) rfl).trans (FZ.wF rfl)).trans (FZ.wF rfl)).trans (FZ.wF rfl)).trans (FZ.wF rfl)
      have hS1 : SQ N1 := by rw [q2]; exact hS.kf.kf.kf.kf.kf
      have hz : ∀ f, f < 5 → zI N1 A f = zI N D f := fun f hf => by
        rw [q2]
        match f, hf with
        | 0, _ => rw [fI_wF_ne (by omega), fI_wF_ne (by omega), fI_wF_ne (by omega), fI_wF_ne (by omega)]; exact fI_wF_eq hS.1 t1 qi_21_0
        | 1, _ => rw [fI_wF_ne (by omega), fI_wF_ne (by omega), fI_wF_ne (by omega)]; exact fI_wF_eq hS.kf.1 t1 qi_21_1
        | 2, _ => rw [fI_wF_ne (by omega), fI_wF_ne (by omega)]; exact fI_wF_eq hS.kf.kf.1 t1 qi_21_2
        | 3, _ => rw [fI_wF_ne (by omega)]; exact fI_wF_eq hS.kf.kf.kf.1 t1 qi_21_3
        | 4, _ => exact fI_wF_eq hS.kf.kf.kf.kf.1 t1 qi_21_4
      have H := cpy_239 hS1 hL hO H
      have oo : ∀ a i, oN N1 a i = oN N a i := fun a i => hF.on (fun q => q)
      obtain ⟨N2, jz, r1, r2, r3, r4, r5⟩ := ih (k + 1) (kz + 1) N1 hS1 (hx.fz hF (fun q => q)) (hxO.fz hF (fun q => q)) (by rw [hF.fi (by omega)]; exact h13) (by rw [i32_p1 (by omega)]; omega) (by omega) H
      refine ⟨N2, jz, r1, (hF.more (fun a _ q => ⟨by omega, by omega⟩) (fun _ q => q) (fun _ q => q)).trans r2, fun i f h3 h4 h5 => ?_, fun i f h3 => ?_, r5⟩
      · by_cases hik : i = k
        · subst hik
          have := r4 i f (by omega)
          rw [oo] at this
          rw [this, ← eA, ← eD, hz f h5]
        · have := r3 i f (by omega) h4 h5
          rw [oo, oo] at this
          rw [this]
          have bi := hxO.2 i (by omega)
          exact hF.fi (by omega)
      · have := r4 i f (by omega)
        rw [oo] at this
        rw [this]
        refine hF.fi (fun q => ?_)
        rw [eA] at q
        have := hx.1 i k (by omega) (by omega) q
        omega
theorem WKs.on (h : WKs L M) (ho : ∀ j, oN M' (L + 11) j = oN M (L + 11) j) : WKs L M' := ⟨fun j k hj hk q => h.1 j k hj hk (by rw [ho, ho] at q; exact q), fun k hk => by rw [ho]; exact h.2 k hk⟩
/-- one land becomes the other -/
theorem copy_ok (hS : SQ M) (hL : gNth sT L = some 8) (hO : gNth sT Ot = some 8) (hne : L ≠ Ot) (hD : okD P) (hK : okK P) (hx : WXr L M) (hxO : WXr Ot M) (hk : WKs L M) (hkO : WKs Ot M) (hA : LAN Ot P M) (H : Ev none e 13 0 [some (.ref L), some (.ref Ot), none] [] M v M' 0 0) : v = none ∧ SQ M' ∧ FZ (cpF L) (cpW L) noO M M' ∧ LAN L P M' := by
  have h1 := ld_cases hL
  have h2 := ld_cases hO
  obtain ⟨⟨a0, a1, ⟨a2, a3⟩, a4, a5⟩, ⟨b1, b2, b3, b4⟩, hC, ⟨l1, l2⟩, hcr⟩ := hA
  obtain ⟨k0, k60, _⟩ := hK
  have n0 := hD.2.2.1
  have n24 := hD.2.2.2.1
  obtain ⟨M1, S1, ⟨r1, F1⟩, ⟨z0, z1, z11, z13⟩, H⟩ := cpy_1 hS hL hO hne H
  have O1 : ∀ k, zI M1 Ot k = zI M Ot k := fun k => F1.fi (by unfold cpF; omega)
  have o1 : ∀ a j, oN M1 a j = oN M a j := fun a j => F1.on (fun q => q)
  obtain ⟨M2, jz, S2, F2, w1, _, H⟩ := cpy_2 (n := (P 12).toInt.toNat) hL hO hne (by omega) (P 12).toInt.toNat 0 0 M1 S1 (fun k hk => by rw [o1]; exact hx k hk) (fun k hk => by rw [o1]; exact hxO k hk) (by rw [z13, a4]; omega) rfl (by omega) H
  have H := cpy_206 S2 hL hO H
  have O2 : ∀ k, zI M2 Ot k = zI M Ot k := fun k => (F2.fi (by unfold wiF; omega)).trans (O1 k)
  rw [O2] at H
  obtain ⟨N3, e3⟩ : ∃ N3, N3 = wF M2 L 15 (zI M Ot 15) := ⟨_, rfl⟩
  have S3 : SQ N3 := by rw [e3]; exact S2.kf
  have F3 : FZ (fun a k => a = L ∧ k = 15) noO noO M2 N3 := by rw [e3]; exact FZ.wF ⟨rfl, rfl⟩
  have z15 : zI N3 L 15 = zI M Ot 15 := by rw [e3]; exact fI_wF_eq S2.1 hL qi_8_15
  rw [← e3] at H
  have o3 : ∀ a j, oN N3 a j = oN M a j := fun a j => (F3.on (fun q => q)).trans ((F2.on (fun q => q)).trans (o1 a j))
  obtain ⟨M4, jz', S4, F4, k1, _, H⟩ := cpy_3 (n := (P 157).toInt.toNat) hL hO hne (by omega) (P 157).toInt.toNat 0 0 N3 S3 (hk.on (fun j => o3 _ j)) (hkO.on (fun j => o3 _ j)) (by rw [z15, l1]; omega) rfl (by omega) H
  have O4 : ∀ k, zI M4 Ot k = zI M Ot k := fun k => (F4.fi (by unfold wlF; omega)).trans ((F3.fi (by omega)).trans (O2 k))
  have H := cpy_245 S4 hL hO H
  rw [O4] at H
  have H := cpy_253 S4.kf hL hO H
  have e17 : zI (wF M4 L 16 (zI M Ot 16)) Ot 17 = zI M Ot 17 := (fI_wF_ne (by omega)).trans (O4 17)
  rw [e17] at H
  have H := cpy_261 S4.kf.kf hL hO H
  have e18 : zI (wF (wF M4 L 16 (zI M Ot 16)) L 17 (zI M Ot 17)) Ot 18 = zI M Ot 18 := (fI_wF_ne (by omega)).trans ((fI_wF_ne (by omega)).trans (O4 18))
  rw [e18] at H
  obtain ⟨hv, eM⟩ := cpy_269 S4.kf.kf.kf hL hO H
  have e19 : zI (wF (wF (wF M4 L 16 (zI M Ot 16)) L 17 (zI M Ot 17)) L 18 (zI M Ot 18)) Ot 19 = zI M Ot 19 := (fI_wF_ne (by omega)).trans ((fI_wF_ne (by omega)).trans ((fI_wF_ne (by omega)).trans (O4 19)))
  rw [e19] at eM
  have S5 : SQ M' := by rw [eM]; exact S4.kf.kf.kf.kf
  have F5 : FZ (fun a k => a = L ∧ 16 ≤ k) noO noO M4 M' := by
    rw [eM]
    exact (((FZ.wF (F := fun a k => a = L ∧ 16 ≤ k) ⟨rfl, by decide⟩).trans (FZ.wF ⟨rfl, by decide⟩)).trans (FZ.wF ⟨rfl, by decide⟩)).trans (FZ.wF ⟨rfl, by decide⟩)
  have y16 : zI M' L 16 = zI M Ot 16 := by
    rw [eM, fI_wF_ne (by omega), fI_wF_ne (by omega), fI_wF_ne (by omega)]
    exact fI_wF_eq S4.1 hL qi_8_16
  have y17 : zI M' L 17 = zI M Ot 17 := by
    rw [eM, fI_wF_ne (by omega), fI_wF_ne (by omega)]
    exact fI_wF_eq S4.kf.1 hL qi_8_17
  have y18 : zI M' L 18 = zI M Ot 18 := by
    rw [eM, fI_wF_ne (by omega)]
    exact fI_wF_eq S4.kf.kf.1 hL qi_8_18
  have y19 : zI M' L 19 = zI M Ot 19 := by
    rw [eM]
    exact fI_wF_eq S4.kf.kf.kf.1 hL qi_8_19
  have zL : ∀ k, k < 15 → zI M' L k = zI M1 L k := fun k hk => (F5.fi (by omega)).trans ((F4.fi (by unfold wlF; omega)).trans ((F3.fi (by omega)).trans (F2.fi (by unfold wiF; omega))))
  have rr : ∀ f, 1 ≤ f → f ≤ 9 → ∀ j, rN M' (L + f) j = rN M (Ot + f) j := fun f f1 f9 j => (F5.rn (fun q => q)).trans ((F4.rn (fun q => q)).trans ((F3.rn (fun q => q)).trans ((F2.rn (fun q => q)).trans (r1 f f1 f9 j))))
  have oM : ∀ a j, oN M' a j = oN M a j := fun a j => (F5.on (fun q => q)).trans ((F4.on (fun q => q)).trans (o3 a j))
  refine ⟨hv, S5, F1.trans ((F2.more (fun a _ q => ⟨Nat.le_trans (by omega) q.1, Nat.lt_of_lt_of_le q.2 (by omega)⟩) (fun _ q => q.elim) (fun _ q => q)).trans ((F3.more (fun a _ q => ⟨Nat.le_of_eq q.1.symm, by have := q.1; omega⟩) (fun _ q => q.elim) (fun _ q => q)).trans ((F4.more (fun a _ q => ⟨Nat.le_trans (by omega) q.1, q.2⟩) (fun _ q => q.elim) (fun _ q => q)).trans (F5.more (fun a _ q => ⟨Nat.le_of_eq q.1.symm, by have := q.1; omega⟩) (fun _ q => q.elim) (fun _ q => q))))), ⟨(zL 0 (by decide)).trans (z0.trans a0), (zL 1 (by decide)).trans (z1.trans a1), ⟨(zL 11 (by decide)).trans (z11.trans a2), fun d hd => (rr 9 (by decide) (by decide) d).trans (a3 d hd)⟩, (zL 13 (by decide)).trans (z13.trans a4), fun k hk f hf => ?_⟩, ⟨y16.trans b1, y17.trans b2, y18.trans b3, y19.trans b4⟩, fun k f hk hf => ?_, ⟨?_, fun k hkk => ?_⟩, fun c hc => (rr 8 (by decide) (by decide) _).trans (hcr c hc)⟩
  · rw [F5.fi (by omega), F4.fi (by unfold wlF; omega), F3.fi (by omega), w1 k f (Nat.zero_le _) hk hf, F1.fi (by unfold cpF; omega)]
    exact a5 k hk f hf
  · have := rr (1 + f) (by omega) (by omega) k
    rw [← Nat.add_assoc, ← Nat.add_assoc] at this
    exact this.trans (hC k f hk hf)
  · exact (F5.fi (by omega)).trans ((F4.fi (by unfold wlF; omega)).trans (z15.trans l1))
  · have wf : ∀ f, f < 5 → zI M' (oN M' (L + 11) k) f = zI M (oN M (Ot + 11) k) f := fun f hf => by
      have b1 := hk.2 k (by omega)
      have b2 := hkO.2 k (by omega)
      have q := k1 k f (Nat.zero_le _) hkk hf
      rw [o3, o3] at q
      rw [oM, F5.fi (by omega), q, F3.fi (by omega), F2.fi (by unfold wiF; omega), F1.fi (by unfold cpF; omega)]
    obtain ⟨q0, q1, q2, q3, q4⟩ := l2 k hkk
    exact ⟨(wf 0 (by decide)).trans q0, (wf 1 (by decide)).trans q1, (wf 2 (by decide)).trans q2, (wf 3 (by decide)).trans q3, (wf 4 (by decide)).trans q4⟩
/-- a land that is left alone -/
theorem LAN.fz {F : Nat → Nat → Prop} {W O : Nat → Prop} (h : LAN L P M) (hF : FZ F W O M M') (f0 : ∀ a k, L ≤ a → a < L + 96 → ¬ F a k) (w0 : ∀ a, L + 1 ≤ a → a ≤ L + 9 → ¬ W a) (o0 : ¬ O (L + 11)) (hk : WKs L M) (n24 : (P 12).toInt ≤ 24) (k60 : (P 157).toInt ≤ 60) : LAN L P M' := by
  obtain ⟨⟨a0, a1, ⟨a2, a3⟩, a4, a5⟩, ⟨b1, b2, b3, b4⟩, hC, ⟨l1, l2⟩, hcr⟩ := h
  have zL : ∀ k, zI M' L k = zI M L k := fun k => hF.fi (f0 _ _ (by omega) (by omega))
  have rr : ∀ f, 1 ≤ f → f ≤ 9 → ∀ j, rN M' (L + f) j = rN M (L + f) j := fun f f1 f9 j => hF.rn (w0 _ (by omega) (by omega))
  refine ⟨⟨(zL 0).trans a0, (zL 1).trans a1, ⟨(zL 11).trans a2, fun d hd => (rr 9 (by decide) (by decide) d).trans (a3 d hd)⟩, (zL 13).trans a4, fun k hk f hf => (hF.fi (f0 _ _ (by omega) (by omega))).trans (a5 k hk f hf)⟩, ⟨(zL 16).trans b1, (zL 17).trans b2, (zL 18).trans b3, (zL 19).trans b4⟩, fun k f hk hf => ?_, ⟨(zL 15).trans l1, fun k hkk => ?_⟩, fun c hc => (rr 8 (by decide) (by decide) _).trans (hcr c hc)⟩
  · have := rr (1 + f) (by omega) (by omega) k
    rw [← Nat.add_assoc] at this
    exact this.trans (hC k f hk hf)
  · have b := hk.2 k (by omega)
    have wf : ∀ f, zI M' (oN M' (L + 11) k) f = zI M (oN M (L + 11) k) f := fun f => by
      rw [hF.on o0]
      exact hF.fi (f0 _ _ (by omega) (by omega))
    obtain ⟨q0, q1, q2, q3, q4⟩ := l2 k hkk
    exact ⟨(wf 0).trans q0, (wf 1).trans q1, (wf 2).trans q2, (wf 3).trans q3, (wf 4).trans q4⟩
end CPY
