/-! ONE WALKER'S STEP, in the class -/
section STP
variable {e L : Nat} {T : TS} {g q : TQ} {P P' : PK} {M M1 M' : Mem} {v : Option Value} {c d : Int32} {n i k b B : Nat} {s : List Nat}
theorem up_comm {i j : Nat} {x y : Int32} (h : i ≠ j) : uPk (uPk P i x) j y = uPk (uPk P j y) i x := by
  funext m
  by_cases h1 : m = i
  · subst h1
    rw [up_ne h, up_eq, up_eq]
  · rw [up_ne h1]
    by_cases h2 : m = j
    · subst h2
      rw [up_eq, up_eq]
    · rw [up_ne h2, up_ne h2, up_ne h1]
theorem trd_up {i : Nat} {x : Int32} (hi : i < 522) : trdP g (uPk P i x) c = uPk (trdP g P c) i x := by
  have hE : ∀ (Q : PK) f c', cE (uPk Q i x) f c' = cE Q f c' := fun Q f c' => cE_lo hi
  have hne : ∀ f, i ≠ cX f c := fun f => by have := cX_ge (f := f) (c := c); omega
  have hg : grnB (uPk P i x) c = grnB P c := by unfold grnB; rw [hE]
  have hf : ∀ ls, fstL g (uPk P i x) 0 c 5 ls = fstL g P 0 c 5 ls := fst_cong (fun f _ => hE P f c)
  have hw : weaP g (uPk P i x) c = uPk (weaP g P c) i x := by
    unfold weaP
    rw [hg, hE, hf]
    split
    · rw [up_comm (hne 3)]
    · rfl
  unfold trdP
  rw [hw, hE, up_comm (hne 5), hE, up_comm (hne 6)]
theorem mov_age : movP (ageP P k) k d = ageP (movP P k d) k := by
  funext j
  have ea : ageP P k (158 + 6 * k) = P (158 + 6 * k) := up_ne (by omega)
  have e0 : ageP P k 0 = P 0 := up_ne (by omega)
  have e1 : ageP P k 1 = P 1 := up_ne (by omega)
  have eb : ∀ c, besP (ageP P k) c d = besP P c d := fun c => bes_eq e0 e1
  by_cases h2 : j = 158 + 6 * k + 2
  · rw [h2]
    have l : ∀ Q : PK, movP Q k d (158 + 6 * k + 2) = Q (158 + 6 * k + 2) := fun Q => by
      unfold movP
      rw [up_ne (by omega), up_ne (by omega), up_ne (by omega)]
    have r : ageP (movP P k d) k (158 + 6 * k + 2) = movP P k d (158 + 6 * k + 2) + 1 := up_eq
    rw [l, r, l]
    exact up_eq
  · have r : ageP (movP P k d) k j = movP P k d j := up_ne h2
    have hj : ageP P k j = P j := up_ne h2
    rw [r]
    unfold movP
    rw [ea, eb]
    by_cases h0 : j = 158 + 6 * k
    · rw [h0, up_eq, up_eq]
    · rw [up_ne h0, up_ne h0]
      by_cases h4 : j = 158 + 6 * k + 4
      · rw [h4, up_eq, up_eq]
      · rw [up_ne h4, up_ne h4]
        by_cases h3 : j = 158 + 6 * k + 3
        · rw [h3, up_eq, up_eq]
        · rw [up_ne h3, up_ne h3, hj]
/-- the order of a step's parts is all one -/
theorem stp_alt {p : PS} (hk : k < 60) (hd : ¬ dirP T p.1 k < 0) : stpP T p k = (ageP (trdP (T 0) (movP p.1 k (dirP T p.1 k)) (besP p.1 (p.1 (158 + 6 * k)) (dirP T p.1 k))) k, besP p.1 (p.1 (158 + 6 * k)) (dirP T p.1 k) :: p.2) := by
  have key : ∀ (D C : Int32), trdP (T 0) (ageP (movP p.1 k D) k) C = ageP (trdP (T 0) (movP p.1 k D) C) k := fun D C => by
    have h1 : movP p.1 k D (158 + 6 * k + 2) = trdP (T 0) (movP p.1 k D) C (158 + 6 * k + 2) := (trd_lo (by omega)).symm
    unfold ageP
    rw [trd_up (by omega), h1]
  unfold stpP
  rw [if_neg hd, mov_age, key]
theorem MDW.cur (h : MDW L P M n i s) (hk : WKs L M) (hin : i < n) (h15 : zI M' L 15 = zI M L 15) (ho : ∀ j, oN M' (L + 11) j = oN M (L + 11) j) (hz : ∀ b f, L + 36 ≤ b → b < L + 96 → b ≠ oN M (L + 11) i → zI M' b f = zI M b f) (hp : ∀ j, 157 ≤ j → j < 518 → ¬ (158 + 6 * s.length ≤ j ∧ j < 158 + 6 * s.length + 6) → P' j = P j) (hc : WFq (oN M (L + 11) i) P' s.length M') : MDW L P' M' n i s := by
  obtain ⟨a1, a2, a3, a4, a5, a6, a7, a8⟩ := h
  have hs := sort_len a8 (fun t j ht => (a5 t j ht).1)
  refine ⟨h15.trans a1, a2, a3, by rw [hp 157 (by decide) (by decide) (by omega)]; exact a4, fun t j ht => ?_, fun j h1 h2 => ?_, fun j h1 h2 => ?_, a8⟩
  · obtain ⟨q1, q2⟩ := a5 t j ht
    have hb := hk.2 j (by omega)
    have hne : oN M (L + 11) j ≠ oN M (L + 11) i := fun q => by have := hk.1 j i (by omega) (by omega) q; omega
    have hl := (List.getElem?_eq_some_iff.mp ht).1
    rw [ho]
    exact ⟨q1, q2.eq (fun f _ => hz _ f hb.1 hb.2 hne) (fun f hf => hp _ (by omega) (by omega) (by omega))⟩
  · have hb := hk.2 j (by omega)
    rw [ho]
    by_cases hj : j = i
    · subst hj
      rw [Nat.sub_self, Nat.add_zero]
      exact hc
    · have hne : oN M (L + 11) j ≠ oN M (L + 11) i := fun q => hj (hk.1 j i (by omega) (by omega) q)
      exact (a6 j h1 h2).eq (fun f _ => hz _ f hb.1 hb.2 hne) (fun f hf => hp _ (by omega) (by omega) (by omega))
  · have hb := hk.2 j (by omega)
    have hne : oN M (L + 11) j ≠ oN M (L + 11) i := fun q => by have := hk.1 j i (by omega) (by omega) q; omega
    rw [ho, hz _ 0 hb.1 hb.2 hne]
    exact a7 j h1 h2
theorem MDW.stay (h : MDW L P M n i s) (hin : i < n) : MDW L P M n (i + 1) (s ++ [i]) := by
  obtain ⟨a1, a2, a3, a4, a5, a6, a7, a8⟩ := h
  have hl : (s ++ [i]).length = s.length + 1 := by rw [List.length_append]; rfl
  have hget : ∀ t j : Nat, (s ++ [i])[t]? = some j → s[t]? = some j ∨ (t = s.length ∧ j = i) := fun t j ht => by
    rcases Nat.lt_trichotomy t s.length with h | h | h
    · rw [List.getElem?_append_left h] at ht
      exact Or.inl ht
    · subst h
      rw [List.getElem?_append_right (Nat.le_refl _), Nat.sub_self] at ht
      exact Or.inr ⟨rfl, (Option.some.inj ht).symm⟩
    · rw [List.getElem?_eq_none (by rw [hl]; omega)] at ht
      cases ht
  refine ⟨a1, a2, hin, by rw [hl, a4]; omega, fun t j ht => ?_, fun j h1 h2 => ?_, fun j h1 h2 => ?_, fun t t' j j' htt ht ht' => ?_⟩
  · rcases hget t j ht with q | ⟨rfl, rfl⟩
    · obtain ⟨q1, q2⟩ := a5 t j q
      exact ⟨by omega, q2⟩
    · have := a6 j (Nat.le_refl _) hin
      rw [Nat.sub_self, Nat.add_zero] at this
      exact ⟨by omega, this⟩
  · have := a6 j (by omega) h2
    rw [hl, show s.length + 1 + (j - (i + 1)) = s.length + (j - i) from by omega]
    exact this
  · refine a7 j ?_ (fun q => h2 (List.mem_append_left _ q))
    have : j ≠ i := fun q => h2 (by rw [q]; exact List.mem_append_right _ (List.mem_singleton.mpr rfl))
    omega
  · rcases hget t j ht with q | ⟨rfl, rfl⟩
    · rcases hget t' j' ht' with q' | ⟨rfl, rfl⟩
      · exact a8 t t' j j' htt q q'
      · exact (a5 t j q).1
    · rcases hget t' j' ht' with q' | ⟨rfl, rfl⟩
      · have := (List.getElem?_eq_some_iff.mp q').1
        omega
      · omega
theorem MDW.gone (h : MDW L P M n i s) (hk : WKs L M) (hin : i < n) (h15 : zI M' L 15 = zI M L 15) (ho : ∀ j, oN M' (L + 11) j = oN M (L + 11) j) (hz : ∀ b f, L + 36 ≤ b → b < L + 96 → b ≠ oN M (L + 11) i → zI M' b f = zI M b f) (hc : zI M' (oN M (L + 11) i) 0 = -1) : MDW L (leaP P s.length) M' n (i + 1) s := by
  obtain ⟨a1, a2, a3, a4, a5, a6, a7, a8⟩ := h
  have hs := sort_len a8 (fun t j ht => (a5 t j ht).1)
  have t1 : (1 : Int32).toInt = 1 := rfl
  have em : (P 157 - 1).toInt = (s.length : Int) + ((n : Int) - (i : Int)) - 1 := by
    rw [i32_sub (by omega) (by omega), a4, t1]
  have lo : ∀ t f, t < s.length → f < 6 → leaP P s.length (158 + 6 * t + f) = P (158 + 6 * t + f) := fun t f ht hf => by
    unfold leaP
    rw [if_neg (by omega), if_neg (by omega), if_neg (by omega)]
  have hi : ∀ t f, s.length ≤ t → (t : Int) < (P 157 - 1).toInt → f < 6 → leaP P s.length (158 + 6 * t + f) = P (158 + 6 * (t + 1) + f) := fun t f ht h2 hf => by
    unfold leaP
    rw [if_neg (by omega), if_pos ⟨by omega, by omega⟩]
    congr 1
    omega
  refine ⟨h15.trans a1, a2, hin, ?_, fun t j ht => ?_, fun j h1 h2 => ?_, fun j h1 h2 => ?_, a8⟩
  · have e : leaP P s.length 157 = P 157 - 1 := by
      unfold leaP
      rw [if_pos rfl]
    rw [e, em]
    omega
  · obtain ⟨q1, q2⟩ := a5 t j ht
    have hb := hk.2 j (by omega)
    have hne : oN M (L + 11) j ≠ oN M (L + 11) i := fun q => by have := hk.1 j i (by omega) (by omega) q; omega
    have hl := (List.getElem?_eq_some_iff.mp ht).1
    rw [ho]
    exact ⟨by omega, q2.eq (fun f _ => hz _ f hb.1 hb.2 hne) (fun f hf => lo t f hl (by omega))⟩
  · have hb := hk.2 j (by omega)
    have hne : oN M (L + 11) j ≠ oN M (L + 11) i := fun q => by have := hk.1 j i (by omega) (by omega) q; omega
    rw [ho]
    obtain ⟨q1, q2, q3, q4, q5⟩ := a6 j (by omega) h2
    have hx : ∀ f, f < 6 → leaP P s.length (158 + 6 * (s.length + (j - (i + 1))) + f) = P (158 + 6 * (s.length + (j - i)) + f) := fun f hf => by
      rw [hi _ f (by omega) (by rw [em]; omega) hf]
      congr 1
      omega
    refine ⟨?_, ?_, ?_, ?_, ?_⟩
    · rw [hz _ 0 hb.1 hb.2 hne, q1]; exact (hx 0 (by decide)).symm
    · rw [hz _ 1 hb.1 hb.2 hne, q2]; exact (hx 1 (by decide)).symm
    · rw [hz _ 2 hb.1 hb.2 hne, q3]; exact (hx 2 (by decide)).symm
    · rw [hz _ 3 hb.1 hb.2 hne, q4]; exact (hx 4 (by decide)).symm
    · rw [hz _ 4 hb.1 hb.2 hne, q5]; exact (hx 3 (by decide)).symm
  · rw [ho]
    by_cases hj : j = i
    · subst hj
      exact hc
    · have hb := hk.2 j (by omega)
      have hne : oN M (L + 11) j ≠ oN M (L + 11) i := fun q => hj (hk.1 j i (by omega) (by omega) q)
      rw [hz _ 0 hb.1 hb.2 hne]
      exact a7 j (by omega) h2
theorem crow_up (hS : SH M) (hL : gNth sT L = some 8) (hw : wh4 P) {h x : Int32} (hh : inC P h) (hc : inC P c) : rI (wI M (L + 8) h.toNatClampNeg x) (L + 8) c = if c = h then x else rI M (L + 8) c := by
  obtain ⟨_, c256, _⟩ := cls_int hw
  have e : ∀ z : Int32, z.toNatClampNeg = z.toInt.toNat := fun _ => rfl
  unfold rI
  rw [e, e]
  by_cases hx : c = h
  · subst hx
    rw [if_pos rfl, rN_wI_eq (by rw [ld_rw8 hS hL 7 (by decide)]; have := hc.2; omega)]
  · rw [if_neg hx, rN_wI_ne (fun q => hx (Int32.toInt_inj.mp (by have := Int.toNat_of_nonneg hh.1; have := Int.toNat_of_nonneg hc.1; omega)))]
theorem wk_t (hS : SH M) (hL : gNth sT L = some 8) {j : Nat} (hj : j < 60) : gNth sT (oN M (L + 11) j) = some 21 := ((hS.ror (fx_h14 hL) qz_19).2.2 j hj).2
theorem STA.sq (h : STA L T P M) : SQ M := h.1.1.1
theorem STA.ld (h : STA L T P M) : gNth sT L = some 8 := h.1.1.2.2.1
theorem STA.lw (h : STA L T P M) : fR M 104 7 = L := h.1.1.2.1
theorem STA.wh (h : STA L T P M) : wh4 P := h.1.2.1
theorem STA.nn (h : STA L T P M) : ∀ c, inC P c → nnC P c := h.1.2.2.1
theorem STA.cel (h : STA L T P M) : LCel L P M := h.1.1.2.2.2.2.2.2
theorem STA.crd (h : STA L T P M) : ∀ c, inC P c → rI M (L + 8) c = crdP P c (P 157).toInt.toNat := h.1.2.2.2.2.2.2.2
/-- the class's crowd rows: no cell row of the land, no row of what was seen -/
theorem LCel.fz {F : Nat → Nat → Prop} {W O : Nat → Prop} (h : LCel L P M) (hF : FZ F W O M M') (hw : ∀ f, f < 7 → ¬ W (L + 1 + f)) (h0 : P' 0 = P 0) (h1 : P' 1 = P 1) (hs : ∀ j, 522 ≤ j → P' j = P j) : LCel L P' M' := by
  intro k f hk hf
  rw [cls_eq h0 h1] at hk
  rw [hF.rn (hw f hf), h k f hk hf]
  exact (hs _ (by omega)).symm
def crO (L a : Nat) : Prop := a = L + 8
def bF (b a _k : Nat) : Prop := a = b
/-- a walker moves: its object, the crowd, P -/
theorem mov_ok (h : STA L T P M) (hD : okD P) (hK : okK P) (hm : MDW L P M n i s) (hin : i < n) (hd0 : 0 ≤ d.toInt) (hd1 : d.toInt < 8) (hto : inC P (besP P (P (158 + 6 * s.length)) d)) (H : Ev none e 74 0 [some (.ref (oN M (L + 11) i)), some (.int (besP P (P (158 + 6 * s.length)) d)), some (.int d)] [] (wI M (L + 8) (P (158 + 6 * s.length)).toNatClampNeg (crdP P (P (158 + 6 * s.length)) (P 157).toInt.toNat - 1)) v M1 0 0) : v = none ∧ SQ M1 ∧ zI M1 (oN M (L + 11) i) 0 = besP P (P (158 + 6 * s.length)) d ∧ fR M1 104 7 = L ∧ (∀ M3, M3 = wI M1 (L + 8) (besP P (P (158 + 6 * s.length)) d).toNatClampNeg (rI M1 (L + 8) (besP P (P (158 + 6 * s.length)) d) + 1) → STA L T (movP P s.length d) M3 ∧ MDW L (movP P s.length d) M3 n i s ∧ okK (movP P s.length d) ∧ FZ (gwF L) (gwW L) (gwO L) M M3 ∧ (∀ k, zI M3 104 k = zI M 104 k) ∧ ∀ j, oN M3 (L + 11) j = oN M (L + 11) j) := by
  have hS := h.sq
  have hL := h.ld
  have hw := h.wh
  have hWK := h.2.2.2.2.2.1
  obtain ⟨a1, a2, a3, a4, a5, a6, a7, a8⟩ := id hm
  have hs := sort_len a8 (fun t j ht => (a5 t j ht).1)
  have hb := hWK.2 i (by omega)
  have hbt := wk_t hS.1 hL (j := i) (by omega)
  obtain ⟨k0, k60, kk⟩ := hK
  have hks : s.length < (P 157).toInt.toNat := by omega
  obtain ⟨kh, kw1, kw2, kwy⟩ := kk s.length hks
  have hcur : WFq (oN M (L + 11) i) P s.length M := by
    have := a6 i (Nat.le_refl _) hin
    rw [Nat.sub_self] at this
    exact this
  obtain ⟨here, eh⟩ : ∃ x, x = P (158 + 6 * s.length) := ⟨_, rfl⟩
  obtain ⟨to, et⟩ : ∃ x, x = besP P (P (158 + 6 * s.length)) d := ⟨_, rfl⟩
  rw [← et] at hto H ⊢
  rw [← eh] at H kh
  obtain ⟨b, eb⟩ : ∃ b, b = oN M (L + 11) i := ⟨_, rfl⟩
  rw [← eb] at hb hbt hcur H ⊢
  obtain ⟨rfl, q2⟩ := g_74w hS.ki hbt H
  have hld := ld_cases hL
  have hSM1 : SQ M1 := by rw [q2]; exact X_74w_sx hS.ki hbt
  have z0 : zI M1 b 0 = to := by
    rw [q2]
    unfold X_74w
    rw [fI_wF_ne (fun q => absurd q.2 (by decide))]
    exact fI_wF_eq hS.ki.kf.1 hbt qi_21_0
  have z4 : zI M1 b 4 = d := by
    rw [q2]
    unfold X_74w
    exact fI_wF_eq hS.ki.kf.kf.1 hbt qi_21_4
  have z3 : zI M1 b 3 = here := by
    rw [q2]
    unfold X_74w
    rw [fI_wF_ne (fun q => absurd q.2 (by decide)), fI_wF_ne (fun q => absurd q.2 (by decide)), fI_wF_eq hS.ki.1 hbt qi_21_3, fI_wI, hcur.1, eh]
  have zo : ∀ k, k ≠ 0 → k ≠ 3 → k ≠ 4 → zI M1 b k = zI M b k := fun k k0 k3 k4 => by
    rw [q2]
    unfold X_74w
    rw [fI_wF_ne (fun q => k4 q.2), fI_wF_ne (fun q => k0 q.2), fI_wF_ne (fun q => k3 q.2), fI_wI]
  have hF1 : FZ (bF b) (crO L) noO M M1 := by
    rw [q2]
    unfold X_74w
    exact (((FZ.wI (F := bF b) (W := crO L) (O := noO) rfl).trans (FZ.wF (F := bF b) rfl)).trans (FZ.wF (F := bF b) rfl)).trans (FZ.wF (F := bF b) rfl)
  have r1 : ∀ c, inC P c → rI M1 (L + 8) c = if c = here then crdP P here (P 157).toInt.toNat - 1 else rI M (L + 8) c := fun c hc => by
    rw [← crow_up hS.1 hL hw kh hc (x := crdP P here (P 157).toInt.toNat - 1)]
    rw [q2]
    unfold X_74w
    unfold rI
    rw [rN_wF, rN_wF, rN_wF]
  refine ⟨rfl, hSM1, z0, by rw [hF1.fr (by unfold bF; omega)]; exact h.lw, fun M3 e3 => ?_⟩
  have hF3 : FZ (bF b) (crO L) noO M M3 := by
    rw [e3]
    exact hF1.trans (FZ.wI (W := crO L) rfl)
  have hSM3 : SQ M3 := by rw [e3]; exact hSM1.ki
  have hgo : FZ (gwF L) (gwW L) (gwO L) M M3 := hF3.more (fun a k q => Or.inr (Or.inl (by have : a = b := q; omega))) (fun a q => Or.inl (by have : a = L + 8 := q; omega)) (fun _ q => q.elim)
  have zz : ∀ k, zI M3 b k = zI M1 b k := fun k => by rw [e3, fI_wI]
  obtain ⟨Q, eQ⟩ : ∃ Q, Q = movP P s.length d := ⟨_, rfl⟩
  have Qh : Q (158 + 6 * s.length) = to := by
    rw [eQ, et]
    unfold movP
    exact up_eq
  have Q4 : Q (158 + 6 * s.length + 4) = here := by
    rw [eQ, eh]
    unfold movP
    rw [up_ne (by omega), up_eq]
  have Q3 : Q (158 + 6 * s.length + 3) = d := by
    rw [eQ]
    unfold movP
    rw [up_ne (by omega), up_ne (by omega), up_eq]
  have Qo : ∀ j, j ≠ 158 + 6 * s.length → j ≠ 158 + 6 * s.length + 3 → j ≠ 158 + 6 * s.length + 4 → Q j = P j := fun j j0 j3 j4 => by
    rw [eQ]
    unfold movP
    rw [up_ne j0, up_ne j4, up_ne j3]
  rw [← eQ]
  have e0 : Q 0 = P 0 := Qo 0 (by omega) (by omega) (by omega)
  have e1 : Q 1 = P 1 := Qo 1 (by omega) (by omega) (by omega)
  have hi522 : ∀ j, 522 ≤ j → Q j = P j := fun j hj => Qo j (by omega) (by omega) (by omega)
  have e157 : Q 157 = P 157 := Qo 157 (by omega) (by omega) (by omega)
  have lkn : ∀ b' j, lkW b' → rN M3 b' j = rN M b' j := fun b' j hb' => hF3.rn (fun q => by have q : b' = L + 8 := q; exact lk_ld hL 8 (by decide) (q ▸ hb'))
  refine ⟨h.mv hD hSM3 hgo (h.cel.fz hF3 (fun f hf q => by have q : L + 1 + f = L + 8 := q; omega) e0 e1 hi522) (fun j hj => Qo j (by omega) (by omega) (by omega)) (fun c hc => ?_) (fun c hc => ?_) (h.2.1.mv e0 e1 hi522 lkn) ?_ (hWK.fz hF3 (fun q => q)), hm.cur hWK hin (hF3.fi (by unfold bF; omega)) (fun j => hF3.on (fun q => q)) (fun b' f h1 h2 h3 => hF3.fi (fun q => h3 (q.trans eb))) (fun j h1 h2 h3 => Qo j (by omega) (by omega) (by omega)) ?_, ⟨by rw [e157]; exact k0, by rw [e157]; exact k60, fun t ht => ?_⟩, hgo, fun k => hF3.fi (by unfold bF; omega), fun j => hF3.on (fun q => q)⟩
  · have hc2 := (inC.eq e0 e1).mp hc
    have hsame : ∀ f, cE Q f c = cE P f c := fun f => hi522 _ cX_ge
    unfold nnC
    rw [hsame, hsame, hsame, hsame]
    exact h.nn c hc2
  · have hc2 := (inC.eq e0 e1).mp hc
    rw [e157, crd_up (P := P) (P' := Q) _ s.length hks (fun t ht hne => Qo _ (by omega) (by omega) (by omega)), Qh, ← eh, e3, crow_up hSM1.1 hL hw hto hc2, r1 to hto, r1 c hc2, h.crd to hto, h.crd c hc2]
    unfold onI
    by_cases h1 : c = to
    · rw [if_pos h1, if_pos (show to = c from h1.symm)]
      by_cases h2 : to = here
      · rw [if_pos h2, if_pos (show here = c from h2.symm.trans h1.symm), ← h2, h1]
      · rw [if_neg h2, if_neg (show ¬ here = c from fun q => h2 (h1.symm.trans q.symm)), h1]
        grind
    · rw [if_neg h1, if_neg (show ¬ to = c from fun q => h1 q.symm)]
      by_cases h2 : c = here
      · rw [if_pos h2, if_pos (show here = c from h2.symm), h2]
        grind
      · rw [if_neg h2, if_neg (show ¬ here = c from fun q => h2 q.symm)]
        grind
  · obtain ⟨t1, t2, t3, t4⟩ := h.2.2.2.1
    unfold PKt
    have f1 : ∀ k, zI M3 L k = zI M L k := fun k => hF3.fi (by unfold bF; omega)
    rw [f1, f1, f1, f1, Qo 518 (by omega) (by omega) (by omega), Qo 519 (by omega) (by omega) (by omega), Qo 520 (by omega) (by omega) (by omega), Qo 521 (by omega) (by omega) (by omega)]
    exact ⟨t1, t2, t3, t4⟩
  · obtain ⟨c1, c2, c3, c4, c5⟩ := hcur
    rw [← eb]
    refine ⟨by rw [zz, z0, Qh], by rw [zz, zo 1 (by decide) (by decide) (by decide), c2, Qo _ (by omega) (by omega) (by omega)], by rw [zz, zo 2 (by decide) (by decide) (by decide), c3, Qo _ (by omega) (by omega) (by omega)], by rw [zz, z3, Q4], by rw [zz, z4, Q3]⟩
  · rw [e157] at ht
    obtain ⟨b1, b2, b3, b4⟩ := kk t ht
    rw [inC.eq e0 e1]
    by_cases htk : t = s.length
    · subst htk
      rw [Qh, Q3, Qo _ (by omega) (by omega) (by omega), Qo 12 (by omega) (by omega) (by omega)]
      exact ⟨hto, b2, b3, by omega⟩
    · rw [Qo _ (by omega) (by omega) (by omega), Qo _ (by omega) (by omega) (by omega), Qo 12 (by omega) (by omega) (by omega), Qo _ (by omega) (by omega) (by omega)]
      exact ⟨b1, b2, b3, b4⟩
end STP
/-! THE CLASS'S begin: those due in a TICK -/
section BEG
variable {e L : Nat} {T : TS} {P P' : PK} {M M1 M' : Mem} {v : Option Value} {c d : Int32} {n i k b B : Nat}
theorem due_ok (h : PKs L P M) (hx : WXr L M) (hD : okD P) (hk : k < (P 12).toInt.toNat) (ht : zI M L 16 = P 518) {kz : Int32} (hkz : kz.toInt = (k : Int)) : G_78 M (oI M (L + 10) kz) (zI M L 16) = bI (dueB P k) := by
  have h24 := hD.2.2.2.1
  have ho : oI M (L + 10) kz = L + 12 + k := by
    unfold oI
    rw [cl_n hkz]
    exact hx k (by omega)
  obtain ⟨_, _, _, hev, _⟩ := hD.2.2.2.2 k hk
  have f := fun f hf => h.2.2.2.2 k hk f hf
  have z0 : (0 : Int32).toInt = 0 := rfl
  unfold G_78 dueB remI
  rw [ho, ht, f 3 (by decide), f 4 (by decide), f 5 (by decide)]
  by_cases h5 : P (13 + 6 * k + 5) = 0
  · rw [if_pos h5, decide_eq_true h5]; rfl
  · rw [if_neg h5, decide_eq_false h5, if_neg (fun q => by have := Int32.le_iff_toInt_le.mp q; omega)]
    by_cases h4 : P 518 < P (13 + 6 * k + 4)
    · rw [if_pos h4, decide_eq_true h4]; rfl
    · rw [if_neg h4, decide_eq_false h4]
      by_cases hr : P 518 - P (13 + 6 * k + 4) - (P 518 - P (13 + 6 * k + 4)) / P (13 + 6 * k + 3) * P (13 + 6 * k + 3) = 0
      · rw [if_pos hr, decide_eq_true hr]; rfl
      · rw [if_neg hr, decide_eq_false hr]; rfl
def LST (L : Nat) (P : PK) (M : Mem) : Prop := zI M L 15 = P 157 ∧ ∀ k, k < (P 157).toInt.toNat → WFq (oN M (L + 11) k) P k M
theorem wi_t (hS : SH M) (hL : gNth sT L = some 8) (hx : WXr L M) (hk : k < 24) : gNth sT (L + 12 + k) = some 20 := by
  have h := ((hS.ror (fx_h12 hL) qz_18).2.2 k hk).2
  rw [hx k hk] at h
  exact h
/-- one more -/
theorem nwk_ok (h : STA L T P M) (hD : okD P) (hK : okK P) (hl : LST L P M) (hk : k < (P 12).toInt.toNat) (hm : ¬ P 157 = 60) {M1 M3 : Mem} (h1 : M1 = X_73w M (oN M (L + 11) (P 157).toInt.toNat) (P (3 + (P (13 + 6 * k)).toInt.toNat)) (nI k)) (h3 : M3 = wI (wF M1 L 15 (zI M1 L 15 + 1)) (L + 8) (P (3 + (P (13 + 6 * k)).toInt.toNat)).toNatClampNeg (rI M1 (L + 8) (P (3 + (P (13 + 6 * k)).toInt.toNat)) + 1)) : STA L T (newP P k) M3 ∧ okK (newP P k) ∧ LST L (newP P k) M3 ∧ FZ (gwF L) (gwW L) (gwO L) M M3 ∧ (∀ k, zI M3 104 k = zI M 104 k) ∧ fR M1 104 7 = L ∧ SQ M1 := by
  have hS := h.sq
  have hL := h.ld
  have hw := h.wh
  have hWK := h.2.2.2.2.2.1
  have hld := ld_cases hL
  obtain ⟨k0, k60, kk⟩ := hK
  have t60 : (60 : Int32).toInt = 60 := rfl
  have m59 : (P 157).toInt ≤ 59 := by
    have : (P 157).toInt ≠ 60 := fun q => hm (Int32.toInt_inj.mp (q.trans t60.symm))
    omega
  obtain ⟨m, em⟩ : ∃ m, m = (P 157).toInt.toNat := ⟨_, rfl⟩
  have emi : (P 157).toInt = (m : Int) := by omega
  obtain ⟨hfr, _, _, _, _⟩ := hD.2.2.2.2 k hk
  obtain ⟨to, et⟩ : ∃ x, x = P (3 + (P (13 + 6 * k)).toInt.toNat) := ⟨_, rfl⟩
  have hto : inC P to := by rw [et]; exact hD.2.1.2.2 _ (by omega)
  rw [← em, ← et] at h1
  rw [← et] at h3
  have hb := hWK.2 m (by omega)
  have hbt := wk_t hS.1 hL (j := m) (by omega)
  obtain ⟨b, eb⟩ : ∃ b, b = oN M (L + 11) m := ⟨_, rfl⟩
  rw [← eb] at hb hbt h1
  have hF1 : FZ (bF b) noO noO M M1 := by
    rw [h1]
    unfold X_73w
    exact ((((FZ.wF (F := bF b) rfl).trans (FZ.wF (F := bF b) rfl)).trans (FZ.wF (F := bF b) rfl)).trans (FZ.wF (F := bF b) rfl)).trans (FZ.wF (F := bF b) rfl)
  have hS1 : SQ M1 := by rw [h1]; exact X_73w_sx hS hbt
  have z1L : ∀ k, zI M1 L k = zI M L k := fun k => hF1.fi (by unfold bF; omega)
  have r1 : rI M1 (L + 8) to = crdP P to m := by
    have : rI M1 (L + 8) to = rI M (L + 8) to := hF1.rn (fun q => q)
    rw [this, em]
    exact h.crd to hto
  have b0 : zI M1 b 0 = to := by
    rw [h1]
    unfold X_73w
    rw [fI_wF_ne (fun q => absurd q.2 (by decide)), fI_wF_ne (fun q => absurd q.2 (by decide)), fI_wF_ne (fun q => absurd q.2 (by decide)), fI_wF_ne (fun q => absurd q.2 (by decide))]
    exact fI_wF_eq hS.1 hbt qi_21_0
  have b1 : zI M1 b 1 = nI k := by
    rw [h1]
    unfold X_73w
    rw [fI_wF_ne (fun q => absurd q.2 (by decide)), fI_wF_ne (fun q => absurd q.2 (by decide)), fI_wF_ne (fun q => absurd q.2 (by decide))]
    exact fI_wF_eq hS.kf.1 hbt qi_21_1
  have b2 : zI M1 b 2 = 0 := by
    rw [h1]
    unfold X_73w
    rw [fI_wF_ne (fun q => absurd q.2 (by decide)), fI_wF_ne (fun q => absurd q.2 (by decide))]
    exact fI_wF_eq hS.kf.kf.1 hbt qi_21_2
  have b3 : zI M1 b 3 = -1 := by
    rw [h1]
    unfold X_73w
    rw [fI_wF_ne (fun q => absurd q.2 (by decide))]
    exact fI_wF_eq hS.kf.kf.kf.1 hbt qi_21_3
  have b4 : zI M1 b 4 = -1 := by
    rw [h1]
    unfold X_73w
    exact fI_wF_eq hS.kf.kf.kf.kf.1 hbt qi_21_4
  have hF3 : FZ (fun a k => bF b a k ∨ (a = L ∧ k = 15)) (crO L) noO M M3 := by
    rw [h3]
    exact ((hF1.more (fun _ _ q => Or.inl q) (fun _ q => q.elim) (fun _ q => q)).trans (FZ.wF (Or.inr ⟨rfl, rfl⟩))).trans (FZ.wI rfl)
  have hS3 : SQ M3 := by rw [h3]; exact hS1.kf.ki
  have hgo : FZ (gwF L) (gwW L) (gwO L) M M3 := hF3.more (fun a k q => by
    rcases q with q | q
    · exact Or.inr (Or.inl (by have : a = b := q; omega))
    · exact Or.inl ⟨q.1, by omega⟩) (fun a q => Or.inl (by have : a = L + 8 := q; omega)) (fun _ q => q.elim)
  have zb : ∀ k, zI M3 b k = zI M1 b k := fun k => by rw [h3, fI_wI, fI_wF_ne (fun q => by have := q.1; omega)]
  obtain ⟨Q, eQ⟩ : ∃ Q, Q = newP P k := ⟨_, rfl⟩
  rw [← eQ]
  unfold newP at eQ
  rw [← em, ← et] at eQ
  have q157 : Q 157 = P 157 + 1 := by rw [eQ]; exact up_eq
  have q157i : (Q 157).toInt = (m : Int) + 1 := by
    rw [q157, i32_p1 (by omega)]
    omega
  have Qo : ∀ j, j ≠ 157 → (j < 158 + 6 * m ∨ 158 + 6 * m + 5 ≤ j) → Q j = P j := fun j j1 j2 => by
    rw [eQ, up_ne j1, up_ne (by omega), up_ne (by omega), up_ne (by omega), up_ne (by omega), up_ne (by omega)]
  have Q0 : Q (158 + 6 * m) = to := by
    rw [eQ, up_ne (by omega), up_ne (by omega), up_ne (by omega), up_ne (by omega), up_ne (by omega), up_eq]
  have Q1 : Q (158 + 6 * m + 1) = nI k := by
    rw [eQ, up_ne (by omega), up_ne (by omega), up_ne (by omega), up_ne (by omega), up_eq]
  have Q2 : Q (158 + 6 * m + 2) = 0 := by
    rw [eQ, up_ne (by omega), up_ne (by omega), up_ne (by omega), up_eq]
  have Q3 : Q (158 + 6 * m + 3) = -1 := by
    rw [eQ, up_ne (by omega), up_ne (by omega), up_eq]
  have Q4 : Q (158 + 6 * m + 4) = -1 := by
    rw [eQ, up_ne (by omega), up_eq]
  have e0 : Q 0 = P 0 := Qo 0 (by omega) (by omega)
  have e1 : Q 1 = P 1 := Qo 1 (by omega) (by omega)
  have hi522 : ∀ j, 522 ≤ j → Q j = P j := fun j hj => Qo j (by omega) (by omega)
  have lkn : ∀ b' j, lkW b' → rN M3 b' j = rN M b' j := fun b' j hb' => hF3.rn (fun q => by have q : b' = L + 8 := q; exact lk_ld hL 8 (by decide) (q ▸ hb'))
  have oo : ∀ j, oN M3 (L + 11) j = oN M (L + 11) j := fun j => hF3.on (fun q => q)
  have hkI : (nI k).toInt = (k : Int) := nI_toInt (by have := hD.2.2.2.1; omega)
  refine ⟨h.mv hD hS3 hgo (h.cel.fz hF3 (fun f hf q => by have q : L + 1 + f = L + 8 := q; omega) e0 e1 hi522) (fun j hj => Qo j (by omega) (by omega)) (fun c hc => ?_) (fun c hc => ?_) (h.2.1.mv e0 e1 hi522 lkn) ?_ (hWK.fz hF3 (fun q => q)), ⟨by omega, by omega, fun t ht => ?_⟩, ⟨?_, fun t ht => ?_⟩, hgo, fun k => hF3.fi (by unfold bF; omega), ?_, hS1⟩
  · have hc2 := (inC.eq e0 e1).mp hc
    have hsame : ∀ f, cE Q f c = cE P f c := fun f => hi522 _ cX_ge
    unfold nnC
    rw [hsame, hsame, hsame, hsame]
    exact h.nn c hc2
  · have hc2 := (inC.eq e0 e1).mp hc
    have hq : (Q 157).toInt.toNat = m + 1 := by omega
    have hr : rI (wF M1 L 15 (zI M1 L 15 + 1)) (L + 8) c = rI M (L + 8) c := by
      have a1 : rI (wF M1 L 15 (zI M1 L 15 + 1)) (L + 8) c = rI M1 (L + 8) c := by unfold rI; rw [rN_wF]
      have a2 : rI M1 (L + 8) c = rI M (L + 8) c := hF1.rn (fun q => q)
      rw [a1, a2]
    rw [hq, h3, crow_up hS1.kf.1 hL hw hto hc2, hr, r1, h.crd c hc2, ← em]
    show _ = crdP Q c m + (if Q (158 + 6 * m) = c then 1 else 0)
    rw [crd_congr m (fun t ht => Qo _ (by omega) (by omega)), Q0]
    by_cases hcc : c = to
    · rw [if_pos hcc, if_pos hcc.symm, hcc]
    · rw [if_neg hcc, if_neg (fun q => hcc q.symm)]
      grind
  · obtain ⟨t1, t2, t3, t4⟩ := h.2.2.2.1
    unfold PKt
    have f1 : ∀ k, k ≠ 15 → zI M3 L k = zI M L k := fun k hk => hF3.fi (fun q => by
      rcases q with q | q
      · have q : L = b := q
        omega
      · exact hk q.2)
    rw [f1 16 (by decide), f1 17 (by decide), f1 18 (by decide), f1 19 (by decide), Qo 518 (by omega) (by omega), Qo 519 (by omega) (by omega), Qo 520 (by omega) (by omega), Qo 521 (by omega) (by omega)]
    exact ⟨t1, t2, t3, t4⟩
  · rw [inC.eq e0 e1]
    by_cases htm : t = m
    · subst htm
      rw [Q0, Q1, Q3, Qo 12 (by omega) (by omega), hkI]
      exact ⟨hto, by omega, by omega, by decide⟩
    · obtain ⟨c1, c2, c3, c4⟩ := kk t (by omega)
      rw [Qo _ (by omega) (by omega), Qo _ (by omega) (by omega), Qo 12 (by omega) (by omega), Qo _ (by omega) (by omega)]
      exact ⟨c1, c2, c3, c4⟩
  · rw [q157, h3, fI_wI]
    rw [fI_wF_eq hS1.1 hL qi_8_15, z1L, hl.1]
  · rw [oo]
    by_cases htm : t = m
    · subst htm
      rw [← eb]
      exact ⟨by rw [zb, b0, Q0], by rw [zb, b1, Q1], by rw [zb, b2, Q2], by rw [zb, b3, Q4], by rw [zb, b4, Q3]⟩
    · have hb2 := hWK.2 t (by omega)
      have hne : oN M (L + 11) t ≠ b := fun q => htm (hWK.1 t m (by omega) (by omega) (q.trans eb))
      refine (hl.2 t (by omega)).eq (fun f _ => hF3.fi (fun q => ?_)) (fun j hj => Qo _ (by omega) (by omega))
      rcases q with q | q
      · exact hne q
      · omega
  · rw [hF1.fr (by unfold bF; omega)]
    exact h.lw
theorem tur_ok (h : STA L T P M) (hD : okD P) (hK : okK P) (hl : LST L P M) {M3 : Mem} (h3 : M3 = wF M L 19 (zI M L 19 + 1)) : STA L T (uPk P 521 (P 521 + 1)) M3 ∧ okK (uPk P 521 (P 521 + 1)) ∧ LST L (uPk P 521 (P 521 + 1)) M3 ∧ FZ (gwF L) (gwW L) (gwO L) M M3 ∧ ∀ k, zI M3 104 k = zI M 104 k := by
  have hS := h.sq
  have hL := h.ld
  have hWK := h.2.2.2.2.2.1
  have hld := ld_cases hL
  have hF3 : FZ (fun a k => a = L ∧ k = 19) noO noO M M3 := by rw [h3]; exact FZ.wF ⟨rfl, rfl⟩
  have hS3 : SQ M3 := by rw [h3]; exact hS.kf
  have hgo : FZ (gwF L) (gwW L) (gwO L) M M3 := hF3.more (fun a k q => Or.inl ⟨q.1, by omega⟩) (fun a q => q.elim) (fun _ q => q.elim)
  have Qo : ∀ j, j ≠ 521 → uPk P 521 (P 521 + 1) j = P j := fun j hj => up_ne hj
  have lkn : ∀ b' j, lkW b' → rN M3 b' j = rN M b' j := fun b' j _ => hF3.rn (fun q => q)
  obtain ⟨t1, t2, t3, t4⟩ := h.2.2.2.1
  have f1 : ∀ k, k ≠ 19 → zI M3 L k = zI M L k := fun k hk => hF3.fi (fun q => hk q.2)
  refine ⟨h.mv hD hS3 hgo (h.cel.fz hF3 (fun f hf q => q) (Qo 0 (by decide)) (Qo 1 (by decide)) (fun j hj => Qo j (by omega))) (fun j hj => Qo j (by omega)) (fun c hc => ?_) (fun c hc => ?_) (h.2.1.mv (Qo 0 (by decide)) (Qo 1 (by decide)) (fun j hj => Qo j (by omega)) lkn) ⟨?_, ?_, ?_, ?_⟩ (hWK.fz hF3 (fun q => q)), ⟨?_, ?_, fun t ht => ?_⟩, ⟨?_, fun t ht => ?_⟩, hgo, fun k => hF3.fi (by omega)⟩
  · have hc2 := (inC.eq (Qo 0 (by decide)) (Qo 1 (by decide))).mp hc
    have hsame : ∀ f, cE (uPk P 521 (P 521 + 1)) f c = cE P f c := fun f => cE_lo (by decide)
    unfold nnC
    rw [hsame, hsame, hsame, hsame]
    exact h.nn c hc2
  · have hc2 := (inC.eq (Qo 0 (by decide)) (Qo 1 (by decide))).mp hc
    have hr : rI M3 (L + 8) c = rI M (L + 8) c := hF3.rn (fun q => q)
    have hK2 := hK.2.1
    rw [hr, h.crd c hc2, Qo 157 (by decide)]
    exact (crd_congr _ (fun t ht => Qo _ (by omega))).symm
  · rw [f1 16 (by decide), t1]; exact (Qo _ (by decide)).symm
  · rw [f1 17 (by decide), t2]; exact (Qo _ (by decide)).symm
  · rw [f1 18 (by decide), t3]; exact (Qo _ (by decide)).symm
  · rw [h3, fI_wF_eq hS.1 hL qi_8_19, t4]; exact up_eq.symm
  · rw [Qo 157 (by decide)]; exact hK.1
  · rw [Qo 157 (by decide)]; exact hK.2.1
  · rw [Qo 157 (by decide)] at ht
    have hK2 := hK.2.1
    obtain ⟨c1, c2, c3, c4⟩ := hK.2.2 t ht
    rw [inC.eq (Qo 0 (by decide)) (Qo 1 (by decide)), Qo _ (by omega), Qo _ (by omega), Qo 12 (by decide), Qo _ (by omega)]
    exact ⟨c1, c2, c3, c4⟩
  · rw [f1 15 (by decide), hl.1]; exact (Qo _ (by decide)).symm
  · rw [Qo 157 (by decide)] at ht
    have hK2 := hK.2.1
    rw [hF3.on (fun q => q)]
    have hb := hWK.2 t (by omega)
    exact (hl.2 t ht).eq (fun f _ => hF3.fi (by omega)) (fun j hj => Qo _ (by omega))
theorem new_sb (hk : k < 24) (hm : (P 157).toInt ≤ 60) : ∀ j, j < 157 → newP P k j = P j := fun j hj => by
  unfold newP
  rw [up_ne (by omega), up_ne (by omega), up_ne (by omega), up_ne (by omega), up_ne (by omega), up_ne (by omega)]
theorem beg_l : ∀ (n k : Nat) (kz : Int32) (c2 c3 : Option Value) (P : PK) (M : Mem), STA L T P M → okD P → okK P → LST L P M → kz.toInt = (k : Int) → (k : Int) + (n : Int) = (P 12).toInt → Ev none e 59 2 [some (.ref 104), some (.int kz), c2, c3] [] M v M' 0 0 → v = none ∧ STA L T (begP n k P) M' ∧ okK (begP n k P) ∧ LST L (begP n k P) M' ∧ FZ (gwF L) (gwW L) (gwO L) M M' ∧ ∀ k, zI M' 104 k = zI M 104 k := by
  intro n
  induction n with
  | zero =>
    intro k kz c2 c3 P M h hD hK hl hkz hn H
    have h13 := h.2.2.1.2.2.2.1
    rcases bgn_2 h.sq H with ⟨_, h1, h2⟩ | ⟨a1, _⟩ | ⟨a1, _⟩ | ⟨a1, _⟩
    · subst h2
      exact ⟨h1, h, hK, hl, FZ.refl _, fun _ => rfl⟩
    all_goals exact absurd (Int32.le_iff_toInt_le.mpr (by rw [h.lw, h13]; omega)) a1
  | succ n ih =>
    intro k kz c2 c3 P M h hD hK hl hkz hn H
    have h13 := h.2.2.1.2.2.2.1
    have h24 := hD.2.2.2.1
    have hk : k < (P 12).toInt.toNat := by omega
    have hdu := due_ok h.2.2.1 h.2.2.2.2.1 hD hk h.2.2.2.1.1 hkz
    have hk1 : (kz + 1).toInt = ((k + 1 : Nat) : Int) := by
      rw [i32_p1 (by omega)]
      omega
    have hx : oI M (L + 10) kz = L + 12 + k := by
      unfold oI
      rw [cl_n hkz]
      exact h.2.2.2.2.1 k (by omega)
    have hkI : kz = nI k := Int32.toInt_inj.mp (by rw [hkz, nI_toInt (by omega)])
    have t60 : (60 : Int32).toInt = 60 := rfl
    unfold begP
    rcases bgn_2 h.sq H with ⟨a1, _⟩ | ⟨_, a2, _, H⟩ | ⟨_, a2, a3, _, _, _, e1, v1, M1, rfl, H1, H⟩ | ⟨_, a2, a3, _, H⟩
    · rw [h.lw, h13] at a1
      have := Int32.le_iff_toInt_le.mp a1
      omega
    · rw [h.lw, hdu, bI_0] at a2
      rw [if_neg (by rw [a2]; decide)]
      exact ih (k + 1) _ _ _ P M h hD hK hl hk1 (by omega) H
    · rw [h.lw, hdu, bI_0, Bool.not_eq_false] at a2
      rw [h.lw, hl.1] at a3
      have hne : ¬ P 157 = 60 := fun q => by rw [q] at a3; exact absurd a3 (by decide)
      rw [if_pos a2, if_neg hne]
      have hfr := (hD.2.2.2.2 k hk).1
      have hw0 : zI M (L + 12 + k) 0 = P (13 + 6 * k) := h.2.2.1.2.2.2.2 k hk 0 (by decide)
      have hdo : rI M (L + 9) (P (13 + 6 * k)) = P (3 + (P (13 + 6 * k)).toInt.toNat) := h.2.2.1.2.2.1.2 (P (13 + 6 * k)).toInt.toNat (by omega)
      have hob : oI M (L + 11) (P 157) = oN M (L + 11) (P 157).toInt.toNat := rfl
      have hbt := wk_t h.sq.1 h.ld (j := (P 157).toInt.toNat) (by have := hK.2.1; have : (P 157).toInt ≠ 60 := fun q => hne (Int32.toInt_inj.mp (q.trans t60.symm)); omega)
      rw [h.lw, hx, hl.1, hw0, hdo, hob, hkI] at H1
      obtain ⟨rfl, q2⟩ := g_73w h.sq hbt H1
      obtain ⟨r1, r2, r3, r4, r5, r6, r7⟩ := nwk_ok h hD hK hl hk hne q2 rfl
      rw [h.lw, hx, hw0, hdo] at H
      obtain ⟨_, _, H⟩ := bgn_101 r7 (wi_t h.sq.1 h.ld h.2.2.2.2.1 (k := k) (by omega)) H
      rw [r6] at H
      obtain ⟨s1, s2, s3, s4, s5, s6⟩ := ih (k + 1) _ _ _ (newP P k) _ r1 (hD.sb (new_sb (by omega) hK.2.1)) r2 r3 hk1 (by rw [new_sb (by omega) hK.2.1 12 (by decide)]; omega) H
      exact ⟨s1, s2, s3, s4, r4.trans s5, fun k => (s6 k).trans (r5 k)⟩
    · rw [h.lw, hdu, bI_0, Bool.not_eq_false] at a2
      rw [h.lw, hl.1] at a3
      have hq : P 157 = 60 := Int32.toInt_inj.mp (by rw [Int32.lt_iff_toInt_lt] at a3; have := hK.2.1; omega)
      rw [if_pos a2, if_pos hq]
      rw [h.lw] at H
      obtain ⟨r1, r2, r3, r4, r5⟩ := tur_ok h hD hK hl rfl
      obtain ⟨s1, s2, s3, s4, s5, s6⟩ := ih (k + 1) _ _ _ _ _ r1 (hD.sb (fun j hj => up_ne (by omega))) r2 r3 hk1 (by rw [show uPk P 521 (P 521 + 1) 12 = P 12 from up_ne (by decide)]; omega) H
      exact ⟨s1, s2, s3, s4, r4.trans s5, fun k => (s6 k).trans (r5 k)⟩
end BEG
/-! ONE WALKER'S STEP, in the class: what follows the move -/
section LVE
variable {e L : Nat} {T : TS} {g q : TQ} {P P' Q : PK} {M M1 M' : Mem} {v : Option Value} {c d go : Int32} {n i k b B : Nat} {s : List Nat} {ss : List Int32}
theorem STA.lk (h : STA L T P M) (hD : okD P) (hS : SQ M') (hF : FZ noF lkW noO M M') (hV : VC T P M') : STA L T P M' := by
  have hL := h.ld
  have hld := ld_cases hL
  obtain ⟨t1, t2, t3, t4⟩ := h.2.2.2.1
  refine h.mv hD hS (lk_go hF) (h.cel.fz hF (fun f hf q => ?_) rfl rfl (fun _ _ => rfl)) (fun _ _ => rfl) h.nn (fun c hc => ?_) hV ⟨?_, ?_, ?_, ?_⟩ (h.2.2.2.2.2.1.fz hF (fun q => q))
  · exact lk_ld hL (1 + f) (by omega) (by rw [← Nat.add_assoc]; exact q)
  · have : rI M' (L + 8) c = rI M (L + 8) c := hF.rn (lk_ld hL 8 (by decide))
    rw [this]
    exact h.crd c hc
  · rw [hF.fi (fun q => q)]; exact t1
  · rw [hF.fi (fun q => q)]; exact t2
  · rw [hF.fi (fun q => q)]; exact t3
  · rw [hF.fi (fun q => q)]; exact t4
theorem MDW.lk (h : MDW L P M n i s) (hk : WKs L M) (hF : FZ noF lkW noO M M') : MDW L P M' n i s := h.same hk (hF.fi (fun q => q)) (fun j => hF.on (fun q => q)) (fun b f _ _ => hF.fi (fun q => q)) (fun _ _ _ => rfl)
/-- a TICK more -/
theorem age_ok (h : STA L T P M) (hD : okD P) (hK : okK P) (hm : MDW L P M n i s) (hin : i < n) (h2 : M' = wF M (oN M (L + 11) i) 2 (zI M (oN M (L + 11) i) 2 + 1)) : STA L T (ageP P s.length) M' ∧ MDW L (ageP P s.length) M' n i s ∧ okK (ageP P s.length) ∧ FZ (gwF L) (gwW L) (gwO L) M M' ∧ (∀ k, zI M' 104 k = zI M 104 k) ∧ ∀ j, oN M' (L + 11) j = oN M (L + 11) j := by
  have hS := h.sq
  have hL := h.ld
  have hWK := h.2.2.2.2.2.1
  have hld := ld_cases hL
  obtain ⟨a1, a2, a3, a4, a5, a6, a7, a8⟩ := id hm
  have hs := sort_len a8 (fun t j ht => (a5 t j ht).1)
  have hb := hWK.2 i (by omega)
  have hbt := wk_t hS.1 hL (j := i) (by omega)
  have hcur : WFq (oN M (L + 11) i) P s.length M := by
    have := a6 i (Nat.le_refl _) hin
    rw [Nat.sub_self] at this
    exact this
  obtain ⟨k0, k60, kk⟩ := hK
  obtain ⟨b, eb⟩ : ∃ b, b = oN M (L + 11) i := ⟨_, rfl⟩
  rw [← eb] at hb hbt hcur h2
  have hF : FZ (fun a k => a = b ∧ k = 2) noO noO M M' := by rw [h2]; exact FZ.wF (F := fun a k => a = b ∧ k = 2) ⟨rfl, rfl⟩
  have hS2 : SQ M' := by rw [h2]; exact hS.kf
  have hgo : FZ (gwF L) (gwW L) (gwO L) M M' := hF.more (fun a k q => Or.inr (Or.inl (by have := q.1; omega))) (fun a q => q.elim) (fun _ q => q.elim)
  have Qo : ∀ j, j ≠ 158 + 6 * s.length + 2 → ageP P s.length j = P j := fun j hj => up_ne hj
  have Q2 : ageP P s.length (158 + 6 * s.length + 2) = P (158 + 6 * s.length + 2) + 1 := up_eq
  have h522 : ∀ j, 522 ≤ j → ageP P s.length j = P j := fun j hj => Qo j (by omega)
  have e0 := Qo 0 (by omega)
  have e1 := Qo 1 (by omega)
  obtain ⟨t1, t2, t3, t4⟩ := h.2.2.2.1
  have fL' : ∀ k, zI M' L k = zI M L k := fun k => hF.fi (by omega)
  refine ⟨h.mv hD hS2 hgo (h.cel.fz hF (fun f hf q => q) e0 e1 h522) (fun j hj => Qo j (by omega)) (fun c hc => ?_) (fun c hc => ?_) (h.2.1.mv e0 e1 h522 (fun b' j _ => hF.rn (fun q => q))) ?_ (hWK.fz hF (fun q => q)), hm.cur hWK hin (fL' 15) (fun j => hF.on (fun q => q)) (fun b' f h1 h2 h3 => hF.fi (fun q => h3 (q.1.trans eb))) (fun j h1 h2 h3 => Qo j (by omega)) ?_, ⟨by rw [Qo 157 (by omega)]; exact k0, by rw [Qo 157 (by omega)]; exact k60, fun t ht => ?_⟩, hgo, fun k => hF.fi (by omega), fun j => hF.on (fun q => q)⟩
  · have hc2 := (inC.eq e0 e1).mp hc
    have hsame : ∀ f, cE (ageP P s.length) f c = cE P f c := fun f => h522 _ cX_ge
    unfold nnC
    rw [hsame, hsame, hsame, hsame]
    exact h.nn c hc2
  · have hc2 := (inC.eq e0 e1).mp hc
    have : rI M' (L + 8) c = rI M (L + 8) c := hF.rn (fun q => q)
    rw [this, Qo 157 (by omega), h.crd c hc2]
    exact (crd_congr _ (fun t ht => Qo _ (by omega))).symm
  · unfold PKt
    rw [fL', fL', fL', fL', Qo 518 (by omega), Qo 519 (by omega), Qo 520 (by omega), Qo 521 (by omega)]
    exact ⟨t1, t2, t3, t4⟩
  · obtain ⟨c1, c2, c3, c4, c5⟩ := hcur
    rw [← eb]
    have zo : ∀ k, k ≠ 2 → zI M' b k = zI M b k := fun k hk => hF.fi (fun q => hk q.2)
    have z2 : zI M' b 2 = zI M b 2 + 1 := by rw [h2]; exact fI_wF_eq hS.1 hbt qi_21_2
    exact ⟨by rw [zo 0 (by decide), c1, Qo _ (by omega)], by rw [zo 1 (by decide), c2, Qo _ (by omega)], by rw [z2, c3, Q2], by rw [zo 3 (by decide), c4, Qo _ (by omega)], by rw [zo 4 (by decide), c5, Qo _ (by omega)]⟩
  · rw [Qo 157 (by omega)] at ht
    obtain ⟨b1, b2, b3, b4⟩ := kk t ht
    rw [inC.eq e0 e1, Qo _ (by omega), Qo _ (by omega), Qo 12 (by omega), Qo _ (by omega)]
    exact ⟨b1, b2, b3, b4⟩
theorem trd_sb {c : Int32} : ∀ j, j < 157 → trdP g P c j = P j := fun j hj => trd_lo (by omega)
/-- the step comes on a CELL -/
theorem trw_ok (h : STA L T P M) (hD : okD P) (hK : okK P) (hE : okE B P) (hB : B ≤ 100000000) (hm : MDW L P M n i s) (hc : inC P c) (H : Ev none e 62 0 [some (.ref 104), some (.int c), none] [] M v M' 0 0) : v = none ∧ STA L T (trdP (T 0) P c) M' ∧ MDW L (trdP (T 0) P c) M' n i s ∧ okK (trdP (T 0) P c) ∧ okE (B + 1) (trdP (T 0) P c) ∧ FZ (gwF L) (gwW L) (gwO L) M M' ∧ (zI M' 104 10 = if c = zI M 104 9 then 1 else zI M 104 10) ∧ zI M' 104 9 = zI M 104 9 ∧ ∀ j, oN M' (L + 11) j = oN M (L + 11) j := by
  have hL := h.ld
  have hld := ld_cases hL
  have hWK := h.2.2.2.2.2.1
  obtain ⟨r1, r2, r3, r4, r5, r6⟩ := tread_ok h.1 h.2.1 hc H
  have hE' := hE.trd h.1.2.2.2.2.2.1.2 hB hc
  obtain ⟨t1, t2, t3, t4⟩ := h.2.2.2.1
  have lo : ∀ j, j < 522 → trdP (T 0) P c j = P j := fun j hj => trd_lo hj
  have zL : ∀ k, zI M' L k = zI M L k := fun k => r3.fi (by unfold trF; omega)
  have hk60 := hK.2.1
  refine ⟨r1, h.mv hD r2 (tr_go r3) r4 trd_sb hE'.nn (fun c2 hc2 => ?_) r5 ?_ (hWK.fz r3 (fun q => q)), hm.same hWK (zL 15) (fun j => r3.on (fun q => q)) (fun b f h1 h2 => r3.fi (by unfold trF; omega)) (fun j h1 h2 => lo j (by omega)), ⟨by rw [lo 157 (by decide)]; exact hK.1, by rw [lo 157 (by decide)]; exact hK.2.1, fun t ht => ?_⟩, hE', tr_go r3, r6, r3.fi (by unfold trF; omega), fun j => r3.on (fun q => q)⟩
  · have hc3 := (inC.eq (lo 0 (by decide)) (lo 1 (by decide))).mp hc2
    have : rI M' (L + 8) c2 = rI M (L + 8) c2 := r3.rn (by unfold trW; omega)
    rw [this, lo 157 (by decide), h.crd c2 hc3]
    exact (crd_congr _ (fun t ht => lo _ (by omega))).symm
  · unfold PKt
    rw [zL, zL, zL, zL, lo 518 (by decide), lo 519 (by decide), lo 520 (by decide), lo 521 (by decide)]
    exact ⟨t1, t2, t3, t4⟩
  · rw [lo 157 (by decide)] at ht
    rw [inC.eq (lo 0 (by decide)) (lo 1 (by decide)), lo _ (by omega), lo _ (by omega), lo 12 (by decide), lo _ (by omega)]
    exact hK.2.2 t ht
/-- one goes for good -/
theorem gon_ok (h : STA L T P M) (hD : okD P) (hK : okK P) (hm : MDW L P M n i s) (hin : i < n) {x17 x18 : Int32} (hQ : ∀ j, j ≠ 519 → j ≠ 520 → Q j = P j) (h17 : Q 519 = x17) (h18 : Q 520 = x18) (h2 : M' = wF (wI (wF (wF M L 17 x17) L 18 x18) (L + 8) (P (158 + 6 * s.length)).toNatClampNeg (crdP P (P (158 + 6 * s.length)) (P 157).toInt.toNat - 1)) (oN M (L + 11) i) 0 (-1)) : STA L T (leaP Q s.length) M' ∧ MDW L (leaP Q s.length) M' n (i + 1) s ∧ okK (leaP Q s.length) ∧ FZ (gwF L) (gwW L) (gwO L) M M' ∧ (∀ k, zI M' 104 k = zI M 104 k) ∧ ∀ j, oN M' (L + 11) j = oN M (L + 11) j := by
  have hS := h.sq
  have hL := h.ld
  have hw := h.wh
  have hWK := h.2.2.2.2.2.1
  have hld := ld_cases hL
  obtain ⟨a1, a2, a3, a4, a5, a6, a7, a8⟩ := id hm
  have hs := sort_len a8 (fun t j ht => (a5 t j ht).1)
  have hb := hWK.2 i (by omega)
  have hbt := wk_t hS.1 hL (j := i) (by omega)
  obtain ⟨k0, k60, kk⟩ := id hK
  have hks : s.length < (P 157).toInt.toNat := by omega
  have kh := (kk s.length hks).1
  obtain ⟨here, eh⟩ : ∃ x, x = P (158 + 6 * s.length) := ⟨_, rfl⟩
  rw [← eh] at h2 kh
  obtain ⟨b, eb⟩ : ∃ b, b = oN M (L + 11) i := ⟨_, rfl⟩
  rw [← eb] at hb hbt h2
  have hF : FZ (fun a k => (a = L ∧ (k = 17 ∨ k = 18)) ∨ a = b) (crO L) noO M M' := by
    rw [h2]
    exact (((FZ.wF (F := fun a k => (a = L ∧ (k = 17 ∨ k = 18)) ∨ a = b) (W := crO L) (O := noO) (Or.inl ⟨rfl, Or.inl rfl⟩)).trans (FZ.wF (Or.inl ⟨rfl, Or.inr rfl⟩))).trans (FZ.wI rfl)).trans (FZ.wF (Or.inr rfl))
  have hS2 : SQ M' := by rw [h2]; exact hS.kf.kf.ki.kf
  have hgo : FZ (gwF L) (gwW L) (gwO L) M M' := hF.more (fun a k q => by
    rcases q with q | q
    · exact Or.inl ⟨q.1, by omega⟩
    · exact Or.inr (Or.inl (by omega))) (fun a q => Or.inl (by have : a = L + 8 := q; omega)) (fun _ q => q.elim)
  have t1' : (1 : Int32).toInt = 1 := rfl
  have q157 : Q 157 = P 157 := hQ 157 (by decide) (by decide)
  have m1 : (P 157 - 1).toInt = (P 157).toInt - 1 := i32_m1 (by omega)
  have l157 : leaP Q s.length 157 = P 157 - 1 := by unfold leaP; rw [if_pos rfl, q157]
  have lo : ∀ j, j < 157 → leaP Q s.length j = P j := fun j hj => by
    unfold leaP
    rw [if_neg (by omega), if_neg (by omega), if_neg (by omega)]
    exact hQ j (by omega) (by omega)
  have hi : ∀ j, 518 ≤ j → leaP Q s.length j = Q j := fun j hj => by
    unfold leaP
    rw [if_neg (by omega), if_neg (by rw [q157]; omega), if_neg (by rw [q157]; omega)]
  have lw : ∀ t f, t < s.length → f < 6 → leaP Q s.length (158 + 6 * t + f) = P (158 + 6 * t + f) := fun t f ht hf => by
    unfold leaP
    rw [if_neg (by omega), if_neg (by omega), if_neg (by rw [q157]; omega)]
    exact hQ _ (by omega) (by omega)
  have hw2 : ∀ t f, s.length ≤ t → t < (P 157 - 1).toInt.toNat → f < 6 → leaP Q s.length (158 + 6 * t + f) = P (158 + 6 * (t + 1) + f) := fun t f ht h2 hf => by
    unfold leaP
    rw [if_neg (by omega), if_pos ⟨by omega, by rw [q157]; omega⟩]
    rw [show 158 + 6 * t + f + 6 = 158 + 6 * (t + 1) + f from by omega]
    exact hQ _ (by omega) (by omega)
  have h522 : ∀ j, 522 ≤ j → leaP Q s.length j = P j := fun j hj => (hi j (by omega)).trans (hQ j (by omega) (by omega))
  have e0 := lo 0 (by decide)
  have e1 := lo 1 (by decide)
  have lkn : ∀ b' j, lkW b' → rN M' b' j = rN M b' j := fun b' j hb' => hF.rn (fun q => by have q : b' = L + 8 := q; exact lk_ld hL 8 (by decide) (q ▸ hb'))
  obtain ⟨t1, t2, t3, t4⟩ := h.2.2.2.1
  have zL : ∀ k, k ≠ 17 → k ≠ 18 → zI M' L k = zI M L k := fun k k1 k2 => hF.fi (by omega)
  have hmQ : MDW L Q M n i s := hm.same hWK rfl (fun _ => rfl) (fun _ _ _ _ => rfl) (fun j h1 h2 => hQ j (by omega) (by omega))
  refine ⟨h.mv hD hS2 hgo (h.cel.fz hF (fun f hf q => by have q : L + 1 + f = L + 8 := q; omega) e0 e1 h522) lo (fun c hc => ?_) (fun c hc => ?_) (h.2.1.mv e0 e1 h522 lkn) ⟨?_, ?_, ?_, ?_⟩ (hWK.fz hF (fun q => q)), hmQ.gone hWK hin (zL 15 (by decide) (by decide)) (fun j => hF.on (fun q => q)) (fun b' f h1 h2 h3 => hF.fi (fun q => ?_)) ?_, ⟨?_, ?_, fun t ht => ?_⟩, hgo, fun k => hF.fi (by omega), fun j => hF.on (fun q => q)⟩
  · have hc2 := (inC.eq e0 e1).mp hc
    have hsame : ∀ f, cE (leaP Q s.length) f c = cE P f c := fun f => h522 _ cX_ge
    unfold nnC
    rw [hsame, hsame, hsame, hsame]
    exact h.nn c hc2
  · have hc2 := (inC.eq e0 e1).mp hc
    have hm' : (P 157).toInt.toNat = (P 157 - 1).toInt.toNat + 1 := by omega
    have hr : rI M' (L + 8) c = rI (wI (wF (wF M L 17 x17) L 18 x18) (L + 8) here.toNatClampNeg (crdP P here (P 157).toInt.toNat - 1)) (L + 8) c := by
      rw [h2]
      unfold rI
      rw [rN_wF]
    have hr0 : rI (wF (wF M L 17 x17) L 18 x18) (L + 8) c = rI M (L + 8) c := by
      unfold rI
      rw [rN_wF, rN_wF]
    have hcd := crd_del (P := P) (P' := leaP Q s.length) (c := c) (P 157 - 1).toInt.toNat s.length (by omega) (fun t ht => lw t 0 ht (by decide)) (fun t h3 h4 => hw2 t 0 h3 h4 (by decide))
    rw [l157, hcd, ← hm', hr, crow_up hS.kf.kf.1 hL hw kh hc2, hr0, h.crd c hc2, ← eh]
    unfold onI
    by_cases hcc : c = here
    · rw [if_pos hcc, if_pos (show here = c from hcc.symm), hcc]
    · rw [if_neg hcc, if_neg (show ¬ here = c from fun q => hcc q.symm)]
      grind
  · rw [zL 16 (by decide) (by decide), t1, hi 518 (by decide)]; exact (hQ 518 (by decide) (by decide)).symm
  · rw [hi 519 (by decide), h17, h2, fI_wF_ne (by omega), fI_wI, fI_wF_ne (by omega)]
    exact fI_wF_eq hS.1 hL qi_8_17
  · rw [hi 520 (by decide), h18, h2, fI_wF_ne (by omega), fI_wI]
    exact fI_wF_eq hS.kf.1 hL qi_8_18
  · rw [zL 19 (by decide) (by decide), t4, hi 521 (by decide)]; exact (hQ 521 (by decide) (by decide)).symm
  · rcases q with q | q
    · omega
    · exact h3 (q.trans eb)
  · rw [← eb, h2]
    exact fI_wF_eq hS.kf.kf.ki.1 hbt qi_21_0
  · rw [l157, m1]; omega
  · rw [l157, m1]; omega
  · rw [l157] at ht
    have ht2 : t < (P 157 - 1).toInt.toNat := ht
    rw [inC.eq e0 e1, lo 12 (by decide)]
    by_cases hts : t < s.length
    · have f0 := lw t 0 hts (by decide)
      have f1 := lw t 1 hts (by decide)
      have f3 := lw t 3 hts (by decide)
      rw [Nat.add_zero] at f0
      rw [f0, f1, f3]
      exact kk t (by omega)
    · have f0 := hw2 t 0 (by omega) ht2 (by decide)
      have f1 := hw2 t 1 (by omega) ht2 (by decide)
      have f3 := hw2 t 3 (by omega) ht2 (by decide)
      rw [Nat.add_zero, Nat.add_zero] at f0
      rw [f0, f1, f3]
      exact kk (t + 1) (by omega)
theorem okE.lea (hE : okE B P) (hK1 : 0 ≤ (P 157).toInt) (hK2 : (P 157).toInt ≤ 60) (hk : k ≤ 60) : okE B (leaP P k) := by
  have t1 : (1 : Int32).toInt = 1 := rfl
  have hx : (P 157 - 1).toInt.toNat ≤ 59 := by
    rw [i32_m1 (by omega)]
    omega
  refine hE.sb ?_ ?_ (fun j hj => ?_)
  · unfold leaP
    rw [if_neg (by omega), if_neg (by omega), if_neg (by omega)]
  · unfold leaP
    rw [if_neg (by omega), if_neg (by omega), if_neg (by omega)]
  · unfold leaP
    rw [if_neg (by omega), if_neg (by omega), if_neg (by omega)]
end LVE
/-! THE CLASS'S sweep -/
section SWE
variable {e L : Nat} {T : TS} {P : PK} {M M1 M' : Mem} {v : Option Value} {n i k b B : Nat} {s : List Nat}
theorem swap_o (hS : SQ M) (hL : gNth sT L = some 8) {a b : Nat} (ha : a < 60) (hb : b < 60) {N : Mem} (hN : N = wO (wO M (L + 11) a (oN M (L + 11) b)) (L + 11) b (oN M (L + 11) a)) : SQ N ∧ FZ noF noO (gwO L) M N ∧ ∀ j, oN N (L + 11) j = if j = b then oN M (L + 11) a else if j = a then oN M (L + 11) b else oN M (L + 11) j := by
  have h14 := fx_h14 hL
  have hta := wk_t hS.1 hL ha
  have htb := wk_t hS.1 hL hb
  have hS1 : SQ (wO M (L + 11) a (oN M (L + 11) b)) := hS.ko h14 qz_19 htb
  refine ⟨by rw [hN]; exact hS1.ko h14 qz_19 hta, by rw [hN]; exact (FZ.wO (F := noF) (W := noO) (O := gwO L) rfl).trans (FZ.wO rfl), fun j => ?_⟩
  rw [hN]
  by_cases h1 : j = b
  · rw [if_pos h1, h1]
    exact oN_wO_eq hS1.1 h14 qz_19 hb
  · rw [if_neg h1, oN_wO_ne hS1.1 h14 qz_19 h1]
    by_cases h2 : j = a
    · rw [if_pos h2, h2]
      exact oN_wO_eq hS.1 h14 qz_19 ha
    · rw [if_neg h2, oN_wO_ne hS.1 h14 qz_19 h2]
theorem swap_k (h : WKs L M) {N : Mem} {a b : Nat} (ha : a < 60) (hb : b < 60) (hN : ∀ j, oN N (L + 11) j = if j = b then oN M (L + 11) a else if j = a then oN M (L + 11) b else oN M (L + 11) j) : WKs L N := by
  obtain ⟨h1, h2⟩ := h
  have hp : ∀ j, j < 60 → ∃ j', j' < 60 ∧ oN N (L + 11) j = oN M (L + 11) j' ∧ (j = b → j' = a) ∧ (j ≠ b → j = a → j' = b) ∧ (j ≠ b → j ≠ a → j' = j) := fun j hj => by
    rw [hN]
    by_cases q1 : j = b
    · rw [if_pos q1]
      exact ⟨a, ha, rfl, fun _ => rfl, fun q => absurd q1 q, fun q => absurd q1 q⟩
    · rw [if_neg q1]
      by_cases q2 : j = a
      · rw [if_pos q2]
        exact ⟨b, hb, rfl, fun q => absurd q q1, fun _ _ => rfl, fun _ q => absurd q2 q⟩
      · rw [if_neg q2]
        exact ⟨j, hj, rfl, fun q => absurd q q1, fun _ q => absurd q q2, fun _ _ => rfl⟩
  refine ⟨fun j k hj hk q => ?_, fun k hk => ?_⟩
  · obtain ⟨j', a1, a2, a3, a4, a5⟩ := hp j hj
    obtain ⟨k', b1, b2, b3, b4, b5⟩ := hp k hk
    rw [a2, b2] at q
    have hq := h1 j' k' a1 b1 q
    by_cases j1 : j = b
    · have e1 := a3 j1
      by_cases k1 : k = b
      · omega
      · by_cases k2 : k = a
        · have := b4 k1 k2
          omega
        · have := b5 k1 k2
          omega
    · by_cases j2 : j = a
      · have e1 := a4 j1 j2
        by_cases k1 : k = b
        · have := b3 k1
          omega
        · by_cases k2 : k = a
          · omega
          · have := b5 k1 k2
            omega
      · have e1 := a5 j1 j2
        by_cases k1 : k = b
        · have := b3 k1
          omega
        · by_cases k2 : k = a
          · have := b4 k1 k2
            omega
          · have := b5 k1 k2
            omega
  · obtain ⟨j', a1, a2, _⟩ := hp k hk
    rw [a2]
    exact h2 j' a1
theorem swp_l (hL : gNth sT L = some 8) (hlw : fR M 104 7 = L) (h15 : zI M L 15 = nI n) (hn : n ≤ 60) (hs1 : ∀ t j : Nat, s[t]? = some j → j < n ∧ zI M (oN M (L + 11) j) 0 ≠ -1) (hs2 : ∀ j, j < n → j ∉ s → zI M (oN M (L + 11) j) 0 = -1) (hs3 : ∀ t t' j j' : Nat, t < t' → s[t]? = some j → s[t']? = some j' → j < j') : ∀ (r i st : Nat) (sy iz : Int32) (c3 : Option Value) (N : Mem), SQ N → FZ noF noO (gwO L) M N → WKs L N → (∀ t j : Nat, t < st → s[t]? = some j → oN N (L + 11) t = oN M (L + 11) j) → (∀ j, i ≤ j → j < 60 → oN N (L + 11) j = oN M (L + 11) j) → (∀ t j : Nat, s[t]? = some j → (t < st ↔ j < i)) → st ≤ i → st ≤ s.length → i + r = n → sy.toInt = (st : Int) → iz.toInt = (i : Int) → Ev none e 61 4 [some (.ref 104), some (.int sy), some (.int iz), c3] [] N v M' 0 0 → v = none ∧ ∃ N1 sz, SQ N1 ∧ FZ noF noO (gwO L) M N1 ∧ WKs L N1 ∧ (∀ t j : Nat, s[t]? = some j → oN N1 (L + 11) t = oN M (L + 11) j) ∧ sz.toInt = (s.length : Int) ∧ M' = wF N1 L 15 sz := by
  have hnI : (nI n).toInt = (n : Int) := nI_toInt (by omega)
  intro r
  induction r with
  | zero =>
    intro i st sy iz c3 N hS hF hk hA hB hC hsi hsl hir hsy hiz H
    have l7 : fR N 104 7 = L := (hF.fr (fun q => q)).trans hlw
    have z15 : zI N L 15 = nI n := (hF.fi (fun q => q)).trans h15
    have hst : st = s.length := by
      rcases Nat.lt_or_ge st s.length with h | h
      · have h1 : s[st]? = some s[st] := List.getElem?_eq_getElem h
        have h2 := (hs1 _ _ h1).1
        have h3 := (hC _ _ h1).mpr (by omega)
        omega
      · omega
    rcases swp_4 hS H with ⟨_, h1, h2⟩ | ⟨a1, _⟩ | ⟨a1, _⟩
    · rw [l7] at h2
      exact ⟨h1, N, sy, hS, hF, hk, fun t j ht => hA t j (by rw [hst]; exact (List.getElem?_eq_some_iff.mp ht).1) ht, by omega, h2⟩
    all_goals exact absurd (Int32.le_iff_toInt_le.mpr (by rw [l7, z15]; omega)) a1
  | succ r ih =>
    intro i st sy iz c3 N hS hF hk hA hB hC hsi hsl hir hsy hiz H
    have l7 : fR N 104 7 = L := (hF.fr (fun q => q)).trans hlw
    have z15 : zI N L 15 = nI n := (hF.fi (fun q => q)).trans h15
    have hi1 : (iz + 1).toInt = ((i + 1 : Nat) : Int) := by
      rw [i32_p1 (by omega)]
      omega
    have hob : oI N (L + 11) iz = oN M (L + 11) i := by
      unfold oI
      rw [cl_n hiz]
      exact hB i (Nat.le_refl _) (by omega)
    have hz : zI N (oN M (L + 11) i) 0 = zI M (oN M (L + 11) i) 0 := hF.fi (fun q => q)
    rcases swp_4 hS H with ⟨a1, _⟩ | ⟨_, a2, _, H⟩ | ⟨_, a2, _, _, _, _, H⟩
    · rw [l7, z15] at a1
      have := Int32.le_iff_toInt_le.mp a1
      omega
    · rw [l7, hob, hz] at a2
      have hni : i ∉ s := fun q => by
        obtain ⟨t, ht⟩ := List.getElem?_of_mem q
        exact (hs1 t i ht).2 a2
      refine ih (i + 1) st sy (iz + 1) _ N hS hF hk hA (fun j h1 h2 => hB j (by omega) h2) (fun t j ht => ?_) (by omega) hsl (by omega) hsy hi1 H
      have hne : j ≠ i := fun q => hni (q ▸ List.mem_of_getElem? ht)
      rw [hC t j ht]
      omega
    · rw [l7, hob, hz] at a2
      have hmi : i ∈ s := by
        by_cases h : i ∈ s
        · exact h
        · exact absurd (hs2 i (by omega) h) a2
      obtain ⟨t, ht⟩ := List.getElem?_of_mem hmi
      have htl := (List.getElem?_eq_some_iff.mp ht).1
      have hts : t = st := by
        have h1 : ¬ t < st := fun q => absurd ((hC t i ht).mp q) (Nat.lt_irrefl _)
        rcases Nat.lt_or_ge st t with h | h
        · have h2 : s[st]? = some s[st] := List.getElem?_eq_getElem (by omega)
          have h3 := hs3 st t _ _ h h2 ht
          have h4 := (hC _ _ h2).mpr h3
          omega
        · omega
      subst hts
      rw [l7] at H
      have e1 : iz.toNatClampNeg = i := cl_n hiz
      have e2 : sy.toNatClampNeg = t := cl_n hsy
      have o1 : oI N (L + 11) iz = oN N (L + 11) i := by unfold oI; rw [e1]
      have o2 : oI N (L + 11) sy = oN N (L + 11) t := by unfold oI; rw [e2]
      rw [o1, o2, e1, e2] at H
      obtain ⟨q1, q2, q3⟩ := swap_o hS hL (a := i) (b := t) (by omega) (by omega) rfl
      refine ih (i + 1) (t + 1) (sy + 1) (iz + 1) _ _ q1 (hF.trans q2) (swap_k hk (by omega) (by omega) q3) (fun t' j h1 h2 => ?_) (fun j h1 h2 => ?_) (fun t' j h1 => ?_) (by omega) htl (by omega) (by rw [i32_p1 (by omega)]; omega) hi1 H
      · rw [q3]
        by_cases h3 : t' = t
        · subst h3
          rw [if_pos rfl, hB i (Nat.le_refl _) (by omega)]
          cases ht.symm.trans h2
          rfl
        · rw [if_neg h3, if_neg (show ¬ t' = i by omega)]
          exact hA t' j (by omega) h2
      · rw [q3, if_neg (show ¬ j = t by omega), if_neg (show ¬ j = i by omega)]
        exact hB j (by omega) h2
      · constructor
        · intro h3
          by_cases h4 : t' = t
          · subst h4
            cases ht.symm.trans h1
            omega
          · have := (hC t' j h1).mp (by omega)
            omega
        · intro h3
          by_cases h4 : j = i
          · subst h4
            rcases Nat.lt_trichotomy t' t with h5 | h5 | h5
            · omega
            · omega
            · have := hs3 t t' _ _ h5 ht h1
              omega
          · have := (hC t' j h1).mpr (by omega)
            omega
theorem swp_ok (h : STA L T P M) (hD : okD P) (hK : okK P) (hm : MDW L P M n n s) (H : Ev none e 61 0 [some (.ref 104), none, none, none] [] M v M' 0 0) : v = none ∧ STA L T P M' ∧ LST L P M' ∧ FZ (gwF L) (gwW L) (gwO L) M M' ∧ ∀ k, zI M' 104 k = zI M 104 k := by
  have hS := h.sq
  have hL := h.ld
  have hld := ld_cases hL
  have hWK := h.2.2.2.2.2.1
  obtain ⟨a1, a2, a3, a4, a5, a6, a7, a8⟩ := hm
  have hw : ∀ t j : Nat, s[t]? = some j → t < (P 157).toInt.toNat := fun t j ht => by
    have := (List.getElem?_eq_some_iff.mp ht).1
    omega
  obtain ⟨r1, N1, sz, r2, r3, r4, r5, r6, r7⟩ := swp_l hL h.lw a1 a2 (fun t j ht => by
    obtain ⟨q1, q2⟩ := a5 t j ht
    refine ⟨q1, fun q => ?_⟩
    have h1 := (hK.2.2 t (hw t j ht)).1.1
    rw [← q2.1, q] at h1
    exact absurd h1 (by decide)) a7 a8 n 0 0 0 0 none M hS (FZ.refl _) hWK (fun t j h1 _ => absurd h1 (Nat.not_lt_zero t)) (fun j _ _ => rfl) (fun t j _ => by omega) (Nat.le_refl _) (Nat.zero_le _) (by omega) rfl rfl (swp_0 hS H)
  have hF : FZ (fun a k => a = L ∧ k = 15) noO (gwO L) M M' := by
    rw [r7]
    exact (r3.more (fun _ _ q => q.elim) (fun _ q => q) (fun _ q => q)).trans (FZ.wF (F := fun a k => a = L ∧ k = 15) ⟨rfl, rfl⟩)
  have hgo : FZ (gwF L) (gwW L) (gwO L) M M' := hF.more (fun a k q => Or.inl ⟨q.1, by omega⟩) (fun a q => q.elim) (fun _ q => q)
  have hS' : SQ M' := by rw [r7]; exact r2.kf
  have oo : ∀ j, oN M' (L + 11) j = oN N1 (L + 11) j := fun j => by
    rw [r7]
    unfold oN
    rw [roL_wF]
  have hk' : WKs L M' := ⟨fun j k hj hk q => r4.1 j k hj hk (by rw [oo, oo] at q; exact q), fun k hk => by rw [oo]; exact r4.2 k hk⟩
  obtain ⟨t1, t2, t3, t4⟩ := h.2.2.2.1
  have fz : ∀ k, k ≠ 15 → zI M' L k = zI M L k := fun k hk => hF.fi (fun q => hk q.2)
  have e157 : sz = P 157 := Int32.toInt_inj.mp (by rw [r6, a4]; omega)
  refine ⟨r1, h.mv hD hS' hgo (h.cel.fz hF (fun f hf q => q) rfl rfl (fun _ _ => rfl)) (fun _ _ => rfl) h.nn (fun c hc => ?_) (h.2.1.mv rfl rfl (fun _ _ => rfl) (fun b' j _ => hF.rn (fun q => q))) ⟨?_, ?_, ?_, ?_⟩ hk', ⟨?_, fun k hk => ?_⟩, hgo, fun k => hF.fi (by omega)⟩
  · have : rI M' (L + 8) c = rI M (L + 8) c := hF.rn (fun q => q)
    rw [this]
    exact h.crd c hc
  · rw [fz 16 (by decide)]; exact t1
  · rw [fz 17 (by decide)]; exact t2
  · rw [fz 18 (by decide)]; exact t3
  · rw [fz 19 (by decide)]; exact t4
  · rw [r7, fI_wF_eq r2.1 hL qi_8_15]
    exact e157
  · have hkl : k < s.length := by omega
    have hg : s[k]? = some s[k] := List.getElem?_eq_getElem hkl
    obtain ⟨q1, q2⟩ := a5 k _ hg
    rw [oo, r5 k _ hg]
    have hb := hWK.2 s[k] (by omega)
    exact q2.eq (fun f _ => hF.fi (by omega)) (fun _ _ => rfl)
end SWE
/-! THE CLASS'S go: one walker, all walkers, one TICK -/
def WFl (w : Int32) (ss : List Int32) (M : Mem) : Prop := zI M 104 9 = w ∧ zI M 104 10 = bI (decide (w ∈ ss))
section ONE
variable {e L : Nat} {T : TS} {P P' Q : PK} {M M1 M' : Mem} {v : Option Value} {w ti bf nz : Int32} {n i B : Nat} {s : List Nat} {ss : List Int32}
theorem WFl.same (h : WFl w ss M) (hz : ∀ k, zI M' 104 k = zI M 104 k) : WFl w ss M' := ⟨(hz 9).trans h.1, (hz 10).trans h.2⟩
theorem WFl.cons {c : Int32} (h : WFl w ss M) (h9 : zI M' 104 9 = zI M 104 9) (h10 : zI M' 104 10 = if c = zI M 104 9 then 1 else zI M 104 10) : WFl w (c :: ss) M' := by
  refine ⟨h9.trans h.1, ?_⟩
  rw [h10, h.1, h.2]
  by_cases hc : c = w
  · rw [if_pos hc, decide_eq_true (by rw [hc]; exact List.mem_cons_self)]
    rfl
  · rw [if_neg hc]
    congr 1
    refine decide_eq_decide.mpr ?_
    rw [List.mem_cons]
    exact ⟨fun q => Or.inr q, fun q => q.elim (fun q => absurd q.symm hc) id⟩
theorem MDW.now (h : MDW L P M n i s) (hin : i < n) : WFq (oN M (L + 11) i) P s.length M := by
  have := h.2.2.2.2.2.1 i (Nat.le_refl _) hin
  rw [Nat.sub_self] at this
  exact this
/-- the numbers of a walker's WISH -/
theorem wis_ok (hD : okD P) (hK : okK P) {k : Nat} (hk : k < (P 157).toInt.toNat) : (P (158 + 6 * k + 1)).toInt.toNat < (P 12).toInt.toNat ∧ inC P (golP P k) ∧ 0 ≤ (P (wxP P k + 2)).toInt ∧ (P (wxP P k + 2)).toInt ≤ 5 ∧ (P (wxP P k + 1)).toInt.toNat < (P 2).toInt.toNat ∧ 0 ≤ (P (wxP P k + 1)).toInt := by
  obtain ⟨_, h2, h3, _⟩ := hK.2.2 k hk
  have hw : (P (158 + 6 * k + 1)).toInt.toNat < (P 12).toInt.toNat := by omega
  obtain ⟨_, a2, a3, _⟩ := hD.2.2.2.2 _ hw
  have e : wxP P k = 13 + 6 * (P (158 + 6 * k + 1)).toInt.toNat := rfl
  rw [← e] at a2 a3
  have h9 : (P (wxP P k + 1)).toInt.toNat < (P 2).toInt.toNat := by omega
  exact ⟨hw, hD.2.1.2.2 _ h9, a3.1, a3.2, h9, a2.1⟩
theorem dir_rng (hD : okD P) (hK : okK P) {k : Nat} (hk : k < (P 157).toInt.toNat) : dirP T P k = -1 ∨ (0 ≤ (dirP T P k).toInt ∧ (dirP T P k).toInt < 8 ∧ inC P (besP P (P (158 + 6 * k)) (dirP T P k))) := by
  have hg := (wis_ok hD hK hk).2.1
  have hh := (hK.2.2 k hk).1
  rcases cho_rng (g := T 0) (P := P) (q := T (hbP P k)) (w := wcP P k) hg.1 with h | ⟨h1, h2, h3⟩
  · exact Or.inl h
  · refine Or.inr ⟨h1, h2, ?_⟩
    rcases besP_in (d := dirP T P k) hD.1 hh with q | q
    · exact absurd (show besP P (wcP P k).1 (choP (T 0) P (T (hbP P k)) (wcP P k)) < 0 by
        have q : besP P (wcP P k).1 (choP (T 0) P (T (hbP P k)) (wcP P k)) = -1 := q
        rw [q]
        decide) h3
    · exact q
theorem onw_ok (hX : STA L T P M) (hD : okD P) (hK : okK P) (hE : okE B P) (hB : B ≤ 100000000) (hm : MDW L P M n i s) (hin : i < n) (hf : WFl w ss M) {iz : Int32} (hi : iz.toInt = (i : Int)) {c5 c6 c7 c8 : Option Value} (H : Ev none e 58 29 [some (.ref 104), some (.int ti), some (.int bf), some (.int nz), some (.int iz), c5, c6, c7, c8] [] M v M' 0 0) : ∃ (P6 : PK) (ss6 : List Int32) (s6 : List Nat) (M6 : Mem) (d5 d6 d7 d8 : Option Value), STA L T P6 M6 ∧ okD P6 ∧ okK P6 ∧ okE (B + 1) P6 ∧ MDW L P6 M6 n (i + 1) s6 ∧ WFl w ss6 M6 ∧ FZ (gwF L) (gwW L) (gwO L) M M6 ∧ (∀ r, wlkP T (r + 1) s.length (P, ss) = wlkP T r s6.length (P6, ss6)) ∧ (∀ j, j < 157 → P6 j = P j) ∧ P6 518 = P 518 ∧ (∀ c, c ∈ ss6 → c ∈ ss ∨ inC P c) ∧ Ev none e 58 29 [some (.ref 104), some (.int ti), some (.int bf), some (.int nz), some (.int (iz + 1)), d5, d6, d7, d8] [] M6 v M' 0 0 := by
  have hS := hX.sq
  have hL := hX.ld
  have hld := ld_cases hL
  have hWK := hX.2.2.2.2.2.1
  have hWX := hX.2.2.2.2.1
  have hPs := hX.2.2.1
  obtain ⟨a1, a2, a3, a4, a5, a6, a7, a8⟩ := id hm
  have hsl := sort_len a8 (fun t j ht => (a5 t j ht).1)
  obtain ⟨k, ek⟩ : ∃ k, k = s.length := ⟨_, rfl⟩
  have hks : k < (P 157).toInt.toNat := by omega
  have hk60 := hK.2.1
  have hcur := hm.now hin
  rw [← ek] at hcur
  have hnI : (nI n).toInt = (n : Int) := nI_toInt (by omega)
  obtain ⟨w1, w2, w3, w4, w5, w6⟩ := wis_ok hD hK hks
  have hbt := wk_t hS.1 hL (j := i) (by omega)
  have hb := hWK.2 i (by omega)
  have hob : oI M (L + 11) iz = oN M (L + 11) i := by
    unfold oI
    rw [cl_n hi]
  have hi1 : (iz + 1).toInt = ((i + 1 : Nat) : Int) := by
    rw [i32_p1 (by omega)]
    omega
  rcases goo_29 hS H with ⟨q1, _⟩ | ⟨_, _, _, _, e1, v1, M1, rfl, H1, H⟩
  · rw [hX.lw, a1] at q1
    have := Int32.le_iff_toInt_le.mp q1
    omega
  · obtain ⟨b, eb⟩ : ∃ b, b = oN M (L + 11) i := ⟨_, rfl⟩
    have hwo : oI M (L + 10) (P (158 + 6 * k + 1)) = L + 12 + (P (158 + 6 * k + 1)).toInt.toNat := hWX (P (158 + 6 * k + 1)).toInt.toNat (by have := hD.2.2.2.1; omega)
    have hx1 : zI M (L + 12 + (P (158 + 6 * k + 1)).toInt.toNat) 1 = P (wxP P k + 1) := hPs.2.2.2.2 _ w1 1 (by decide)
    have hx2 : zI M (L + 12 + (P (158 + 6 * k + 1)).toInt.toNat) 2 = P (wxP P k + 2) := hPs.2.2.2.2 _ w1 2 (by decide)
    have hgo : rI M (L + 9) (P (wxP P k + 1)) = golP P k := hPs.2.2.1.2 (P (wxP P k + 1)).toInt.toNat w5
    have hxt : gNth sT (L + 12 + (P (158 + 6 * k + 1)).toInt.toNat) = some 20 := wi_t hS.1 hL hWX (by have := hD.2.2.2.1; omega)
    rw [hX.lw, hob, ← eb] at H1 H
    rw [← eb] at hcur hbt hb
    rw [hcur.2.1, hwo, hx1, hgo] at H1 H
    rw [hx2] at H1
    have h157 := (hK.2.2 k hks)
    have hh5 : (P (wxP P k + 2)).toInt = ((P (wxP P k + 2)).toInt.toNat : Int) := by omega
    obtain ⟨r1, r2, r3, r4⟩ := chow_ok hbt hX.1 hX.2.1 hh5 (by omega) w2 (by rw [hcur.1]; exact h157.1) (al := false) (by rw [hX.2.2.2.2.2.2]; rfl) (by rw [hcur.2.2.2.2]; exact h157.2.2.2) H1
    have hdir : v1 = some (.int (dirP T P k)) := by
      rw [r1, hcur.1, hcur.2.2.2.2, hcur.2.2.2.1]
      unfold dirP wcP hbP
      rw [Nat.add_comm 1]
    rw [hdir] at H
    have hX1 := hX.lk hD r2 r3 r4
    have hm1 := hm.lk hWK r3
    have hf1 : WFl w ss M1 := hf.same (fun k => r3.fi (fun q => q))
    have oo1 : oN M1 (L + 11) i = b := (r3.on (fun q => q)).trans eb.symm
    have hF1 := lk_go (L := L) r3
    have tail : ∀ (P2 : PK) (ss2 : List Int32) (M2 : Mem) (c8 : Option Value), stpP T (P, ss) k = (ageP P2 k, ss2) → STA L T P2 M2 → okD P2 → okK P2 → okE (B + 1) P2 → MDW L P2 M2 n i s → WFl w ss2 M2 → FZ (gwF L) (gwW L) (gwO L) M M2 → (∀ j, j < 157 → P2 j = P j) → P2 518 = P 518 → (∀ c, c ∈ ss2 → c ∈ ss ∨ inC P c) → oN M2 (L + 11) i = b → Ev none (e1 + 1) 58 173 [some (.ref 104), some (.int ti), some (.int bf), some (.int nz), some (.int iz), some (.ref b), some (.ref (L + 12 + (P (158 + 6 * k + 1)).toInt.toNat)), some (.int (golP P k)), c8] [] M2 v M' 0 0 → ∃ (P6 : PK) (ss6 : List Int32) (s6 : List Nat) (M6 : Mem) (d5 d6 d7 d8 : Option Value), STA L T P6 M6 ∧ okD P6 ∧ okK P6 ∧ okE (B + 1) P6 ∧ MDW L P6 M6 n (i + 1) s6 ∧ WFl w ss6 M6 ∧ FZ (gwF L) (gwW L) (gwO L) M M6 ∧ (∀ r, wlkP T (r + 1) s.length (P, ss) = wlkP T r s6.length (P6, ss6)) ∧ (∀ j, j < 157 → P6 j = P j) ∧ P6 518 = P 518 ∧ (∀ c, c ∈ ss6 → c ∈ ss ∨ inC P c) ∧ Ev none (e1 + 1) 58 29 [some (.ref 104), some (.int ti), some (.int bf), some (.int nz), some (.int (iz + 1)), d5, d6, d7, d8] [] M6 v M' 0 0 := by
      intro P2 ss2 M2 c8 hst hX2 hD2 hK2 hE2 hm2 hf2 hF2 hsb h518 hin2 oo2 H
      obtain ⟨e2, v2, M3, he, H2, H⟩ := goo_173 hX2.sq hbt hxt H
      have hM3' : STA L T (ageP P2 k) (wF M2 b 2 (zI M2 b 2 + 1)) ∧ MDW L (ageP P2 k) (wF M2 b 2 (zI M2 b 2 + 1)) n i s ∧ okK (ageP P2 k) ∧ FZ (gwF L) (gwW L) (gwO L) M2 (wF M2 b 2 (zI M2 b 2 + 1)) ∧ (∀ k, zI (wF M2 b 2 (zI M2 b 2 + 1)) 104 k = zI M2 104 k) ∧ ∀ j, oN (wF M2 b 2 (zI M2 b 2 + 1)) (L + 11) j = oN M2 (L + 11) j := by
        rw [ek]
        exact age_ok hX2 hD2 hK2 hm2 hin (by rw [oo2])
      obtain ⟨g1, g2, g3, g4, g5, g6⟩ := hM3'
      obtain ⟨P3, eP3⟩ : ∃ P3, P3 = ageP P2 k := ⟨_, rfl⟩
      obtain ⟨M4, eM4⟩ : ∃ M4, M4 = wF M2 b 2 (zI M2 b 2 + 1) := ⟨_, rfl⟩
      rw [← eP3] at g1 g2 g3 hst
      rw [← eM4] at g1 g2 g4 g5 g6 H2
      have lo3 : ∀ j, j < 157 → P3 j = P2 j := fun j hj => by rw [eP3]; exact up_ne (by omega)
      have hi3 : ∀ j, 518 ≤ j → P3 j = P2 j := fun j hj => by rw [eP3]; exact up_ne (by omega)
      have hD3 : okD P3 := hD2.sb lo3
      have hE3 : okE (B + 1) P3 := hE2.sb (lo3 0 (by decide)) (lo3 1 (by decide)) (fun j hj => hi3 j (by omega))
      have hf3 : WFl w ss2 M4 := hf2.same g5
      have oo4 : oN M4 (L + 11) i = b := (g6 i).trans oo2
      have hn4 := g2.now hin
      rw [oo4, ← ek] at hn4
      obtain ⟨t1, t2, t3, t4⟩ := g1.2.2.2.1
      have hgoe : goeP T (P, ss) k = (if P3 (158 + 6 * k) = golP P k then ((uPk P3 519 (P3 519 + 1), ss2), false) else if P3 (158 + 6 * k + 2) < 200 then ((P3, ss2), true) else ((uPk P3 520 (P3 520 + 1), ss2), false)) := by
        unfold goeP
        rw [hst]
      have k3 : k < (P3 157).toInt.toNat := by
        have := g2.2.2.2.1
        omega
      have hcell := (g3.2.2 k k3).1
      have hcr := g1.crd _ hcell
      have hlt60 := g3.2.1
      have gone : ∀ (Q : PK) (x17 x18 : Int32), (goeP T (P, ss) k) = ((Q, ss2), false) → (∀ j, j ≠ 519 → j ≠ 520 → Q j = P3 j) → Q 519 = x17 → Q 520 = x18 → v2 = none → M3 = wF (wI (wF (wF M4 L 17 x17) L 18 x18) (L + 8) (P3 (158 + 6 * k)).toNatClampNeg (rI M4 (L + 8) (P3 (158 + 6 * k)) - 1)) b 0 (-1) → ∃ (P6 : PK) (ss6 : List Int32) (s6 : List Nat) (M6 : Mem) (d5 d6 d7 d8 : Option Value), STA L T P6 M6 ∧ okD P6 ∧ okK P6 ∧ okE (B + 1) P6 ∧ MDW L P6 M6 n (i + 1) s6 ∧ WFl w ss6 M6 ∧ FZ (gwF L) (gwW L) (gwO L) M M6 ∧ (∀ r, wlkP T (r + 1) s.length (P, ss) = wlkP T r s6.length (P6, ss6)) ∧ (∀ j, j < 157 → P6 j = P j) ∧ P6 518 = P 518 ∧ (∀ c, c ∈ ss6 → c ∈ ss ∨ inC P c) ∧ Ev none (e1 + 1) 58 29 [some (.ref 104), some (.int ti), some (.int bf), some (.int nz), some (.int (iz + 1)), d5, d6, d7, d8] [] M6 v M' 0 0 := by
        intro Q x17 x18 hg hQ q17 q18 hv hM3
        rw [hcr] at hM3
        rw [ek] at hM3
        have hz := gon_ok (M' := M3) g1 hD3 g3 g2 hin hQ q17 q18 (by rw [oo4]; exact hM3)
        rw [← ek] at hz
        obtain ⟨z1, z2, z3, z4, z5, z6⟩ := hz
        have hQlo : ∀ j, j < 157 → leaP Q k j = P3 j := fun j hj => by
          unfold leaP
          rw [if_neg (by omega), if_neg (by omega), if_neg (by omega)]
          exact hQ j (by omega) (by omega)
        have q157 : Q 157 = P3 157 := hQ 157 (by decide) (by decide)
        have m1 : (P3 157 - 1).toInt = (P3 157).toInt - 1 := i32_m1 (by omega)
        have hQ518 : leaP Q k 518 = P3 518 := by
          unfold leaP
          rw [if_neg (by decide), if_neg (by rw [q157]; omega), if_neg (by rw [q157]; omega)]
          exact hQ 518 (by decide) (by decide)
        rw [hv] at H
        have H := goo_192 z1.sq hbt hxt H
        refine ⟨leaP Q k, ss2, s, M3, _, _, _, _, z1, hD3.sb hQlo, z3, (hE3.sb (P' := Q) (hQ 0 (by decide) (by decide)) (hQ 1 (by decide) (by decide)) (fun j hj => hQ j (by omega) (by omega))).lea (by rw [q157]; exact g3.1) (by rw [q157]; exact hlt60) (by omega), z2, hf3.same z5, (hF2.trans g4).trans z4, fun r => ?_, fun j hj => (hQlo j hj).trans ((lo3 j hj).trans (hsb j hj)), hQ518.trans ((hi3 518 (by decide)).trans h518), hin2, H⟩
        rw [← ek]
        show (if (goeP T (P, ss) k).2 = true then _ else wlkP T r k (leaP (goeP T (P, ss) k).1.1 k, (goeP T (P, ss) k).1.2)) = _
        rw [hg, if_neg (fun q => absurd (show false = true from q) (by decide))]
      rcases lvd_0 g1.sq hbt H2 with ⟨b1, _, _, b2, b3⟩ | ⟨b1, b2, _, _, b3, b4⟩ | ⟨b1, b2, b3, b4⟩
      · rw [g1.lw, hn4.1, t2, t3] at b3
        rw [hn4.1] at b1
        refine gone (uPk P3 519 (P3 519 + 1)) _ _ (by rw [hgoe, if_pos b1]) (fun j h1 h2 => up_ne h1) up_eq ?_ b2 b3
        rw [up_ne (by decide)]
        grind
      · rw [g1.lw, hn4.1, t2, t3] at b4
        rw [hn4.1] at b1
        rw [hn4.2.2.1] at b2
        refine gone (uPk P3 520 (P3 520 + 1)) _ _ (by rw [hgoe, if_neg b1, if_neg (fun q => by rw [Int32.lt_iff_toInt_lt] at q; have := Int32.le_iff_toInt_le.mp b2; omega)]) (fun j h1 h2 => up_ne h2) ?_ up_eq b3 b4
        rw [up_ne (by decide)]
        grind
      · rw [hn4.1] at b1
        rw [hn4.2.2.1] at b2
        subst b4
        have h200 : P3 (158 + 6 * k + 2) < 200 := by
          rw [Int32.lt_iff_toInt_lt]
          have : ¬ (200 : Int32).toInt ≤ (P3 (158 + 6 * k + 2)).toInt := fun q => b2 (Int32.le_iff_toInt_le.mpr q)
          omega
        have hg3 : goeP T (P, ss) k = ((P3, ss2), true) := by
          rw [hgoe, if_neg b1, if_pos h200]
        rw [b3] at H
        have H := goo_192 g1.sq hbt hxt H
        refine ⟨P3, ss2, s ++ [i], M3, _, _, _, _, g1, hD3, g3, hE3, g2.stay hin, hf3, hF2.trans g4, fun r => ?_, fun j hj => (lo3 j hj).trans (hsb j hj), (hi3 518 (by decide)).trans h518, hin2, H⟩
        have hlen : (s ++ [i]).length = k + 1 := by rw [List.length_append, ek]; rfl
        rw [← ek, hlen]
        show (if (goeP T (P, ss) k).2 = true then wlkP T r (k + 1) (goeP T (P, ss) k).1 else _) = _
        rw [hg3, if_pos rfl]
    rcases dir_rng (T := T) hD hK hks with hd | ⟨d0, d1, dto⟩
    · have hneg : dirP T P k < 0 := by rw [hd]; decide
      rcases goo_96 r2 hbt hxt H with ⟨_, H⟩ | ⟨q1, _⟩
      · refine tail P ss M1 _ ?_ hX1 hD hK (hE.more (by omega)) hm1 hf1 hF1 (fun _ _ => rfl) rfl (fun c hc => Or.inl hc) oo1 H
        unfold stpP
        rw [if_pos hneg]
      · exact absurd hd q1
    · have hnn : ¬ dirP T P k < 0 := fun q => by rw [i32_z] at q; omega
      rcases goo_96 r2 hbt hxt H with ⟨q1, _⟩ | ⟨_, _, _, _, e2, v2, M2, he, H2, H⟩
      · rw [q1] at d0
        exact absurd d0 (by decide)
      · have hh := (hK.2.2 k hks).1
        have hn1 := hm1.now hin
        rw [oo1, ← ek] at hn1
        rw [hX1.lw, hn1.1] at H2
        have hbs : rI (wI M1 (L + 8) (P (158 + 6 * k)).toNatClampNeg (rI M1 (L + 8) (P (158 + 6 * k)) - 1)) 108 (8 * P (158 + 6 * k) + dirP T P k) = besP P (P (158 + 6 * k)) (dirP T P k) := by
          have h1 := (hX1.1.2.2.2.2.1 _ hh).2.2 (dirP T P k) d0 d1
          rw [← h1]
          unfold rI
          exact rN_wI_ne (by omega)
        rw [hbs, hX1.crd _ hh] at H2
        rw [ek] at H2 dto d0 d1
        rw [← oo1] at H2
        obtain ⟨rfl, z1, z2, z3, z4⟩ := mov_ok hX1 hD hK hm1 hin d0 d1 dto H2
        rw [← ek] at z2 z4 dto d0 d1
        rw [oo1] at z2
        obtain ⟨_, _, e3, v3, M4, he3, H3, H⟩ := goo_147 z1 hbt hxt H
        obtain ⟨M3, eM3⟩ : ∃ M3, M3 = wI M2 (L + 8) (besP P (P (158 + 6 * k)) (dirP T P k)).toNatClampNeg (rI M2 (L + 8) (besP P (P (158 + 6 * k)) (dirP T P k)) + 1) := ⟨_, rfl⟩
        rw [z3, z2, ← eM3] at H3
        obtain ⟨y1, y2, y3, y4, y5, y6⟩ := z4 M3 eM3
        have mo : ∀ j, (j < 157 ∨ 518 ≤ j) → movP P k (dirP T P k) j = P j := fun j hj => by
          unfold movP
          rw [up_ne (by omega), up_ne (by omega), up_ne (by omega)]
        have hDm : okD (movP P k (dirP T P k)) := hD.sb (fun j hj => mo j (Or.inl hj))
        have hEm : okE B (movP P k (dirP T P k)) := hE.sb (mo 0 (by omega)) (mo 1 (by omega)) (fun j hj => mo j (by omega))
        have hcm : inC (movP P k (dirP T P k)) (besP P (P (158 + 6 * k)) (dirP T P k)) := (inC.eq (mo 0 (by omega)) (mo 1 (by omega))).mpr dto
        obtain ⟨rfl, x1, x2, x3, x4, x5, x6, x7, x8⟩ := trw_ok y1 hDm y3 hEm hB y2 hcm H3
        have hf3 : WFl w ss M3 := hf1.same y5
        refine tail (trdP (T 0) (movP P k (dirP T P k)) (besP P (P (158 + 6 * k)) (dirP T P k))) (besP P (P (158 + 6 * k)) (dirP T P k) :: ss) M4 _ (stp_alt (p := (P, ss)) (by omega) hnn) x1 (hDm.sb trd_sb) x3 x4 x2 (hf3.cons x7 x6) ((hF1.trans y4).trans x5) (fun j hj => (trd_sb j hj).trans (mo j (Or.inl hj))) ((trd_lo (by decide)).trans (mo 518 (by omega))) (fun c hc => ?_) ((x8 i).trans ((y6 i).trans oo1)) H
        rcases List.mem_cons.mp hc with q | q
        · exact Or.inr (by rw [q]; exact dto)
        · exact Or.inl q
theorem wlk_l : ∀ (r i : Nat) (iz : Int32) (B : Nat) (P : PK) (ss : List Int32) (s : List Nat) (M : Mem) (c5 c6 c7 c8 : Option Value), STA L T P M → okD P → okK P → okE B P → B + r ≤ 100000000 → MDW L P M n i s → i + r = n → WFl w ss M → iz.toInt = (i : Int) → Ev none e 58 29 [some (.ref 104), some (.int ti), some (.int bf), some (.int nz), some (.int iz), c5, c6, c7, c8] [] M v M' 0 0 → ∃ (P6 : PK) (ss6 : List Int32) (M6 : Mem) (d4 d5 d6 d7 d8 : Option Value), wlkP T r s.length (P, ss) = (P6, ss6) ∧ STA L T P6 M6 ∧ okD P6 ∧ okK P6 ∧ okE (B + r) P6 ∧ LST L P6 M6 ∧ WFl w ss6 M6 ∧ FZ (gwF L) (gwW L) (gwO L) M M6 ∧ (∀ j, j < 157 → P6 j = P j) ∧ P6 518 = P 518 ∧ (∀ c, c ∈ ss6 → c ∈ ss ∨ inC P c) ∧ Ev none e 58 202 [some (.ref 104), some (.int ti), some (.int bf), some (.int nz), d4, d5, d6, d7, d8] [] M6 v M' 0 0 := by
  intro r
  induction r with
  | zero =>
    intro i iz B P ss s M c5 c6 c7 c8 hX hD hK hE hB hm hir hf hi H
    have hnI : (nI n).toInt = (n : Int) := nI_toInt (by have := hm.2.1; omega)
    rcases goo_29 hX.sq H with ⟨_, e1, v1, M1, rfl, H1, H⟩ | ⟨a1, _⟩
    · have hin : i = n := by omega
      rw [hin] at hm
      obtain ⟨rfl, s2, s3, s4, s5⟩ := swp_ok hX hD hK hm H1
      exact ⟨P, ss, M1, _, _, _, _, _, rfl, s2, hD, hK, hE, s3, hf.same s5, s4, fun _ _ => rfl, rfl, fun c hc => Or.inl hc, H⟩
    · exact absurd (Int32.le_iff_toInt_le.mpr (by rw [hX.lw, hm.1]; omega)) a1
  | succ r ih =>
    intro i iz B P ss s M c5 c6 c7 c8 hX hD hK hE hB hm hir hf hi H
    obtain ⟨P6, ss6, s6, M6, d5, d6, d7, d8, o1, o2, o3, o4, o5, o6, o7, o8, o9, o10, o11, H⟩ := onw_ok hX hD hK hE (by omega) hm (by omega) hf hi H
    obtain ⟨P7, ss7, M7, e4, e5, e6, e7, e8, p1, p2, p3, p4, p5, p6, p7, p8, p9, p10, p11, H⟩ := ih (i + 1) (iz + 1) (B + 1) P6 ss6 s6 M6 d5 d6 d7 d8 o1 o2 o3 o4 (by omega) o5 (by omega) o6 (by rw [i32_p1 (by have := hm.2.1; omega)]; omega) H
    refine ⟨P7, ss7, M7, e4, e5, e6, e7, e8, (o8 r).trans p1, p2, p3, p4, by rw [show B + (r + 1) = B + 1 + r from by omega]; exact p5, p6, p7, o7.trans p8, fun j hj => (p9 j hj).trans (o9 j hj), p10.trans o10, fun c hc => ?_, H⟩
    rcases p11 c hc with q | q
    · exact o11 c q
    · exact Or.inr ((inC.eq (o9 0 (by decide)) (o9 1 (by decide))).mp q)
end ONE
/-! THE CLASS'S go, endWeek, wornCells, enter -/
noncomputable def gofP (T : TS) (w : Int32) : Nat → PS → PS
  | 0, p => p
  | n + 1, p => if w ∈ p.2 then p else gofP T w n (tckP T p)
section GOO
variable {e L : Nat} {T : TS} {g : TQ} {P P' Q : PK} {M M1 M' : Mem} {v : Option Value} {c w ti bf nz : Int32} {n i k B : Nat} {s : List Nat} {ss : List Int32}
theorem beg_keep : ∀ (n k : Nat) (P : PK), 0 ≤ (P 157).toInt → (P 157).toInt ≤ 60 → (∀ j, (j < 157 ∨ 522 ≤ j ∨ (518 ≤ j ∧ j ≤ 520)) → begP n k P j = P j) := by
  intro n
  induction n with
  | zero => intro k P _ _ j _; rfl
  | succ n ih =>
    intro k P h0 h1 j hj
    have t60 : (60 : Int32).toInt = 60 := rfl
    unfold begP
    split
    · split
      · rename_i hd h60
        rw [ih (k + 1) (uPk P 521 (P 521 + 1)) (by rw [up_ne (by decide)]; exact h0) (by rw [up_ne (by decide)]; exact h1) j hj]
        exact up_ne (by omega)
      · rename_i hd h60
        have hlt : (P 157).toInt ≤ 59 := by
          have : (P 157).toInt ≠ 60 := fun q => h60 (Int32.toInt_inj.mp (q.trans t60.symm))
          omega
        have e157 : newP P k 157 = P 157 + 1 := by unfold newP; exact up_eq
        have ei : (P 157 + 1).toInt = (P 157).toInt + 1 := i32_p1 (by omega)
        rw [ih (k + 1) (newP P k) (by rw [e157, ei]; omega) (by rw [e157, ei]; omega) j hj]
        unfold newP
        rw [up_ne (by omega), up_ne (by omega), up_ne (by omega), up_ne (by omega), up_ne (by omega), up_ne (by omega)]
    · exact ih (k + 1) P h0 h1 j hj
theorem MDW.mk0 (hl : LST L P M) (hK : okK P) : MDW L P M (P 157).toInt.toNat 0 [] := by
  have h0 := hK.1
  have h60 := hK.2.1
  have hn : nI (P 157).toInt.toNat = P 157 := Int32.toInt_inj.mp (by rw [nI_toInt (by omega)]; omega)
  refine ⟨by rw [hn]; exact hl.1, by omega, Nat.zero_le _, (by show _ = ((0 : Nat) : Int) + _; omega), fun t j ht => (by cases ht), fun j _ h2 => ?_, fun j h => absurd h (Nat.not_lt_zero j), fun t t' j j' _ ht => (by cases ht)⟩
  show WFq _ P (0 + (j - 0)) M
  rw [Nat.sub_zero, Nat.zero_add]
  exact hl.2 j h2
theorem tik_ok (h : STA L T P M) (hD : okD P) (hK : okK P) (hl : LST L P M) (h3 : M' = wF M L 16 (zI M L 16 + 1)) : STA L T (uPk P 518 (P 518 + 1)) M' ∧ okK (uPk P 518 (P 518 + 1)) ∧ LST L (uPk P 518 (P 518 + 1)) M' ∧ FZ (gwF L) (gwW L) (gwO L) M M' ∧ ∀ k, zI M' 104 k = zI M 104 k := by
  have hS := h.sq
  have hL := h.ld
  have hWK := h.2.2.2.2.2.1
  have hld := ld_cases hL
  have hF3 : FZ (fun a k => a = L ∧ k = 16) noO noO M M' := by rw [h3]; exact FZ.wF (F := fun a k => a = L ∧ k = 16) ⟨rfl, rfl⟩
  have hS3 : SQ M' := by rw [h3]; exact hS.kf
  have hgo : FZ (gwF L) (gwW L) (gwO L) M M' := hF3.more (fun a k q => Or.inl ⟨q.1, by omega⟩) (fun a q => q.elim) (fun _ q => q.elim)
  have Qo : ∀ j, j ≠ 518 → uPk P 518 (P 518 + 1) j = P j := fun j hj => up_ne hj
  have hK2 := hK.2.1
  obtain ⟨t1, t2, t3, t4⟩ := h.2.2.2.1
  have f1 : ∀ k, k ≠ 16 → zI M' L k = zI M L k := fun k hk => hF3.fi (fun q => hk q.2)
  refine ⟨h.mv hD hS3 hgo (h.cel.fz hF3 (fun f hf q => q) (Qo 0 (by decide)) (Qo 1 (by decide)) (fun j hj => Qo j (by omega))) (fun j hj => Qo j (by omega)) (fun c hc => ?_) (fun c hc => ?_) (h.2.1.mv (Qo 0 (by decide)) (Qo 1 (by decide)) (fun j hj => Qo j (by omega)) (fun b' j _ => hF3.rn (fun q => q))) ⟨?_, ?_, ?_, ?_⟩ (hWK.fz hF3 (fun q => q)), ⟨?_, ?_, fun t ht => ?_⟩, ⟨?_, fun t ht => ?_⟩, hgo, fun k => hF3.fi (by omega)⟩
  · have hc2 := (inC.eq (Qo 0 (by decide)) (Qo 1 (by decide))).mp hc
    have hsame : ∀ f, cE (uPk P 518 (P 518 + 1)) f c = cE P f c := fun f => cE_lo (by decide)
    unfold nnC
    rw [hsame, hsame, hsame, hsame]
    exact h.nn c hc2
  · have hc2 := (inC.eq (Qo 0 (by decide)) (Qo 1 (by decide))).mp hc
    have hr : rI M' (L + 8) c = rI M (L + 8) c := hF3.rn (fun q => q)
    rw [hr, h.crd c hc2, Qo 157 (by decide)]
    exact (crd_congr _ (fun t ht => Qo _ (by omega))).symm
  · rw [h3, fI_wF_eq hS.1 hL qi_8_16, t1]; exact up_eq.symm
  · rw [f1 17 (by decide), t2]; exact (Qo _ (by decide)).symm
  · rw [f1 18 (by decide), t3]; exact (Qo _ (by decide)).symm
  · rw [f1 19 (by decide), t4]; exact (Qo _ (by decide)).symm
  · rw [Qo 157 (by decide)]; exact hK.1
  · rw [Qo 157 (by decide)]; exact hK.2.1
  · rw [Qo 157 (by decide)] at ht
    obtain ⟨c1, c2, c3, c4⟩ := hK.2.2 t ht
    rw [inC.eq (Qo 0 (by decide)) (Qo 1 (by decide)), Qo _ (by omega), Qo _ (by omega), Qo 12 (by decide), Qo _ (by omega)]
    exact ⟨c1, c2, c3, c4⟩
  · rw [f1 15 (by decide), hl.1]; exact (Qo _ (by decide)).symm
  · rw [Qo 157 (by decide)] at ht
    rw [hF3.on (fun q => q)]
    have hb := hWK.2 t (by omega)
    exact (hl.2 t ht).eq (fun f _ => hF3.fi (by omega)) (fun j hj => Qo _ (by omega))
theorem go_l : ∀ (r k : Nat) (nz : Int32) (B : Nat) (P : PK) (ss : List Int32) (M : Mem) (c4 c5 c6 c7 c8 : Option Value), STA L T P M → okD P → okK P → okE B P → B + 60 * r ≤ 100000000 → LST L P M → WFl w ss M → nz.toInt = (k : Int) → ti.toInt = (k : Int) + (r : Int) → Ev none e 58 10 [some (.ref 104), some (.int ti), some (.int bf), some (.int nz), c4, c5, c6, c7, c8] [] M v M' 0 0 → ∃ (P6 : PK) (ss6 : List Int32), gofP T w r (P, ss) = (P6, ss6) ∧ v = some (.int (P6 519 - bf)) ∧ STA L T P6 M' ∧ okD P6 ∧ okK P6 ∧ okE (B + 60 * r) P6 ∧ LST L P6 M' ∧ WFl w ss6 M' ∧ FZ (gwF L) (gwW L) (gwO L) M M' ∧ (∀ j, j < 157 → P6 j = P j) ∧ ∀ c, c ∈ ss6 → c ∈ ss ∨ inC P c := by
  intro r
  induction r with
  | zero =>
    intro k nz B P ss M c4 c5 c6 c7 c8 hX hD hK hE hB hl hf hn ht H
    rcases goo_10 hX.sq H with ⟨_, h1, h2⟩ | ⟨a1, _⟩ | ⟨a1, _⟩
    · subst h2
      rw [hX.lw, hX.2.2.2.1.2.1] at h1
      exact ⟨P, ss, rfl, h1, hX, hD, hK, hE, hl, hf, FZ.refl _, fun _ _ => rfl, fun c hc => Or.inl hc⟩
    all_goals exact absurd (Int32.le_iff_toInt_le.mpr (by omega)) a1
  | succ r ih =>
    intro k nz B P ss M c4 c5 c6 c7 c8 hX hD hK hE hB hl hf hn ht H
    have htl := (i32_lt ti).2
    rcases goo_10 hX.sq H with ⟨a1, _⟩ | ⟨_, a2, e1, v1, M1, rfl, H1, H⟩ | ⟨_, a2, h1, h2⟩
    · have := Int32.le_iff_toInt_le.mp a1
      omega
    · rw [hf.2, bI_0] at a2
      have hnw : ¬ w ∈ ss := of_decide_eq_false a2
      have h12 := hD.2.2.1
      obtain ⟨rfl, b2, b3, b4, b5, b6⟩ := beg_l (P 12).toInt.toNat 0 0 none none P M hX hD hK hl rfl (by omega) (bgn_0 hX.sq H1)
      have bk := beg_keep (P 12).toInt.toNat 0 P hK.1 hK.2.1
      obtain ⟨P1, eP1⟩ : ∃ P1, P1 = bg0P P := ⟨_, rfl⟩
      have eb : begP (P 12).toInt.toNat 0 P = P1 := eP1.symm
      rw [eb] at b2 b3 b4 bk
      have hD1 : okD P1 := hD.sb (fun j hj => bk j (Or.inl hj))
      have hE1 : okE B P1 := hE.sb (bk 0 (by omega)) (bk 1 (by omega)) (fun j hj => bk j (by omega))
      have H := goo_26 b2.sq H
      have hK1 := b3.1
      have hK2 := b3.2.1
      obtain ⟨P6, ss6, M6, d4, d5, d6, d7, d8, p1, p2, p3, p4, p5, p6, p7, p8, p9, p10, p11, H⟩ := wlk_l (P1 157).toInt.toNat 0 0 B P1 ss [] M1 _ _ _ _ b2 hD1 b3 hE1 (by omega) (MDW.mk0 b4 b3) (by omega) (hf.same b6) rfl H
      have H := goo_202 p2.sq H
      rw [p2.lw] at H
      obtain ⟨t1, t2, t3, t4, t5⟩ := tik_ok p2 p3 p4 p6 rfl
      have ht1 : tckP T (P, ss) = (uPk P6 518 (P6 518 + 1), ss6) := by
        have p1 : wlkP T (P1 157).toInt.toNat 0 (P1, ss) = (P6, ss6) := p1
        unfold tckP
        dsimp only
        rw [← eP1, p1]
      have hk1 : (nz + 1).toInt = ((k + 1 : Nat) : Int) := by
        rw [i32_p1 (by omega)]
        omega
      obtain ⟨P7, ss7, q1, q2, q3, q4, q5, q6, q7, q8, q9, q10, q11⟩ := ih (k + 1) (nz + 1) (B + 60) (uPk P6 518 (P6 518 + 1)) ss6 _ _ _ _ _ _ t1 (p3.sb (fun j hj => up_ne (by omega))) t2 ((p5.more (by omega)).sb (up_ne (by decide)) (up_ne (by decide)) (fun j hj => up_ne (by omega))) (by omega) t3 (p7.same t5) hk1 (by omega) H
      have hlow : ∀ j, j < 157 → uPk P6 518 (P6 518 + 1) j = P j := fun j hj => (up_ne (by omega)).trans ((p9 j hj).trans (bk j (Or.inl hj)))
      refine ⟨P7, ss7, ?_, q2, q3, q4, q5, by rw [show B + 60 * (r + 1) = B + 60 + 60 * r from by omega]; exact q6, q7, q8, ((b5.trans p8).trans t4).trans q9, fun j hj => (q10 j hj).trans (hlow j hj), fun c hc => ?_⟩
      · show (if w ∈ ss then _ else gofP T w r (tckP T (P, ss))) = _
        rw [if_neg hnw, ht1]
        exact q1
      · rcases q11 c hc with h | h
        · rcases p11 c h with h | h
          · exact Or.inl h
          · exact Or.inr ((inC.eq (bk 0 (by omega)) (bk 1 (by omega))).mp h)
        · exact Or.inr ((inC.eq (hlow 0 (by decide)) (hlow 1 (by decide))).mp h)
    · subst h2
      rw [hf.2, bI_0, Bool.not_eq_false] at a2
      have hw : w ∈ ss := of_decide_eq_true a2
      rw [hX.lw, hX.2.2.2.1.2.1] at h1
      refine ⟨P, ss, ?_, h1, hX, hD, hK, hE.more (by omega), hl, hf, FZ.refl _, fun _ _ => rfl, fun c hc => Or.inl hc⟩
      show (if w ∈ ss then _ else _) = _
      rw [if_pos hw]
theorem gow_ok (hX : STA L T P M) (hD : okD P) (hK : okK P) (hE : okE B P) {r : Nat} (hB : B + 60 * r ≤ 100000000) (hl : LST L P M) (hf : WFl w ss M) (ht : ti.toInt = (r : Int)) (H : Ev none e 58 0 [some (.ref 104), some (.int ti), none, none, none, none, none, none, none] [] M v M' 0 0) : ∃ (P6 : PK) (ss6 : List Int32), gofP T w r (P, ss) = (P6, ss6) ∧ v = some (.int (P6 519 - P 519)) ∧ STA L T P6 M' ∧ okD P6 ∧ okK P6 ∧ okE (B + 60 * r) P6 ∧ LST L P6 M' ∧ WFl w ss6 M' ∧ FZ (gwF L) (gwW L) (gwO L) M M' ∧ (∀ j, j < 157 → P6 j = P j) ∧ ∀ c, c ∈ ss6 → c ∈ ss ∨ inC P c := by
  have H := goo_0 hX.sq H
  rw [hX.lw, hX.2.2.2.1.2.1] at H
  exact go_l r 0 0 B P ss M _ _ _ _ _ hX hD hK hE hB hl hf rfl (by omega) H
/-- nobody watched: all TICKS are gone -/
theorem gof_live (hw : w.toInt < 0) : ∀ (n : Nat) (p : PS), (∀ c, c ∈ (tksP T n p).2 → 0 ≤ c.toInt) → (∀ m q, (∀ c, c ∈ (tksP T m q).2 → 0 ≤ c.toInt) → ∀ c, c ∈ q.2 → 0 ≤ c.toInt) → gofP T w n p = tksP T n p := by
  intro n
  induction n with
  | zero => intro p _ _; rfl
  | succ n ih =>
    intro p h hm
    have h1 := hm (n + 1) p h
    unfold gofP tksP
    rw [if_neg (fun q => by have := h1 w q; omega)]
    exact ih (tckP T p) h hm
end GOO
/-! THE CLASS'S endWeek, wornCells, enter -/
section WEK
variable {e L : Nat} {T : TS} {g : TQ} {P P' Q : PK} {M M1 M' : Mem} {v : Option Value} {c c' : Int32} {n i k B f : Nat} {ss : List Int32}
theorem dy_rng {q : TQ} (hw : LW q) : 0 ≤ (dyQ q).toInt ∧ (dyQ q).toInt ≤ 999 := by
  unfold dyQ
  rcases tv_rng (fun l hl => (hw l hl).1) 4 10 with e | ⟨l, hl, e1, e2⟩
  · rw [e]; decide
  · rw [e2]
    have h := (hw l hl).1
    exact ⟨h.1, h.2.1⟩
theorem max0_rng {x y : Int32} (hx : 0 ≤ x.toInt) (hy : 0 ≤ y.toInt) : 0 ≤ (max0 (x - y)).toInt ∧ (max0 (x - y)).toInt ≤ x.toInt := by
  have h1 := (i32_lt x).2
  have h2 := (i32_lt y).2
  have e : (x - y).toInt = x.toInt - y.toInt := i32_sub (by omega) (by omega)
  unfold max0
  by_cases h : x - y < 0
  · rw [if_pos h]
    exact ⟨by decide, by show (0 : Int32).toInt ≤ _; exact hx⟩
  · rw [if_neg h, e]
    rw [i32_z, e] at h
    omega
theorem wk1_E (hc : 0 ≤ c.toInt) (hc' : 0 ≤ c'.toInt) (hf : f < 7) : cE (wk1P g P c) f c' = if f = 4 ∧ c' = c then max0 (cE P 4 c - dyQ g) else if f = 3 ∧ c' = c then max0 (cE P 3 c - fstL g P 1 c 10 g.2) else cE P f c' := by
  unfold wk1P
  rw [cE_up (by decide) hf hc hc', cE_up (by decide) hf hc hc']
theorem wk1_lo {j : Nat} (h : j < 522) : wk1P g P c j = P j := by
  have h1 : ∀ f, j ≠ cX f c := fun f => by have := cX_ge (f := f) (c := c); omega
  unfold wk1P
  rw [up_ne (h1 4), up_ne (h1 3)]
theorem okE.wk1 (hw : LW g) (h : okE B P) (hc : inC P c) : okE B (wk1P g P c) := fun c' hc' => by
  have hc2 : inC P c' := (inC.eq (wk1_lo (by decide)) (wk1_lo (by decide))).mp hc'
  obtain ⟨a1, a2, a3, a4, a5, a6⟩ := h c' hc2
  obtain ⟨_, _, b3, b4, _, _⟩ := h c hc
  have fr := fst_rng (g := g) (P := P) (k := 1) (c := c) (d := 10) (by decide) g.2 (fun l hl => (hw l hl).1)
  have m3 := max0_rng b3.1 fr.1
  have m4 := max0_rng b4.1 (dy_rng hw).1
  unfold okC1
  have ee : ∀ f, f < 7 → f ≠ 3 → f ≠ 4 → cE (wk1P g P c) f c' = cE P f c' := fun f hf h3 h4 => by
    rw [wk1_E hc.1 hc2.1 hf, if_neg (fun q => h4 q.1), if_neg (fun q => h3 q.1)]
  rw [ee 0 (by decide) (by decide) (by decide), ee 2 (by decide) (by decide) (by decide), ee 5 (by decide) (by decide) (by decide), ee 6 (by decide) (by decide) (by decide)]
  refine ⟨a1, a2, ?_, ?_, a5, a6⟩
  · rw [wk1_E hc.1 hc2.1 (by decide), if_neg (fun q => absurd q.1 (by decide))]
    split
    · omega
    · exact a3
  · rw [wk1_E hc.1 hc2.1 (by decide), if_neg (show ¬ (4 = 3 ∧ c' = c) from fun q => absurd q.1 (by decide))]
    split
    · omega
    · exact a4
theorem mx_0 (x : Int32) : (if 0 < x then x else 0) = max0 x := by
  unfold max0
  by_cases h : 0 < x
  · rw [if_pos h, if_neg (fun q => by rw [Int32.lt_iff_toInt_lt] at h q; omega)]
  · rw [if_neg h]
    by_cases h2 : x < 0
    · rw [if_pos h2]
    · rw [if_neg h2]
      exact Int32.toInt_inj.mp (by rw [Int32.lt_iff_toInt_lt] at h h2; have e : (0 : Int32).toInt = 0 := rfl; omega)
theorem g6_ok (hw : wh4 P) (h0 : zI M L 0 = P 0) (h1 : zI M L 1 = P 1) : (G_6 M L).toInt = (clsP P : Int) := by
  obtain ⟨e1, e2, _⟩ := cls_int hw
  unfold G_6
  rw [h0, h1, i32_mul (by omega) (by omega), e1]
def ewW (L a : Nat) : Prop := a = L + 4 ∨ a = L + 5
theorem ewk_l (M0 : Mem) : ∀ (n : Nat) (P : PK) (M : Mem) (c : Int32) (c2 : Option Value), CTX L T P M → okE B P → (P 157).toInt ≤ 60 → zI M L 0 = P 0 → zI M L 1 = P 1 → FZ noF (ewW L) noO M0 M → 0 ≤ c.toInt → c.toInt + (n : Int) = (clsP P : Int) → Ev none e 63 2 [some (.ref 104), some (.int c), c2] [] M v M' 0 0 → ∃ M1, CTX L T (wkaP (T 0) n c P) M1 ∧ okE B (wkaP (T 0) n c P) ∧ FZ noF (ewW L) noO M0 M1 ∧ (∀ j, j < 522 → wkaP (T 0) n c P j = P j) ∧ v = none ∧ M' = X_55 (wA M1 (L + 6) 0) := by
  intro n
  induction n with
  | zero =>
    intro P M c c2 hX hE hk60 h0 h1 hF hc hn H
    have hg := g6_ok (M := M) hX.2.1 h0 h1
    rcases ewk_2 hX.1.1 H with ⟨_, r1, r2⟩ | ⟨a1, _⟩
    · rw [hX.1.2.1] at r2
      exact ⟨M, hX, hE, hF, fun _ _ => rfl, r1, r2⟩
    · exact absurd (Int32.le_iff_toInt_le.mpr (by rw [hX.1.2.1]; omega)) a1
  | succ n ih =>
    intro P M c c2 hX hE hk60 h0 h1 hF hc hn H
    have hS := hX.1.1
    have hL := hX.1.2.1
    have hT := hX.1.2.2.1
    have hld := ld_cases hT
    have hw := hX.2.1
    have hg := g6_ok (M := M) hw h0 h1
    obtain ⟨_, c256, _⟩ := cls_int hw
    have hcin : inC P c := ⟨hc, by omega⟩
    rcases ewk_2 hS H with ⟨a1, _⟩ | ⟨_, e1, v1, M1, rfl, H1, H⟩
    · rw [hL] at a1
      have := Int32.le_iff_toInt_le.mp a1
      omega
    · obtain ⟨rfl, rfl⟩ := fnb_ok hX hcin H1
      obtain ⟨_, _, _, _, H⟩ := ewk_21 hS H
      have r3 : rI M1 (L + 4) c = cE P 3 c := hX.1.2.2.2.2.2.2.at hcin (f := 3) (by decide)
      have r4 : rI M1 (L + 5) c = cE P 4 c := hX.1.2.2.2.2.2.2.at hcin (f := 4) (by decide)
      rw [hL, r3, r4, hX.1.2.2.2.2.2.1, mx_0, mx_0] at H
      have l3 := LCel.up (x := max0 (cE P 3 c - fstL (T 0) P 1 c 10 (T 0).2)) hS hT hX.1.2.2.2.2.2.2 hw hcin (f := 3) (by decide)
      have x0 : uPk P (cX 3 c) (max0 (cE P 3 c - fstL (T 0) P 1 c 10 (T 0).2)) 0 = P 0 := up_ne (by have := cX_ge (f := 3) (c := c); omega)
      have x1 : uPk P (cX 3 c) (max0 (cE P 3 c - fstL (T 0) P 1 c 10 (T 0).2)) 1 = P 1 := up_ne (by have := cX_ge (f := 3) (c := c); omega)
      have l4 := LCel.up (x := max0 (cE P 4 c - dyQ (T 0))) hS.ki hT l3 (hw.eq x0 x1) ((inC.eq x0 x1).mpr hcin) (f := 4) (by decide)
      have hE1 : okE B (wk1P (T 0) P c) := hE.wk1 hX.2.2.2.2.2.1.2 hcin
      have lo : ∀ j, j < 522 → wk1P (T 0) P c j = P j := fun j hj => wk1_lo hj
      have hF1 : FZ noF (ewW L) noO M1 (wI (wI M1 (L + 4) c.toNatClampNeg (max0 (cE P 3 c - fstL (T 0) P 1 c 10 (T 0).2))) (L + 5) c.toNatClampNeg (max0 (cE P 4 c - dyQ (T 0)))) := (FZ.wI (F := noF) (W := ewW L) (O := noO) (Or.inl rfl)).trans (FZ.wI (Or.inr rfl))
      have hX1 : CTX L T (wk1P (T 0) P c) (wI (wI M1 (L + 4) c.toNatClampNeg (max0 (cE P 3 c - fstL (T 0) P 1 c 10 (T 0).2))) (L + 5) c.toNatClampNeg (max0 (cE P 4 c - dyQ (T 0)))) := by
        refine hX.mv hS.ki.ki (hF1.more (G := gwF L) (V := gwW L) (U := gwO L) (fun _ _ q => q.elim) (fun a q => Or.inl (by rcases q with q | q <;> omega)) (fun _ q => q.elim)) (okF.go hT) l4 (lo 0 (by decide)) (lo 1 (by decide)) hE1.nn (fun c' hc' => ?_)
        have hc2 := (inC.eq (lo 0 (by decide)) (lo 1 (by decide))).mp hc'
        have hr : ∀ x y : Int32, rI (wI (wI M1 (L + 4) c.toNatClampNeg x) (L + 5) c.toNatClampNeg y) (L + 8) c' = rI M1 (L + 8) c' := fun x y => by
          unfold rI
          rw [rN_wI_ne (by omega), rN_wI_ne (by omega)]
        rw [hr, lo 157 (by decide), hX.2.2.2.2.2.2.2 c' hc2]
        exact (crd_congr _ (fun t ht => lo _ (by omega))).symm
      obtain ⟨M2, q1, q2, q3, q4, q5, q6⟩ := ih (wk1P (T 0) P c) _ (c + 1) _ hX1 hE1 (by rw [lo 157 (by decide)]; exact hk60) (by rw [fI_wI, fI_wI, lo 0 (by decide)]; exact h0) (by rw [fI_wI, fI_wI, lo 1 (by decide)]; exact h1) (hF.trans hF1) (by rw [i32_p1 (by omega)]; omega) (by rw [i32_p1 (by omega), cls_eq (lo 0 (by decide)) (lo 1 (by decide))]; omega) H
      exact ⟨M2, q1, q2, q3, fun j hj => (q4 j hj).trans (lo j hj), q5, q6⟩
theorem zer_E (hf : f < 7) : ∀ (n : Nat) (c : Int32) (P : PK), 0 ≤ c.toInt → c.toInt + (n : Int) ≤ 256 → (∀ f' c', f' < 7 → 0 ≤ c'.toInt → cE (zerP f n c P) f' c' = if f' = f ∧ c.toInt ≤ c'.toInt ∧ c'.toInt < c.toInt + (n : Int) then 0 else cE P f' c') ∧ ∀ j, j < 522 → zerP f n c P j = P j := by
  intro n
  induction n with
  | zero =>
    intro c P h0 h1
    refine ⟨fun f' c' hf' hc' => ?_, fun j _ => rfl⟩
    rw [if_neg (by omega)]
    rfl
  | succ n ih =>
    intro c P h0 h1
    have e1 : (c + 1).toInt = c.toInt + 1 := i32_p1 (by omega)
    obtain ⟨q1, q2⟩ := ih (c + 1) (uPk P (cX f c) 0) (by omega) (by omega)
    refine ⟨fun f' c' hf' hc' => ?_, fun j hj => (q2 j hj).trans (up_ne (by have := cX_ge (f := f) (c := c); omega))⟩
    show cE (zerP f n (c + 1) (uPk P (cX f c) 0)) f' c' = _
    rw [q1 f' c' hf' hc', cE_up hf hf' h0 hc', e1]
    by_cases h2 : f' = f ∧ c' = c
    · obtain ⟨rfl, rfl⟩ := h2
      rw [if_neg (by omega), if_pos ⟨rfl, rfl⟩, if_pos ⟨rfl, by omega, by omega⟩]
    · rw [if_neg h2]
      by_cases h3 : f' = f ∧ c.toInt + 1 ≤ c'.toInt ∧ c'.toInt < c.toInt + 1 + (n : Int)
      · rw [if_pos h3, if_pos ⟨h3.1, by omega, by omega⟩]
      · rw [if_neg h3, if_neg (fun q => h3 ⟨q.1, by
          have : c'.toInt ≠ c.toInt := fun r => h2 ⟨q.1, Int32.toInt_inj.mp r⟩
          omega, by omega⟩)]
theorem cE_nat (hw : wh4 P) {k : Nat} (hk : k < clsP P) (Q : PK) (f : Nat) : Q (522 + 7 * k + f) = cE Q f (nI k) := by
  obtain ⟨h1, h2⟩ := inC.nat hw hk
  unfold cE cX
  rw [h2]
theorem vc_new (hr : ∀ j, j < 1536 → rN M 128 j = -1) (hw : wh4 P) : VC T P M := fun h c hh hc => Or.inl (hr _ (by
  obtain ⟨_, c256, _⟩ := cls_int hw
  have := hc.2
  unfold ixA
  omega))
theorem ewk_ok (h : STA L T P M) (hD : okD P) (hK : okK P) (hE : okE B P) (hl : LST L P M) (H : Ev none e 63 0 [some (.ref 104), none, none] [] M v M' 0 0) : v = none ∧ STA L T (wekP (T 0) P) M' ∧ okD (wekP (T 0) P) ∧ okK (wekP (T 0) P) ∧ okE B (wekP (T 0) P) ∧ LST L (wekP (T 0) P) M' ∧ FZ (gwF L) (gwW L) (gwO L) M M' ∧ (∀ k, zI M' 104 k = zI M 104 k) ∧ ∀ j, j < 522 → wekP (T 0) P j = P j := by
  have hL := h.ld
  have hld := ld_cases hL
  have hw := h.wh
  obtain ⟨_, c256, _⟩ := cls_int hw
  have z0 : (0 : Int32).toInt = 0 := rfl
  obtain ⟨M1, q1, q2, q3, q4, q5, q6⟩ := ewk_l M (clsP P) P M 0 none h.1 hE hK.2.1 h.2.2.1.1 h.2.2.1.2.1 (FZ.refl _) (by decide) (by omega) (ewk_0 h.sq H)
  obtain ⟨P1, eP1⟩ : ∃ P1, P1 = wkaP (T 0) (clsP P) 0 P := ⟨_, rfl⟩
  rw [← eP1] at q1 q2 q4
  obtain ⟨zE, zL⟩ := zer_E (f := 5) (by decide) (clsP P) 0 P1 (by decide) (by omega)
  obtain ⟨P2, eP2⟩ : ∃ P2, P2 = wekP (T 0) P := ⟨_, rfl⟩
  have eP2' : zerP 5 (clsP P) 0 P1 = P2 := by rw [eP2, eP1]; rfl
  rw [eP2'] at zE zL
  rw [← eP2]
  have lo : ∀ j, j < 522 → P2 j = P j := fun j hj => (zL j hj).trans (q4 j hj)
  have hcl : clsP P1 = clsP P := cls_eq (q4 0 (by decide)) (q4 1 (by decide))
  have hcl2 : clsP P2 = clsP P := cls_eq (lo 0 (by decide)) (lo 1 (by decide))
  have hM' : M' = wA (wA M1 (L + 6) 0) 128 (-1) := q6
  have hS1 := q1.1.1
  have hF2 : FZ noF (fun a => ewW L a ∨ a = L + 6 ∨ a = 128) noO M M' := by
    rw [hM']
    exact ((q3.more (V := fun a => ewW L a ∨ a = L + 6 ∨ a = 128) (fun _ _ q => q) (fun _ q => Or.inl q) (fun _ q => q)).trans (FZ.wA (Or.inr (Or.inl rfl)))).trans (FZ.wA (Or.inr (Or.inr rfl)))
  have hgo : FZ (gwF L) (gwW L) (gwO L) M M' := hF2.more (fun _ _ q => q.elim) (fun a q => by
    rcases q with (q | q) | q | q
    · exact Or.inl (by omega)
    · exact Or.inl (by omega)
    · exact Or.inl (by omega)
    · exact Or.inr (Or.inl q)) (fun _ q => q.elim)
  have hS' : SQ M' := by rw [hM']; exact hS1.ka.ka
  have r128 : ∀ j, j < 1536 → rN M' 128 j = -1 := fun j hj => by
    rw [hM']
    exact rN_wA_eq hS1.ka.1 qa_128 qw_37 hj
  have rL : ∀ f k, f < 7 → f ≠ 5 → rN M' (L + 1 + f) k = rN M1 (L + 1 + f) k := fun f k hf h5 => by
    rw [hM', rN_wA_ne (by omega), rN_wA_ne (by omega)]
  have r6 : ∀ k, k < 256 → rN M' (L + 6) k = 0 := fun k hk => by
    rw [hM', rN_wA_ne (by omega)]
    exact rN_wA_eq hS1.1 (fx_h7 hL) qw_14 hk
  have hcel : LCel L P2 M' := by
    intro k f hk hf
    rw [hcl2] at hk
    have hin := (inC.nat hw hk).1
    rw [cE_nat hw hk P2 f, zE f (nI k) hf hin.1]
    have hk2 : (nI k).toInt = (k : Int) := nI_toInt (by omega)
    by_cases h5 : f = 5
    · subst h5
      rw [if_pos ⟨rfl, by omega, by omega⟩]
      exact r6 k (by omega)
    · rw [if_neg (fun q => h5 q.1), rL f k hf h5, ← cE_nat hw hk P1 f]
      exact q1.1.2.2.2.2.2.2 k f (by rw [hcl]; exact hk) hf
  have hE2 : okE B P2 := fun c hc => by
    have hc2 : inC P1 c := (inC.eq ((lo 0 (by decide)).trans (q4 0 (by decide)).symm) ((lo 1 (by decide)).trans (q4 1 (by decide)).symm)).mp hc
    obtain ⟨b1, b2, b3, b4, b5, b6⟩ := q2 c hc2
    have ee : ∀ f, f < 7 → f ≠ 5 → cE P2 f c = cE P1 f c := fun f hf h5 => by rw [zE f c hf hc.1, if_neg (fun q => h5 q.1)]
    unfold okC1
    rw [ee 0 (by decide) (by decide), ee 2 (by decide) (by decide), ee 3 (by decide) (by decide), ee 4 (by decide) (by decide), ee 6 (by decide) (by decide)]
    refine ⟨b1, b2, b3, b4, ?_, b6⟩
    rw [zE 5 c (by decide) hc.1]
    split
    · exact ⟨by decide, by show (0 : Int32).toInt ≤ _; omega⟩
    · exact b5
  have hk60 := hK.2.1
  obtain ⟨t1, t2, t3, t4⟩ := h.2.2.2.1
  have fz : ∀ a k, zI M' a k = zI M a k := fun a k => hF2.fi (fun q => q)
  refine ⟨q5, h.mv hD hS' hgo hcel (fun j hj => lo j (by omega)) hE2.nn (fun c hc => ?_) (vc_new r128 (hw.eq (lo 0 (by decide)) (lo 1 (by decide)))) ⟨?_, ?_, ?_, ?_⟩ (h.2.2.2.2.2.1.fz hF2 (fun q => q)), hD.sb (fun j hj => lo j (by omega)), ⟨by rw [lo 157 (by decide)]; exact hK.1, by rw [lo 157 (by decide)]; exact hK.2.1, fun t ht => ?_⟩, hE2, ⟨?_, fun t ht => ?_⟩, hgo, fun k => fz _ _, lo⟩
  · have hc2 := (inC.eq (lo 0 (by decide)) (lo 1 (by decide))).mp hc
    have : rI M' (L + 8) c = rI M (L + 8) c := hF2.rn (fun q => by
      rcases q with (q | q) | q | q <;> omega)
    rw [this, lo 157 (by decide), h.crd c hc2]
    exact (crd_congr _ (fun t ht => lo _ (by omega))).symm
  · rw [fz, t1, lo 518 (by decide)]
  · rw [fz, t2, lo 519 (by decide)]
  · rw [fz, t3, lo 520 (by decide)]
  · rw [fz, t4, lo 521 (by decide)]
  · rw [lo 157 (by decide)] at ht
    obtain ⟨b1, b2, b3, b4⟩ := hK.2.2 t ht
    rw [inC.eq (lo 0 (by decide)) (lo 1 (by decide)), lo _ (by omega), lo _ (by omega), lo 12 (by decide), lo _ (by omega)]
    exact ⟨b1, b2, b3, b4⟩
  · rw [fz, lo 157 (by decide)]; exact hl.1
  · rw [lo 157 (by decide)] at ht
    rw [hF2.on (fun q => q)]
    exact (hl.2 t ht).eq (fun f _ => fz _ f) (fun j hj => lo _ (by omega))
theorem wcl_l (hX : CTX L T P M) (h0 : zI M L 0 = P 0) (h1 : zI M L 1 = P 1) : ∀ (n : Nat) (c m : Int32), 0 ≤ c.toInt → c.toInt + (n : Int) = (clsP P : Int) → Ev none e 57 4 [some (.ref 104), some (.int m), some (.int c)] [] M v M' 0 0 → M' = M ∧ v = some (.int (netP (T 0) P n c m)) := by
  have hS := hX.1.1
  have hL := hX.1.2.1
  have hg := g6_ok (M := M) hX.2.1 h0 h1
  obtain ⟨_, c256, _⟩ := cls_int hX.2.1
  intro n
  induction n with
  | zero =>
    intro c m hc hn H
    rcases wcl_4 hS H with ⟨_, r1, r2⟩ | ⟨a1, _⟩ | ⟨a1, _⟩
    · exact ⟨r2, r1⟩
    all_goals exact absurd (Int32.le_iff_toInt_le.mpr (by rw [hL]; omega)) a1
  | succ n ih =>
    intro c m hc hn H
    have hcin : inC P c := ⟨hc, by omega⟩
    have e1 : (c + 1).toInt = c.toInt + 1 := i32_p1 (by omega)
    unfold netP
    rcases wcl_4 hS H with ⟨a1, _⟩ | ⟨_, a2, H⟩ | ⟨_, a2, H⟩
    · rw [hL] at a1
      have := Int32.le_iff_toInt_le.mp a1
      omega
    · rw [g56_ok hX.1 hcin, bI_0] at a2
      rw [a2, if_neg (by decide)]
      exact ih _ _ (by omega) (by omega) H
    · rw [g56_ok hX.1 hcin, bI_0, Bool.not_eq_false] at a2
      rw [a2, if_pos rfl]
      exact ih _ _ (by omega) (by omega) H
theorem wcl_ok (hX : CTX L T P M) (h0 : zI M L 0 = P 0) (h1 : zI M L 1 = P 1) (H : Ev none e 57 0 [some (.ref 104), none, none] [] M v M' 0 0) : M' = M ∧ v = some (.int (nwP (T 0) P)) := wcl_l hX h0 h1 (clsP P) 0 0 (by decide) (by have : (0 : Int32).toInt = 0 := rfl; omega) (wcl_0 hX.1.1 H)
end WEK
/-! THE CLASS'S lands: copy, renew: pieces (made by gwal3.py) -/
theorem cpy_0 {e : Nat} {M M' : Mem} {v : Option Value} {L Ot : Nat} (hS : SQ M) (a_L : gNth sT L = some 8) (a_Ot : gNth sT Ot = some 8) (H : Ev none e 13 0 [some (.ref L), some (.ref Ot), none] [] M v M' 0 0) : Ev none e 13 8 [some (.ref L), some (.ref Ot), none] [] (wF M L 0 (zI M Ot 0)) v M' 0 0 := by
  have H : Ev none e 13 2 [some (.ref L), some (.ref Ot), none] [.ref Ot, .ref L] M v M' 0 0 := Ev.back 2 (fun n => rfl) H
  have H : Ev none e 13 5 [some (.ref L), some (.ref Ot), none] [.int (zI M Ot 0), .ref L] M v M' 0 0 := Ev.back 1 (gs_3 rfl rfl (gf_i hS.1 a_Ot qi_8_0 rfl)) H
  obtain ⟨N2, eN2⟩ : ∃ N, N = (wF M L 0 (zI M Ot 0)) := ⟨_, rfl⟩
  have hN2 : SQ N2 := by rw [eN2]; exact hS.kf
  have H : Ev none e 13 8 [some (.ref L), some (.ref Ot), none] [] N2 v M' 0 0 := by rw [eN2]; exact Ev.pfi rfl rfl rfl hS.1 a_L qi_8_0 H
  have HF := H
  subst eN2
  exact HF
theorem cpy_8 {e : Nat} {M M' : Mem} {v : Option Value} {L Ot : Nat} (hS : SQ M) (a_L : gNth sT L = some 8) (a_Ot : gNth sT Ot = some 8) (H : Ev none e 13 8 [some (.ref L), some (.ref Ot), none] [] M v M' 0 0) : Ev none e 13 16 [some (.ref L), some (.ref Ot), none] [] (wF M L 1 (zI M Ot 1)) v M' 0 0 := by
  have H : Ev none e 13 10 [some (.ref L), some (.ref Ot), none] [.ref Ot, .ref L] M v M' 0 0 := Ev.back 2 (fun n => rfl) H
  have H : Ev none e 13 13 [some (.ref L), some (.ref Ot), none] [.int (zI M Ot 1), .ref L] M v M' 0 0 := Ev.back 1 (gs_3 rfl rfl (gf_i hS.1 a_Ot qi_8_1 rfl)) H
  obtain ⟨N2, eN2⟩ : ∃ N, N = (wF M L 1 (zI M Ot 1)) := ⟨_, rfl⟩
  have hN2 : SQ N2 := by rw [eN2]; exact hS.kf
  have H : Ev none e 13 16 [some (.ref L), some (.ref Ot), none] [] N2 v M' 0 0 := by rw [eN2]; exact Ev.pfi rfl rfl rfl hS.1 a_L qi_8_1 H
  have HF := H
  subst eN2
  exact HF
theorem cpy_16 {e : Nat} {M M' : Mem} {v : Option Value} {L Ot : Nat} (hS : SQ M) (a_L : gNth sT L = some 8) (a_Ot : gNth sT Ot = some 8) (H : Ev none e 13 16 [some (.ref L), some (.ref Ot), none] [] M v M' 0 0) : Ev none e 13 32 [some (.ref L), some (.ref Ot), none] [] (wC M (Ot + 1) (L + 1)) v M' 0 0 := by
  have H : Ev none e 13 17 [some (.ref L), some (.ref Ot), none] [.ref Ot] M v M' 0 0 := Ev.back 1 (fun n => rfl) H
  have H : Ev none e 13 20 [some (.ref L), some (.ref Ot), none] [.ref (Ot + 1)] M v M' 0 0 := Ev.back 1 (gs_3 rfl rfl (gf_x hS.1 a_Ot qo_8 (fx_l2 hS a_Ot) rfl)) H
  have H : Ev none e 13 22 [some (.ref L), some (.ref Ot), none] [.ref L, .int 0, .ref (Ot + 1)] M v M' 0 0 := Ev.back 2 (fun n => rfl) H
  have H : Ev none e 13 25 [some (.ref L), some (.ref Ot), none] [.ref (L + 1), .int 0, .ref (Ot + 1)] M v M' 0 0 := Ev.back 1 (gs_3 rfl rfl (gf_x hS.1 a_L qo_8 (fx_l2 hS a_L) rfl)) H
  have H : Ev none e 13 29 [some (.ref L), some (.ref Ot), none] [.int 256, .int 0, .ref (L + 1), .int 0, .ref (Ot + 1)] M v M' 0 0 := Ev.back 2 (fun n => rfl) H
  have H := Ev.cpy rfl rfl (fun _ _ => rfl) hS.1 (fx_h2 a_Ot) qw_9 (fx_h2 a_L) qw_9 rfl H
  obtain ⟨N1, eN1⟩ : ∃ N, N = (wC M (Ot + 1) (L + 1)) := ⟨_, rfl⟩
  have hN1 : SQ N1 := by rw [eN1]; exact hS.kc (fx_h2 a_Ot) qw_9 (fx_h2 a_L) qw_9
  have H : Ev none e 13 32 [some (.ref L), some (.ref Ot), none] [] N1 v M' 0 0 := by rw [eN1]; exact H
  have HF := H
  subst eN1
  exact HF
theorem cpy_32 {e : Nat} {M M' : Mem} {v : Option Value} {L Ot : Nat} (hS : SQ M) (a_L : gNth sT L = some 8) (a_Ot : gNth sT Ot = some 8) (H : Ev none e 13 32 [some (.ref L), some (.ref Ot), none] [] M v M' 0 0) : Ev none e 13 48 [some (.ref L), some (.ref Ot), none] [] (wC M (Ot + 2) (L + 2)) v M' 0 0 := by
  have H : Ev none e 13 33 [some (.ref L), some (.ref Ot), none] [.ref Ot] M v M' 0 0 := Ev.back 1 (fun n => rfl) H
  have H : Ev none e 13 36 [some (.ref L), some (.ref Ot), none] [.ref (Ot + 2)] M v M' 0 0 := Ev.back 1 (gs_3 rfl rfl (gf_x hS.1 a_Ot qo_8 (fx_l3 hS a_Ot) rfl)) H
  have H : Ev none e 13 38 [some (.ref L), some (.ref Ot), none] [.ref L, .int 0, .ref (Ot + 2)] M v M' 0 0 := Ev.back 2 (fun n => rfl) H
  have H : Ev none e 13 41 [some (.ref L), some (.ref Ot), none] [.ref (L + 2), .int 0, .ref (Ot + 2)] M v M' 0 0 := Ev.back 1 (gs_3 rfl rfl (gf_x hS.1 a_L qo_8 (fx_l3 hS a_L) rfl)) H
  have H : Ev none e 13 45 [some (.ref L), some (.ref Ot), none] [.int 256, .int 0, .ref (L + 2), .int 0, .ref (Ot + 2)] M v M' 0 0 := Ev.back 2 (fun n => rfl) H
  have H := Ev.cpy rfl rfl (fun _ _ => rfl) hS.1 (fx_h3 a_Ot) qw_10 (fx_h3 a_L) qw_10 rfl H
  obtain ⟨N1, eN1⟩ : ∃ N, N = (wC M (Ot + 2) (L + 2)) := ⟨_, rfl⟩
  have hN1 : SQ N1 := by rw [eN1]; exact hS.kc (fx_h3 a_Ot) qw_10 (fx_h3 a_L) qw_10
  have H : Ev none e 13 48 [some (.ref L), some (.ref Ot), none] [] N1 v M' 0 0 := by rw [eN1]; exact H
  have HF := H
  subst eN1
  exact HF
theorem cpy_48 {e : Nat} {M M' : Mem} {v : Option Value} {L Ot : Nat} (hS : SQ M) (a_L : gNth sT L = some 8) (a_Ot : gNth sT Ot = some 8) (H : Ev none e 13 48 [some (.ref L), some (.ref Ot), none] [] M v M' 0 0) : Ev none e 13 64 [some (.ref L), some (.ref Ot), none] [] (wC M (Ot + 3) (L + 3)) v M' 0 0 := by
  have H : Ev none e 13 49 [some (.ref L), some (.ref Ot), none] [.ref Ot] M v M' 0 0 := Ev.back 1 (fun n => rfl) H
  have H : Ev none e 13 52 [some (.ref L), some (.ref Ot), none] [.ref (Ot + 3)] M v M' 0 0 := Ev.back 1 (gs_3 rfl rfl (gf_x hS.1 a_Ot qo_8 (fx_l4 hS a_Ot) rfl)) H
  have H : Ev none e 13 54 [some (.ref L), some (.ref Ot), none] [.ref L, .int 0, .ref (Ot + 3)] M v M' 0 0 := Ev.back 2 (fun n => rfl) H
  have H : Ev none e 13 57 [some (.ref L), some (.ref Ot), none] [.ref (L + 3), .int 0, .ref (Ot + 3)] M v M' 0 0 := Ev.back 1 (gs_3 rfl rfl (gf_x hS.1 a_L qo_8 (fx_l4 hS a_L) rfl)) H
  have H : Ev none e 13 61 [some (.ref L), some (.ref Ot), none] [.int 256, .int 0, .ref (L + 3), .int 0, .ref (Ot + 3)] M v M' 0 0 := Ev.back 2 (fun n => rfl) H
  have H := Ev.cpy rfl rfl (fun _ _ => rfl) hS.1 (fx_h4 a_Ot) qw_11 (fx_h4 a_L) qw_11 rfl H
  obtain ⟨N1, eN1⟩ : ∃ N, N = (wC M (Ot + 3) (L + 3)) := ⟨_, rfl⟩
  have hN1 : SQ N1 := by rw [eN1]; exact hS.kc (fx_h4 a_Ot) qw_11 (fx_h4 a_L) qw_11
  have H : Ev none e 13 64 [some (.ref L), some (.ref Ot), none] [] N1 v M' 0 0 := by rw [eN1]; exact H
  have HF := H
  subst eN1
  exact HF
theorem cpy_64 {e : Nat} {M M' : Mem} {v : Option Value} {L Ot : Nat} (hS : SQ M) (a_L : gNth sT L = some 8) (a_Ot : gNth sT Ot = some 8) (H : Ev none e 13 64 [some (.ref L), some (.ref Ot), none] [] M v M' 0 0) : Ev none e 13 80 [some (.ref L), some (.ref Ot), none] [] (wC M (Ot + 4) (L + 4)) v M' 0 0 := by
  have H : Ev none e 13 65 [some (.ref L), some (.ref Ot), none] [.ref Ot] M v M' 0 0 := Ev.back 1 (fun n => rfl) H
  have H : Ev none e 13 68 [some (.ref L), some (.ref Ot), none] [.ref (Ot + 4)] M v M' 0 0 := Ev.back 1 (gs_3 rfl rfl (gf_x hS.1 a_Ot qo_8 (fx_l5 hS a_Ot) rfl)) H
  have H : Ev none e 13 70 [some (.ref L), some (.ref Ot), none] [.ref L, .int 0, .ref (Ot + 4)] M v M' 0 0 := Ev.back 2 (fun n => rfl) H
  have H : Ev none e 13 73 [some (.ref L), some (.ref Ot), none] [.ref (L + 4), .int 0, .ref (Ot + 4)] M v M' 0 0 := Ev.back 1 (gs_3 rfl rfl (gf_x hS.1 a_L qo_8 (fx_l5 hS a_L) rfl)) H
  have H : Ev none e 13 77 [some (.ref L), some (.ref Ot), none] [.int 256, .int 0, .ref (L + 4), .int 0, .ref (Ot + 4)] M v M' 0 0 := Ev.back 2 (fun n => rfl) H
  have H := Ev.cpy rfl rfl (fun _ _ => rfl) hS.1 (fx_h5 a_Ot) qw_12 (fx_h5 a_L) qw_12 rfl H
  obtain ⟨N1, eN1⟩ : ∃ N, N = (wC M (Ot + 4) (L + 4)) := ⟨_, rfl⟩
  have hN1 : SQ N1 := by rw [eN1]; exact hS.kc (fx_h5 a_Ot) qw_12 (fx_h5 a_L) qw_12
  have H : Ev none e 13 80 [some (.ref L), some (.ref Ot), none] [] N1 v M' 0 0 := by rw [eN1]; exact H
  have HF := H
  subst eN1
  exact HF
theorem cpy_80 {e : Nat} {M M' : Mem} {v : Option Value} {L Ot : Nat} (hS : SQ M) (a_L : gNth sT L = some 8) (a_Ot : gNth sT Ot = some 8) (H : Ev none e 13 80 [some (.ref L), some (.ref Ot), none] [] M v M' 0 0) : Ev none e 13 96 [some (.ref L), some (.ref Ot), none] [] (wC M (Ot + 5) (L + 5)) v M' 0 0 := by
  have H : Ev none e 13 81 [some (.ref L), some (.ref Ot), none] [.ref Ot] M v M' 0 0 := Ev.back 1 (fun n => rfl) H
  have H : Ev none e 13 84 [some (.ref L), some (.ref Ot), none] [.ref (Ot + 5)] M v M' 0 0 := Ev.back 1 (gs_3 rfl rfl (gf_x hS.1 a_Ot qo_8 (fx_l6 hS a_Ot) rfl)) H
  have H : Ev none e 13 86 [some (.ref L), some (.ref Ot), none] [.ref L, .int 0, .ref (Ot + 5)] M v M' 0 0 := Ev.back 2 (fun n => rfl) H
  have H : Ev none e 13 89 [some (.ref L), some (.ref Ot), none] [.ref (L + 5), .int 0, .ref (Ot + 5)] M v M' 0 0 := Ev.back 1 (gs_3 rfl rfl (gf_x hS.1 a_L qo_8 (fx_l6 hS a_L) rfl)) H
  have H : Ev none e 13 93 [some (.ref L), some (.ref Ot), none] [.int 256, .int 0, .ref (L + 5), .int 0, .ref (Ot + 5)] M v M' 0 0 := Ev.back 2 (fun n => rfl) H
  have H := Ev.cpy rfl rfl (fun _ _ => rfl) hS.1 (fx_h6 a_Ot) qw_13 (fx_h6 a_L) qw_13 rfl H
  obtain ⟨N1, eN1⟩ : ∃ N, N = (wC M (Ot + 5) (L + 5)) := ⟨_, rfl⟩
  have hN1 : SQ N1 := by rw [eN1]; exact hS.kc (fx_h6 a_Ot) qw_13 (fx_h6 a_L) qw_13
  have H : Ev none e 13 96 [some (.ref L), some (.ref Ot), none] [] N1 v M' 0 0 := by rw [eN1]; exact H
  have HF := H
  subst eN1
  exact HF
theorem cpy_96 {e : Nat} {M M' : Mem} {v : Option Value} {L Ot : Nat} (hS : SQ M) (a_L : gNth sT L = some 8) (a_Ot : gNth sT Ot = some 8) (H : Ev none e 13 96 [some (.ref L), some (.ref Ot), none] [] M v M' 0 0) : Ev none e 13 112 [some (.ref L), some (.ref Ot), none] [] (wC M (Ot + 6) (L + 6)) v M' 0 0 := by
  have H : Ev none e 13 97 [some (.ref L), some (.ref Ot), none] [.ref Ot] M v M' 0 0 := Ev.back 1 (fun n => rfl) H
  have H : Ev none e 13 100 [some (.ref L), some (.ref Ot), none] [.ref (Ot + 6)] M v M' 0 0 := Ev.back 1 (gs_3 rfl rfl (gf_x hS.1 a_Ot qo_8 (fx_l7 hS a_Ot) rfl)) H
  have H : Ev none e 13 102 [some (.ref L), some (.ref Ot), none] [.ref L, .int 0, .ref (Ot + 6)] M v M' 0 0 := Ev.back 2 (fun n => rfl) H
  have H : Ev none e 13 105 [some (.ref L), some (.ref Ot), none] [.ref (L + 6), .int 0, .ref (Ot + 6)] M v M' 0 0 := Ev.back 1 (gs_3 rfl rfl (gf_x hS.1 a_L qo_8 (fx_l7 hS a_L) rfl)) H
  have H : Ev none e 13 109 [some (.ref L), some (.ref Ot), none] [.int 256, .int 0, .ref (L + 6), .int 0, .ref (Ot + 6)] M v M' 0 0 := Ev.back 2 (fun n => rfl) H
  have H := Ev.cpy rfl rfl (fun _ _ => rfl) hS.1 (fx_h7 a_Ot) qw_14 (fx_h7 a_L) qw_14 rfl H
  obtain ⟨N1, eN1⟩ : ∃ N, N = (wC M (Ot + 6) (L + 6)) := ⟨_, rfl⟩
  have hN1 : SQ N1 := by rw [eN1]; exact hS.kc (fx_h7 a_Ot) qw_14 (fx_h7 a_L) qw_14
  have H : Ev none e 13 112 [some (.ref L), some (.ref Ot), none] [] N1 v M' 0 0 := by rw [eN1]; exact H
  have HF := H
  subst eN1
  exact HF
theorem cpy_112 {e : Nat} {M M' : Mem} {v : Option Value} {L Ot : Nat} (hS : SQ M) (a_L : gNth sT L = some 8) (a_Ot : gNth sT Ot = some 8) (H : Ev none e 13 112 [some (.ref L), some (.ref Ot), none] [] M v M' 0 0) : Ev none e 13 128 [some (.ref L), some (.ref Ot), none] [] (wC M (Ot + 7) (L + 7)) v M' 0 0 := by
  have H : Ev none e 13 113 [some (.ref L), some (.ref Ot), none] [.ref Ot] M v M' 0 0 := Ev.back 1 (fun n => rfl) H
  have H : Ev none e 13 116 [some (.ref L), some (.ref Ot), none] [.ref (Ot + 7)] M v M' 0 0 := Ev.back 1 (gs_3 rfl rfl (gf_x hS.1 a_Ot qo_8 (fx_l8 hS a_Ot) rfl)) H
  have H : Ev none e 13 118 [some (.ref L), some (.ref Ot), none] [.ref L, .int 0, .ref (Ot + 7)] M v M' 0 0 := Ev.back 2 (fun n => rfl) H
  have H : Ev none e 13 121 [some (.ref L), some (.ref Ot), none] [.ref (L + 7), .int 0, .ref (Ot + 7)] M v M' 0 0 := Ev.back 1 (gs_3 rfl rfl (gf_x hS.1 a_L qo_8 (fx_l8 hS a_L) rfl)) H
  have H : Ev none e 13 125 [some (.ref L), some (.ref Ot), none] [.int 256, .int 0, .ref (L + 7), .int 0, .ref (Ot + 7)] M v M' 0 0 := Ev.back 2 (fun n => rfl) H
  have H := Ev.cpy rfl rfl (fun _ _ => rfl) hS.1 (fx_h8 a_Ot) qw_15 (fx_h8 a_L) qw_15 rfl H
  obtain ⟨N1, eN1⟩ : ∃ N, N = (wC M (Ot + 7) (L + 7)) := ⟨_, rfl⟩
  have hN1 : SQ N1 := by rw [eN1]; exact hS.kc (fx_h8 a_Ot) qw_15 (fx_h8 a_L) qw_15
  have H : Ev none e 13 128 [some (.ref L), some (.ref Ot), none] [] N1 v M' 0 0 := by rw [eN1]; exact H
  have HF := H
  subst eN1
  exact HF
theorem cpy_128 {e : Nat} {M M' : Mem} {v : Option Value} {L Ot : Nat} (hS : SQ M) (a_L : gNth sT L = some 8) (a_Ot : gNth sT Ot = some 8) (H : Ev none e 13 128 [some (.ref L), some (.ref Ot), none] [] M v M' 0 0) : Ev none e 13 144 [some (.ref L), some (.ref Ot), none] [] (wC M (Ot + 8) (L + 8)) v M' 0 0 := by
  have H : Ev none e 13 129 [some (.ref L), some (.ref Ot), none] [.ref Ot] M v M' 0 0 := Ev.back 1 (fun n => rfl) H
  have H : Ev none e 13 132 [some (.ref L), some (.ref Ot), none] [.ref (Ot + 8)] M v M' 0 0 := Ev.back 1 (gs_3 rfl rfl (gf_x hS.1 a_Ot qo_8 (fx_l9 hS a_Ot) rfl)) H
  have H : Ev none e 13 134 [some (.ref L), some (.ref Ot), none] [.ref L, .int 0, .ref (Ot + 8)] M v M' 0 0 := Ev.back 2 (fun n => rfl) H
  have H : Ev none e 13 137 [some (.ref L), some (.ref Ot), none] [.ref (L + 8), .int 0, .ref (Ot + 8)] M v M' 0 0 := Ev.back 1 (gs_3 rfl rfl (gf_x hS.1 a_L qo_8 (fx_l9 hS a_L) rfl)) H
  have H : Ev none e 13 141 [some (.ref L), some (.ref Ot), none] [.int 256, .int 0, .ref (L + 8), .int 0, .ref (Ot + 8)] M v M' 0 0 := Ev.back 2 (fun n => rfl) H
  have H := Ev.cpy rfl rfl (fun _ _ => rfl) hS.1 (fx_h9 a_Ot) qw_16 (fx_h9 a_L) qw_16 rfl H
  obtain ⟨N1, eN1⟩ : ∃ N, N = (wC M (Ot + 8) (L + 8)) := ⟨_, rfl⟩
  have hN1 : SQ N1 := by rw [eN1]; exact hS.kc (fx_h9 a_Ot) qw_16 (fx_h9 a_L) qw_16
  have H : Ev none e 13 144 [some (.ref L), some (.ref Ot), none] [] N1 v M' 0 0 := by rw [eN1]; exact H
  have HF := H
  subst eN1
  exact HF
theorem cpy_144 {e : Nat} {M M' : Mem} {v : Option Value} {L Ot : Nat} (hS : SQ M) (a_L : gNth sT L = some 8) (a_Ot : gNth sT Ot = some 8) (H : Ev none e 13 144 [some (.ref L), some (.ref Ot), none] [] M v M' 0 0) : Ev none e 13 159 [some (.ref L), some (.ref Ot), none] [] (wC M (Ot + 9) (L + 9)) v M' 0 0 := by
  have H : Ev none e 13 145 [some (.ref L), some (.ref Ot), none] [.ref Ot] M v M' 0 0 := Ev.back 1 (fun n => rfl) H
  have H : Ev none e 13 148 [some (.ref L), some (.ref Ot), none] [.ref (Ot + 9)] M v M' 0 0 := Ev.back 1 (gs_3 rfl rfl (gf_x hS.1 a_Ot qo_8 (fx_l10 hS a_Ot) rfl)) H
  have H : Ev none e 13 150 [some (.ref L), some (.ref Ot), none] [.ref L, .int 0, .ref (Ot + 9)] M v M' 0 0 := Ev.back 2 (fun n => rfl) H
  have H : Ev none e 13 153 [some (.ref L), some (.ref Ot), none] [.ref (L + 9), .int 0, .ref (Ot + 9)] M v M' 0 0 := Ev.back 1 (gs_3 rfl rfl (gf_x hS.1 a_L qo_8 (fx_l10 hS a_L) rfl)) H
  have H : Ev none e 13 156 [some (.ref L), some (.ref Ot), none] [.int 9, .int 0, .ref (L + 9), .int 0, .ref (Ot + 9)] M v M' 0 0 := Ev.back 2 (fun n => rfl) H
  have H := Ev.cpy rfl rfl (fun _ _ => rfl) hS.1 (fx_h10 a_Ot) qw_17 (fx_h10 a_L) qw_17 rfl H
  obtain ⟨N1, eN1⟩ : ∃ N, N = (wC M (Ot + 9) (L + 9)) := ⟨_, rfl⟩
  have hN1 : SQ N1 := by rw [eN1]; exact hS.kc (fx_h10 a_Ot) qw_17 (fx_h10 a_L) qw_17
  have H : Ev none e 13 159 [some (.ref L), some (.ref Ot), none] [] N1 v M' 0 0 := by rw [eN1]; exact H
  have HF := H
  subst eN1
  exact HF
theorem cpy_159 {e : Nat} {M M' : Mem} {v : Option Value} {L Ot : Nat} (hS : SQ M) (a_L : gNth sT L = some 8) (a_Ot : gNth sT Ot = some 8) (H : Ev none e 13 159 [some (.ref L), some (.ref Ot), none] [] M v M' 0 0) : Ev none e 13 167 [some (.ref L), some (.ref Ot), none] [] (wF M L 11 (zI M Ot 11)) v M' 0 0 := by
  have H : Ev none e 13 161 [some (.ref L), some (.ref Ot), none] [.ref Ot, .ref L] M v M' 0 0 := Ev.back 2 (fun n => rfl) H
  have H : Ev none e 13 164 [some (.ref L), some (.ref Ot), none] [.int (zI M Ot 11), .ref L] M v M' 0 0 := Ev.back 1 (gs_3 rfl rfl (gf_i hS.1 a_Ot qi_8_11 rfl)) H
  obtain ⟨N2, eN2⟩ : ∃ N, N = (wF M L 11 (zI M Ot 11)) := ⟨_, rfl⟩
  have hN2 : SQ N2 := by rw [eN2]; exact hS.kf
  have H : Ev none e 13 167 [some (.ref L), some (.ref Ot), none] [] N2 v M' 0 0 := by rw [eN2]; exact Ev.pfi rfl rfl rfl hS.1 a_L qi_8_11 H
  have HF := H
  subst eN2
  exact HF
theorem cpy_167 {e : Nat} {M M' : Mem} {v : Option Value} {L Ot : Nat} (hS : SQ M) (a_L : gNth sT L = some 8) (a_Ot : gNth sT Ot = some 8) (H : Ev none e 13 167 [some (.ref L), some (.ref Ot), none] [] M v M' 0 0) : Ev none e 13 177 [some (.ref L), some (.ref Ot), some (.int 0)] [] (wF M L 13 (zI M Ot 13)) v M' 0 0 := by
  have H : Ev none e 13 169 [some (.ref L), some (.ref Ot), none] [.ref Ot, .ref L] M v M' 0 0 := Ev.back 2 (fun n => rfl) H
  have H : Ev none e 13 172 [some (.ref L), some (.ref Ot), none] [.int (zI M Ot 13), .ref L] M v M' 0 0 := Ev.back 1 (gs_3 rfl rfl (gf_i hS.1 a_Ot qi_8_13 rfl)) H
  obtain ⟨N2, eN2⟩ : ∃ N, N = (wF M L 13 (zI M Ot 13)) := ⟨_, rfl⟩
  have hN2 : SQ N2 := by rw [eN2]; exact hS.kf
  have H : Ev none e 13 175 [some (.ref L), some (.ref Ot), none] [] N2 v M' 0 0 := by rw [eN2]; exact Ev.pfi rfl rfl rfl hS.1 a_L qi_8_13 H
  have H : Ev none e 13 177 [some (.ref L), some (.ref Ot), some (.int 0)] [] N2 v M' 0 0 := Ev.back 2 (fun n => rfl) H
  have HF := H
  subst eN2
  exact HF
theorem cpy_177 {e : Nat} {M M' : Mem} {v : Option Value} {k : Int32} {L Ot : Nat} (hS : SQ M) (a_L : gNth sT L = some 8) (a_Ot : gNth sT Ot = some 8) (H : Ev none e 13 177 [some (.ref L), some (.ref Ot), some (.int k)] [] M v M' 0 0) : ((zI M L 13) ≤ k ∧ Ev none e 13 206 [some (.ref L), some (.ref Ot), some (.int k)] [] M v M' 0 0) ∨ (¬ ((zI M L 13) ≤ k) ∧ (0 ≤ k.toInt ∧ k.toInt < 24) ∧ (0 ≤ k.toInt ∧ k.toInt < 24) ∧ (∃ e1 v1 M1, e = e1 + 1 ∧ Ev none e1 77 0 [some (.ref (oI M (L + 10) k)), some (.ref (oI M (Ot + 10) k))] [] M v1 M1 0 0 ∧ Ev none e 13 200 [some (.ref L), some (.ref Ot), some (.int k)] (v1.toList ++ []) M1 v M' 0 0)) := by
  have H : Ev none e 13 179 [some (.ref L), some (.ref Ot), some (.int k)] [.ref L, .int k] M v M' 0 0 := Ev.back 2 (fun n => rfl) H
  have H : Ev none e 13 182 [some (.ref L), some (.ref Ot), some (.int k)] [.int (zI M L 13), .int k] M v M' 0 0 := Ev.back 1 (gs_3 rfl rfl (gf_i hS.1 a_L qi_8_13 rfl)) H
  have H : Ev none e 13 (if (zI M L 13) ≤ k then 206 else 185) [some (.ref L), some (.ref Ot), some (.int k)] [] M v M' 0 0 := Ev.back 1 (fun n => rfl) H
  by_cases h1 : (zI M L 13) ≤ k
  · rw [if_pos h1] at H
    have HF := H
    exact Or.inl ⟨h1, HF⟩
  · rw [if_neg h1] at H
    have H : Ev none e 13 186 [some (.ref L), some (.ref Ot), some (.int k)] [.ref L] M v M' 0 0 := Ev.back 1 (fun n => rfl) H
    have H : Ev none e 13 189 [some (.ref L), some (.ref Ot), some (.int k)] [.ref (L + 10)] M v M' 0 0 := Ev.back 1 (gs_3 rfl rfl (gf_x hS.1 a_L qo_8 (fx_l12 hS a_L) rfl)) H
    have H : Ev none e 13 190 [some (.ref L), some (.ref Ot), some (.int k)] [.int k, .ref (L + 10)] M v M' 0 0 := Ev.back 1 (fun n => rfl) H
    obtain ⟨b2, H⟩ := Ev.aal rfl rfl hS.1 (fx_h12 a_L) qz_18 H
    have H : Ev none e 13 191 [some (.ref L), some (.ref Ot), some (.int k)] [.ref (oI M (L + 10) k)] M v M' 0 0 := H
    have H : Ev none e 13 192 [some (.ref L), some (.ref Ot), some (.int k)] [.ref Ot, .ref (oI M (L + 10) k)] M v M' 0 0 := Ev.back 1 (fun n => rfl) H
    have H : Ev none e 13 195 [some (.ref L), some (.ref Ot), some (.int k)] [.ref (Ot + 10), .ref (oI M (L + 10) k)] M v M' 0 0 := Ev.back 1 (gs_3 rfl rfl (gf_x hS.1 a_Ot qo_8 (fx_l12 hS a_Ot) rfl)) H
    have H : Ev none e 13 196 [some (.ref L), some (.ref Ot), some (.int k)] [.int k, .ref (Ot + 10), .ref (oI M (L + 10) k)] M v M' 0 0 := Ev.back 1 (fun n => rfl) H
    obtain ⟨b3, H⟩ := Ev.aal rfl rfl hS.1 (fx_h12 a_Ot) qz_18 H
    have H : Ev none e 13 197 [some (.ref L), some (.ref Ot), some (.int k)] [.ref (oI M (Ot + 10) k), .ref (oI M (L + 10) k)] M v M' 0 0 := H
    obtain ⟨e1, rfl⟩ := Ev.dpos rfl rfl H
    obtain ⟨vK4, MK4, K4, H⟩ := Ev.callb (fun n_ => gs_7 rfl rfl (show gCal (.invokevirtual 106) 1 (.ref (oI M (Ot + 10) k) :: .ref (oI M (L + 10) k) :: []) M = some (.inr (77, [some (.ref (oI M (L + 10) k)), some (.ref (oI M (Ot + 10) k))], [])) from by show @cond (Option ((List Value × Mem) ⊕ (Nat × Lo × List Value))) (true && gRecv M (.ref (oI M (L + 10) k)) 9 && gRoom [] && true) (some (.inr (77, [some (.ref (oI M (L + 10) k)), some (.ref (oI M (Ot + 10) k))], []))) none = _; rw [recv_s hS.1 b2.2 qo_20]; rfl)) H
    have K4 : Ev none e1 77 0 [some (.ref (oI M (L + 10) k)), some (.ref (oI M (Ot + 10) k))] [] M vK4 MK4 0 0 := K4
    have HF := H
    exact Or.inr (⟨h1, b2.1, b3.1, ⟨e1, vK4, MK4, rfl, K4, HF⟩⟩)
theorem cpy_200 {e : Nat} {M M' : Mem} {v : Option Value} {k : Int32} {L Ot : Nat} (hS : SQ M) (a_L : gNth sT L = some 8) (a_Ot : gNth sT Ot = some 8) (H : Ev none e 13 200 [some (.ref L), some (.ref Ot), some (.int k)] [] M v M' 0 0) : Ev none e 13 177 [some (.ref L), some (.ref Ot), some (.int (k + 1))] [] M v M' 0 0 := by
  have H : Ev none e 13 177 [some (.ref L), some (.ref Ot), some (.int (k + 1))] [] M v M' 0 0 := Ev.back 2 (fun n => rfl) H
  have HF := H
  exact HF
theorem cpy_206 {e : Nat} {M M' : Mem} {v : Option Value} {k : Int32} {L Ot : Nat} (hS : SQ M) (a_L : gNth sT L = some 8) (a_Ot : gNth sT Ot = some 8) (H : Ev none e 13 206 [some (.ref L), some (.ref Ot), some (.int k)] [] M v M' 0 0) : Ev none e 13 216 [some (.ref L), some (.ref Ot), some (.int 0)] [] (wF M L 15 (zI M Ot 15)) v M' 0 0 := by
  have H : Ev none e 13 208 [some (.ref L), some (.ref Ot), some (.int k)] [.ref Ot, .ref L] M v M' 0 0 := Ev.back 2 (fun n => rfl) H
  have H : Ev none e 13 211 [some (.ref L), some (.ref Ot), some (.int k)] [.int (zI M Ot 15), .ref L] M v M' 0 0 := Ev.back 1 (gs_3 rfl rfl (gf_i hS.1 a_Ot qi_8_15 rfl)) H
  obtain ⟨N2, eN2⟩ : ∃ N, N = (wF M L 15 (zI M Ot 15)) := ⟨_, rfl⟩
  have hN2 : SQ N2 := by rw [eN2]; exact hS.kf
  have H : Ev none e 13 214 [some (.ref L), some (.ref Ot), some (.int k)] [] N2 v M' 0 0 := by rw [eN2]; exact Ev.pfi rfl rfl rfl hS.1 a_L qi_8_15 H
  have H : Ev none e 13 216 [some (.ref L), some (.ref Ot), some (.int 0)] [] N2 v M' 0 0 := Ev.back 2 (fun n => rfl) H
  have HF := H
  subst eN2
  exact HF
theorem cpy_216 {e : Nat} {M M' : Mem} {v : Option Value} {k : Int32} {L Ot : Nat} (hS : SQ M) (a_L : gNth sT L = some 8) (a_Ot : gNth sT Ot = some 8) (H : Ev none e 13 216 [some (.ref L), some (.ref Ot), some (.int k)] [] M v M' 0 0) : ((zI M L 15) ≤ k ∧ Ev none e 13 245 [some (.ref L), some (.ref Ot), some (.int k)] [] M v M' 0 0) ∨ (¬ ((zI M L 15) ≤ k) ∧ (0 ≤ k.toInt ∧ k.toInt < 60) ∧ (0 ≤ k.toInt ∧ k.toInt < 60) ∧ (∃ e1 v1 M1, e = e1 + 1 ∧ Ev none e1 75 0 [some (.ref (oI M (L + 11) k)), some (.ref (oI M (Ot + 11) k))] [] M v1 M1 0 0 ∧ Ev none e 13 239 [some (.ref L), some (.ref Ot), some (.int k)] (v1.toList ++ []) M1 v M' 0 0)) := by
  have H : Ev none e 13 218 [some (.ref L), some (.ref Ot), some (.int k)] [.ref L, .int k] M v M' 0 0 := Ev.back 2 (fun n => rfl) H
  have H : Ev none e 13 221 [some (.ref L), some (.ref Ot), some (.int k)] [.int (zI M L 15), .int k] M v M' 0 0 := Ev.back 1 (gs_3 rfl rfl (gf_i hS.1 a_L qi_8_15 rfl)) H
  have H : Ev none e 13 (if (zI M L 15) ≤ k then 245 else 224) [some (.ref L), some (.ref Ot), some (.int k)] [] M v M' 0 0 := Ev.back 1 (fun n => rfl) H
  by_cases h1 : (zI M L 15) ≤ k
  · rw [if_pos h1] at H
    have HF := H
    exact Or.inl ⟨h1, HF⟩
  · rw [if_neg h1] at H
    have H : Ev none e 13 225 [some (.ref L), some (.ref Ot), some (.int k)] [.ref L] M v M' 0 0 := Ev.back 1 (fun n => rfl) H
    have H : Ev none e 13 228 [some (.ref L), some (.ref Ot), some (.int k)] [.ref (L + 11)] M v M' 0 0 := Ev.back 1 (gs_3 rfl rfl (gf_x hS.1 a_L qo_8 (fx_l14 hS a_L) rfl)) H
    have H : Ev none e 13 229 [some (.ref L), some (.ref Ot), some (.int k)] [.int k, .ref (L + 11)] M v M' 0 0 := Ev.back 1 (fun n => rfl) H
    obtain ⟨b2, H⟩ := Ev.aal rfl rfl hS.1 (fx_h14 a_L) qz_19 H
    have H : Ev none e 13 230 [some (.ref L), some (.ref Ot), some (.int k)] [.ref (oI M (L + 11) k)] M v M' 0 0 := H
    have H : Ev none e 13 231 [some (.ref L), some (.ref Ot), some (.int k)] [.ref Ot, .ref (oI M (L + 11) k)] M v M' 0 0 := Ev.back 1 (fun n => rfl) H
    have H : Ev none e 13 234 [some (.ref L), some (.ref Ot), some (.int k)] [.ref (Ot + 11), .ref (oI M (L + 11) k)] M v M' 0 0 := Ev.back 1 (gs_3 rfl rfl (gf_x hS.1 a_Ot qo_8 (fx_l14 hS a_Ot) rfl)) H
    have H : Ev none e 13 235 [some (.ref L), some (.ref Ot), some (.int k)] [.int k, .ref (Ot + 11), .ref (oI M (L + 11) k)] M v M' 0 0 := Ev.back 1 (fun n => rfl) H
    obtain ⟨b3, H⟩ := Ev.aal rfl rfl hS.1 (fx_h14 a_Ot) qz_19 H
    have H : Ev none e 13 236 [some (.ref L), some (.ref Ot), some (.int k)] [.ref (oI M (Ot + 11) k), .ref (oI M (L + 11) k)] M v M' 0 0 := H
    obtain ⟨e1, rfl⟩ := Ev.dpos rfl rfl H
    obtain ⟨vK4, MK4, K4, H⟩ := Ev.callb (fun n_ => gs_7 rfl rfl (show gCal (.invokevirtual 110) 1 (.ref (oI M (Ot + 11) k) :: .ref (oI M (L + 11) k) :: []) M = some (.inr (75, [some (.ref (oI M (L + 11) k)), some (.ref (oI M (Ot + 11) k))], [])) from by show @cond (Option ((List Value × Mem) ⊕ (Nat × Lo × List Value))) (true && gRecv M (.ref (oI M (L + 11) k)) 8 && gRoom [] && true) (some (.inr (75, [some (.ref (oI M (L + 11) k)), some (.ref (oI M (Ot + 11) k))], []))) none = _; rw [recv_s hS.1 b2.2 qo_21]; rfl)) H
    have K4 : Ev none e1 75 0 [some (.ref (oI M (L + 11) k)), some (.ref (oI M (Ot + 11) k))] [] M vK4 MK4 0 0 := K4
    have HF := H
    exact Or.inr (⟨h1, b2.1, b3.1, ⟨e1, vK4, MK4, rfl, K4, HF⟩⟩)
theorem cpy_239 {e : Nat} {M M' : Mem} {v : Option Value} {k : Int32} {L Ot : Nat} (hS : SQ M) (a_L : gNth sT L = some 8) (a_Ot : gNth sT Ot = some 8) (H : Ev none e 13 239 [some (.ref L), some (.ref Ot), some (.int k)] [] M v M' 0 0) : Ev none e 13 216 [some (.ref L), some (.ref Ot), some (.int (k + 1))] [] M v M' 0 0 := by
  have H : Ev none e 13 216 [some (.ref L), some (.ref Ot), some (.int (k + 1))] [] M v M' 0 0 := Ev.back 2 (fun n => rfl) H
  have HF := H
  exact HF
theorem cpy_245 {e : Nat} {M M' : Mem} {v : Option Value} {k : Int32} {L Ot : Nat} (hS : SQ M) (a_L : gNth sT L = some 8) (a_Ot : gNth sT Ot = some 8) (H : Ev none e 13 245 [some (.ref L), some (.ref Ot), some (.int k)] [] M v M' 0 0) : Ev none e 13 253 [some (.ref L), some (.ref Ot), some (.int k)] [] (wF M L 16 (zI M Ot 16)) v M' 0 0 := by
  have H : Ev none e 13 247 [some (.ref L), some (.ref Ot), some (.int k)] [.ref Ot, .ref L] M v M' 0 0 := Ev.back 2 (fun n => rfl) H
  have H : Ev none e 13 250 [some (.ref L), some (.ref Ot), some (.int k)] [.int (zI M Ot 16), .ref L] M v M' 0 0 := Ev.back 1 (gs_3 rfl rfl (gf_i hS.1 a_Ot qi_8_16 rfl)) H
  obtain ⟨N2, eN2⟩ : ∃ N, N = (wF M L 16 (zI M Ot 16)) := ⟨_, rfl⟩
  have hN2 : SQ N2 := by rw [eN2]; exact hS.kf
  have H : Ev none e 13 253 [some (.ref L), some (.ref Ot), some (.int k)] [] N2 v M' 0 0 := by rw [eN2]; exact Ev.pfi rfl rfl rfl hS.1 a_L qi_8_16 H
  have HF := H
  subst eN2
  exact HF
theorem cpy_253 {e : Nat} {M M' : Mem} {v : Option Value} {k : Int32} {L Ot : Nat} (hS : SQ M) (a_L : gNth sT L = some 8) (a_Ot : gNth sT Ot = some 8) (H : Ev none e 13 253 [some (.ref L), some (.ref Ot), some (.int k)] [] M v M' 0 0) : Ev none e 13 261 [some (.ref L), some (.ref Ot), some (.int k)] [] (wF M L 17 (zI M Ot 17)) v M' 0 0 := by
  have H : Ev none e 13 255 [some (.ref L), some (.ref Ot), some (.int k)] [.ref Ot, .ref L] M v M' 0 0 := Ev.back 2 (fun n => rfl) H
  have H : Ev none e 13 258 [some (.ref L), some (.ref Ot), some (.int k)] [.int (zI M Ot 17), .ref L] M v M' 0 0 := Ev.back 1 (gs_3 rfl rfl (gf_i hS.1 a_Ot qi_8_17 rfl)) H
  obtain ⟨N2, eN2⟩ : ∃ N, N = (wF M L 17 (zI M Ot 17)) := ⟨_, rfl⟩
  have hN2 : SQ N2 := by rw [eN2]; exact hS.kf
  have H : Ev none e 13 261 [some (.ref L), some (.ref Ot), some (.int k)] [] N2 v M' 0 0 := by rw [eN2]; exact Ev.pfi rfl rfl rfl hS.1 a_L qi_8_17 H
  have HF := H
  subst eN2
  exact HF
theorem cpy_261 {e : Nat} {M M' : Mem} {v : Option Value} {k : Int32} {L Ot : Nat} (hS : SQ M) (a_L : gNth sT L = some 8) (a_Ot : gNth sT Ot = some 8) (H : Ev none e 13 261 [some (.ref L), some (.ref Ot), some (.int k)] [] M v M' 0 0) : Ev none e 13 269 [some (.ref L), some (.ref Ot), some (.int k)] [] (wF M L 18 (zI M Ot 18)) v M' 0 0 := by
  have H : Ev none e 13 263 [some (.ref L), some (.ref Ot), some (.int k)] [.ref Ot, .ref L] M v M' 0 0 := Ev.back 2 (fun n => rfl) H
  have H : Ev none e 13 266 [some (.ref L), some (.ref Ot), some (.int k)] [.int (zI M Ot 18), .ref L] M v M' 0 0 := Ev.back 1 (gs_3 rfl rfl (gf_i hS.1 a_Ot qi_8_18 rfl)) H
  obtain ⟨N2, eN2⟩ : ∃ N, N = (wF M L 18 (zI M Ot 18)) := ⟨_, rfl⟩
  have hN2 : SQ N2 := by rw [eN2]; exact hS.kf
  have H : Ev none e 13 269 [some (.ref L), some (.ref Ot), some (.int k)] [] N2 v M' 0 0 := by rw [eN2]; exact Ev.pfi rfl rfl rfl hS.1 a_L qi_8_18 H
  have HF := H
  subst eN2
  exact HF
theorem cpy_269 {e : Nat} {M M' : Mem} {v : Option Value} {k : Int32} {L Ot : Nat} (hS : SQ M) (a_L : gNth sT L = some 8) (a_Ot : gNth sT Ot = some 8) (H : Ev none e 13 269 [some (.ref L), some (.ref Ot), some (.int k)] [] M v M' 0 0) : v = none ∧ M' = (wF M L 19 (zI M Ot 19)) := by
  have H : Ev none e 13 271 [some (.ref L), some (.ref Ot), some (.int k)] [.ref Ot, .ref L] M v M' 0 0 := Ev.back 2 (fun n => rfl) H
  have H : Ev none e 13 274 [some (.ref L), some (.ref Ot), some (.int k)] [.int (zI M Ot 19), .ref L] M v M' 0 0 := Ev.back 1 (gs_3 rfl rfl (gf_i hS.1 a_Ot qi_8_19 rfl)) H
  obtain ⟨N2, eN2⟩ : ∃ N, N = (wF M L 19 (zI M Ot 19)) := ⟨_, rfl⟩
  have hN2 : SQ N2 := by rw [eN2]; exact hS.kf
  have H : Ev none e 13 277 [some (.ref L), some (.ref Ot), some (.int k)] [] N2 v M' 0 0 := by rw [eN2]; exact Ev.pfi rfl rfl rfl hS.1 a_L qi_8_19 H
  obtain ⟨z1, z2⟩ := Ev.retb (fun n => rfl) H
  subst eN2
  exact ⟨z1, z2⟩
theorem cpx_0 {e : Nat} {M M' : Mem} {v : Option Value} {x y : Nat} (hS : SQ M) (a_x : gNth sT x = some 20) (a_y : gNth sT y = some 20) (H : Ev none e 77 0 [some (.ref x), some (.ref y)] [] M v M' 0 0) : v = none ∧ M' = (wF (wF (wF (wF (wF (wF M x 0 (zI M y 0)) x 1 (zI M y 1)) x 2 (zI M y 2)) x 3 (zI M y 3)) x 4 (zI M y 4)) x 5 (zI M y 5)) := by
  have H : Ev none e 77 2 [some (.ref x), some (.ref y)] [.ref y, .ref x] M v M' 0 0 := Ev.back 2 (fun n => rfl) H
  have H : Ev none e 77 5 [some (.ref x), some (.ref y)] [.int (zI M y 0), .ref x] M v M' 0 0 := Ev.back 1 (gs_3 rfl rfl (gf_i hS.1 a_y qi_20_0 rfl)) H
  obtain ⟨N2, eN2⟩ : ∃ N, N = (wF M x 0 (zI M y 0)) := ⟨_, rfl⟩
  have hN2 : SQ N2 := by rw [eN2]; exact hS.kf
  have H : Ev none e 77 8 [some (.ref x), some (.ref y)] [] N2 v M' 0 0 := by rw [eN2]; exact Ev.pfi rfl rfl rfl hS.1 a_x qi_20_0 H
  have H : Ev none e 77 10 [some (.ref x), some (.ref y)] [.ref y, .ref x] N2 v M' 0 0 := Ev.back 2 (fun n => rfl) H
  have H : Ev none e 77 13 [some (.ref x), some (.ref y)] [.int (zI N2 y 1), .ref x] N2 v M' 0 0 := Ev.back 1 (gs_3 rfl rfl (gf_i hN2.1 a_y qi_20_1 rfl)) H
  rw [show zI N2 y 1 = zI M y 1 from by rw [eN2]; exact fI_wF_ne (fun q => absurd q.2 (by decide))] at H
  obtain ⟨N4, eN4⟩ : ∃ N, N = (wF N2 x 1 (zI M y 1)) := ⟨_, rfl⟩
  have hN4 : SQ N4 := by rw [eN4]; exact hN2.kf
  have H : Ev none e 77 16 [some (.ref x), some (.ref y)] [] N4 v M' 0 0 := by rw [eN4]; exact Ev.pfi rfl rfl rfl hN2.1 a_x qi_20_1 H
  have H : Ev none e 77 18 [some (.ref x), some (.ref y)] [.ref y, .ref x] N4 v M' 0 0 := Ev.back 2 (fun n => rfl) H
  have H : Ev none e 77 21 [some (.ref x), some (.ref y)] [.int (zI N4 y 2), .ref x] N4 v M' 0 0 := Ev.back 1 (gs_3 rfl rfl (gf_i hN4.1 a_y qi_20_2 rfl)) H
  rw [(show zI N4 y 2 = zI N2 y 2 from by rw [eN4]; exact fI_wF_ne (fun q => absurd q.2 (by decide))).trans (show zI N2 y 2 = zI M y 2 from by rw [eN2]; exact fI_wF_ne (fun q => absurd q.2 (by decide)))] at H
  obtain ⟨N6, eN6⟩ : ∃ N, N = (wF N4 x 2 (zI M y 2)) := ⟨_, rfl⟩
  have hN6 : SQ N6 := by rw [eN6]; exact hN4.kf
  have H : Ev none e 77 24 [some (.ref x), some (.ref y)] [] N6 v M' 0 0 := by rw [eN6]; exact Ev.pfi rfl rfl rfl hN4.1 a_x qi_20_2 H
  have H : Ev none e 77 26 [some (.ref x), some (.ref y)] [.ref y, .ref x] N6 v M' 0 0 := Ev.back 2 (fun n => rfl) H
  have H : Ev none e 77 29 [some (.ref x), some (.ref y)] [.int (zI N6 y 3), .ref x] N6 v M' 0 0 := Ev.back 1 (gs_3 rfl rfl (gf_i hN6.1 a_y qi_20_3 rfl)) H
  rw [((show zI N6 y 3 = zI N4 y 3 from by rw [eN6]; exact fI_wF_ne (fun q => absurd q.2 (by decide))).trans (show zI N4 y 3 = zI N2 y 3 from by rw [eN4]; exact fI_wF_ne (fun q => absurd q.2 (by decide)))).trans (show zI N2 y 3 = zI M y 3 from by rw [eN2]; exact fI_wF_ne (fun q => absurd q.2 (by decide)))] at H
  obtain ⟨N8, eN8⟩ : ∃ N, N = (wF N6 x 3 (zI M y 3)) := ⟨_, rfl⟩
  have hN8 : SQ N8 := by rw [eN8]; exact hN6.kf
  have H : Ev none e 77 32 [some (.ref x), some (.ref y)] [] N8 v M' 0 0 := by rw [eN8]; exact Ev.pfi rfl rfl rfl hN6.1 a_x qi_20_3 H
  have H : Ev none e 77 34 [some (.ref x), some (.ref y)] [.ref y, .ref x] N8 v M' 0 0 := Ev.back 2 (fun n => rfl) H
  have H : Ev none e 77 37 [some (.ref x), some (.ref y)] [.int (zI N8 y 4), .ref x] N8 v M' 0 0 := Ev.back 1 (gs_3 rfl rfl (gf_i hN8.1 a_y qi_20_4 rfl)) H
  rw [(((show zI N8 y 4 = zI N6 y 4 from by rw [eN8]; exact fI_wF_ne (fun q => absurd q.2 (by decide))).trans (show zI N6 y 4 = zI N4 y 4 from by rw [eN6]; exact fI_wF_ne (fun q => absurd q.2 (by decide)))).trans (show zI N4 y 4 = zI N2 y 4 from by rw [eN4]; exact fI_wF_ne (fun q => absurd q.2 (by decide)))).trans (show zI N2 y 4 = zI M y 4 from by rw [eN2]; exact fI_wF_ne (fun q => absurd q.2 (by decide)))] at H
  obtain ⟨N10, eN10⟩ : ∃ N, N = (wF N8 x 4 (zI M y 4)) := ⟨_, rfl⟩
  have hN10 : SQ N10 := by rw [eN10]; exact hN8.kf
  have H : Ev none e 77 40 [some (.ref x), some (.ref y)] [] N10 v M' 0 0 := by rw [eN10]; exact Ev.pfi rfl rfl rfl hN8.1 a_x qi_20_4 H
  have H : Ev none e 77 42 [some (.ref x), some (.ref y)] [.ref y, .ref x] N10 v M' 0 0 := Ev.back 2 (fun n => rfl) H
  have H : Ev none e 77 45 [some (.ref x), some (.ref y)] [.int (zI N10 y 5), .ref x] N10 v M' 0 0 := Ev.back 1 (gs_3 rfl rfl (gf_i hN10.1 a_y qi_20_5 rfl)) H
  rw [((((show zI N10 y 5 = zI N8 y 5 from by rw [eN10]; exact fI_wF_ne (fun q => absurd q.2 (by decide))).trans (show zI N8 y 5 = zI N6 y 5 from by rw [eN8]; exact fI_wF_ne (fun q => absurd q.2 (by decide)))).trans (show zI N6 y 5 = zI N4 y 5 from by rw [eN6]; exact fI_wF_ne (fun q => absurd q.2 (by decide)))).trans (show zI N4 y 5 = zI N2 y 5 from by rw [eN4]; exact fI_wF_ne (fun q => absurd q.2 (by decide)))).trans (show zI N2 y 5 = zI M y 5 from by rw [eN2]; exact fI_wF_ne (fun q => absurd q.2 (by decide)))] at H
  obtain ⟨N12, eN12⟩ : ∃ N, N = (wF N10 x 5 (zI M y 5)) := ⟨_, rfl⟩
  have hN12 : SQ N12 := by rw [eN12]; exact hN10.kf
  have H : Ev none e 77 48 [some (.ref x), some (.ref y)] [] N12 v M' 0 0 := by rw [eN12]; exact Ev.pfi rfl rfl rfl hN10.1 a_x qi_20_5 H
  obtain ⟨z1, z2⟩ := Ev.retb (fun n => rfl) H
  subst eN2 eN4 eN6 eN8 eN10 eN12
  exact ⟨z1, z2⟩
theorem cpb_0 {e : Nat} {M M' : Mem} {v : Option Value} {b d : Nat} (hS : SQ M) (a_b : gNth sT b = some 21) (a_d : gNth sT d = some 21) (H : Ev none e 75 0 [some (.ref b), some (.ref d)] [] M v M' 0 0) : v = none ∧ M' = (wF (wF (wF (wF (wF M b 0 (zI M d 0)) b 1 (zI M d 1)) b 2 (zI M d 2)) b 3 (zI M d 3)) b 4 (zI M d 4)) := by
  have H : Ev none e 75 2 [some (.ref b), some (.ref d)] [.ref d, .ref b] M v M' 0 0 := Ev.back 2 (fun n => rfl) H
  have H : Ev none e 75 5 [some (.ref b), some (.ref d)] [.int (zI M d 0), .ref b] M v M' 0 0 := Ev.back 1 (gs_3 rfl rfl (gf_i hS.1 a_d qi_21_0 rfl)) H
  obtain ⟨N2, eN2⟩ : ∃ N, N = (wF M b 0 (zI M d 0)) := ⟨_, rfl⟩
  have hN2 : SQ N2 := by rw [eN2]; exact hS.kf
  have H : Ev none e 75 8 [some (.ref b), some (.ref d)] [] N2 v M' 0 0 := by rw [eN2]; exact Ev.pfi rfl rfl rfl hS.1 a_b qi_21_0 H
  have H : Ev none e 75 10 [some (.ref b), some (.ref d)] [.ref d, .ref b] N2 v M' 0 0 := Ev.back 2 (fun n => rfl) H
  have H : Ev none e 75 13 [some (.ref b), some (.ref d)] [.int (zI N2 d 1), .ref b] N2 v M' 0 0 := Ev.back 1 (gs_3 rfl rfl (gf_i hN2.1 a_d qi_21_1 rfl)) H
  rw [show zI N2 d 1 = zI M d 1 from by rw [eN2]; exact fI_wF_ne (fun q => absurd q.2 (by decide))] at H
  obtain ⟨N4, eN4⟩ : ∃ N, N = (wF N2 b 1 (zI M d 1)) := ⟨_, rfl⟩
  have hN4 : SQ N4 := by rw [eN4]; exact hN2.kf
  have H : Ev none e 75 16 [some (.ref b), some (.ref d)] [] N4 v M' 0 0 := by rw [eN4]; exact Ev.pfi rfl rfl rfl hN2.1 a_b qi_21_1 H
  have H : Ev none e 75 18 [some (.ref b), some (.ref d)] [.ref d, .ref b] N4 v M' 0 0 := Ev.back 2 (fun n => rfl) H
  have H : Ev none e 75 21 [some (.ref b), some (.ref d)] [.int (zI N4 d 2), .ref b] N4 v M' 0 0 := Ev.back 1 (gs_3 rfl rfl (gf_i hN4.1 a_d qi_21_2 rfl)) H
  rw [(show zI N4 d 2 = zI N2 d 2 from by rw [eN4]; exact fI_wF_ne (fun q => absurd q.2 (by decide))).trans (show zI N2 d 2 = zI M d 2 from by rw [eN2]; exact fI_wF_ne (fun q => absurd q.2 (by decide)))] at H
  obtain ⟨N6, eN6⟩ : ∃ N, N = (wF N4 b 2 (zI M d 2)) := ⟨_, rfl⟩
  have hN6 : SQ N6 := by rw [eN6]; exact hN4.kf
  have H : Ev none e 75 24 [some (.ref b), some (.ref d)] [] N6 v M' 0 0 := by rw [eN6]; exact Ev.pfi rfl rfl rfl hN4.1 a_b qi_21_2 H
  have H : Ev none e 75 26 [some (.ref b), some (.ref d)] [.ref d, .ref b] N6 v M' 0 0 := Ev.back 2 (fun n => rfl) H
  have H : Ev none e 75 29 [some (.ref b), some (.ref d)] [.int (zI N6 d 3), .ref b] N6 v M' 0 0 := Ev.back 1 (gs_3 rfl rfl (gf_i hN6.1 a_d qi_21_3 rfl)) H
  rw [((show zI N6 d 3 = zI N4 d 3 from by rw [eN6]; exact fI_wF_ne (fun q => absurd q.2 (by decide))).trans (show zI N4 d 3 = zI N2 d 3 from by rw [eN4]; exact fI_wF_ne (fun q => absurd q.2 (by decide)))).trans (show zI N2 d 3 = zI M d 3 from by rw [eN2]; exact fI_wF_ne (fun q => absurd q.2 (by decide)))] at H
  obtain ⟨N8, eN8⟩ : ∃ N, N = (wF N6 b 3 (zI M d 3)) := ⟨_, rfl⟩
  have hN8 : SQ N8 := by rw [eN8]; exact hN6.kf
  have H : Ev none e 75 32 [some (.ref b), some (.ref d)] [] N8 v M' 0 0 := by rw [eN8]; exact Ev.pfi rfl rfl rfl hN6.1 a_b qi_21_3 H
  have H : Ev none e 75 34 [some (.ref b), some (.ref d)] [.ref d, .ref b] N8 v M' 0 0 := Ev.back 2 (fun n => rfl) H
  have H : Ev none e 75 37 [some (.ref b), some (.ref d)] [.int (zI N8 d 4), .ref b] N8 v M' 0 0 := Ev.back 1 (gs_3 rfl rfl (gf_i hN8.1 a_d qi_21_4 rfl)) H
  rw [(((show zI N8 d 4 = zI N6 d 4 from by rw [eN8]; exact fI_wF_ne (fun q => absurd q.2 (by decide))).trans (show zI N6 d 4 = zI N4 d 4 from by rw [eN6]; exact fI_wF_ne (fun q => absurd q.2 (by decide)))).trans (show zI N4 d 4 = zI N2 d 4 from by rw [eN4]; exact fI_wF_ne (fun q => absurd q.2 (by decide)))).trans (show zI N2 d 4 = zI M d 4 from by rw [eN2]; exact fI_wF_ne (fun q => absurd q.2 (by decide)))] at H
  obtain ⟨N10, eN10⟩ : ∃ N, N = (wF N8 b 4 (zI M d 4)) := ⟨_, rfl⟩
  have hN10 : SQ N10 := by rw [eN10]; exact hN8.kf
  have H : Ev none e 75 40 [some (.ref b), some (.ref d)] [] N10 v M' 0 0 := by rw [eN10]; exact Ev.pfi rfl rfl rfl hN8.1 a_b qi_21_4 H
  obtain ⟨z1, z2⟩ := Ev.retb (fun n => rfl) H
  subst eN2 eN4 eN6 eN8 eN10
  exact ⟨z1, z2⟩
theorem rnw_0 {e : Nat} {M M' : Mem} {v : Option Value} {wi de : Int32} {L : Nat} (hS : SQ M) (a_L : gNth sT L = some 8) (H : Ev none e 12 0 [some (.ref L), some (.int wi), some (.int de), some (.ref 1), none, none] [] M v M' 0 0) : Ev none e 12 13 [some (.ref L), some (.int wi), some (.int de), some (.ref 1), some (.int 0), none] [] (wF (wF M L 0 wi) L 1 de) v M' 0 0 := by
  have H : Ev none e 12 2 [some (.ref L), some (.int wi), some (.int de), some (.ref 1), none, none] [.int wi, .ref L] M v M' 0 0 := Ev.back 2 (fun n => rfl) H
  obtain ⟨N2, eN2⟩ : ∃ N, N = (wF M L 0 wi) := ⟨_, rfl⟩
  have hN2 : SQ N2 := by rw [eN2]; exact hS.kf
  have H : Ev none e 12 5 [some (.ref L), some (.int wi), some (.int de), some (.ref 1), none, none] [] N2 v M' 0 0 := by rw [eN2]; exact Ev.pfi rfl rfl rfl hS.1 a_L qi_8_0 H
  have H : Ev none e 12 7 [some (.ref L), some (.int wi), some (.int de), some (.ref 1), none, none] [.int de, .ref L] N2 v M' 0 0 := Ev.back 2 (fun n => rfl) H
  obtain ⟨N4, eN4⟩ : ∃ N, N = (wF N2 L 1 de) := ⟨_, rfl⟩
  have hN4 : SQ N4 := by rw [eN4]; exact hN2.kf
  have H : Ev none e 12 10 [some (.ref L), some (.int wi), some (.int de), some (.ref 1), none, none] [] N4 v M' 0 0 := by rw [eN4]; exact Ev.pfi rfl rfl rfl hN2.1 a_L qi_8_1 H
  have H : Ev none e 12 13 [some (.ref L), some (.int wi), some (.int de), some (.ref 1), some (.int 0), none] [] N4 v M' 0 0 := Ev.back 2 (fun n => rfl) H
  have HF := H
  subst eN2 eN4
  exact HF
theorem rnw_13 {e : Nat} {M M' : Mem} {v : Option Value} {wi de k : Int32} {L : Nat} {c5 : Option Value} (hS : SQ M) (a_L : gNth sT L = some 8) (H : Ev none e 12 13 [some (.ref L), some (.int wi), some (.int de), some (.ref 1), some (.int k), c5] [] M v M' 0 0) : (((zI M L 0) * (zI M L 1)) ≤ k ∧ Ev none e 12 86 [some (.ref L), some (.int wi), some (.int de), some (.ref 1), some (.int k), c5] [] M v M' 0 0) ∨ (¬ (((zI M L 0) * (zI M L 1)) ≤ k) ∧ 256 ≤ k ∧ Ev none e 12 86 [some (.ref L), some (.int wi), some (.int de), some (.ref 1), some (.int k), c5] [] M v M' 0 0) ∨ (¬ (((zI M L 0) * (zI M L 1)) ≤ k) ∧ ¬ (256 ≤ k) ∧ (0 ≤ k.toInt ∧ k.toInt < 440) ∧ (0 ≤ k.toInt ∧ k.toInt < 256) ∧ (0 ≤ k.toInt ∧ k.toInt < 256) ∧ (0 ≤ k.toInt ∧ k.toInt < 256) ∧ Ev none e 12 13 [some (.ref L), some (.int wi), some (.int de), some (.ref 1), some (.int (k + 1)), some (.int (rI M 2 k))] [] (wI (wI (wI M (L + 1) k.toNatClampNeg ((rI M 2 k) &&& 7)) (L + 2) k.toNatClampNeg (((rI M 2 k) >>> ((3 : Int32) &&& 31)) &&& 1)) (L + 3) k.toNatClampNeg ((rI M 2 k) >>> ((4 : Int32) &&& 31))) v M' 0 0) := by
  have H : Ev none e 12 16 [some (.ref L), some (.int wi), some (.int de), some (.ref 1), some (.int k), c5] [.ref L, .int k] M v M' 0 0 := Ev.back 2 (fun n => rfl) H
  have H : Ev none e 12 19 [some (.ref L), some (.int wi), some (.int de), some (.ref 1), some (.int k), c5] [.int (zI M L 0), .int k] M v M' 0 0 := Ev.back 1 (gs_3 rfl rfl (gf_i hS.1 a_L qi_8_0 rfl)) H
  have H : Ev none e 12 20 [some (.ref L), some (.int wi), some (.int de), some (.ref 1), some (.int k), c5] [.ref L, .int (zI M L 0), .int k] M v M' 0 0 := Ev.back 1 (fun n => rfl) H
  have H : Ev none e 12 23 [some (.ref L), some (.int wi), some (.int de), some (.ref 1), some (.int k), c5] [.int (zI M L 1), .int (zI M L 0), .int k] M v M' 0 0 := Ev.back 1 (gs_3 rfl rfl (gf_i hS.1 a_L qi_8_1 rfl)) H
  have H : Ev none e 12 (if ((zI M L 0) * (zI M L 1)) ≤ k then 86 else 27) [some (.ref L), some (.int wi), some (.int de), some (.ref 1), some (.int k), c5] [] M v M' 0 0 := Ev.back 2 (fun n => rfl) H
  by_cases h1 : ((zI M L 0) * (zI M L 1)) ≤ k
  · rw [if_pos h1] at H
    have HF := H
    exact Or.inl ⟨h1, HF⟩
  · rw [if_neg h1] at H
    have H : Ev none e 12 (if 256 ≤ k then 86 else 35) [some (.ref L), some (.int wi), some (.int de), some (.ref 1), some (.int k), c5] [] M v M' 0 0 := Ev.back 3 (fun n => rfl) H
    by_cases h2 : 256 ≤ k
    · rw [if_pos h2] at H
      have HF := H
      exact Or.inr (Or.inl ⟨h1, h2, HF⟩)
    · rw [if_neg h2] at H
      have H : Ev none e 12 36 [some (.ref L), some (.int wi), some (.int de), some (.ref 1), some (.int k), c5] [.ref 1] M v M' 0 0 := Ev.back 1 (fun n => rfl) H
      have H : Ev none e 12 39 [some (.ref L), some (.int wi), some (.int de), some (.ref 1), some (.int k), c5] [.ref 2] M v M' 0 0 := Ev.back 1 (gs_3 rfl rfl (gf_u hS.1 qa_1 qr_1_0 qu_2 rfl)) H
      have H : Ev none e 12 41 [some (.ref L), some (.int wi), some (.int de), some (.ref 1), some (.int k), c5] [.int k, .ref 2] M v M' 0 0 := Ev.back 1 (fun n => rfl) H
      obtain ⟨b3, H⟩ := Ev.ial rfl rfl hS.1 qa_2 qw_2 H
      have H : Ev none e 12 42 [some (.ref L), some (.int wi), some (.int de), some (.ref 1), some (.int k), c5] [.int (rI M 2 k)] M v M' 0 0 := H
      have H : Ev none e 12 45 [some (.ref L), some (.int wi), some (.int de), some (.ref 1), some (.int k), some (.int (rI M 2 k))] [.ref L] M v M' 0 0 := Ev.back 2 (fun n => rfl) H
      have H : Ev none e 12 48 [some (.ref L), some (.int wi), some (.int de), some (.ref 1), some (.int k), some (.int (rI M 2 k))] [.ref (L + 1)] M v M' 0 0 := Ev.back 1 (gs_3 rfl rfl (gf_x hS.1 a_L qo_8 (fx_l2 hS a_L) rfl)) H
      have H : Ev none e 12 55 [some (.ref L), some (.int wi), some (.int de), some (.ref 1), some (.int k), some (.int (rI M 2 k))] [.int ((rI M 2 k) &&& 7), .int k, .ref (L + 1)] M v M' 0 0 := Ev.back 4 (fun n => rfl) H
      obtain ⟨b4, H⟩ := Ev.ias rfl rfl hS.1 (fx_h2 a_L) qw_9 H
      obtain ⟨N5, eN5⟩ : ∃ N, N = (wI M (L + 1) k.toNatClampNeg ((rI M 2 k) &&& 7)) := ⟨_, rfl⟩
      have hN5 : SQ N5 := by rw [eN5]; exact hS.ki
      have H : Ev none e 12 56 [some (.ref L), some (.int wi), some (.int de), some (.ref 1), some (.int k), some (.int (rI M 2 k))] [] N5 v M' 0 0 := by rw [eN5]; exact H
      have H : Ev none e 12 57 [some (.ref L), some (.int wi), some (.int de), some (.ref 1), some (.int k), some (.int (rI M 2 k))] [.ref L] N5 v M' 0 0 := Ev.back 1 (fun n => rfl) H
      have H : Ev none e 12 60 [some (.ref L), some (.int wi), some (.int de), some (.ref 1), some (.int k), some (.int (rI M 2 k))] [.ref (L + 2)] N5 v M' 0 0 := Ev.back 1 (gs_3 rfl rfl (gf_x hN5.1 a_L qo_8 (fx_l3 hN5 a_L) rfl)) H
      have H : Ev none e 12 68 [some (.ref L), some (.int wi), some (.int de), some (.ref 1), some (.int k), some (.int (rI M 2 k))] [.int (((rI M 2 k) >>> ((3 : Int32) &&& 31)) &&& 1), .int k, .ref (L + 2)] N5 v M' 0 0 := Ev.back 6 (fun n => rfl) H
      obtain ⟨b6, H⟩ := Ev.ias rfl rfl hN5.1 (fx_h3 a_L) qw_10 H
      obtain ⟨N7, eN7⟩ : ∃ N, N = (wI N5 (L + 2) k.toNatClampNeg (((rI M 2 k) >>> ((3 : Int32) &&& 31)) &&& 1)) := ⟨_, rfl⟩
      have hN7 : SQ N7 := by rw [eN7]; exact hN5.ki
      have H : Ev none e 12 69 [some (.ref L), some (.int wi), some (.int de), some (.ref 1), some (.int k), some (.int (rI M 2 k))] [] N7 v M' 0 0 := by rw [eN7]; exact H
      have H : Ev none e 12 70 [some (.ref L), some (.int wi), some (.int de), some (.ref 1), some (.int k), some (.int (rI M 2 k))] [.ref L] N7 v M' 0 0 := Ev.back 1 (fun n => rfl) H
      have H : Ev none e 12 73 [some (.ref L), some (.int wi), some (.int de), some (.ref 1), some (.int k), some (.int (rI M 2 k))] [.ref (L + 3)] N7 v M' 0 0 := Ev.back 1 (gs_3 rfl rfl (gf_x hN7.1 a_L qo_8 (fx_l4 hN7 a_L) rfl)) H
      have H : Ev none e 12 79 [some (.ref L), some (.int wi), some (.int de), some (.ref 1), some (.int k), some (.int (rI M 2 k))] [.int ((rI M 2 k) >>> ((4 : Int32) &&& 31)), .int k, .ref (L + 3)] N7 v M' 0 0 := Ev.back 4 (fun n => rfl) H
      obtain ⟨b8, H⟩ := Ev.ias rfl rfl hN7.1 (fx_h4 a_L) qw_11 H
      obtain ⟨N9, eN9⟩ : ∃ N, N = (wI N7 (L + 3) k.toNatClampNeg ((rI M 2 k) >>> ((4 : Int32) &&& 31))) := ⟨_, rfl⟩
      have hN9 : SQ N9 := by rw [eN9]; exact hN7.ki
      have H : Ev none e 12 80 [some (.ref L), some (.int wi), some (.int de), some (.ref 1), some (.int k), some (.int (rI M 2 k))] [] N9 v M' 0 0 := by rw [eN9]; exact H
      have H : Ev none e 12 13 [some (.ref L), some (.int wi), some (.int de), some (.ref 1), some (.int (k + 1)), some (.int (rI M 2 k))] [] N9 v M' 0 0 := Ev.back 2 (fun n => rfl) H
      have HF := H
      subst eN5 eN7 eN9
      exact Or.inr (Or.inr (⟨h1, h2, b3, b4, b6, b8, HF⟩))
theorem rnw_86 {e : Nat} {M M' : Mem} {v : Option Value} {wi de k : Int32} {L : Nat} {c5 : Option Value} (hS : SQ M) (a_L : gNth sT L = some 8) (H : Ev none e 12 86 [some (.ref L), some (.int wi), some (.int de), some (.ref 1), some (.int k), c5] [] M v M' 0 0) : v = none ∧ M' = (wF (wF (wF (wF (wF (wF (wF (wA (wA (wA (wA (wA M (L + 4) 0) (L + 5) 0) (L + 6) 0) (L + 7) 0) (L + 8) 0) L 11 0) L 13 0) L 15 0) L 16 0) L 17 0) L 18 0) L 19 0) := by
  have H : Ev none e 12 87 [some (.ref L), some (.int wi), some (.int de), some (.ref 1), some (.int k), c5] [.ref L] M v M' 0 0 := Ev.back 1 (fun n => rfl) H
  have H : Ev none e 12 90 [some (.ref L), some (.int wi), some (.int de), some (.ref 1), some (.int k), c5] [.ref (L + 4)] M v M' 0 0 := Ev.back 1 (gs_3 rfl rfl (gf_x hS.1 a_L qo_8 (fx_l5 hS a_L) rfl)) H
  have H : Ev none e 12 91 [some (.ref L), some (.int wi), some (.int de), some (.ref 1), some (.int k), c5] [.int 0, .ref (L + 4)] M v M' 0 0 := Ev.back 1 (fun n => rfl) H
  have H := Ev.fil rfl rfl (fun _ _ => rfl) hS.1 (fx_h5 a_L) qw_12 H
  obtain ⟨N1, eN1⟩ : ∃ N, N = (wA M (L + 4) 0) := ⟨_, rfl⟩
  have hN1 : SQ N1 := by rw [eN1]; exact hS.ka
  have H : Ev none e 12 94 [some (.ref L), some (.int wi), some (.int de), some (.ref 1), some (.int k), c5] [] N1 v M' 0 0 := by rw [eN1]; exact H
  have H : Ev none e 12 95 [some (.ref L), some (.int wi), some (.int de), some (.ref 1), some (.int k), c5] [.ref L] N1 v M' 0 0 := Ev.back 1 (fun n => rfl) H
  have H : Ev none e 12 98 [some (.ref L), some (.int wi), some (.int de), some (.ref 1), some (.int k), c5] [.ref (L + 5)] N1 v M' 0 0 := Ev.back 1 (gs_3 rfl rfl (gf_x hN1.1 a_L qo_8 (fx_l6 hN1 a_L) rfl)) H
  have H : Ev none e 12 99 [some (.ref L), some (.int wi), some (.int de), some (.ref 1), some (.int k), c5] [.int 0, .ref (L + 5)] N1 v M' 0 0 := Ev.back 1 (fun n => rfl) H
  have H := Ev.fil rfl rfl (fun _ _ => rfl) hN1.1 (fx_h6 a_L) qw_13 H
  obtain ⟨N2, eN2⟩ : ∃ N, N = (wA N1 (L + 5) 0) := ⟨_, rfl⟩
  have hN2 : SQ N2 := by rw [eN2]; exact hN1.ka
  have H : Ev none e 12 102 [some (.ref L), some (.int wi), some (.int de), some (.ref 1), some (.int k), c5] [] N2 v M' 0 0 := by rw [eN2]; exact H
  have H : Ev none e 12 103 [some (.ref L), some (.int wi), some (.int de), some (.ref 1), some (.int k), c5] [.ref L] N2 v M' 0 0 := Ev.back 1 (fun n => rfl) H
  have H : Ev none e 12 106 [some (.ref L), some (.int wi), some (.int de), some (.ref 1), some (.int k), c5] [.ref (L + 6)] N2 v M' 0 0 := Ev.back 1 (gs_3 rfl rfl (gf_x hN2.1 a_L qo_8 (fx_l7 hN2 a_L) rfl)) H
  have H : Ev none e 12 107 [some (.ref L), some (.int wi), some (.int de), some (.ref 1), some (.int k), c5] [.int 0, .ref (L + 6)] N2 v M' 0 0 := Ev.back 1 (fun n => rfl) H
  have H := Ev.fil rfl rfl (fun _ _ => rfl) hN2.1 (fx_h7 a_L) qw_14 H
  obtain ⟨N3, eN3⟩ : ∃ N, N = (wA N2 (L + 6) 0) := ⟨_, rfl⟩
  have hN3 : SQ N3 := by rw [eN3]; exact hN2.ka
  have H : Ev none e 12 110 [some (.ref L), some (.int wi), some (.int de), some (.ref 1), some (.int k), c5] [] N3 v M' 0 0 := by rw [eN3]; exact H
  have H : Ev none e 12 111 [some (.ref L), some (.int wi), some (.int de), some (.ref 1), some (.int k), c5] [.ref L] N3 v M' 0 0 := Ev.back 1 (fun n => rfl) H
  have H : Ev none e 12 114 [some (.ref L), some (.int wi), some (.int de), some (.ref 1), some (.int k), c5] [.ref (L + 7)] N3 v M' 0 0 := Ev.back 1 (gs_3 rfl rfl (gf_x hN3.1 a_L qo_8 (fx_l8 hN3 a_L) rfl)) H
  have H : Ev none e 12 115 [some (.ref L), some (.int wi), some (.int de), some (.ref 1), some (.int k), c5] [.int 0, .ref (L + 7)] N3 v M' 0 0 := Ev.back 1 (fun n => rfl) H
  have H := Ev.fil rfl rfl (fun _ _ => rfl) hN3.1 (fx_h8 a_L) qw_15 H
  obtain ⟨N4, eN4⟩ : ∃ N, N = (wA N3 (L + 7) 0) := ⟨_, rfl⟩
  have hN4 : SQ N4 := by rw [eN4]; exact hN3.ka
  have H : Ev none e 12 118 [some (.ref L), some (.int wi), some (.int de), some (.ref 1), some (.int k), c5] [] N4 v M' 0 0 := by rw [eN4]; exact H
  have H : Ev none e 12 119 [some (.ref L), some (.int wi), some (.int de), some (.ref 1), some (.int k), c5] [.ref L] N4 v M' 0 0 := Ev.back 1 (fun n => rfl) H
  have H : Ev none e 12 122 [some (.ref L), some (.int wi), some (.int de), some (.ref 1), some (.int k), c5] [.ref (L + 8)] N4 v M' 0 0 := Ev.back 1 (gs_3 rfl rfl (gf_x hN4.1 a_L qo_8 (fx_l9 hN4 a_L) rfl)) H
  have H : Ev none e 12 123 [some (.ref L), some (.int wi), some (.int de), some (.ref 1), some (.int k), c5] [.int 0, .ref (L + 8)] N4 v M' 0 0 := Ev.back 1 (fun n => rfl) H
  have H := Ev.fil rfl rfl (fun _ _ => rfl) hN4.1 (fx_h9 a_L) qw_16 H
  obtain ⟨N5, eN5⟩ : ∃ N, N = (wA N4 (L + 8) 0) := ⟨_, rfl⟩
  have hN5 : SQ N5 := by rw [eN5]; exact hN4.ka
  have H : Ev none e 12 126 [some (.ref L), some (.int wi), some (.int de), some (.ref 1), some (.int k), c5] [] N5 v M' 0 0 := by rw [eN5]; exact H
  have H : Ev none e 12 128 [some (.ref L), some (.int wi), some (.int de), some (.ref 1), some (.int k), c5] [.int 0, .ref L] N5 v M' 0 0 := Ev.back 2 (fun n => rfl) H
  obtain ⟨N7, eN7⟩ : ∃ N, N = (wF N5 L 11 0) := ⟨_, rfl⟩
  have hN7 : SQ N7 := by rw [eN7]; exact hN5.kf
  have H : Ev none e 12 131 [some (.ref L), some (.int wi), some (.int de), some (.ref 1), some (.int k), c5] [] N7 v M' 0 0 := by rw [eN7]; exact Ev.pfi rfl rfl rfl hN5.1 a_L qi_8_11 H
  have H : Ev none e 12 133 [some (.ref L), some (.int wi), some (.int de), some (.ref 1), some (.int k), c5] [.int 0, .ref L] N7 v M' 0 0 := Ev.back 2 (fun n => rfl) H
  obtain ⟨N9, eN9⟩ : ∃ N, N = (wF N7 L 13 0) := ⟨_, rfl⟩
  have hN9 : SQ N9 := by rw [eN9]; exact hN7.kf
  have H : Ev none e 12 136 [some (.ref L), some (.int wi), some (.int de), some (.ref 1), some (.int k), c5] [] N9 v M' 0 0 := by rw [eN9]; exact Ev.pfi rfl rfl rfl hN7.1 a_L qi_8_13 H
  have H : Ev none e 12 138 [some (.ref L), some (.int wi), some (.int de), some (.ref 1), some (.int k), c5] [.int 0, .ref L] N9 v M' 0 0 := Ev.back 2 (fun n => rfl) H
  obtain ⟨N11, eN11⟩ : ∃ N, N = (wF N9 L 15 0) := ⟨_, rfl⟩
  have hN11 : SQ N11 := by rw [eN11]; exact hN9.kf
  have H : Ev none e 12 141 [some (.ref L), some (.int wi), some (.int de), some (.ref 1), some (.int k), c5] [] N11 v M' 0 0 := by rw [eN11]; exact Ev.pfi rfl rfl rfl hN9.1 a_L qi_8_15 H
  have H : Ev none e 12 143 [some (.ref L), some (.int wi), some (.int de), some (.ref 1), some (.int k), c5] [.int 0, .ref L] N11 v M' 0 0 := Ev.back 2 (fun n => rfl) H
  obtain ⟨N13, eN13⟩ : ∃ N, N = (wF N11 L 16 0) := ⟨_, rfl⟩
  have hN13 : SQ N13 := by rw [eN13]; exact hN11.kf
  have H : Ev none e 12 146 [some (.ref L), some (.int wi), some (.int de), some (.ref 1), some (.int k), c5] [] N13 v M' 0 0 := by rw [eN13]; exact Ev.pfi rfl rfl rfl hN11.1 a_L qi_8_16 H
  have H : Ev none e 12 148 [some (.ref L), some (.int wi), some (.int de), some (.ref 1), some (.int k), c5] [.int 0, .ref L] N13 v M' 0 0 := Ev.back 2 (fun n => rfl) H
  obtain ⟨N15, eN15⟩ : ∃ N, N = (wF N13 L 17 0) := ⟨_, rfl⟩
  have hN15 : SQ N15 := by rw [eN15]; exact hN13.kf
  have H : Ev none e 12 151 [some (.ref L), some (.int wi), some (.int de), some (.ref 1), some (.int k), c5] [] N15 v M' 0 0 := by rw [eN15]; exact Ev.pfi rfl rfl rfl hN13.1 a_L qi_8_17 H
  have H : Ev none e 12 153 [some (.ref L), some (.int wi), some (.int de), some (.ref 1), some (.int k), c5] [.int 0, .ref L] N15 v M' 0 0 := Ev.back 2 (fun n => rfl) H
  obtain ⟨N17, eN17⟩ : ∃ N, N = (wF N15 L 18 0) := ⟨_, rfl⟩
  have hN17 : SQ N17 := by rw [eN17]; exact hN15.kf
  have H : Ev none e 12 156 [some (.ref L), some (.int wi), some (.int de), some (.ref 1), some (.int k), c5] [] N17 v M' 0 0 := by rw [eN17]; exact Ev.pfi rfl rfl rfl hN15.1 a_L qi_8_18 H
  have H : Ev none e 12 158 [some (.ref L), some (.int wi), some (.int de), some (.ref 1), some (.int k), c5] [.int 0, .ref L] N17 v M' 0 0 := Ev.back 2 (fun n => rfl) H
  obtain ⟨N19, eN19⟩ : ∃ N, N = (wF N17 L 19 0) := ⟨_, rfl⟩
  have hN19 : SQ N19 := by rw [eN19]; exact hN17.kf
  have H : Ev none e 12 161 [some (.ref L), some (.int wi), some (.int de), some (.ref 1), some (.int k), c5] [] N19 v M' 0 0 := by rw [eN19]; exact Ev.pfi rfl rfl rfl hN17.1 a_L qi_8_19 H
  obtain ⟨z1, z2⟩ := Ev.retb (fun n => rfl) H
  subst eN1 eN2 eN3 eN4 eN5 eN7 eN9 eN11 eN13 eN15 eN17 eN19
  exact ⟨z1, z2⟩
