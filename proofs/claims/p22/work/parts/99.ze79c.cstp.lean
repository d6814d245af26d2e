/-! ONE WALKER'S STEP, in the class -/
section STP
variable {e L : Nat} {T : TS} {g q : TQ} {P P' : PK} {M M1 M' : Mem} {v : Option Value} {c d : Int32} {n i k b B : Nat} {s : List Nat}
theorem up_comm {i j : Nat} {x y : Int32} (h : i ≠ j) : uPk (uPk P i x) j y = uPk (uPk P j y) i x := by
  funext m
  by_cases h1 : m = i
  · subst h1
    rw [up_ne h, up_eq, up_eq]
  · rw [up_ne h1]
    by_cases h2 : m = j
    · subst h2
      rw [up_eq, up_eq]
    · rw [up_ne h2, up_ne h2, up_ne h1]
theorem trd_up {i : Nat} {x : Int32} (hi : i < 522) : trdP g (uPk P i x) c = uPk (trdP g P c) i x := by
  have hE : ∀ (Q : PK) f c', cE (uPk Q i x) f c' = cE Q f c' := fun Q f c' => cE_lo hi
  have hne : ∀ f, i ≠ cX f c := fun f => by have := cX_ge (f := f) (c := c); omega
  have hg : grnB (uPk P i x) c = grnB P c := by unfold grnB; rw [hE]
  have hf : ∀ ls, fstL g (uPk P i x) 0 c 5 ls = fstL g P 0 c 5 ls := fst_cong (fun f _ => hE P f c)
  have hw : weaP g (uPk P i x) c = uPk (weaP g P c) i x := by
    unfold weaP
    rw [hg, hE, hf]
    split
    · rw [up_comm (hne 3)]
    · rfl
  unfold trdP
  rw [hw, hE, up_comm (hne 5), hE, up_comm (hne 6)]
theorem mov_age : movP (ageP P k) k d = ageP (movP P k d) k := by
  funext j
  have ea : ageP P k (158 + 6 * k) = P (158 + 6 * k) := up_ne (by omega)
  have e0 : ageP P k 0 = P 0 := up_ne (by omega)
  have e1 : ageP P k 1 = P 1 := up_ne (by omega)
  have eb : ∀ c, besP (ageP P k) c d = besP P c d := fun c => bes_eq e0 e1
  by_cases h2 : j = 158 + 6 * k + 2
  · rw [h2]
    have l : ∀ Q : PK, movP Q k d (158 + 6 * k + 2) = Q (158 + 6 * k + 2) := fun Q => by
      unfold movP
      rw [up_ne (by omega), up_ne (by omega), up_ne (by omega)]
    have r : ageP (movP P k d) k (158 + 6 * k + 2) = movP P k d (158 + 6 * k + 2) + 1 := up_eq
    rw [l, r, l]
    exact up_eq
  · have r : ageP (movP P k d) k j = movP P k d j := up_ne h2
    have hj : ageP P k j = P j := up_ne h2
    rw [r]
    unfold movP
    rw [ea, eb]
    by_cases h0 : j = 158 + 6 * k
    · rw [h0, up_eq, up_eq]
    · rw [up_ne h0, up_ne h0]
      by_cases h4 : j = 158 + 6 * k + 4
      · rw [h4, up_eq, up_eq]
      · rw [up_ne h4, up_ne h4]
        by_cases h3 : j = 158 + 6 * k + 3
        · rw [h3, up_eq, up_eq]
        · rw [up_ne h3, up_ne h3, hj]
/-- the order of a step's parts is all one -/
theorem stp_alt {p : PS} (hk : k < 60) (hd : ¬ dirP T p.1 k < 0) : stpP T p k = (ageP (trdP (T 0) (movP p.1 k (dirP T p.1 k)) (besP p.1 (p.1 (158 + 6 * k)) (dirP T p.1 k))) k, besP p.1 (p.1 (158 + 6 * k)) (dirP T p.1 k) :: p.2) := by
  have key : ∀ (D C : Int32), trdP (T 0) (ageP (movP p.1 k D) k) C = ageP (trdP (T 0) (movP p.1 k D) C) k := fun D C => by
    have h1 : movP p.1 k D (158 + 6 * k + 2) = trdP (T 0) (movP p.1 k D) C (158 + 6 * k + 2) := (trd_lo (by omega)).symm
    unfold ageP
    rw [trd_up (by omega), h1]
  unfold stpP
  rw [if_neg hd, mov_age, key]
theorem MDW.cur (h : MDW L P M n i s) (hk : WKs L M) (hin : i < n) (h15 : zI M' L 15 = zI M L 15) (ho : ∀ j, oN M' (L + 11) j = oN M (L + 11) j) (hz : ∀ b f, L + 36 ≤ b → b < L + 96 → b ≠ oN M (L + 11) i → zI M' b f = zI M b f) (hp : ∀ j, 157 ≤ j → j < 518 → ¬ (158 + 6 * s.length ≤ j ∧ j < 158 + 6 * s.length + 6) → P' j = P j) (hc : WFq (oN M (L + 11) i) P' s.length M') : MDW L P' M' n i s := by
  obtain ⟨a1, a2, a3, a4, a5, a6, a7, a8⟩ := h
  have hs := sort_len a8 (fun t j ht => (a5 t j ht).1)
  refine ⟨h15.trans a1, a2, a3, by rw [hp 157 (by decide) (by decide) (by omega)]; exact a4, fun t j ht => ?_, fun j h1 h2 => ?_, fun j h1 h2 => ?_, a8⟩
  · obtain ⟨q1, q2⟩ := a5 t j ht
    have hb := hk.2 j (by omega)
    have hne : oN M (L + 11) j ≠ oN M (L + 11) i := fun q => by have := hk.1 j i (by omega) (by omega) q; omega
    have hl := (List.getElem?_eq_some_iff.mp ht).1
    rw [ho]
    exact ⟨q1, q2.eq (fun f _ => hz _ f hb.1 hb.2 hne) (fun f hf => hp _ (by omega) (by omega) (by omega))⟩
  · have hb := hk.2 j (by omega)
    rw [ho]
    by_cases hj : j = i
    · subst hj
      rw [Nat.sub_self, Nat.add_zero]
      exact hc
    · have hne : oN M (L + 11) j ≠ oN M (L + 11) i := fun q => hj (hk.1 j i (by omega) (by omega) q)
      exact (a6 j h1 h2).eq (fun f _ => hz _ f hb.1 hb.2 hne) (fun f hf => hp _ (by omega) (by omega) (by omega))
  · have hb := hk.2 j (by omega)
    have hne : oN M (L + 11) j ≠ oN M (L + 11) i := fun q => by have := hk.1 j i (by omega) (by omega) q; omega
    rw [ho, hz _ 0 hb.1 hb.2 hne]
    exact a7 j h1 h2
theorem MDW.stay (h : MDW L P M n i s) (hin : i < n) : MDW L P M n (i + 1) (s ++ [i]) := by
  obtain ⟨a1, a2, a3, a4, a5, a6, a7, a8⟩ := h
  have hl : (s ++ [i]).length = s.length + 1 := by rw [List.length_append]; rfl
  have hget : ∀ t j : Nat, (s ++ [i])[t]? = some j → s[t]? = some j ∨ (t = s.length ∧ j = i) := fun t j ht => by
    rcases Nat.lt_trichotomy t s.length with h | h | h
    · rw [List.getElem?_append_left h] at ht
      exact Or.inl ht
    · subst h
      rw [List.getElem?_append_right (Nat.le_refl _), Nat.sub_self] at ht
      exact Or.inr ⟨rfl, (Option.some.inj ht).symm⟩
    · rw [List.getElem?_eq_none (by rw [hl]; omega)] at ht
      cases ht
  refine ⟨a1, a2, hin, by rw [hl, a4]; omega, fun t j ht => ?_, fun j h1 h2 => ?_, fun j h1 h2 => ?_, fun t t' j j' htt ht ht' => ?_⟩
  · rcases hget t j ht with q | ⟨rfl, rfl⟩
    · obtain ⟨q1, q2⟩ := a5 t j q
      exact ⟨by omega, q2⟩
    · have := a6 j (Nat.le_refl _) hin
      rw [Nat.sub_self, Nat.add_zero] at this
      exact ⟨by omega, this⟩
  · have := a6 j (by omega) h2
    rw [hl, show s.length + 1 + (j - (i + 1)) = s.length + (j - i) from by omega]
    exact this
  · refine a7 j ?_ (fun q => h2 (List.mem_append_left _ q))
    have : j ≠ i := fun q => h2 (by rw [q]; exact List.mem_append_right _ (List.mem_singleton.mpr rfl))
    omega
  · rcases hget t j ht with q | ⟨rfl, rfl⟩
    · rcases hget t' j' ht' with q' | ⟨rfl, rfl⟩
      · exact a8 t t' j j' htt q q'
      · exact (a5 t j q).1
    · rcases hget t' j' ht' with q' | ⟨rfl, rfl⟩
      · have := (List.getElem?_eq_some_iff.mp q').1
        omega
      · omega
theorem MDW.gone (h : MDW L P M n i s) (hk : WKs L M) (hin : i < n) (h15 : zI M' L 15 = zI M L 15) (ho : ∀ j, oN M' (L + 11) j = oN M (L + 11) j) (hz : ∀ b f, L + 36 ≤ b → b < L + 96 → b ≠ oN M (L + 11) i → zI M' b f = zI M b f) (hc : zI M' (oN M (L + 11) i) 0 = -1) : MDW L (leaP P s.length) M' n (i + 1) s := by
  obtain ⟨a1, a2, a3, a4, a5, a6, a7, a8⟩ := h
  have hs := sort_len a8 (fun t j ht => (a5 t j ht).1)
  have t1 : (1 : Int32).toInt = 1 := rfl
  have em : (P 157 - 1).toInt = (s.length : Int) + ((n : Int) - (i : Int)) - 1 := by
    rw [i32_sub (by omega) (by omega), a4, t1]
  have lo : ∀ t f, t < s.length → f < 6 → leaP P s.length (158 + 6 * t + f) = P (158 + 6 * t + f) := fun t f ht hf => by
    unfold leaP
    rw [if_neg (by omega), if_neg (by omega), if_neg (by omega)]
  have hi : ∀ t f, s.length ≤ t → (t : Int) < (P 157 - 1).toInt → f < 6 → leaP P s.length (158 + 6 * t + f) = P (158 + 6 * (t + 1) + f) := fun t f ht h2 hf => by
    unfold leaP
    rw [if_neg (by omega), if_pos ⟨by omega, by omega⟩]
    congr 1
    omega
  refine ⟨h15.trans a1, a2, hin, ?_, fun t j ht => ?_, fun j h1 h2 => ?_, fun j h1 h2 => ?_, a8⟩
  · have e : leaP P s.length 157 = P 157 - 1 := by
      unfold leaP
      rw [if_pos rfl]
    rw [e, em]
    omega
  · obtain ⟨q1, q2⟩ := a5 t j ht
    have hb := hk.2 j (by omega)
    have hne : oN M (L + 11) j ≠ oN M (L + 11) i := fun q => by have := hk.1 j i (by omega) (by omega) q; omega
    have hl := (List.getElem?_eq_some_iff.mp ht).1
    rw [ho]
    exact ⟨by omega, q2.eq (fun f _ => hz _ f hb.1 hb.2 hne) (fun f hf => lo t f hl (by omega))⟩
  · have hb := hk.2 j (by omega)
    have hne : oN M (L + 11) j ≠ oN M (L + 11) i := fun q => by have := hk.1 j i (by omega) (by omega) q; omega
    rw [ho]
    obtain ⟨q1, q2, q3, q4, q5⟩ := a6 j (by omega) h2
    have hx : ∀ f, f < 6 → leaP P s.length (158 + 6 * (s.length + (j - (i + 1))) + f) = P (158 + 6 * (s.length + (j - i)) + f) := fun f hf => by
      rw [hi _ f (by omega) (by rw [em]; omega) hf]
      congr 1
      omega
    refine ⟨?_, ?_, ?_, ?_, ?_⟩
    · rw [hz _ 0 hb.1 hb.2 hne, q1]; exact (hx 0 (by decide)).symm
    · rw [hz _ 1 hb.1 hb.2 hne, q2]; exact (hx 1 (by decide)).symm
    · rw [hz _ 2 hb.1 hb.2 hne, q3]; exact (hx 2 (by decide)).symm
    · rw [hz _ 3 hb.1 hb.2 hne, q4]; exact (hx 4 (by decide)).symm
    · rw [hz _ 4 hb.1 hb.2 hne, q5]; exact (hx 3 (by decide)).symm
  · rw [ho]
    by_cases hj : j = i
    · subst hj
      exact hc
    · have hb := hk.2 j (by omega)
      have hne : oN M (L + 11) j ≠ oN M (L + 11) i := fun q => hj (hk.1 j i (by omega) (by omega) q)
      rw [hz _ 0 hb.1 hb.2 hne]
      exact a7 j (by omega) h2
theorem crow_up (hS : SH M) (hL : gNth sT L = some 8) (hw : wh4 P) {h x : Int32} (hh : inC P h) (hc : inC P c) : rI (wI M (L + 8) h.toNatClampNeg x) (L + 8) c = if c = h then x else rI M (L + 8) c := by
  obtain ⟨_, c256, _⟩ := cls_int hw
  have e : ∀ z : Int32, z.toNatClampNeg = z.toInt.toNat := fun _ => rfl
  unfold rI
  rw [e, e]
  by_cases hx : c = h
  · subst hx
    rw [if_pos rfl, rN_wI_eq (by rw [ld_rw8 hS hL 7 (by decide)]; have := hc.2; omega)]
  · rw [if_neg hx, rN_wI_ne (fun q => hx (Int32.toInt_inj.mp (by have := Int.toNat_of_nonneg hh.1; have := Int.toNat_of_nonneg hc.1; omega)))]
theorem wk_t (hS : SH M) (hL : gNth sT L = some 8) {j : Nat} (hj : j < 60) : gNth sT (oN M (L + 11) j) = some 21 := ((hS.ror (fx_h14 hL) qz_19).2.2 j hj).2
theorem STA.sq (h : STA L T P M) : SQ M := h.1.1.1
theorem STA.ld (h : STA L T P M) : gNth sT L = some 8 := h.1.1.2.2.1
theorem STA.lw (h : STA L T P M) : fR M 104 7 = L := h.1.1.2.1
theorem STA.wh (h : STA L T P M) : wh4 P := h.1.2.1
theorem STA.nn (h : STA L T P M) : ∀ c, inC P c → nnC P c := h.1.2.2.1
theorem STA.cel (h : STA L T P M) : LCel L P M := h.1.1.2.2.2.2.2.2
theorem STA.crd (h : STA L T P M) : ∀ c, inC P c → rI M (L + 8) c = crdP P c (P 157).toInt.toNat := h.1.2.2.2.2.2.2.2
/-- the class's crowd rows: no cell row of the land, no row of what was seen -/
theorem LCel.fz {F : Nat → Nat → Prop} {W O : Nat → Prop} (h : LCel L P M) (hF : FZ F W O M M') (hw : ∀ f, f < 7 → ¬ W (L + 1 + f)) (h0 : P' 0 = P 0) (h1 : P' 1 = P 1) (hs : ∀ j, 522 ≤ j → P' j = P j) : LCel L P' M' := by
  intro k f hk hf
  rw [cls_eq h0 h1] at hk
  rw [hF.rn (hw f hf), h k f hk hf]
  exact (hs _ (by omega)).symm
def crO (L a : Nat) : Prop := a = L + 8
def bF (b a _k : Nat) : Prop := a = b
/-- a walker moves: its object, the crowd, P -/
theorem mov_ok (h : STA L T P M) (hD : okD P) (hK : okK P) (hm : MDW L P M n i s) (hin : i < n) (hd0 : 0 ≤ d.toInt) (hd1 : d.toInt < 8) (hto : inC P (besP P (P (158 + 6 * s.length)) d)) (H : Ev none e 74 0 [some (.ref (oN M (L + 11) i)), some (.int (besP P (P (158 + 6 * s.length)) d)), some (.int d)] [] (wI M (L + 8) (P (158 + 6 * s.length)).toNatClampNeg (crdP P (P (158 + 6 * s.length)) (P 157).toInt.toNat - 1)) v M1 0 0) : v = none ∧ SQ M1 ∧ zI M1 (oN M (L + 11) i) 0 = besP P (P (158 + 6 * s.length)) d ∧ fR M1 104 7 = L ∧ (∀ M3, M3 = wI M1 (L + 8) (besP P (P (158 + 6 * s.length)) d).toNatClampNeg (rI M1 (L + 8) (besP P (P (158 + 6 * s.length)) d) + 1) → STA L T (movP P s.length d) M3 ∧ MDW L (movP P s.length d) M3 n i s ∧ okK (movP P s.length d) ∧ FZ (gwF L) (gwW L) (gwO L) M M3 ∧ (∀ k, zI M3 104 k = zI M 104 k) ∧ ∀ j, oN M3 (L + 11) j = oN M (L + 11) j) := by
  have hS := h.sq
  have hL := h.ld
  have hw := h.wh
  have hWK := h.2.2.2.2.2.1
  obtain ⟨a1, a2, a3, a4, a5, a6, a7, a8⟩ := id hm
  have hs := sort_len a8 (fun t j ht => (a5 t j ht).1)
  have hb := hWK.2 i (by omega)
  have hbt := wk_t hS.1 hL (j := i) (by omega)
  obtain ⟨k0, k60, kk⟩ := hK
  have hks : s.length < (P 157).toInt.toNat := by omega
  obtain ⟨kh, kw1, kw2, kwy⟩ := kk s.length hks
  have hcur : WFq (oN M (L + 11) i) P s.length M := by
    have := a6 i (Nat.le_refl _) hin
    rw [Nat.sub_self] at this
    exact this
  obtain ⟨here, eh⟩ : ∃ x, x = P (158 + 6 * s.length) := ⟨_, rfl⟩
  obtain ⟨to, et⟩ : ∃ x, x = besP P (P (158 + 6 * s.length)) d := ⟨_, rfl⟩
  rw [← et] at hto H ⊢
  rw [← eh] at H kh
  obtain ⟨b, eb⟩ : ∃ b, b = oN M (L + 11) i := ⟨_, rfl⟩
  rw [← eb] at hb hbt hcur H ⊢
  obtain ⟨rfl, q2⟩ := g_74w hS.ki hbt H
  have hld := ld_cases hL
  have hSM1 : SQ M1 := by rw [q2]; exact X_74w_sx hS.ki hbt
  have z0 : zI M1 b 0 = to := by
    rw [q2]
    unfold X_74w
    rw [fI_wF_ne (fun q => absurd q.2 (by decide))]
    exact fI_wF_eq hS.ki.kf.1 hbt qi_21_0
  have z4 : zI M1 b 4 = d := by
    rw [q2]
    unfold X_74w
    exact fI_wF_eq hS.ki.kf.kf.1 hbt qi_21_4
  have z3 : zI M1 b 3 = here := by
    rw [q2]
    unfold X_74w
    rw [fI_wF_ne (fun q => absurd q.2 (by decide)), fI_wF_ne (fun q => absurd q.2 (by decide)), fI_wF_eq hS.ki.1 hbt qi_21_3, fI_wI, hcur.1, eh]
  have zo : ∀ k, k ≠ 0 → k ≠ 3 → k ≠ 4 → zI M1 b k = zI M b k := fun k k0 k3 k4 => by
    rw [q2]
    unfold X_74w
    rw [fI_wF_ne (fun q => k4 q.2), fI_wF_ne (fun q => k0 q.2), fI_wF_ne (fun q => k3 q.2), fI_wI]
  have hF1 : FZ (bF b) (crO L) noO M M1 := by
    rw [q2]
    unfold X_74w
    exact (((FZ.wI (F := bF b) (W := crO L) (O := noO) rfl).trans (FZ.wF (F := bF b) rfl)).trans (FZ.wF (F := bF b) rfl)).trans (FZ.wF (F := bF b) rfl)
  have r1 : ∀ c, inC P c → rI M1 (L + 8) c = if c = here then crdP P here (P 157).toInt.toNat - 1 else rI M (L + 8) c := fun c hc => by
    rw [← crow_up hS.1 hL hw kh hc (x := crdP P here (P 157).toInt.toNat - 1)]
    rw [q2]
    unfold X_74w
    unfold rI
    rw [rN_wF, rN_wF, rN_wF]
  refine ⟨rfl, hSM1, z0, by rw [hF1.fr (by unfold bF; omega)]; exact h.lw, fun M3 e3 => ?_⟩
  have hF3 : FZ (bF b) (crO L) noO M M3 := by
    rw [e3]
    exact hF1.trans (FZ.wI (W := crO L) rfl)
  have hSM3 : SQ M3 := by rw [e3]; exact hSM1.ki
  have hgo : FZ (gwF L) (gwW L) (gwO L) M M3 := hF3.more (fun a k q => Or.inr (Or.inl (by have : a = b := q; omega))) (fun a q => Or.inl (by have : a = L + 8 := q; omega)) (fun _ q => q.elim)
  have zz : ∀ k, zI M3 b k = zI M1 b k := fun k => by rw [e3, fI_wI]
  obtain ⟨Q, eQ⟩ : ∃ Q, Q = movP P s.length d := ⟨_, rfl⟩
  have Qh : Q (158 + 6 * s.length) = to := by
    rw [eQ, et]
    unfold movP
    exact up_eq
  have Q4 : Q (158 + 6 * s.length + 4) = here := by
    rw [eQ, eh]
    unfold movP
    rw [up_ne (by omega), up_eq]
  have Q3 : Q (158 + 6 * s.length + 3) = d := by
    rw [eQ]
    unfold movP
    rw [up_ne (by omega), up_ne (by omega), up_eq]
  have Qo : ∀ j, j ≠ 158 + 6 * s.length → j ≠ 158 + 6 * s.length + 3 → j ≠ 158 + 6 * s.length + 4 → Q j = P j := fun j j0 j3 j4 => by
    rw [eQ]
    unfold movP
    rw [up_ne j0, up_ne j4, up_ne j3]
  rw [← eQ]
  have e0 : Q 0 = P 0 := Qo 0 (by omega) (by omega) (by omega)
  have e1 : Q 1 = P 1 := Qo 1 (by omega) (by omega) (by omega)
  have hi522 : ∀ j, 522 ≤ j → Q j = P j := fun j hj => Qo j (by omega) (by omega) (by omega)
  have e157 : Q 157 = P 157 := Qo 157 (by omega) (by omega) (by omega)
  have lkn : ∀ b' j, lkW b' → rN M3 b' j = rN M b' j := fun b' j hb' => hF3.rn (fun q => by have q : b' = L + 8 := q; exact lk_ld hL 8 (by decide) (q ▸ hb'))
  refine ⟨h.mv hD hSM3 hgo (h.cel.fz hF3 (fun f hf q => by have q : L + 1 + f = L + 8 := q; omega) e0 e1 hi522) (fun j hj => Qo j (by omega) (by omega) (by omega)) (fun c hc => ?_) (fun c hc => ?_) (h.2.1.mv e0 e1 hi522 lkn) ?_ (hWK.fz hF3 (fun q => q)), hm.cur hWK hin (hF3.fi (by unfold bF; omega)) (fun j => hF3.on (fun q => q)) (fun b' f h1 h2 h3 => hF3.fi (fun q => h3 (q.trans eb))) (fun j h1 h2 h3 => Qo j (by omega) (by omega) (by omega)) ?_, ⟨by rw [e157]; exact k0, by rw [e157]; exact k60, fun t ht => ?_⟩, hgo, fun k => hF3.fi (by unfold bF; omega), fun j => hF3.on (fun q => q)⟩
  · have hc2 := (inC.eq e0 e1).mp hc
    have hsame : ∀ f, cE Q f c = cE P f c := fun f => hi522 _ cX_ge
    unfold nnC
    rw [hsame, hsame, hsame, hsame]
    exact h.nn c hc2
  · have hc2 := (inC.eq e0 e1).mp hc
    rw [e157, crd_up (P := P) (P' := Q) _ s.length hks (fun t ht hne => Qo _ (by omega) (by omega) (by omega)), Qh, ← eh, e3, crow_up hSM1.1 hL hw hto hc2, r1 to hto, r1 c hc2, h.crd to hto, h.crd c hc2]
    unfold onI
    by_cases h1 : c = to
    · rw [if_pos h1, if_pos (show to = c from h1.symm)]
      by_cases h2 : to = here
      · rw [if_pos h2, if_pos (show here = c from h2.symm.trans h1.symm), ← h2, h1]
      · rw [if_neg h2, if_neg (show ¬ here = c from fun q => h2 (h1.symm.trans q.symm)), h1]
        grind
    · rw [if_neg h1, if_neg (show ¬ to = c from fun q => h1 q.symm)]
      by_cases h2 : c = here
      · rw [if_pos h2, if_pos (show here = c from h2.symm), h2]
        grind
      · rw [if_neg h2, if_neg (show ¬ here = c from fun q => h2 q.symm)]
        grind
  · obtain ⟨t1, t2, t3, t4⟩ := h.2.2.2.1
    unfold PKt
    have f1 : ∀ k, zI M3 L k = zI M L k := fun k => hF3.fi (by unfold bF; omega)
    rw [f1, f1, f1, f1, Qo 518 (by omega) (by omega) (by omega), Qo 519 (by omega) (by omega) (by omega), Qo 520 (by omega) (by omega) (by omega), Qo 521 (by omega) (by omega) (by omega)]
    exact ⟨t1, t2, t3, t4⟩
  · obtain ⟨c1, c2, c3, c4, c5⟩ := hcur
    rw [← eb]
    refine ⟨by rw [zz, z0, Qh], by rw [zz, zo 1 (by decide) (by decide) (by decide), c2, Qo _ (by omega) (by omega) (by omega)], by rw [zz, zo 2 (by decide) (by decide) (by decide), c3, Qo _ (by omega) (by omega) (by omega)], by rw [zz, z3, Q4], by rw [zz, z4, Q3]⟩
  · rw [e157] at ht
    obtain ⟨b1, b2, b3, b4⟩ := kk t ht
    rw [inC.eq e0 e1]
    by_cases htk : t = s.length
    · subst htk
      rw [Qh, Q3, Qo _ (by omega) (by omega) (by omega), Qo 12 (by omega) (by omega) (by omega)]
      exact ⟨hto, b2, b3, by omega⟩
    · rw [Qo _ (by omega) (by omega) (by omega), Qo _ (by omega) (by omega) (by omega), Qo 12 (by omega) (by omega) (by omega), Qo _ (by omega) (by omega) (by omega)]
      exact ⟨b1, b2, b3, b4⟩
end STP
