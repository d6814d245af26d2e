/-! ONE WALKER'S STEP, in the class: what follows the move -/
section LVE
variable {e L : Nat} {T : TS} {g q : TQ} {P P' Q : PK} {M M1 M' : Mem} {v : Option Value} {c d go : Int32} {n i k b B : Nat} {s : List Nat} {ss : List Int32}
theorem STA.lk (h : STA L T P M) (hD : okD P) (hS : SQ M') (hF : FZ noF lkW noO M M') (hV : VC T P M') : STA L T P M' := by
  have hL := h.ld
  have hld := ld_cases hL
  obtain ⟨t1, t2, t3, t4⟩ := h.2.2.2.1
  refine h.mv hD hS (lk_go hF) (h.cel.fz hF (fun f hf q => ?_) rfl rfl (fun _ _ => rfl)) (fun _ _ => rfl) h.nn (fun c hc => ?_) hV ⟨?_, ?_, ?_, ?_⟩ (h.2.2.2.2.2.1.fz hF (fun q => q))
  · exact lk_ld hL (1 + f) (by omega) (by rw [← Nat.add_assoc]; exact q)
  · have : rI M' (L + 8) c = rI M (L + 8) c := hF.rn (lk_ld hL 8 (by decide))
    rw [this]
    exact h.crd c hc
  · rw [hF.fi (fun q => q)]; exact t1
  · rw [hF.fi (fun q => q)]; exact t2
  · rw [hF.fi (fun q => q)]; exact t3
  · rw [hF.fi (fun q => q)]; exact t4
theorem MDW.lk (h : MDW L P M n i s) (hk : WKs L M) (hF : FZ noF lkW noO M M') : MDW L P M' n i s := h.same hk (hF.fi (fun q => q)) (fun j => hF.on (fun q => q)) (fun b f _ _ => hF.fi (fun q => q)) (fun _ _ _ => rfl)
/-- a TICK more -/
theorem age_ok (h : STA L T P M) (hD : okD P) (hK : okK P) (hm : MDW L P M n i s) (hin : i < n) (h2 : M' = wF M (oN M (L + 11) i) 2 (zI M (oN M (L + 11) i) 2 + 1)) : STA L T (ageP P s.length) M' ∧ MDW L (ageP P s.length) M' n i s ∧ okK (ageP P s.length) ∧ FZ (gwF L) (gwW L) (gwO L) M M' ∧ (∀ k, zI M' 104 k = zI M 104 k) ∧ ∀ j, oN M' (L + 11) j = oN M (L + 11) j := by
  have hS := h.sq
  have hL := h.ld
  have hWK := h.2.2.2.2.2.1
  have hld := ld_cases hL
  obtain ⟨a1, a2, a3, a4, a5, a6, a7, a8⟩ := id hm
  have hs := sort_len a8 (fun t j ht => (a5 t j ht).1)
  have hb := hWK.2 i (by omega)
  have hbt := wk_t hS.1 hL (j := i) (by omega)
  have hcur : WFq (oN M (L + 11) i) P s.length M := by
    have := a6 i (Nat.le_refl _) hin
    rw [Nat.sub_self] at this
    exact this
  obtain ⟨k0, k60, kk⟩ := hK
  obtain ⟨b, eb⟩ : ∃ b, b = oN M (L + 11) i := ⟨_, rfl⟩
  rw [← eb] at hb hbt hcur h2
  have hF : FZ (fun a k => a = b ∧ k = 2) noO noO M M' := by rw [h2]; exact FZ.wF (F := fun a k => a = b ∧ k = 2) ⟨rfl, rfl⟩
  have hS2 : SQ M' := by rw [h2]; exact hS.kf
  have hgo : FZ (gwF L) (gwW L) (gwO L) M M' := hF.more (fun a k q => Or.inr (Or.inl (by have := q.1; omega))) (fun a q => q.elim) (fun _ q => q.elim)
  have Qo : ∀ j, j ≠ 158 + 6 * s.length + 2 → ageP P s.length j = P j := fun j hj => up_ne hj
  have Q2 : ageP P s.length (158 + 6 * s.length + 2) = P (158 + 6 * s.length + 2) + 1 := up_eq
  have h522 : ∀ j, 522 ≤ j → ageP P s.length j = P j := fun j hj => Qo j (by omega)
  have e0 := Qo 0 (by omega)
  have e1 := Qo 1 (by omega)
  obtain ⟨t1, t2, t3, t4⟩ := h.2.2.2.1
  have fL' : ∀ k, zI M' L k = zI M L k := fun k => hF.fi (by omega)
  refine ⟨h.mv hD hS2 hgo (h.cel.fz hF (fun f hf q => q) e0 e1 h522) (fun j hj => Qo j (by omega)) (fun c hc => ?_) (fun c hc => ?_) (h.2.1.mv e0 e1 h522 (fun b' j _ => hF.rn (fun q => q))) ?_ (hWK.fz hF (fun q => q)), hm.cur hWK hin (fL' 15) (fun j => hF.on (fun q => q)) (fun b' f h1 h2 h3 => hF.fi (fun q => h3 (q.1.trans eb))) (fun j h1 h2 h3 => Qo j (by omega)) ?_, ⟨by rw [Qo 157 (by omega)]; exact k0, by rw [Qo 157 (by omega)]; exact k60, fun t ht => ?_⟩, hgo, fun k => hF.fi (by omega), fun j => hF.on (fun q => q)⟩
  · have hc2 := (inC.eq e0 e1).mp hc
    have hsame : ∀ f, cE (ageP P s.length) f c = cE P f c := fun f => h522 _ cX_ge
    unfold nnC
    rw [hsame, hsame, hsame, hsame]
    exact h.nn c hc2
  · have hc2 := (inC.eq e0 e1).mp hc
    have : rI M' (L + 8) c = rI M (L + 8) c := hF.rn (fun q => q)
    rw [this, Qo 157 (by omega), h.crd c hc2]
    exact (crd_congr _ (fun t ht => Qo _ (by omega))).symm
  · unfold PKt
    rw [fL', fL', fL', fL', Qo 518 (by omega), Qo 519 (by omega), Qo 520 (by omega), Qo 521 (by omega)]
    exact ⟨t1, t2, t3, t4⟩
  · obtain ⟨c1, c2, c3, c4, c5⟩ := hcur
    rw [← eb]
    have zo : ∀ k, k ≠ 2 → zI M' b k = zI M b k := fun k hk => hF.fi (fun q => hk q.2)
    have z2 : zI M' b 2 = zI M b 2 + 1 := by rw [h2]; exact fI_wF_eq hS.1 hbt qi_21_2
    exact ⟨by rw [zo 0 (by decide), c1, Qo _ (by omega)], by rw [zo 1 (by decide), c2, Qo _ (by omega)], by rw [z2, c3, Q2], by rw [zo 3 (by decide), c4, Qo _ (by omega)], by rw [zo 4 (by decide), c5, Qo _ (by omega)]⟩
  · rw [Qo 157 (by omega)] at ht
    obtain ⟨b1, b2, b3, b4⟩ := kk t ht
    rw [inC.eq e0 e1, Qo _ (by omega), Qo _ (by omega), Qo 12 (by omega), Qo _ (by omega)]
    exact ⟨b1, b2, b3, b4⟩
theorem trd_sb {c : Int32} : ∀ j, j < 157 → trdP g P c j = P j := fun j hj => trd_lo (by omega)
/-- the step comes on a CELL -/
theorem trw_ok (h : STA L T P M) (hD : okD P) (hK : okK P) (hE : okE B P) (hB : B ≤ 100000000) (hm : MDW L P M n i s) (hc : inC P c) (H : Ev none e 62 0 [some (.ref 104), some (.int c), none] [] M v M' 0 0) : v = none ∧ STA L T (trdP (T 0) P c) M' ∧ MDW L (trdP (T 0) P c) M' n i s ∧ okK (trdP (T 0) P c) ∧ okE (B + 1) (trdP (T 0) P c) ∧ FZ (gwF L) (gwW L) (gwO L) M M' ∧ (zI M' 104 10 = if c = zI M 104 9 then 1 else zI M 104 10) ∧ zI M' 104 9 = zI M 104 9 ∧ ∀ j, oN M' (L + 11) j = oN M (L + 11) j := by
  have hL := h.ld
  have hld := ld_cases hL
  have hWK := h.2.2.2.2.2.1
  obtain ⟨r1, r2, r3, r4, r5, r6⟩ := tread_ok h.1 h.2.1 hc H
  have hE' := hE.trd h.1.2.2.2.2.2.1.2 hB hc
  obtain ⟨t1, t2, t3, t4⟩ := h.2.2.2.1
  have lo : ∀ j, j < 522 → trdP (T 0) P c j = P j := fun j hj => trd_lo hj
  have zL : ∀ k, zI M' L k = zI M L k := fun k => r3.fi (by unfold trF; omega)
  have hk60 := hK.2.1
  refine ⟨r1, h.mv hD r2 (tr_go r3) r4 trd_sb hE'.nn (fun c2 hc2 => ?_) r5 ?_ (hWK.fz r3 (fun q => q)), hm.same hWK (zL 15) (fun j => r3.on (fun q => q)) (fun b f h1 h2 => r3.fi (by unfold trF; omega)) (fun j h1 h2 => lo j (by omega)), ⟨by rw [lo 157 (by decide)]; exact hK.1, by rw [lo 157 (by decide)]; exact hK.2.1, fun t ht => ?_⟩, hE', tr_go r3, r6, r3.fi (by unfold trF; omega), fun j => r3.on (fun q => q)⟩
  · have hc3 := (inC.eq (lo 0 (by decide)) (lo 1 (by decide))).mp hc2
    have : rI M' (L + 8) c2 = rI M (L + 8) c2 := r3.rn (by unfold trW; omega)
    rw [this, lo 157 (by decide), h.crd c2 hc3]
    exact (crd_congr _ (fun t ht => lo _ (by omega))).symm
  · unfold PKt
    rw [zL, zL, zL, zL, lo 518 (by decide), lo 519 (by decide), lo 520 (by decide), lo 521 (by decide)]
    exact ⟨t1, t2, t3, t4⟩
  · rw [lo 157 (by decide)] at ht
    rw [inC.eq (lo 0 (by decide)) (lo 1 (by decide)), lo _ (by omega), lo _ (by omega), lo 12 (by decide), lo _ (by omega)]
    exact hK.2.2 t ht
/-- one goes for good -/
theorem gon_ok (h : STA L T P M) (hD : okD P) (hK : okK P) (hm : MDW L P M n i s) (hin : i < n) {x17 x18 : Int32} (hQ : ∀ j, j ≠ 519 → j ≠ 520 → Q j = P j) (h17 : Q 519 = x17) (h18 : Q 520 = x18) (h2 : M' = wF (wI (wF (wF M L 17 x17) L 18 x18) (L + 8) (P (158 + 6 * s.length)).toNatClampNeg (crdP P (P (158 + 6 * s.length)) (P 157).toInt.toNat - 1)) (oN M (L + 11) i) 0 (-1)) : STA L T (leaP Q s.length) M' ∧ MDW L (leaP Q s.length) M' n (i + 1) s ∧ okK (leaP Q s.length) ∧ FZ (gwF L) (gwW L) (gwO L) M M' ∧ (∀ k, zI M' 104 k = zI M 104 k) ∧ ∀ j, oN M' (L + 11) j = oN M (L + 11) j := by
  have hS := h.sq
  have hL := h.ld
  have hw := h.wh
  have hWK := h.2.2.2.2.2.1
  have hld := ld_cases hL
  obtain ⟨a1, a2, a3, a4, a5, a6, a7, a8⟩ := id hm
  have hs := sort_len a8 (fun t j ht => (a5 t j ht).1)
  have hb := hWK.2 i (by omega)
  have hbt := wk_t hS.1 hL (j := i) (by omega)
  obtain ⟨k0, k60, kk⟩ := id hK
  have hks : s.length < (P 157).toInt.toNat := by omega
  have kh := (kk s.length hks).1
  obtain ⟨here, eh⟩ : ∃ x, x = P (158 + 6 * s.length) := ⟨_, rfl⟩
  rw [← eh] at h2 kh
  obtain ⟨b, eb⟩ : ∃ b, b = oN M (L + 11) i := ⟨_, rfl⟩
  rw [← eb] at hb hbt h2
  have hF : FZ (fun a k => (a = L ∧ (k = 17 ∨ k = 18)) ∨ a = b) (crO L) noO M M' := by
    rw [h2]
    exact (((FZ.wF (F := fun a k => (a = L ∧ (k = 17 ∨ k = 18)) ∨ a = b) (W := crO L) (O := noO) (Or.inl ⟨rfl, Or.inl rfl⟩)).trans (FZ.wF (Or.inl ⟨rfl, Or.inr rfl⟩))).trans (FZ.wI rfl)).trans (FZ.wF (Or.inr rfl))
  have hS2 : SQ M' := by rw [h2]; exact hS.kf.kf.ki.kf
  have hgo : FZ (gwF L) (gwW L) (gwO L) M M' := hF.more (fun a k q => by
    rcases q with q | q
    · exact Or.inl ⟨q.1, by omega⟩
    · exact Or.inr (Or.inl (by omega))) (fun a q => Or.inl (by have : a = L + 8 := q; omega)) (fun _ q => q.elim)
  have t1' : (1 : Int32).toInt = 1 := rfl
  have q157 : Q 157 = P 157 := hQ 157 (by decide) (by decide)
  have m1 : (P 157 - 1).toInt = (P 157).toInt - 1 := i32_m1 (by omega)
  have l157 : leaP Q s.length 157 = P 157 - 1 := by unfold leaP; rw [if_pos rfl, q157]
  have lo : ∀ j, j < 157 → leaP Q s.length j = P j := fun j hj => by
    unfold leaP
    rw [if_neg (by omega), if_neg (by omega), if_neg (by omega)]
    exact hQ j (by omega) (by omega)
  have hi : ∀ j, 518 ≤ j → leaP Q s.length j = Q j := fun j hj => by
    unfold leaP
    rw [if_neg (by omega), if_neg (by rw [q157]; omega), if_neg (by rw [q157]; omega)]
  have lw : ∀ t f, t < s.length → f < 6 → leaP Q s.length (158 + 6 * t + f) = P (158 + 6 * t + f) := fun t f ht hf => by
    unfold leaP
    rw [if_neg (by omega), if_neg (by omega), if_neg (by rw [q157]; omega)]
    exact hQ _ (by omega) (by omega)
  have hw2 : ∀ t f, s.length ≤ t → t < (P 157 - 1).toInt.toNat → f < 6 → leaP Q s.length (158 + 6 * t + f) = P (158 + 6 * (t + 1) + f) := fun t f ht h2 hf => by
    unfold leaP
    rw [if_neg (by omega), if_pos ⟨by omega, by rw [q157]; omega⟩]
    rw [show 158 + 6 * t + f + 6 = 158 + 6 * (t + 1) + f from by omega]
    exact hQ _ (by omega) (by omega)
  have h522 : ∀ j, 522 ≤ j → leaP Q s.length j = P j := fun j hj => (hi j (by omega)).trans (hQ j (by omega) (by omega))
  have e0 := lo 0 (by decide)
  have e1 := lo 1 (by decide)
  have lkn : ∀ b' j, lkW b' → rN M' b' j = rN M b' j := fun b' j hb' => hF.rn (fun q => by have q : b' = L + 8 := q; exact lk_ld hL 8 (by decide) (q ▸ hb'))
  obtain ⟨t1, t2, t3, t4⟩ := h.2.2.2.1
  have zL : ∀ k, k ≠ 17 → k ≠ 18 → zI M' L k = zI M L k := fun k k1 k2 => hF.fi (by omega)
  have hmQ : MDW L Q M n i s := hm.same hWK rfl (fun _ => rfl) (fun _ _ _ _ => rfl) (fun j h1 h2 => hQ j (by omega) (by omega))
  refine ⟨h.mv hD hS2 hgo (h.cel.fz hF (fun f hf q => by have q : L + 1 + f = L + 8 := q; omega) e0 e1 h522) lo (fun c hc => ?_) (fun c hc => ?_) (h.2.1.mv e0 e1 h522 lkn) ⟨?_, ?_, ?_, ?_⟩ (hWK.fz hF (fun q => q)), hmQ.gone hWK hin (zL 15 (by decide) (by decide)) (fun j => hF.on (fun q => q)) (fun b' f h1 h2 h3 => hF.fi (fun q => ?_)) ?_, ⟨?_, ?_, fun t ht => ?_⟩, hgo, fun k => hF.fi (by omega), fun j => hF.on (fun q => q)⟩
  · have hc2 := (inC.eq e0 e1).mp hc
    have hsame : ∀ f, cE (leaP Q s.length) f c = cE P f c := fun f => h522 _ cX_ge
    unfold nnC
    rw [hsame, hsame, hsame, hsame]
    exact h.nn c hc2
  · have hc2 := (inC.eq e0 e1).mp hc
    have hm' : (P 157).toInt.toNat = (P 157 - 1).toInt.toNat + 1 := by omega
    have hr : rI M' (L + 8) c = rI (wI (wF (wF M L 17 x17) L 18 x18) (L + 8) here.toNatClampNeg (crdP P here (P 157).toInt.toNat - 1)) (L + 8) c := by
      rw [h2]
      unfold rI
      rw [rN_wF]
    have hr0 : rI (wF (wF M L 17 x17) L 18 x18) (L + 8) c = rI M (L + 8) c := by
      unfold rI
      rw [rN_wF, rN_wF]
    have hcd := crd_del (P := P) (P' := leaP Q s.length) (c := c) (P 157 - 1).toInt.toNat s.length (by omega) (fun t ht => lw t 0 ht (by decide)) (fun t h3 h4 => hw2 t 0 h3 h4 (by decide))
    rw [l157, hcd, ← hm', hr, crow_up hS.kf.kf.1 hL hw kh hc2, hr0, h.crd c hc2, ← eh]
    unfold onI
    by_cases hcc : c = here
    · rw [if_pos hcc, if_pos (show here = c from hcc.symm), hcc]
    · rw [if_neg hcc, if_neg (show ¬ here = c from fun q => hcc q.symm)]
      grind
  · rw [zL 16 (by decide) (by decide), t1, hi 518 (by decide)]; exact (hQ 518 (by decide) (by decide)).symm
  · rw [hi 519 (by decide), h17, h2, fI_wF_ne (by omega), fI_wI, fI_wF_ne (by omega)]
    exact fI_wF_eq hS.1 hL qi_8_17
  · rw [hi 520 (by decide), h18, h2, fI_wF_ne (by omega), fI_wI]
    exact fI_wF_eq hS.kf.1 hL qi_8_18
  · rw [zL 19 (by decide) (by decide), t4, hi 521 (by decide)]; exact (hQ 521 (by decide) (by decide)).symm
  · rcases q with q | q
    · omega
    · exact h3 (q.trans eb)
  · rw [← eb, h2]
    exact fI_wF_eq hS.kf.kf.ki.1 hbt qi_21_0
  · rw [l157, m1]; omega
  · rw [l157, m1]; omega
  · rw [l157] at ht
    have ht2 : t < (P 157 - 1).toInt.toNat := ht
    rw [inC.eq e0 e1, lo 12 (by decide)]
    by_cases hts : t < s.length
    · have f0 := lw t 0 hts (by decide)
      have f1 := lw t 1 hts (by decide)
      have f3 := lw t 3 hts (by decide)
      rw [Nat.add_zero] at f0
      rw [f0, f1, f3]
      exact kk t (by omega)
    · have f0 := hw2 t 0 (by omega) ht2 (by decide)
      have f1 := hw2 t 1 (by omega) ht2 (by decide)
      have f3 := hw2 t 3 (by omega) ht2 (by decide)
      rw [Nat.add_zero, Nat.add_zero] at f0
      rw [f0, f1, f3]
      exact kk (t + 1) (by omega)
theorem okE.lea (hE : okE B P) (hK1 : 0 ≤ (P 157).toInt) (hK2 : (P 157).toInt ≤ 60) (hk : k ≤ 60) : okE B (leaP P k) := by
  have t1 : (1 : Int32).toInt = 1 := rfl
  have hx : (P 157 - 1).toInt.toNat ≤ 59 := by
    rw [i32_m1 (by omega)]
    omega
  refine hE.sb ?_ ?_ (fun j hj => ?_)
  · unfold leaP
    rw [if_neg (by omega), if_neg (by omega), if_neg (by omega)]
  · unfold leaP
    rw [if_neg (by omega), if_neg (by omega), if_neg (by omega)]
  · unfold leaP
    rw [if_neg (by omega), if_neg (by omega), if_neg (by omega)]
end LVE
