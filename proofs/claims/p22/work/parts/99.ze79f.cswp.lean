/-! THE CLASS'S sweep -/
section SWE
variable {e L : Nat} {T : TS} {P : PK} {M M1 M' : Mem} {v : Option Value} {n i k b B : Nat} {s : List Nat}
theorem swap_o (hS : SQ M) (hL : gNth sT L = some 8) {a b : Nat} (ha : a < 60) (hb : b < 60) {N : Mem} (hN : N = wO (wO M (L + 11) a (oN M (L + 11) b)) (L + 11) b (oN M (L + 11) a)) : SQ N ∧ FZ noF noO (gwO L) M N ∧ ∀ j, oN N (L + 11) j = if j = b then oN M (L + 11) a else if j = a then oN M (L + 11) b else oN M (L + 11) j := by
  have h14 := fx_h14 hL
  have hta := wk_t hS.1 hL ha
  have htb := wk_t hS.1 hL hb
  have hS1 : SQ (wO M (L + 11) a (oN M (L + 11) b)) := hS.ko h14 qz_19 htb
  refine ⟨by rw [hN]; exact hS1.ko h14 qz_19 hta, by rw [hN]; exact (FZ.wO (F := noF) (W := noO) (O := gwO L) rfl).trans (FZ.wO rfl), fun j => ?_⟩
  rw [hN]
  by_cases h1 : j = b
  · rw [if_pos h1, h1]
    exact oN_wO_eq hS1.1 h14 qz_19 hb
  · rw [if_neg h1, oN_wO_ne hS1.1 h14 qz_19 h1]
    by_cases h2 : j = a
    · rw [if_pos h2, h2]
      exact oN_wO_eq hS.1 h14 qz_19 ha
    · rw [if_neg h2, oN_wO_ne hS.1 h14 qz_19 h2]
theorem swap_k (h : WKs L M) {N : Mem} {a b : Nat} (ha : a < 60) (hb : b < 60) (hN : ∀ j, oN N (L + 11) j = if j = b then oN M (L + 11) a else if j = a then oN M (L + 11) b else oN M (L + 11) j) : WKs L N := by
  obtain ⟨h1, h2⟩ := h
  have hp : ∀ j, j < 60 → ∃ j', j' < 60 ∧ oN N (L + 11) j = oN M (L + 11) j' ∧ (j = b → j' = a) ∧ (j ≠ b → j = a → j' = b) ∧ (j ≠ b → j ≠ a → j' = j) := fun j hj => by
    rw [hN]
    by_cases q1 : j = b
    · rw [if_pos q1]
      exact ⟨a, ha, rfl, fun _ => rfl, fun q => absurd q1 q, fun q => absurd q1 q⟩
    · rw [if_neg q1]
      by_cases q2 : j = a
      · rw [if_pos q2]
        exact ⟨b, hb, rfl, fun q => absurd q q1, fun _ _ => rfl, fun _ q => absurd q2 q⟩
      · rw [if_neg q2]
        exact ⟨j, hj, rfl, fun q => absurd q q1, fun _ q => absurd q q2, fun _ _ => rfl⟩
  refine ⟨fun j k hj hk q => ?_, fun k hk => ?_⟩
  · obtain ⟨j', a1, a2, a3, a4, a5⟩ := hp j hj
    obtain ⟨k', b1, b2, b3, b4, b5⟩ := hp k hk
    rw [a2, b2] at q
    have hq := h1 j' k' a1 b1 q
    by_cases j1 : j = b
    · have e1 := a3 j1
      by_cases k1 : k = b
      · omega
      · by_cases k2 : k = a
        · have := b4 k1 k2
          omega
        · have := b5 k1 k2
          omega
    · by_cases j2 : j = a
      · have e1 := a4 j1 j2
        by_cases k1 : k = b
        · have := b3 k1
          omega
        · by_cases k2 : k = a
          · omega
          · have := b5 k1 k2
            omega
      · have e1 := a5 j1 j2
        by_cases k1 : k = b
        · have := b3 k1
          omega
        · by_cases k2 : k = a
          · have := b4 k1 k2
            omega
          · have := b5 k1 k2
            omega
  · obtain ⟨j', a1, a2, _⟩ := hp k hk
    rw [a2]
    exact h2 j' a1
theorem swp_l (hL : gNth sT L = some 8) (hlw : fR M 104 7 = L) (h15 : zI M L 15 = nI n) (hn : n ≤ 60) (hs1 : ∀ t j : Nat, s[t]? = some j → j < n ∧ zI M (oN M (L + 11) j) 0 ≠ -1) (hs2 : ∀ j, j < n → j ∉ s → zI M (oN M (L + 11) j) 0 = -1) (hs3 : ∀ t t' j j' : Nat, t < t' → s[t]? = some j → s[t']? = some j' → j < j') : ∀ (r i st : Nat) (sy iz : Int32) (c3 : Option Value) (N : Mem), SQ N → FZ noF noO (gwO L) M N → WKs L N → (∀ t j : Nat, t < st → s[t]? = some j → oN N (L + 11) t = oN M (L + 11) j) → (∀ j, i ≤ j → j < 60 → oN N (L + 11) j = oN M (L + 11) j) → (∀ t j : Nat, s[t]? = some j → (t < st ↔ j < i)) → st ≤ i → st ≤ s.length → i + r = n → sy.toInt = (st : Int) → iz.toInt = (i : Int) → Ev none e 61 4 [some (.ref 104), some (.int sy), some (.int iz), c3] [] N v M' 0 0 → v = none ∧ ∃ N1 sz, SQ N1 ∧ FZ noF noO (gwO L) M N1 ∧ WKs L N1 ∧ (∀ t j : Nat, s[t]? = some j → oN N1 (L + 11) t = oN M (L + 11) j) ∧ sz.toInt = (s.length : Int) ∧ M' = wF N1 L 15 sz := by
  have hnI : (nI n).toInt = (n : Int) := nI_toInt (by omega)
  intro r
  induction r with
  | zero =>
    intro i st sy iz c3 N hS hF hk hA hB hC hsi hsl hir hsy hiz H
    have l7 : fR N 104 7 = L := (hF.fr (fun q => q)).trans hlw
    have z15 : zI N L 15 = nI n := (hF.fi (fun q => q)).trans h15
    have hst : st = s.length := by
      rcases Nat.lt_or_ge st s.length with h | h
      · have h1 : s[st]? = some s[st] := List.getElem?_eq_getElem h
        have h2 := (hs1 _ _ h1).1
        have h3 := (hC _ _ h1).mpr (by omega)
        omega
      · omega
    rcases swp_4 hS H with ⟨_, h1, h2⟩ | ⟨a1, _⟩ | ⟨a1, _⟩
    · rw [l7] at h2
      exact ⟨h1, N, sy, hS, hF, hk, fun t j ht => hA t j (by rw [hst]; exact (List.getElem?_eq_some_iff.mp ht).1) ht, by omega, h2⟩
    all_goals exact absurd (Int32.le_iff_toInt_le.mpr (by rw [l7, z15]; omega)) a1
  | succ r ih =>
    intro i st sy iz c3 N hS hF hk hA hB hC hsi hsl hir hsy hiz H
    have l7 : fR N 104 7 = L := (hF.fr (fun q => q)).trans hlw
    have z15 : zI N L 15 = nI n := (hF.fi (fun q => q)).trans h15
    have hi1 : (iz + 1).toInt = ((i + 1 : Nat) : Int) := by
      rw [i32_p1 (by omega)]
      omega
    have hob : oI N (L + 11) iz = oN M (L + 11) i := by
      unfold oI
      rw [cl_n hiz]
      exact hB i (Nat.le_refl _) (by omega)
    have hz : zI N (oN M (L + 11) i) 0 = zI M (oN M (L + 11) i) 0 := hF.fi (fun q => q)
    rcases swp_4 hS H with ⟨a1, _⟩ | ⟨_, a2, _, H⟩ | ⟨_, a2, _, _, _, _, H⟩
    · rw [l7, z15] at a1
      have := Int32.le_iff_toInt_le.mp a1
      omega
    · rw [l7, hob, hz] at a2
      have hni : i ∉ s := fun q => by
        obtain ⟨t, ht⟩ := List.getElem?_of_mem q
        exact (hs1 t i ht).2 a2
      refine ih (i + 1) st sy (iz + 1) _ N hS hF hk hA (fun j h1 h2 => hB j (by omega) h2) (fun t j ht => ?_) (by omega) hsl (by omega) hsy hi1 H
      have hne : j ≠ i := fun q => hni (q ▸ List.mem_of_getElem? ht)
      rw [hC t j ht]
      omega
    · rw [l7, hob, hz] at a2
      have hmi : i ∈ s := by
        by_cases h : i ∈ s
        · exact h
        · exact absurd (hs2 i (by omega) h) a2
      obtain ⟨t, ht⟩ := List.getElem?_of_mem hmi
      have htl := (List.getElem?_eq_some_iff.mp ht).1
      have hts : t = st := by
        have h1 : ¬ t < st := fun q => absurd ((hC t i ht).mp q) (Nat.lt_irrefl _)
        rcases Nat.lt_or_ge st t with h | h
        · have h2 : s[st]? = some s[st] := List.getElem?_eq_getElem (by omega)
          have h3 := hs3 st t _ _ h h2 ht
          have h4 := (hC _ _ h2).mpr h3
          omega
        · omega
      subst hts
      rw [l7] at H
      have e1 : iz.toNatClampNeg = i := cl_n hiz
      have e2 : sy.toNatClampNeg = t := cl_n hsy
      have o1 : oI N (L + 11) iz = oN N (L + 11) i := by unfold oI; rw [e1]
      have o2 : oI N (L + 11) sy = oN N (L + 11) t := by unfold oI; rw [e2]
      rw [o1, o2, e1, e2] at H
      obtain ⟨q1, q2, q3⟩ := swap_o hS hL (a := i) (b := t) (by omega) (by omega) rfl
      refine ih (i + 1) (t + 1) (sy + 1) (iz + 1) _ _ q1 (hF.trans q2) (swap_k hk (by omega) (by omega) q3) (fun t' j h1 h2 => ?_) (fun j h1 h2 => ?_) (fun t' j h1 => ?_) (by omega) htl (by omega) (by rw [i32_p1 (by omega)]; omega) hi1 H
      · rw [q3]
        by_cases h3 : t' = t
        · subst h3
          rw [if_pos rfl, hB i (Nat.le_refl _) (by omega)]
          cases ht.symm.trans h2
          rfl
        · rw [if_neg h3, if_neg (show ¬ t' = i by omega)]
          exact hA t' j (by omega) h2
      · rw [q3, if_neg (show ¬ j = t by omega), if_neg (show ¬ j = i by omega)]
        exact hB j (by omega) h2
      · constructor
        · intro h3
          by_cases h4 : t' = t
          · subst h4
            cases ht.symm.trans h1
            omega
          · have := (hC t' j h1).mp (by omega)
            omega
        · intro h3
          by_cases h4 : j = i
          · subst h4
            rcases Nat.lt_trichotomy t' t with h5 | h5 | h5
            · omega
            · omega
            · have := hs3 t t' _ _ h5 ht h1
              omega
          · have := (hC t' j h1).mpr (by omega)
            omega
theorem swp_ok (h : STA L T P M) (hD : okD P) (hK : okK P) (hm : MDW L P M n n s) (H : Ev none e 61 0 [some (.ref 104), none, none, none] [] M v M' 0 0) : v = none ∧ STA L T P M' ∧ LST L P M' ∧ FZ (gwF L) (gwW L) (gwO L) M M' ∧ ∀ k, zI M' 104 k = zI M 104 k := by
  have hS := h.sq
  have hL := h.ld
  have hld := ld_cases hL
  have hWK := h.2.2.2.2.2.1
  obtain ⟨a1, a2, a3, a4, a5, a6, a7, a8⟩ := hm
  have hw : ∀ t j : Nat, s[t]? = some j → t < (P 157).toInt.toNat := fun t j ht => by
    have := (List.getElem?_eq_some_iff.mp ht).1
    omega
  obtain ⟨r1, N1, sz, r2, r3, r4, r5, r6, r7⟩ := swp_l hL h.lw a1 a2 (fun t j ht => by
    obtain ⟨q1, q2⟩ := a5 t j ht
    refine ⟨q1, fun q => ?_⟩
    have h1 := (hK.2.2 t (hw t j ht)).1.1
    rw [← q2.1, q] at h1
    exact absurd h1 (by decide)) a7 a8 n 0 0 0 0 none M hS (FZ.refl _) hWK (fun t j h1 _ => absurd h1 (Nat.not_lt_zero t)) (fun j _ _ => rfl) (fun t j _ => by omega) (Nat.le_refl _) (Nat.zero_le _) (by omega) rfl rfl (swp_0 hS H)
  have hF : FZ (fun a k => a = L ∧ k = 15) noO (gwO L) M M' := by
    rw [r7]
    exact (r3.more (fun _ _ q => q.elim) (fun _ q => q) (fun _ q => q)).trans (FZ.wF (F := fun a k => a = L ∧ k = 15) ⟨rfl, rfl⟩)
  have hgo : FZ (gwF L) (gwW L) (gwO L) M M' := hF.more (fun a k q => Or.inl ⟨q.1, by omega⟩) (fun a q => q.elim) (fun _ q => q)
  have hS' : SQ M' := by rw [r7]; exact r2.kf
  have oo : ∀ j, oN M' (L + 11) j = oN N1 (L + 11) j := fun j => by
    rw [r7]
    unfold oN
    rw [roL_wF]
  have hk' : WKs L M' := ⟨fun j k hj hk q => r4.1 j k hj hk (by rw [oo, oo] at q; exact q), fun k hk => by rw [oo]; exact r4.2 k hk⟩
  obtain ⟨t1, t2, t3, t4⟩ := h.2.2.2.1
  have fz : ∀ k, k ≠ 15 → zI M' L k = zI M L k := fun k hk => hF.fi (fun q => hk q.2)
  have e157 : sz = P 157 := Int32.toInt_inj.mp (by rw [r6, a4]; omega)
  refine ⟨r1, h.mv hD hS' hgo (h.cel.fz hF (fun f hf q => q) rfl rfl (fun _ _ => rfl)) (fun _ _ => rfl) h.nn (fun c hc => ?_) (h.2.1.mv rfl rfl (fun _ _ => rfl) (fun b' j _ => hF.rn (fun q => q))) ⟨?_, ?_, ?_, ?_⟩ hk', ⟨?_, fun k hk => ?_⟩, hgo, fun k => hF.fi (by omega)⟩
  · have : rI M' (L + 8) c = rI M (L + 8) c := hF.rn (fun q => q)
    rw [this]
    exact h.crd c hc
  · rw [fz 16 (by decide)]; exact t1
  · rw [fz 17 (by decide)]; exact t2
  · rw [fz 18 (by decide)]; exact t3
  · rw [fz 19 (by decide)]; exact t4
  · rw [r7, fI_wF_eq r2.1 hL qi_8_15]
    exact e157
  · have hkl : k < s.length := by omega
    have hg : s[k]? = some s[k] := List.getElem?_eq_getElem hkl
    obtain ⟨q1, q2⟩ := a5 k _ hg
    rw [oo, r5 k _ hg]
    have hb := hWK.2 s[k] (by omega)
    exact q2.eq (fun f _ => hF.fi (by omega)) (fun _ _ => rfl)
end SWE
