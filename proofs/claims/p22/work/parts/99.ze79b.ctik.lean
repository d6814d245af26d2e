/-! THE CLASS'S land, whole; what walking changes -/
def PKs (L : Nat) (P : PK) (M : Mem) : Prop := zI M L 0 = P 0 ∧ zI M L 1 = P 1 ∧ (zI M L 11 = P 2 ∧ ∀ d, d < (P 2).toInt.toNat → rN M (L + 9) d = P (3 + d)) ∧ zI M L 13 = P 12 ∧ ∀ k, k < (P 12).toInt.toNat → ∀ f, f < 6 → zI M (L + 12 + k) f = P (13 + 6 * k + f)
def PKt (L : Nat) (P : PK) (M : Mem) : Prop := zI M L 16 = P 518 ∧ zI M L 17 = P 519 ∧ zI M L 18 = P 520 ∧ zI M L 19 = P 521
def WXr (L : Nat) (M : Mem) : Prop := ∀ k, k < 24 → oN M (L + 10) k = L + 12 + k
def WKs (L : Nat) (M : Mem) : Prop := (∀ j k, j < 60 → k < 60 → oN M (L + 11) j = oN M (L + 11) k → j = k) ∧ ∀ k, k < 60 → L + 36 ≤ oN M (L + 11) k ∧ oN M (L + 11) k < L + 96
/-- a walker as the class has it -/
def WFq (b : Nat) (P : PK) (k : Nat) (M : Mem) : Prop := zI M b 0 = P (158 + 6 * k) ∧ zI M b 1 = P (158 + 6 * k + 1) ∧ zI M b 2 = P (158 + 6 * k + 2) ∧ zI M b 3 = P (158 + 6 * k + 4) ∧ zI M b 4 = P (158 + 6 * k + 3)
def gwF (L a k : Nat) : Prop := (a = L ∧ 15 ≤ k) ∨ (L + 36 ≤ a ∧ a < L + 96) ∨ (a = 104 ∧ k = 10)
def gwW (L a : Nat) : Prop := (L + 4 ≤ a ∧ a ≤ L + 8) ∨ lkW a
def gwO (L a : Nat) : Prop := a = L + 11
/-- between the steps of a TICK: n in the list, i of them done, those that stay in s -/
def MDW (L : Nat) (P : PK) (M : Mem) (n i : Nat) (s : List Nat) : Prop := zI M L 15 = nI n ∧ n ≤ 60 ∧ i ≤ n ∧ (P 157).toInt = (s.length : Int) + ((n : Int) - (i : Int)) ∧ (∀ t j : Nat, s[t]? = some j → j < i ∧ WFq (oN M (L + 11) j) P t M) ∧ (∀ j, i ≤ j → j < n → WFq (oN M (L + 11) j) P (s.length + (j - i)) M) ∧ (∀ j, j < i → j ∉ s → zI M (oN M (L + 11) j) 0 = -1) ∧ ∀ t t' j j' : Nat, t < t' → s[t]? = some j → s[t']? = some j' → j < j'
def STA (L : Nat) (T : TS) (P : PK) (M : Mem) : Prop := CTX L T P M ∧ VC T P M ∧ PKs L P M ∧ PKt L P M ∧ WXr L M ∧ WKs L M ∧ zI M 104 8 = 0
theorem sort_ge {s : List Nat} (hs : ∀ t t' j j' : Nat, t < t' → s[t]? = some j → s[t']? = some j' → j < j') : ∀ t j : Nat, s[t]? = some j → t ≤ j := by
  intro t
  induction t with
  | zero => intro j _; exact Nat.zero_le _
  | succ t ih =>
    intro j hj
    have hl := (List.getElem?_eq_some_iff.mp hj).1
    have ht : s[t]? = some s[t] := List.getElem?_eq_getElem (by omega)
    have h1 := ih _ ht
    have h2 := hs t (t + 1) _ _ (by omega) ht hj
    omega
theorem sort_len {s : List Nat} {i : Nat} (hs : ∀ t t' j j' : Nat, t < t' → s[t]? = some j → s[t']? = some j' → j < j') (hi : ∀ t j : Nat, s[t]? = some j → j < i) : s.length ≤ i := by
  cases hl : s.length with
  | zero => exact Nat.zero_le _
  | succ m =>
    have ht : s[m]? = some s[m] := List.getElem?_eq_getElem (by omega)
    have h1 := sort_ge hs m _ ht
    have h2 := hi m _ ht
    omega
section LND
variable {e L : Nat} {T : TS} {g q : TQ} {P P' : PK} {M M1 M' : Mem} {v : Option Value} {c d : Int32} {F : Nat → Nat → Prop} {W O : Nat → Prop} {n i k b : Nat} {s : List Nat}
/-- what no walking touches -/
def okF (L : Nat) (F : Nat → Nat → Prop) (W O : Nat → Prop) : Prop := (¬ F 104 7 ∧ ¬ F 104 2) ∧ (∀ t, gNth sT t = some 28 → (∀ k, ¬ F t k) ∧ ∀ k, 1 ≤ k → k ≤ 8 → ¬ W (t + k)) ∧ (¬ O 109 ∧ ¬ O 129) ∧ ¬ W 106 ∧ ¬ W 107 ∧ ¬ W 108
theorem CTX.mv (hX : CTX L T P M) (hS : SQ M') (hF : FZ F W O M M') (ho : okF L F W O) (hl : LCel L P' M') (h0 : P' 0 = P 0) (h1 : P' 1 = P 1) (hn : ∀ c, inC P' c → nnC P' c) (hc : ∀ c, inC P' c → rI M' (L + 8) c = crdP P' c (P' 157).toInt.toNat) : CTX L T P' M' := by
  obtain ⟨⟨a1, a2, a3, a4, a5, a6, a7⟩, b1, b2, b3, b4, ⟨b5, b6⟩, b7, b8⟩ := hX
  obtain ⟨⟨f7, f2⟩, ft, ⟨o1, o2⟩, w6, w7, w8⟩ := ho
  have hlt := law_t a1.1
  have e2 : fR M' 104 2 = fR M 104 2 := hF.fr f2
  have tf := ft _ hlt
  refine ⟨⟨hS, by rw [hF.fr f7]; exact a2, a3, ?_, ?_, ?_, hl⟩, b1.eq h0 h1, hn, fun m hm => by rw [hF.on o2]; exact b3 m hm, fun c hcc => ?_, ⟨?_, b6⟩, fun h hh => ?_, hc⟩
  · rw [e2, hF.fi (tf.1 _)]; exact a4
  · rw [e2, hF.fi (tf.1 _)]; exact a5
  · rw [e2, hF.fi (tf.1 _)]; exact a6
  · have hc2 : inC P c := (inC.eq h0 h1).mp hcc
    obtain ⟨g1, g2, g3⟩ := b4 c hc2
    have r6 : ∀ j, rI M' 106 j = rI M 106 j := fun j => hF.rn w6
    have r7 : ∀ j, rI M' 107 j = rI M 107 j := fun j => hF.rn w7
    have r8 : ∀ j, rI M' 108 j = rI M 108 j := fun j => hF.rn w8
    rw [r6, r7, h0]
    exact ⟨g1, g2, fun d d0 d1 => by rw [r8, bes_eq h0 h1]; exact g3 d d0 d1⟩
  · rw [e2]
    exact b5.fz hF tf.1 tf.2
  · rw [hF.on o1]
    have tf := ft _ (hab_t a1.1 hh)
    exact ⟨(b7 h hh).1.fz hF tf.1 tf.2, (b7 h hh).2⟩
theorem okF.go (hL : gNth sT L = some 8) : okF L (gwF L) (gwW L) (gwO L) := by
  have hl := ld_cases hL
  refine ⟨⟨?_, ?_⟩, fun t ht => ⟨fun k h => ?_, fun k h1 h2 h => ?_⟩, ⟨?_, ?_⟩, ?_, ?_, ?_⟩
  · unfold gwF; omega
  · unfold gwF; omega
  · have := tx_cases ht
    unfold gwF at h
    omega
  · have := tx_cases ht
    rcases h with h | h
    · omega
    · exact lk_tx ht k h1 h2 h
  · unfold gwO; omega
  · unfold gwO; omega
  · unfold gwW lkW; omega
  · unfold gwW lkW; omega
  · unfold gwW lkW; omega
theorem VC.mv (hV : VC T P M) (h0 : P' 0 = P 0) (h1 : P' 1 = P 1) (hs : ∀ j, 522 ≤ j → P' j = P j) (hr : ∀ b j, lkW b → rN M' b j = rN M b j) : VC T P' M' := by
  intro h c hh hc
  have hc2 : inC P c := (inC.eq h0 h1).mp hc
  have hsame : ∀ f, f < 7 → cE P' f c = cE P f c := fun f _ => hs _ cX_ge
  rcases hV h c hh hc2 with q | q
  · exact Or.inl ((hr 128 _ (Or.inl rfl)).trans q)
  · exact Or.inr (OKv.cong hsame ⟨(hr 128 _ (Or.inl rfl)).trans q.1, fun m hm => (hr (130 + m) _ (Or.inr ⟨by omega, by omega⟩)).trans (q.2 m hm)⟩)
theorem PKs.mv (h : PKs L P M) (hF : FZ F W O M M') (h0 : ¬ F L 0) (h1 : ¬ F L 1) (h11 : ¬ F L 11) (h13 : ¬ F L 13) (hw : ∀ k f, k < 24 → ¬ F (L + 12 + k) f) (h9 : ¬ W (L + 9)) (hs : ∀ j, j < 157 → P' j = P j) (h9d : (P 2).toInt ≤ 9) (h24 : (P 12).toInt ≤ 24) : PKs L P' M' := by
  obtain ⟨a1, a2, ⟨a3, a4⟩, a5, a6⟩ := h
  refine ⟨by rw [hF.fi h0, hs 0 (by decide)]; exact a1, by rw [hF.fi h1, hs 1 (by decide)]; exact a2, ⟨by rw [hF.fi h11, hs 2 (by decide)]; exact a3, fun d hd => ?_⟩, by rw [hF.fi h13, hs 12 (by decide)]; exact a5, fun k hk f hf => ?_⟩
  · rw [hs 2 (by decide)] at hd
    rw [hF.rn h9, a4 d hd]
    exact (hs _ (by omega)).symm
  · rw [hs 12 (by decide)] at hk
    rw [hF.fi (hw k f (by omega)), a6 k hk f hf]
    exact (hs _ (by omega)).symm
theorem STA.mv (h : STA L T P M) (hD : okD P) (hS : SQ M') (hF : FZ (gwF L) (gwW L) (gwO L) M M') (hl : LCel L P' M') (hsb : ∀ j, j < 157 → P' j = P j) (hn : ∀ c, inC P' c → nnC P' c) (hc : ∀ c, inC P' c → rI M' (L + 8) c = crdP P' c (P' 157).toInt.toNat) (hV : VC T P' M') (ht : PKt L P' M') (hk : WKs L M') : STA L T P' M' := by
  obtain ⟨a1, a2, a3, a4, a5, a6, a7⟩ := h
  have hL := a1.1.2.2.1
  have hl' := ld_cases hL
  refine ⟨a1.mv hS hF (okF.go hL) hl (hsb 0 (by decide)) (hsb 1 (by decide)) hn hc, hV, a3.mv hF ?_ ?_ ?_ ?_ (fun k f hk => ?_) ?_ hsb hD.2.1.2.1 hD.2.2.2.1, ht, fun k hk => ?_, hk, ?_⟩
  · unfold gwF; omega
  · unfold gwF; omega
  · unfold gwF; omega
  · unfold gwF; omega
  · unfold gwF; omega
  · unfold gwW lkW; omega
  · rw [hF.on (by unfold gwO; omega)]; exact a5 k hk
  · rw [hF.fi (by unfold gwF; omega)]; exact a7
theorem gwF_obj (hk : WKs L M) (hi : i < 60) (f : Nat) : gwF L (oN M (L + 11) i) f := Or.inr (Or.inl (hk.2 i hi))
theorem lk_go (h : FZ noF lkW noO M M') : FZ (gwF L) (gwW L) (gwO L) M M' := h.more (fun _ _ q => q.elim) (fun _ q => Or.inr q) (fun _ q => q.elim)
theorem tr_go (h : FZ trF (trW L) noO M M') : FZ (gwF L) (gwW L) (gwO L) M M' := h.more (fun _ _ q => Or.inr (Or.inr q)) (fun a q => by
  rcases q with q | q | q | q
  · exact Or.inl (by omega)
  · exact Or.inl (by omega)
  · exact Or.inl (by omega)
  · exact Or.inr (Or.inl q)) (fun _ q => q.elim)
theorem WKs.fz (h : WKs L M) (hF : FZ F W O M M') (ho : ¬ O (L + 11)) : WKs L M' := by
  unfold WKs
  have e : ∀ j, oN M' (L + 11) j = oN M (L + 11) j := fun j => hF.on ho
  refine ⟨fun j k hj hk q => h.1 j k hj hk (by rw [e, e] at q; exact q), fun k hk => by rw [e]; exact h.2 k hk⟩
theorem WFq.eq (h : WFq b P k M) (hz : ∀ f, f < 5 → zI M' b f = zI M b f) (hp : ∀ j, j < 5 → P' (158 + 6 * k + j) = P (158 + 6 * k + j)) : WFq b P' k M' := by
  obtain ⟨a1, a2, a3, a4, a5⟩ := h
  refine ⟨(hz 0 (by decide)).trans (a1.trans (hp 0 (by decide)).symm), (hz 1 (by decide)).trans (a2.trans (hp 1 (by decide)).symm), (hz 2 (by decide)).trans (a3.trans (hp 2 (by decide)).symm), (hz 3 (by decide)).trans (a4.trans (hp 4 (by decide)).symm), (hz 4 (by decide)).trans (a5.trans (hp 3 (by decide)).symm)⟩
/-- nothing of the walkers changes -/
theorem MDW.same (h : MDW L P M n i s) (hk : WKs L M) (h15 : zI M' L 15 = zI M L 15) (ho : ∀ j, oN M' (L + 11) j = oN M (L + 11) j) (hz : ∀ b f, L + 36 ≤ b → b < L + 96 → zI M' b f = zI M b f) (hp : ∀ j, 157 ≤ j → j < 518 → P' j = P j) : MDW L P' M' n i s := by
  obtain ⟨a1, a2, a3, a4, a5, a6, a7, a8⟩ := h
  refine ⟨h15.trans a1, a2, a3, by rw [hp 157 (by decide) (by decide)]; exact a4, fun t j ht => ?_, fun j h1 h2 => ?_, fun j h1 h2 => ?_, a8⟩
  · obtain ⟨q1, q2⟩ := a5 t j ht
    have hb := hk.2 j (by omega)
    rw [ho]
    refine ⟨q1, q2.eq (fun f _ => hz _ f hb.1 hb.2) (fun f hf => hp _ (by omega) ?_)⟩
    have := sort_ge a8 t j ht
    omega
  · have hb := hk.2 j (by omega)
    have hs := sort_len a8 (fun t j ht => (a5 t j ht).1)
    rw [ho]
    exact (a6 j h1 h2).eq (fun f _ => hz _ f hb.1 hb.2) (fun f hf => hp _ (by omega) (by omega))
  · have hb := hk.2 j (by omega)
    rw [ho, hz _ 0 hb.1 hb.2]
    exact a7 j h1 h2
end LND
