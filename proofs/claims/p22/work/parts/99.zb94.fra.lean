/-! FRAMES: what may have changed, cell by cell -/
def FA (F : List (Nat × Nat)) (W : List Nat) (M M' : Mem) : Prop := (∀ a k, (a, k) ∉ F → fV M' a k = fV M a k) ∧ (∀ b, b ∉ W → zrw M' b = zrw M b) ∧ ∀ b, roL M' b = roL M b
section FRA
variable {F G : List (Nat × Nat)} {W V : List Nat} {M M1 M2 : Mem} {a b k j i : Nat} {x : Int32} {z : Int64}
theorem FA.refl (M : Mem) : FA F W M M := ⟨fun _ _ _ => rfl, fun _ _ => rfl, fun _ => rfl⟩
theorem FA.trans (h1 : FA F W M M1) (h2 : FA F W M1 M2) : FA F W M M2 := ⟨fun a k h => (h2.1 a k h).trans (h1.1 a k h), fun b h => (h2.2.1 b h).trans (h1.2.1 b h), fun b => (h2.2.2 b).trans (h1.2.2 b)⟩
theorem FA.more (h : FA F W M M1) (hF : ∀ q ∈ F, q ∈ G) (hW : ∀ q ∈ W, q ∈ V) : FA G V M M1 := ⟨fun a k q => h.1 a k (fun r => q (hF _ r)), fun b q => h.2.1 b (fun r => q (hW _ r)), h.2.2⟩
theorem FA.fi (h : FA F W M M1) (hn : (a, k) ∉ F) : zI M1 a k = zI M a k := by unfold zI; rw [h.1 a k hn]
theorem FA.fr (h : FA F W M M1) (hn : (a, k) ∉ F) : fR M1 a k = fR M a k := by unfold fR; rw [h.1 a k hn]
theorem FA.fl (h : FA F W M M1) (hn : (a, k) ∉ F) : fL M1 a k = fL M a k := by unfold fL; rw [h.1 a k hn]
theorem FA.rn (h : FA F W M M1) (hn : b ∉ W) : rN M1 b j = rN M b j := by unfold rN; rw [h.2.1 b hn]
theorem FA.on (h : FA F W M M1) : oN M1 b j = oN M b j := by unfold oN; rw [h.2.2 b]
theorem roL_wI : roL (wI M a j x) b = roL M b := by
  unfold wI
  split
  · rename_i hM
    unfold roL
    rw [nth_put]
    by_cases hb : b = a ∧ a < M.length
    · rw [if_pos hb, hb.1, hM]
    · rw [if_neg hb]
  · rfl
theorem roL_wF : roL (wF M a k x) b = roL M b := by
  unfold wF
  split
  · rename_i c vs hM
    split
    · unfold roL
      rw [nth_put]
      by_cases hb : b = a ∧ a < M.length
      · rw [if_pos hb, hb.1, hM]
      · rw [if_neg hb]
    · rfl
  · rfl
theorem roL_wG : roL (wG M a k z) b = roL M b := by
  unfold wG
  split
  · rename_i c vs hM
    split
    · unfold roL
      rw [nth_put]
      by_cases hb : b = a ∧ a < M.length
      · rw [if_pos hb, hb.1, hM]
      · rw [if_neg hb]
    · rfl
  · rfl
theorem roL_wR {r : Nat} : roL (wR M a k r) b = roL M b := by
  unfold wR
  split
  · rename_i hM
    unfold roL
    rw [nth_put]
    by_cases hb : b = a ∧ a < M.length
    · rw [if_pos hb, hb.1, hM]
    · rw [if_neg hb]
  · rfl
theorem FA.wI (h : a ∈ W) : FA F W M (wI M a j x) := ⟨fun _ _ _ => fV_wI, fun b hb => rwL_wI_ne (fun q => hb (q ▸ h)), fun _ => roL_wI⟩
theorem FA.wF (h : (a, k) ∈ F) : FA F W M (wF M a k x) := ⟨fun b i hb => fV_wF_ne (fun q => hb (by rw [q.1, q.2]; exact h)), fun _ _ => rwL_wF, fun _ => roL_wF⟩
theorem FA.wG (h : (a, k) ∈ F) : FA F W M (wG M a k z) := ⟨fun b i hb => fV_wG_ne (fun q => hb (by rw [q.1, q.2]; exact h)), fun _ _ => rwL_wG, fun _ => roL_wG⟩
theorem FA.wR {r : Nat} (h : (a, k) ∈ F) : FA F W M (wR M a k r) := ⟨fun b i hb => fV_wR_ne (fun q => hb (by rw [q.1, q.2]; exact h)), fun _ _ => rwL_wR, fun _ => roL_wR⟩
end FRA
