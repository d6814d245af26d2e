/-! BY HAND, the class: sweep -/
/-- two places of a row change places -/
noncomputable def swp (l : List (Option Nat)) (i s : Nat) (a b : Nat) : List (Option Nat) := gPut (gPut l i (some a)) s (some b)
theorem swp_at {l : List (Option Nat)} {i s a b k : Nat} (hi : gNth l i = some (some b)) (hs : gNth l s = some (some a)) : gNth (swp l i s a b) k = if k = s then some (some b) else if k = i then some (some a) else gNth l k := by
  have h1 := gNth_lt _ _ _ hi
  have h2 := gNth_lt _ _ _ hs
  unfold swp
  rw [nth_put, nth_put, put_len]
  by_cases c1 : k = s
  · rw [if_pos ⟨c1, h2⟩, if_pos c1]
  · rw [if_neg (fun q => c1 q.1), if_neg c1]
    by_cases c2 : k = i
    · rw [if_pos ⟨c2, h1⟩, if_pos c2]
    · rw [if_neg (fun q => c2 q.1), if_neg c2]
theorem swp_unl {l : List (Option Nat)} {i s a b : Nat} (h : unl l) (hi : gNth l i = some (some b)) (hs : gNth l s = some (some a)) : unl (swp l i s a b) := by
  have src : ∀ k c, gNth (swp l i s a b) k = some (some c) → gNth l (if k = s then i else if k = i then s else k) = some (some c) := by
    intro k c hk
    rw [swp_at hi hs] at hk
    by_cases c1 : k = s
    · rw [if_pos c1] at hk ⊢
      rw [hi]; exact hk
    · rw [if_neg c1] at hk ⊢
      by_cases c2 : k = i
      · rw [if_pos c2] at hk ⊢
        rw [hs]; exact hk
      · rw [if_neg c2] at hk ⊢
        exact hk
  intro j k c hj hk
  have e := h _ _ c (src j c hj) (src k c hk)
  by_cases j1 : j = s
  · rw [if_pos j1] at e
    by_cases k1 : k = s
    · omega
    · rw [if_neg k1] at e
      by_cases k2 : k = i
      · rw [if_pos k2] at e; omega
      · rw [if_neg k2] at e; omega
  · rw [if_neg j1] at e
    by_cases j2 : j = i
    · rw [if_pos j2] at e
      by_cases k1 : k = s
      · rw [if_pos k1] at e; omega
      · rw [if_neg k1] at e
        by_cases k2 : k = i
        · omega
        · rw [if_neg k2] at e; omega
    · rw [if_neg j2] at e
      by_cases k1 : k = s
      · rw [if_pos k1] at e; omega
      · rw [if_neg k1] at e
        by_cases k2 : k = i
        · rw [if_pos k2] at e; omega
        · rw [if_neg k2] at e; exact e
theorem swp_mem {l : List (Option Nat)} {i s a b c : Nat} (hi : gNth l i = some (some b)) (hs : gNth l s = some (some a)) : (∃ k, gNth (swp l i s a b) k = some (some c)) ↔ ∃ k, gNth l k = some (some c) := by
  constructor
  · rintro ⟨k, hk⟩
    rw [swp_at hi hs] at hk
    by_cases c1 : k = s
    · rw [if_pos c1] at hk
      exact ⟨i, by rw [hi]; exact hk⟩
    · rw [if_neg c1] at hk
      by_cases c2 : k = i
      · rw [if_pos c2] at hk
        exact ⟨s, by rw [hs]; exact hk⟩
      · rw [if_neg c2] at hk
        exact ⟨k, hk⟩
  · rintro ⟨k, hk⟩
    by_cases c1 : k = s
    · refine ⟨i, ?_⟩
      rw [swp_at hi hs]
      subst c1
      by_cases c2 : i = k
      · rw [if_pos c2, ← hk, ← c2, hi]
      · rw [if_neg c2, if_pos rfl, ← hk, hs]
    · by_cases c2 : k = i
      · refine ⟨s, ?_⟩
        rw [swp_at hi hs, if_pos rfl, ← hk, c2, hi]
      · exact ⟨k, by rw [swp_at hi hs, if_neg c1, if_neg c2]; exact hk⟩
