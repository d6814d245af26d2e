/-! FRAMES of the reference's reading: what is read goes into the places behind those of its texts -/
def lowQ (b j : Nat) : Prop := (640 ≤ b ∧ b ≤ 644 ∧ j < 112) ∨ (645 ≤ b ∧ b ≤ 647 ∧ j < 1400) ∨ (b = 639 ∧ j < 7)
def FB (F : List (Nat × Nat)) (W : List Nat) (M M' : Mem) : Prop := FA F W M M' ∧ ∀ b j, lowQ b j → rN M' b j = rN M b j
section FRB
variable {F G : List (Nat × Nat)} {W V : List Nat} {M M1 M2 M' : Mem} {a b k j i : Nat} {x : Int32} {z : Int64}
theorem FB.refl (M : Mem) : FB F W M M := ⟨FA.refl M, fun _ _ _ => rfl⟩
theorem FB.trans (h1 : FB F W M M1) (h2 : FB F W M1 M2) : FB F W M M2 := ⟨h1.1.trans h2.1, fun b j h => (h2.2 b j h).trans (h1.2 b j h)⟩
theorem FB.more (h : FB F W M M1) (hF : ∀ q ∈ F, q ∈ G) (hW : ∀ q ∈ W, q ∈ V) : FB G V M M1 := ⟨h.1.more hF hW, h.2⟩
theorem FB.fi (h : FB F W M M1) (hn : (a, k) ∉ F) : zI M1 a k = zI M a k := h.1.fi hn
theorem FB.fr (h : FB F W M M1) (hn : (a, k) ∉ F) : fR M1 a k = fR M a k := h.1.fr hn
theorem FB.fl (h : FB F W M M1) (hn : (a, k) ∉ F) : fL M1 a k = fL M a k := h.1.fl hn
theorem FB.rn (h : FB F W M M1) (hn : b ∉ W) : rN M1 b j = rN M b j := h.1.rn hn
theorem FB.on (h : FB F W M M1) : oN M1 b j = oN M b j := h.1.on
theorem FB.wI (h : a ∈ W) (hl : ¬ lowQ a j := by unfold lowQ; omega) : FB F W M (wI M a j x) := ⟨FA.wI h, fun b i hb => rN_wI_ne (fun q => hl (by rw [← q.1, ← q.2]; exact hb))⟩
theorem FB.wF (h : (a, k) ∈ F) : FB F W M (wF M a k x) := ⟨FA.wF h, fun _ _ _ => rN_wF⟩
theorem FB.wG (h : (a, k) ∈ F) : FB F W M (wG M a k z) := ⟨FA.wG h, fun _ _ _ => rN_wG⟩
end FRB
