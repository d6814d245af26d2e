/-! THE REFERENCE'S text -/
section RTE
variable {e n kk : Nat} {M M1 M' : Mem} {v : Option Value} {B : Nat → Int32} {s : Sg} {ls : List Lnq}
theorem mul_t {a tz kz : Int32} {A t k : Nat} (ha : a.toInt = (A : Int)) (hA : A ≤ 200) (ht : tz.toInt = (t : Int)) (ht6 : t ≤ 7) (hk : kz.toInt = (k : Int)) (hk2 : k ≤ 200) : (a * tz + kz).toInt = ((A * t + k : Nat) : Int) := by
  have h0 : A * t ≤ 200 * 7 := Nat.mul_le_mul hA ht6
  have h1 : a.toInt * tz.toInt = ((A * t : Nat) : Int) := by rw [ha, ht]; push_cast; rfl
  have h2 : (a * tz).toInt = ((A * t : Nat) : Int) := by
    rw [i32_mul (by rw [h1]; omega) (by rw [h1]; omega), h1]
  rw [i32_add (by omega) (by omega), h2, hk]
  push_cast
  rfl
theorem te_a {t : Nat} {tz l : Int32} (ht : t ≤ 6) (hz : tz.toInt = (t : Int)) : ∀ (m k : Nat) (kz : Int32) (M M' : Mem) (v c4 c5 : Option Value), 16 - k ≤ m → k ≤ 16 → kz.toInt = (k : Int) → SQ M → Ev none e 181 57 [some (.ref 633), some (.int tz), some (.int l), some (.int kz), c4, c5] [] M v M' 0 0 → ∃ M2, (∃ c4 c5, Ev none e 181 155 [some (.ref 633), some (.int tz), some (.int l), some (.int 0), c4, c5] [] M2 v M' 0 0) ∧ SQ M2 ∧ FA [] [640, 641, 642, 643, 644] M M2 ∧ (∀ b i, ¬ (16 * t + k ≤ i ∧ i < 16 * t + 16) → rN M2 b i = rN M b i) ∧ ∀ b ∈ [640, 641, 642, 643, 644], ∀ j, k ≤ j → j < 16 → rN M2 b (16 * t + j) = rN M b (112 + j) := by
  have e1 : (16 : Int32).toInt = 16 := rfl
  have e2 : (112 : Int32).toInt = ((112 : Nat) : Int) := rfl
  intro m
  induction m with
  | zero =>
    intro k kz M M' v c4 c5 hm hk hkz hS H
    have hks : k = 16 := by omega
    rcases teq_57 hS H with ⟨q, H⟩ | ⟨q, _⟩
    · exact ⟨M, ⟨_, _, H⟩, hS, FA.refl _, fun _ _ _ => rfl, fun b hb j h1 h2 => absurd h2 (by omega)⟩
    · rw [Int32.le_iff_toInt_le] at q
      omega
  | succ m ih =>
    intro k kz M M' v c4 c5 hm hk hkz hS H
    rcases teq_57 hS H with ⟨q, H⟩ | ⟨q, _, _, _, _, _, _, _, _, _, _, H⟩
    · rw [Int32.le_iff_toInt_le] at q
      have hks : k = 16 := by omega
      exact ⟨M, ⟨_, _, H⟩, hS, FA.refl _, fun _ _ _ => rfl, fun b hb j h1 h2 => absurd h2 (by omega)⟩
    · rw [Int32.le_iff_toInt_le] at q
      have hks : k < 16 := by omega
      have d1 : ((112 : Int32) + kz).toInt = ((112 + k : Nat) : Int) := by
        rw [i32_add (by omega) (by omega), e2, hkz]
        exact (Int.natCast_add _ _).symm
      have d2 : ((16 : Int32) * tz + kz).toInt = ((16 * t + k : Nat) : Int) := mul_t rfl (by omega) hz (by omega) hkz (by omega)
      rw [clI d2, show rI M 640 (112 + kz) = rN M 640 (112 + k) from rI_n d1, show rI M 641 (112 + kz) = rN M 641 (112 + k) from rI_n d1, show rI M 642 (112 + kz) = rN M 642 (112 + k) from rI_n d1, show rI M 643 (112 + kz) = rN M 643 (112 + k) from rI_n d1, show rI M 644 (112 + kz) = rN M 644 (112 + k) from rI_n d1] at H
      have hN : SQ (wI (wI (wI (wI (wI M 640 (16 * t + k) (rN M 640 (112 + k))) 641 (16 * t + k) (rN M 641 (112 + k))) 642 (16 * t + k) (rN M 642 (112 + k))) 643 (16 * t + k) (rN M 643 (112 + k))) 644 (16 * t + k) (rN M 644 (112 + k))) := hS.ki.ki.ki.ki.ki
      have F : FA [] [640, 641, 642, 643, 644] M (wI (wI (wI (wI (wI M 640 (16 * t + k) (rN M 640 (112 + k))) 641 (16 * t + k) (rN M 641 (112 + k))) 642 (16 * t + k) (rN M 642 (112 + k))) 643 (16 * t + k) (rN M 643 (112 + k))) 644 (16 * t + k) (rN M 644 (112 + k))) := ((((FA.wI (by simp)).trans (FA.wI (by simp))).trans (FA.wI (by simp))).trans (FA.wI (by simp))).trans (FA.wI (by simp))
      have hI : 16 * t + k < 128 := by omega
      obtain ⟨M2, R, s2, f2, u2, w2⟩ := ih (k + 1) (kz + 1) _ M' v _ _ (by omega) (by omega) (by rw [i32_p1 (by omega), hkz]; rfl) hN H
      have ne : ∀ b i, i ≠ 16 * t + k → rN (wI (wI (wI (wI (wI M 640 (16 * t + k) (rN M 640 (112 + k))) 641 (16 * t + k) (rN M 641 (112 + k))) 642 (16 * t + k) (rN M 642 (112 + k))) 643 (16 * t + k) (rN M 643 (112 + k))) 644 (16 * t + k) (rN M 644 (112 + k))) b i = rN M b i := fun b i hi => by
        rw [rN_wI_ne (fun q => hi q.2), rN_wI_ne (fun q => hi q.2), rN_wI_ne (fun q => hi q.2), rN_wI_ne (fun q => hi q.2), rN_wI_ne (fun q => hi q.2)]
      refine ⟨M2, R, s2, F.trans f2, fun b i hi => ?_, fun b hb j h1 h2 => ?_⟩
      · rw [u2 b i (fun x => hi ⟨by omega, x.2⟩)]
        by_cases hx : i = 16 * t + k
        · exact absurd ⟨by omega, by omega⟩ hi
        · exact ne b i hx
      · by_cases hj : j = k
        · rw [hj, u2 b _ (fun x => by omega)]
          simp only [List.mem_cons, List.not_mem_nil, or_false] at hb
          rcases hb with rfl | rfl | rfl | rfl | rfl
          · rw [rN_wI_ne (fun q => absurd q.1 (by decide)), rN_wI_ne (fun q => absurd q.1 (by decide)), rN_wI_ne (fun q => absurd q.1 (by decide)), rN_wI_ne (fun q => absurd q.1 (by decide)), rN_wI_eq (by rw [(hS.1.row qa_640 qw_68).2]; exact hI)]
          · rw [rN_wI_ne (fun q => absurd q.1 (by decide)), rN_wI_ne (fun q => absurd q.1 (by decide)), rN_wI_ne (fun q => absurd q.1 (by decide)), rN_wI_eq (by rw [(hS.ki.1.row qa_641 qw_69).2]; exact hI)]
          · rw [rN_wI_ne (fun q => absurd q.1 (by decide)), rN_wI_ne (fun q => absurd q.1 (by decide)), rN_wI_eq (by rw [(hS.ki.ki.1.row qa_642 qw_70).2]; exact hI)]
          · rw [rN_wI_ne (fun q => absurd q.1 (by decide)), rN_wI_eq (by rw [(hS.ki.ki.ki.1.row qa_643 qw_71).2]; exact hI)]
          · rw [rN_wI_eq (by rw [(hS.ki.ki.ki.ki.1.row qa_644 qw_72).2]; exact hI)]
        · rw [w2 b hb j (by omega) h2]
          exact ne b _ (by omega)
theorem te_b {t : Nat} {tz l : Int32} (ht : t ≤ 6) (hz : tz.toInt = (t : Int)) : ∀ (m k : Nat) (kz : Int32) (M M' : Mem) (v c4 c5 : Option Value), 200 - k ≤ m → k ≤ 200 → kz.toInt = (k : Int) → SQ M → Ev none e 181 155 [some (.ref 633), some (.int tz), some (.int l), some (.int kz), c4, c5] [] M v M' 0 0 → ∃ M2, (v = some (.int (rI M2 639 tz)) ∧ M' = M2) ∧ SQ M2 ∧ FA [] [645, 646, 647] M M2 ∧ (∀ b i, ¬ (200 * t + k ≤ i ∧ i < 200 * t + 200) → rN M2 b i = rN M b i) ∧ ∀ b ∈ [645, 646, 647], ∀ j, k ≤ j → j < 200 → rN M2 b (200 * t + j) = rN M b (1400 + j) := by
  have e1 : (200 : Int32).toInt = 200 := rfl
  have e2 : (1400 : Int32).toInt = ((1400 : Nat) : Int) := rfl
  intro m
  induction m with
  | zero =>
    intro k kz M M' v c4 c5 hm hk hkz hS H
    have hks : k = 200 := by omega
    rcases teq_155 hS H with ⟨q, _, rfl, rfl⟩ | ⟨q, _⟩
    · exact ⟨M', ⟨rfl, rfl⟩, hS, FA.refl _, fun _ _ _ => rfl, fun b hb j h1 h2 => absurd h2 (by omega)⟩
    · rw [Int32.le_iff_toInt_le] at q
      omega
  | succ m ih =>
    intro k kz M M' v c4 c5 hm hk hkz hS H
    rcases teq_155 hS H with ⟨q, _, rfl, rfl⟩ | ⟨q, _, _, _, _, _, _, H⟩
    · rw [Int32.le_iff_toInt_le] at q
      have hks : k = 200 := by omega
      exact ⟨M', ⟨rfl, rfl⟩, hS, FA.refl _, fun _ _ _ => rfl, fun b hb j h1 h2 => absurd h2 (by omega)⟩
    · rw [Int32.le_iff_toInt_le] at q
      have hks : k < 200 := by omega
      have d1 : ((1400 : Int32) + kz).toInt = ((1400 + k : Nat) : Int) := by
        rw [i32_add (by omega) (by omega), e2, hkz]
        exact (Int.natCast_add _ _).symm
      have d2 : ((200 : Int32) * tz + kz).toInt = ((200 * t + k : Nat) : Int) := mul_t rfl (by omega) hz (by omega) hkz (by omega)
      rw [clI d2, show rI M 645 (1400 + kz) = rN M 645 (1400 + k) from rI_n d1, show rI M 646 (1400 + kz) = rN M 646 (1400 + k) from rI_n d1, show rI M 647 (1400 + kz) = rN M 647 (1400 + k) from rI_n d1] at H
      have hN : SQ (wI (wI (wI M 645 (200 * t + k) (rN M 645 (1400 + k))) 646 (200 * t + k) (rN M 646 (1400 + k))) 647 (200 * t + k) (rN M 647 (1400 + k))) := hS.ki.ki.ki
      have F : FA [] [645, 646, 647] M (wI (wI (wI M 645 (200 * t + k) (rN M 645 (1400 + k))) 646 (200 * t + k) (rN M 646 (1400 + k))) 647 (200 * t + k) (rN M 647 (1400 + k))) := ((FA.wI (by simp)).trans (FA.wI (by simp))).trans (FA.wI (by simp))
      have hI : 200 * t + k < 1600 := by omega
      obtain ⟨M2, R, s2, f2, u2, w2⟩ := ih (k + 1) (kz + 1) _ M' v _ _ (by omega) (by omega) (by rw [i32_p1 (by omega), hkz]; rfl) hN H
      have ne : ∀ b i, i ≠ 200 * t + k → rN (wI (wI (wI M 645 (200 * t + k) (rN M 645 (1400 + k))) 646 (200 * t + k) (rN M 646 (1400 + k))) 647 (200 * t + k) (rN M 647 (1400 + k))) b i = rN M b i := fun b i hi => by
        rw [rN_wI_ne (fun q => hi q.2), rN_wI_ne (fun q => hi q.2), rN_wI_ne (fun q => hi q.2)]
      refine ⟨M2, R, s2, F.trans f2, fun b i hi => ?_, fun b hb j h1 h2 => ?_⟩
      · rw [u2 b i (fun x => hi ⟨by omega, x.2⟩)]
        by_cases hx : i = 200 * t + k
        · exact absurd ⟨by omega, by omega⟩ hi
        · exact ne b i hx
      · by_cases hj : j = k
        · rw [hj, u2 b _ (fun x => by omega)]
          simp only [List.mem_cons, List.not_mem_nil, or_false] at hb
          rcases hb with rfl | rfl | rfl
          · rw [rN_wI_ne (fun q => absurd q.1 (by decide)), rN_wI_ne (fun q => absurd q.1 (by decide)), rN_wI_eq (by rw [(hS.1.row qa_645 qw_73).2]; exact hI)]
          · rw [rN_wI_ne (fun q => absurd q.1 (by decide)), rN_wI_eq (by rw [(hS.ki.1.row qa_646 qw_74).2]; exact hI)]
          · rw [rN_wI_eq (by rw [(hS.ki.ki.1.row qa_647 qw_75).2]; exact hI)]
        · rw [w2 b hb j (by omega) h2]
          exact ne b _ (by omega)
end RTE
