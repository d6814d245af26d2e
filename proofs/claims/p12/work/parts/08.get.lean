/-! SOUNDNESS: reading and writing the memory -/
section SNB
variable {p : Program} {l : Launch} {e : Env} {R : Room} {s : State} {m : MethodId} {args : Array Value} {below : List Frame} {meth : Method} {c : Code} {H : Heap} {locs : List Loc} {cells slots : Nat} {Q : State → Prop} {cc : ByteArray} {pc : Nat} {ls : Array Slot} {B : Nat} {sa : Nat → Nat} {cy : Nat → ClassId} {dC : Nat → ClassId} {dI : Nat → Nat → Nat} {SA : Sta}
theorem wn_word {own C n : String} {ix : Nat} (hI : Inv B sa cy dC dI SA s) (h : ckN (.fieldLinkNest own ix C n "[I" "GrassPark") = true) : (Cond.fieldLinkNest own ix C n "[I" "GrassPark").before args s = true := va_Nw.use rfl (hI.2.1 _ (of_decide_eq_true h))
theorem aald_ok (hx : p.tables.exec = Jvm.exec) (hb : c.code = cc) {D : va_G} {cl : List vw_C} {ws : va_W} {a t9 n : Nat} {rest : List Value} (hK : va_K D cl (gTy2 cy) s) (hP : va_P D cl ws H) {q0 : Nat} {f : Nat → Option Nat} (ha : ws[q0]? = some (a, .inl (cy t9, n, .inr (.inr (.inr (.inr f)))))) (h4 : 4 ≤ t9) (h8 : t9 ≤ 8) {i : Int32} (hin : vp_in i n) (hdg : decode cc pc = .ok (.aaload, 1))
    (kk : W p l e R s m args below meth c H locs cells slots Q (F0 m (pc + 1) ls (va_rf (f i.toNatClampNeg) :: rest))) : W p l e R s m args below meth c H locs cells slots Q (F0 m pc ls (.int i :: .ref a :: rest)) := by
  have hlt : i.toNatClampNeg < n := Nat.not_le.mp fun q => hin (Or.inr q)
  have hr : (gTyL t9).isReference = true := by
    rcases (show t9 = 4 ∨ t9 = 5 ∨ t9 = 6 ∨ t9 = 7 ∨ t9 = 8 by omega) with rfl | rfl | rfl | rfl | rfl <;> rfl
  exact W.aald (v := va_rf (f i.toNatClampNeg)) (ty := gTyL t9) hx hb (hP q0 _ ha) ((hK.2 t9 _ (gTy2_at cy h8)).1 n (fun j => va_rf (f j))) hr (fun q => by cases q) (by show ¬ (i < 0 ∨ (arrV _ _ _).slots.size ≤ _); rw [arrV_size]; exact hin) (by show (arrV _ _ _).slots[_]? = _; rw [arrV_read _ _ hlt]) rfl rfl hdg kk
theorem va_P.lt_cls {D : va_G} {cl : List vw_C} {ws : va_W} (hP : va_P D cl ws H) {q0 a ci : Nat} {fs : List Value} (h : ws[q0]? = some (a, .inr (ci, fs))) : ∃ r : vw_C, cl[ci]? = some r := by
  obtain ⟨r, h1, -⟩ := hP q0 _ h
  exact ⟨r, h1⟩
theorem aast_ok (hx : p.tables.exec = Jvm.exec) (hb : c.code = cc) {ws : va_W} {a v t9 c9 n : Nat} {rest : List Value} (hK : va_K (dC, dI) gCL (gTy2 cy) s) (hP : va_P (dC, dI) gCL ws H) (hD : va_D (fun q => B ≤ q) ws) (hS : va_S (fun q => B ≤ q) s.heap H locs) {q0 qk : Nat} {vs : List Value} {f : Nat → Option Nat} (ha : ws[q0]? = some (a, .inl (cy t9, n, .inr (.inr (.inr (.inr f)))))) (hv : ws[qk]? = some (v, .inr (c9, vs))) (hel : gEl t9 = c9) (hcl : ∃ r : vw_C, gCL[c9]? = some r) {i : Int32} (hin : vp_in i n) (hdg : decode cc pc = .ok (.aastore, 1))
    (kk : ∀ (H1 : Heap) (locs1 : List Loc), va_P (dC, dI) gCL (ws.set q0 (a, .inl (cy t9, n, .inr (.inr (.inr (.inr (va_up f i.toNatClampNeg (some v)))))))) H1 → va_S (fun q => B ≤ q) s.heap H1 locs1 → W p l e R s m args below meth c H1 locs1 cells slots Q (F0 m (pc + 1) ls rest)) : W p l e R s m args below meth c H locs cells slots Q (F0 m pc ls (.ref v :: .int i :: .ref a :: rest)) := by
  have key : ∀ r : vw_C, gCL[c9]? = some r → gTyL t9 = .object r.1 → t9 ≤ 8 → W p l e R s m args below meth c H locs cells slots Q (F0 m pc ls (.ref v :: .int i :: .ref a :: rest)) := fun r hr ht h8 =>
    va_astq hx hb hK hP hD hS q0 t9 qk c9 ha (by rw [gTy2_at cy h8, ht]) hv hr hin hdg (fun H1 locs1 h1 _ h3 => kk H1 locs1 h1 h3)
  subst hel
  obtain ⟨r, hr⟩ := hcl
  match t9, hr, key with
  | 4, hr, key => exact key _ rfl rfl (by decide)
  | 5, hr, key => exact key _ rfl rfl (by decide)
  | 6, hr, key => exact key _ rfl rfl (by decide)
  | 7, hr, key => exact key _ rfl rfl (by decide)
  | 0, hr, key => cases hr
  | 1, hr, key => cases hr
  | 2, hr, key => cases hr
  | 3, hr, key => cases hr
  | n9 + 8, hr, key => cases hr
set_option maxHeartbeats 4000000 in
theorem get_ok (hx : p.tables.exec = Jvm.exec) (hb : c.code = cc) {o : Nat} {own : String} (hoo : gNth ownR o = some own) (hown : s.vm.findClass own = some m.cls) (hts : ∀ w ∈ W0, w.before args s = true) (hI : Inv B sa cy dC dI SA s) {ini : Bool} (hini : ini = true → meth.name = "<init>") {i : Instr} {M M' : Mem} {st st' : List Value} (hP : va_P (dC, dI) gCL (wd B sa cy M) H) (hS : va_S (fun q => B ≤ q) s.heap H locs) (hdg : decode cc pc = .ok (i, gLen i)) (h : gGet i SA o ini st M = some (st', M'))
    (k : ∀ (H1 : Heap) (locs1 : List Loc), va_P (dC, dI) gCL (wd B sa cy M') H1 → va_S (fun q => B ≤ q) s.heap H1 locs1 → W p l e R s m args below meth c H1 locs1 cells slots Q (F0 m (pc + gLen i) ls (st'.map (rV B sa)))) : W p l e R s m args below meth c H locs cells slots Q (F0 m pc ls (st.map (rV B sa))) := by
  have hK := hI.1
  have hD := wd_D B sa cy M
  cases i
  case ldc ix =>
    simp only [gGet] at h
    split at h
    · rename_i v wi hr
      cases h
      have hc := own_in ckKs rfl hr
      simp only [ckK, hoo] at hc
      exact lv_ldc hx hb hown (hts _ (ckW_in hc)) hdg (k H locs hP hS)
    · split at h
      · rename_i k9 wi hr
        cases h
        have hc := own_in ckTs rfl hr
        simp only [ckT, Bool.and_eq_true] at hc
        obtain ⟨h0, h1, h2⟩ := hc
        obtain rfl := Nat.eq_of_beq_eq_true h0
        have h1' : k9 < 7 := Nat.le_of_ble_eq_true h1
        obtain rfl := Nat.eq_of_beq_eq_true h2
        obtain rfl : "GrassPark$Reader" = own := Option.some.inj hoo
        exact va_ldcS hx hb hown (hI.2.2.2.2.2.2.2.2.1 k9 h1') hdg (k H locs hP hS)
      · cases h
  case ldc_w ix =>
    simp only [gGet] at h
    split at h
    · rename_i v wi hr
      cases h
      have hc := own_in ckKs rfl hr
      simp only [ckK, hoo] at hc
      exact lv_ldcw hx hb hown (hts _ (ckW_in hc)) hdg (k H locs hP hS)
    · cases h
  case ldc2_w ix =>
    simp only [gGet] at h
    split at h
    · rename_i v wi hr
      cases h
      have hc := own_in ckLs rfl hr
      simp only [ckL, hoo] at hc
      exact lv_ldc2 hx hb hown (hts _ (ckW_in hc)) hdg (k H locs hP hS)
    · cases h
  case getstatic ix =>
    simp only [gGet] at h
    split at h
    · rename_i j w9 hr
      cases h
      have hc := own_in ckSs rfl hr
      simp only [ckS, hoo, Bool.and_eq_true] at hc
      obtain ⟨⟨h0, h5⟩, hc⟩ := hc
      have h0' : 0 < j := Nat.le_of_ble_eq_true h0
      have h5' : j < 5 := Nat.le_of_ble_eq_true h5
      have hZ := hI.2.2.2.1 j h0' h5'
      split at hc
      · exact va_gets hx hb hZ hS hown (hts _ (ckW_in hc)) (fun _ h => h) hdg (k H locs hP hS)
      · exact va_getsN hx hb hZ hS hown (wn_word hI hc) (fun _ h => h) hdg (k H locs hP hS)
    · cases h
  case getfield ix =>
    simp only [gGet] at h
    split at h
    · rename_i a r
      split at h
      · rename_i ci kk wi cc2 fs hr hm
        split at h
        · rename_i v hbq hv
          cases h
          obtain rfl := Nat.eq_of_beq_eq_true hbq
          have hc := own_in ckFs rfl hr
          simp only [ckF, hoo] at hc
          split at hc
          · rename_i own2 q ty n9 e1 e2 e3 e4
            cases e1
            simp only [Bool.and_eq_true] at hc
            obtain ⟨⟨⟨⟨⟨c1, c2⟩, c3⟩, c4⟩, c5⟩, c6⟩ := hc
            obtain ⟨-, -, h12⟩ := ty_all e2 e3
            obtain ⟨C9, T9, N9⟩ := q
            have hcl : gCL[cc2]? = some (C9, T9, N9) := by rw [← nth_eq]; exact e2
            exact va_get (C := C9) (T := T9) (N := N9) hx hb hts (u_in e2 h12) hown hK hP a (wd_get hm) hcl kk (Nat.le_of_ble_eq_true c2) (hts _ (ckW_in c1)) (fun _ h => h) (by rw [List.getElem?_map, ← nth_eq, hv]; rfl) hdg (k H locs hP hS)
          · cases hc
        · cases h
      · cases h
    · cases h
  case putfield ix =>
    simp only [gGet] at h
    split at h
    · rename_i v a r
      split at h
      · rename_i ci kk wi cc2 fs hr hm
        split at h
        · rename_i hg
          cases h
          simp only [Bool.and_eq_true, Bool.or_eq_true, Bool.not_eq_true'] at hg
          obtain ⟨⟨⟨hbq, hkl⟩, hfin⟩, hfit⟩ := hg
          obtain rfl := Nat.eq_of_beq_eq_true hbq
          have hkl' : kk < fs.length := Nat.le_of_ble_eq_true hkl
          have hc := own_in ckFs rfl hr
          simp only [ckF, hoo] at hc
          split at hc
          · rename_i own2 q ty n9 e1 e2 e3 e4
            cases e1
            simp only [Bool.and_eq_true] at hc
            obtain ⟨⟨⟨⟨⟨c1, c2⟩, c3⟩, c4⟩, c5⟩, c6⟩ := hc
            obtain ⟨t1, t2, h12⟩ := ty_all e2 e3
            obtain ⟨C9, T9, N9⟩ := q
            have hcl : gCL[cc2]? = some (C9, T9, N9) := by rw [← nth_eq]; exact e2
            have hty : gTy cc2 kk = ty kk := by unfold gTy; rw [e3]
            rw [hty] at hfit
            have hd9 := of_decide_eq_true c5
            have hfit2 := fit_rV B sa hfit
            have hnar := fit_nar c6 hfit2
            have hlen : kk < (fs.map (rV B sa)).length := by rw [List.length_map]; exact hkl'
            have key : ∀ (H1 : Heap) (locs1 : List Loc), va_P (dC, dI) gCL ((wd B sa cy M).set a (B + a, .inr (cc2, (fs.map (rV B sa)).set kk (rV B sa v)))) H1 → va_D (fun q => B ≤ q) ((wd B sa cy M).set a (B + a, .inr (cc2, (fs.map (rV B sa)).set kk (rV B sa v)))) → va_S (fun q => B ≤ q) s.heap H1 locs1 → W p l e R s m args below meth c H1 locs1 cells slots Q (F0 m (pc + 3) ls (st'.map (rV B sa))) := by
              intro H1 locs1 hP1 _ hS1
              have e8 : (fs.map (rV B sa)).set kk (rV B sa v) = (gPut fs kk v).map (rV B sa) := by rw [put_eq, List.map_set]
              rw [e8] at hP1
              have e9 := wd_set B sa cy M a (.inr (cc2, gPut fs kk v))
              exact k H1 locs1 (by rw [← e9]; exact hP1) hS1
            cases hf9 : (T9 kk).2.2.2 with
            | false => exact va_put (C := C9) (T := T9) (N := N9) (ty := ty kk) hx hb hts (u_in e2 h12) ty t1 t2 hown hK hP hD hS a (wd_get hm) hcl kk (Nat.le_of_ble_eq_true c2) (hts _ (ckW_in c1)) (fun _ h => h) hf9 hd9 hnar hfit2 hlen hdg key
            | true =>
              have hgf : gFin cc2 kk = true := by
                unfold gFin
                rw [e2]
                exact hf9
              rcases hfin with hfin | hfin
              · rw [hgf] at hfin; cases hfin
              · obtain ⟨hi9, ho9⟩ := hfin
                obtain rfl := Nat.eq_of_beq_eq_true ho9
                have h4 := of_decide_eq_true c4
                rw [hoo] at h4
                exact va_putF (C := C9) (T := T9) (N := N9) (ty := ty kk) hx hb hts (u_in e2 h12) ty t1 t2 hown hK hP hD hS a (wd_get hm) hcl kk (Nat.le_of_ble_eq_true c2) (hts _ (ckW_in c1)) (fun _ h => h) hf9 (hini hi9) (Option.some.inj h4).symm hd9 hnar hfit2 hlen hdg key
          · cases hc
        · cases h
      · cases h
    · cases h
  case iaload =>
    simp only [gGet] at h
    split at h
    · split at h
      · rename_i j a r x9 l9 hm
        split at h
        · rename_i x hat
          cases h
          obtain ⟨a1, a2⟩ := at_ok hat
          refine va_iald hx hb hK hP a 1 (wd_get hm) (gTy2_at cy (by decide)) a1 hdg ?_
          rw [a2]
          exact k H locs hP hS
        · cases h
      · cases h
    · rename_i j a r
      split at h
      · rename_i l9 hl9
        split at h
        · rename_i x hat
          cases h
          obtain ⟨a1, a2⟩ := at_ok hat
          obtain ⟨hX, hlt⟩ := hI.2.2.1 a l9 hl9
          refine va_sld hx hb hX (Nat.lt_of_lt_of_le hlt hI.2.2.2.2.1) (Nat.not_le.mpr hlt) hS a1 hdg ?_
          rw [a2]
          exact k H locs hP hS
        · cases h
      · cases h
    · cases h
  case baload =>
    simp only [gGet] at h
    split at h
    · split at h
      · rename_i j a r x9 l9 hm
        split at h
        · rename_i x hat
          cases h
          obtain ⟨a1, a2⟩ := at_ok hat
          refine va_bald hx hb hK hP a 0 (wd_get hm) (gTy2_at cy (by decide)) a1 hdg ?_
          rw [a2]
          exact k H locs hP hS
        · cases h
      · rename_i j a r x9 l9 hm
        split at h
        · rename_i x hat
          cases h
          obtain ⟨a1, a2⟩ := at_ok hat
          refine va_zald hx hb hK hP a 3 (wd_get hm) (gTy2_at cy (by decide)) a1 hdg ?_
          rw [a2]
          exact k H locs hP hS
        · cases h
      · cases h
    · cases h
  case laload =>
    simp only [gGet] at h
    split at h
    · split at h
      · rename_i j a r x9 l9 hm
        split at h
        · rename_i x hat
          cases h
          obtain ⟨a1, a2⟩ := at_ok hat
          refine va_lald hx hb hK hP a 2 (wd_get hm) (gTy2_at cy (by decide)) a1 hdg ?_
          rw [a2]
          exact k H locs hP hS
        · cases h
      · cases h
    · cases h
  case aaload =>
    simp only [gGet] at h
    split at h
    · split at h
      · rename_i j a r x9 t9 l9 hm
        split at h
        · rename_i x hat
          cases hg : (Nat.ble 4 t9 && Nat.ble t9 8) with
          | false => rw [hg] at h; cases h
          | true =>
            rw [hg] at h
            cases h
            rw [Bool.and_eq_true] at hg
            have h4 : 4 ≤ t9 := Nat.le_of_ble_eq_true hg.1
            have h8 : t9 ≤ 8 := Nat.le_of_ble_eq_true hg.2
            obtain ⟨a1, a2⟩ := at_ok hat
            refine aald_ok hx hb hK hP (wd_get hm) h4 h8 a1 hdg ?_
            rw [a2]
            have e9 := rV_rf B sa x
            have k9 := k H locs hP hS
            rw [List.map_cons, e9] at k9
            exact k9
        · cases h
      · cases h
    · cases h
  case iastore =>
    simp only [gGet] at h
    split at h
    · split at h
      · rename_i x j a r x9 l9 hm
        split at h
        · rename_i y hat
          cases h
          obtain ⟨a1, a2⟩ := at_ok hat
          have hkl := gNth_lt _ _ _ a2
          refine va_iast hx hb hK hP hD hS a 1 (wd_get hm) (gTy2_at cy (by decide)) a1 hdg (fun H1 locs1 hP1 _ hS1 => ?_)
          rw [up_i l9 j.toNatClampNeg x hkl, ← put_len l9 j.toNatClampNeg x] at hP1
          have e9 := wd_set B sa cy M a (.inl (1, .inl (gPut l9 j.toNatClampNeg x)))
          exact k H1 locs1 (by rw [← e9]; exact hP1) hS1
        · cases h
      · cases h
    · cases h
  case lastore =>
    simp only [gGet] at h
    split at h
    · split at h
      · rename_i x j a r x9 l9 hm
        split at h
        · rename_i y hat
          cases h
          obtain ⟨a1, a2⟩ := at_ok hat
          have hkl := gNth_lt _ _ _ a2
          refine va_last hx hb hK hP hD hS a 2 (wd_get hm) (gTy2_at cy (by decide)) a1 hdg (fun H1 locs1 hP1 _ hS1 => ?_)
          rw [up_l l9 j.toNatClampNeg x hkl, ← put_len l9 j.toNatClampNeg x] at hP1
          have e9 := wd_set B sa cy M a (.inl (2, .inr (.inl (gPut l9 j.toNatClampNeg x))))
          exact k H1 locs1 (by rw [← e9]; exact hP1) hS1
        · cases h
      · cases h
    · cases h
  case bastore =>
    simp only [gGet] at h
    split at h
    · split at h
      · rename_i x j a r x9 l9 hm
        split at h
        · rename_i y hat
          cases h
          obtain ⟨a1, a2⟩ := at_ok hat
          have hkl := gNth_lt _ _ _ a2
          refine va_bast hx hb hK hP hD hS a 0 (wd_get hm) (gTy2_at cy (by decide)) a1 hdg (fun H1 locs1 hP1 _ hS1 => ?_)
          rw [up_i l9 j.toNatClampNeg (vp_nar .byte x) hkl, ← put_len l9 j.toNatClampNeg (vp_nar .byte x)] at hP1
          have e9 := wd_set B sa cy M a (.inl (0, .inl (gPut l9 j.toNatClampNeg (vp_nar .byte x))))
          exact k H1 locs1 (by rw [← e9]; exact hP1) hS1
        · cases h
      · rename_i x j a r x9 l9 hm
        split at h
        · rename_i y hat
          cases h
          obtain ⟨a1, a2⟩ := at_ok hat
          have hkl := gNth_lt _ _ _ a2
          refine va_zast hx hb hK hP hD hS a 3 (wd_get hm) (gTy2_at cy (by decide)) a1 hdg (fun H1 locs1 hP1 _ hS1 => ?_)
          rw [up_i l9 j.toNatClampNeg (vp_nar .boolean x) hkl, ← put_len l9 j.toNatClampNeg (vp_nar .boolean x)] at hP1
          have e9 := wd_set B sa cy M a (.inl (3, .inl (gPut l9 j.toNatClampNeg (vp_nar .boolean x))))
          exact k H1 locs1 (by rw [← e9]; exact hP1) hS1
        · cases h
      · cases h
    · cases h
  case aastore =>
    simp only [gGet] at h
    split at h
    · split at h
      · rename_i v j a r x9 y9 t9 l9 c9 fs9 hm hv
        split at h
        · rename_i y hat
          cases hg : Nat.beq (gEl t9) c9 with
          | false => rw [hg] at h; cases h
          | true =>
            rw [hg] at h
            cases h
            obtain ⟨a1, a2⟩ := at_ok hat
            have hkl := gNth_lt _ _ _ a2
            have hel := Nat.eq_of_beq_eq_true hg
            refine aast_ok hx hb hK hP hD hS (wd_get hm) (wd_get hv) hel (va_P.lt_cls hP (wd_get hv)) a1 hdg (fun H1 locs1 hP1 hS1 => ?_)
            rw [up_q B l9 j.toNatClampNeg v hkl, ← put_len l9 j.toNatClampNeg (some v)] at hP1
            have e9 := wd_set B sa cy M a (.inl (t9, .inr (.inr (gPut l9 j.toNatClampNeg (some v)))))
            exact k H1 locs1 (by rw [← e9]; exact hP1) hS1
        · cases h
      · cases h
    · cases h
  case arraylength =>
    simp only [gGet] at h
    split at h
    · split at h
      · rename_i a r x9 l9 hm
        cases h
        exact va_alen hx hb hK hP a 1 (wd_get hm) (gTy2_at cy (by decide)) (by rw [ln_eq]) hdg (k H locs hP hS)
      · rename_i a r x9 l9 hm
        cases h
        exact va_alen hx hb hK hP a 3 (wd_get hm) (gTy2_at cy (by decide)) (by rw [ln_eq]) hdg (k H locs hP hS)
      · cases h
    · rename_i a r
      split at h
      · rename_i l9 hl9
        cases h
        obtain ⟨hX, hlt⟩ := hI.2.2.1 a l9 hl9
        refine va_slen hx hb hX (Nat.lt_of_lt_of_le hlt hI.2.2.2.2.1) (Nat.not_le.mpr hlt) hS hdg ?_
        rw [← ln_eq]
        exact k H locs hP hS
      · cases h
    · cases h
  all_goals (simp only [gGet] at h; cases h)
end SNB
