/-! THE LAW'S LOOP, from the entry to the end -/
section LWL
variable {p : Program} {l : Launch} {e : Env} {s : State} {m : MethodId} {below : List Frame} {meth : Method} {c : Code} {b L : Nat} {xs : Nat → Int32} {sa : Nat → Nat} {cy : Nat → ClassId} {dC : Nat → ClassId} {dI : Nat → Nat → Nat} {sc : List Int32} {cells slots : Nat}
set_option maxRecDepth 200000 in
set_option maxHeartbeats 8000000 in
theorem lw_disp (hst : l.stackTraces = false) (C0 : lw_At p s m meth c b L xs) (hI : Inv s.heap.size sa cy dC dI (some sc) s) (hcc : cells + 1 ≤ 601024) (hss : slots + 6 ≤ 7293034) {i : Int32} {kk bb : Option Value} {M : Mem} {j : Nat} (hj : j < 64) (hS : SV7 M) (hx : SX sc i) (k : ∀ M' kk' bb' cells' slots', SV7 M' → cells' ≤ cells + 1 → slots' ≤ slots + 6 → Wst p l e room_1 s m #[Value.ref b] below meth c (lw_Z below #[Value.ref b] s) s.heap.size sa cy dC dI 7 cells' slots' 1324 [some (.retAddr 0), some (.ref 0), some (.ref 633), some (.ref 663), some (.int i), kk', bb'] [] M') : Wst p l e room_1 s m #[Value.ref b] below meth c (lw_Z below #[Value.ref b] s) s.heap.size sa cy dC dI 7 cells slots 40 [some (.retAddr 0), some (.ref 0), some (.ref 633), some (.ref 663), some (.int i), kk, bb] [.int (nI j)] M := by
  have hc0 : cells ≤ 601024 := by omega
  have hs0 : slots ≤ 7293034 := by omega
  match j, hj with
  | 0, _ => exact lw_st C0 hI hc0 hs0 1 (pc' := 196) (vs' := [some (.retAddr 0), some (.ref 0), some (.ref 633), some (.ref 663), some (.int i), kk, bb]) (st' := []) (M' := M) rfl (lc_0 C0 hI hc0 hs0 hS hx k)
  | 1, _ => exact lw_st C0 hI hc0 hs0 1 (pc' := 269) (vs' := [some (.retAddr 0), some (.ref 0), some (.ref 633), some (.ref 663), some (.int i), kk, bb]) (st' := []) (M' := M) rfl (lc_1 C0 hI hc0 hs0 hS hx k)
  | 2, _ => exact lw_st C0 hI hc0 hs0 1 (pc' := 294) (vs' := [some (.retAddr 0), some (.ref 0), some (.ref 633), some (.ref 663), some (.int i), kk, bb]) (st' := []) (M' := M) rfl (lc_2 C0 hI hc0 hs0 hS hx k)
  | 3, _ => exact lw_st C0 hI hc0 hs0 1 (pc' := 331) (vs' := [some (.retAddr 0), some (.ref 0), some (.ref 633), some (.ref 663), some (.int i), kk, bb]) (st' := []) (M' := M) rfl (lc_3 C0 hI hc0 hs0 hS hx k)
  | 4, _ => exact lw_st C0 hI hc0 hs0 1 (pc' := 356) (vs' := [some (.retAddr 0), some (.ref 0), some (.ref 633), some (.ref 663), some (.int i), kk, bb]) (st' := []) (M' := M) rfl (lc_4 C0 hI hc0 hs0 hS hx k)
  | 5, _ => exact lw_st C0 hI hc0 hs0 1 (pc' := 369) (vs' := [some (.retAddr 0), some (.ref 0), some (.ref 633), some (.ref 663), some (.int i), kk, bb]) (st' := []) (M' := M) rfl (lc_5 C0 hI hc0 hs0 hS hx k)
  | 6, _ => exact lw_st C0 hI hc0 hs0 1 (pc' := 394) (vs' := [some (.retAddr 0), some (.ref 0), some (.ref 633), some (.ref 663), some (.int i), kk, bb]) (st' := []) (M' := M) rfl (lc_6 C0 hI hc0 hs0 hS hx k)
  | 7, _ => exact lw_st C0 hI hc0 hs0 1 (pc' := 407) (vs' := [some (.retAddr 0), some (.ref 0), some (.ref 633), some (.ref 663), some (.int i), kk, bb]) (st' := []) (M' := M) rfl (lc_7 C0 hI hc0 hs0 hS hx k)
  | 8, _ => exact lw_st C0 hI hc0 hs0 1 (pc' := 480) (vs' := [some (.retAddr 0), some (.ref 0), some (.ref 633), some (.ref 663), some (.int i), kk, bb]) (st' := []) (M' := M) rfl (lc_8 C0 hI hc0 hs0 hS hx k)
  | 9, _ => exact lw_st C0 hI hc0 hs0 1 (pc' := 505) (vs' := [some (.retAddr 0), some (.ref 0), some (.ref 633), some (.ref 663), some (.int i), kk, bb]) (st' := []) (M' := M) rfl (lc_9 C0 hI hc0 hs0 hS hx k)
  | 10, _ => exact lw_st C0 hI hc0 hs0 1 (pc' := 530) (vs' := [some (.retAddr 0), some (.ref 0), some (.ref 633), some (.ref 663), some (.int i), kk, bb]) (st' := []) (M' := M) rfl (lc_10 C0 hI hc0 hs0 hS hx k)
  | 11, _ => exact lw_st C0 hI hc0 hs0 1 (pc' := 543) (vs' := [some (.retAddr 0), some (.ref 0), some (.ref 633), some (.ref 663), some (.int i), kk, bb]) (st' := []) (M' := M) rfl (lc_11 C0 hI hc0 hs0 hS hx k)
  | 12, _ => exact lw_st C0 hI hc0 hs0 1 (pc' := 568) (vs' := [some (.retAddr 0), some (.ref 0), some (.ref 633), some (.ref 663), some (.int i), kk, bb]) (st' := []) (M' := M) rfl (lc_12 C0 hI hc0 hs0 hS hx k)
  | 13, _ => exact lw_st C0 hI hc0 hs0 1 (pc' := 579) (vs' := [some (.retAddr 0), some (.ref 0), some (.ref 633), some (.ref 663), some (.int i), kk, bb]) (st' := []) (M' := M) rfl (lc_13 C0 hI hc0 hs0 hS hx k)
  | 14, _ => exact lw_st C0 hI hc0 hs0 1 (pc' := 616) (vs' := [some (.retAddr 0), some (.ref 0), some (.ref 633), some (.ref 663), some (.int i), kk, bb]) (st' := []) (M' := M) rfl (lc_14 hst C0 hI hcc hss hS hx k)
  | 15, _ => exact lw_st C0 hI hc0 hs0 1 (pc' := 656) (vs' := [some (.retAddr 0), some (.ref 0), some (.ref 633), some (.ref 663), some (.int i), kk, bb]) (st' := []) (M' := M) rfl (lc_15 C0 hI hc0 hs0 hS hx k)
  | 16, _ => exact lw_st C0 hI hc0 hs0 1 (pc' := 693) (vs' := [some (.retAddr 0), some (.ref 0), some (.ref 633), some (.ref 663), some (.int i), kk, bb]) (st' := []) (M' := M) rfl (lc_16 C0 hI hc0 hs0 hS hx k)
  | 17, _ => exact lw_st C0 hI hc0 hs0 1 (pc' := 706) (vs' := [some (.retAddr 0), some (.ref 0), some (.ref 633), some (.ref 663), some (.int i), kk, bb]) (st' := []) (M' := M) rfl (lc_17 C0 hI hc0 hs0 hS hx k)
  | 18, _ => exact lw_st C0 hI hc0 hs0 1 (pc' := 719) (vs' := [some (.retAddr 0), some (.ref 0), some (.ref 633), some (.ref 663), some (.int i), kk, bb]) (st' := []) (M' := M) rfl (lc_18 C0 hI hc0 hs0 hS hx k)
  | 19, _ => exact lw_st C0 hI hc0 hs0 1 (pc' := 756) (vs' := [some (.retAddr 0), some (.ref 0), some (.ref 633), some (.ref 663), some (.int i), kk, bb]) (st' := []) (M' := M) rfl (lc_19 C0 hI hc0 hs0 hS hx k)
  | 20, _ => exact lw_st C0 hI hc0 hs0 1 (pc' := 769) (vs' := [some (.retAddr 0), some (.ref 0), some (.ref 633), some (.ref 663), some (.int i), kk, bb]) (st' := []) (M' := M) rfl (lc_20 C0 hI hc0 hs0 hS hx k)
  | 21, _ => exact lw_st C0 hI hc0 hs0 1 (pc' := 806) (vs' := [some (.retAddr 0), some (.ref 0), some (.ref 633), some (.ref 663), some (.int i), kk, bb]) (st' := []) (M' := M) rfl (lc_21 C0 hI hc0 hs0 hS hx k)
  | 22, _ => exact lw_st C0 hI hc0 hs0 1 (pc' := 867) (vs' := [some (.retAddr 0), some (.ref 0), some (.ref 633), some (.ref 663), some (.int i), kk, bb]) (st' := []) (M' := M) rfl (lc_22 C0 hI hc0 hs0 hS hx k)
  | 23, _ => exact lw_st C0 hI hc0 hs0 1 (pc' := 928) (vs' := [some (.retAddr 0), some (.ref 0), some (.ref 633), some (.ref 663), some (.int i), kk, bb]) (st' := []) (M' := M) rfl (lc_23 C0 hI hc0 hs0 hS hx k)
  | 24, _ => exact lw_st C0 hI hc0 hs0 1 (pc' := 965) (vs' := [some (.retAddr 0), some (.ref 0), some (.ref 633), some (.ref 663), some (.int i), kk, bb]) (st' := []) (M' := M) rfl (lc_24 C0 hI hc0 hs0 hS hx k)
  | 25, _ => exact lw_st C0 hI hc0 hs0 1 (pc' := 1002) (vs' := [some (.retAddr 0), some (.ref 0), some (.ref 633), some (.ref 663), some (.int i), kk, bb]) (st' := []) (M' := M) rfl (lc_25 C0 hI hc0 hs0 hS hx k)
  | 26, _ => exact lw_st C0 hI hc0 hs0 1 (pc' := 1027) (vs' := [some (.retAddr 0), some (.ref 0), some (.ref 633), some (.ref 663), some (.int i), kk, bb]) (st' := []) (M' := M) rfl (lc_26 C0 hI hc0 hs0 hS hx k)
  | 27, _ => exact lw_st C0 hI hc0 hs0 1 (pc' := 1088) (vs' := [some (.retAddr 0), some (.ref 0), some (.ref 633), some (.ref 663), some (.int i), kk, bb]) (st' := []) (M' := M) rfl (lc_27 C0 hI hc0 hs0 hS hx k)
  | 28, _ => exact lw_st C0 hI hc0 hs0 1 (pc' := 1137) (vs' := [some (.retAddr 0), some (.ref 0), some (.ref 633), some (.ref 663), some (.int i), kk, bb]) (st' := []) (M' := M) rfl (lc_28 C0 hI hc0 hs0 hS hx k)
  | 29, _ => exact lw_st C0 hI hc0 hs0 1 (pc' := 1162) (vs' := [some (.retAddr 0), some (.ref 0), some (.ref 633), some (.ref 663), some (.int i), kk, bb]) (st' := []) (M' := M) rfl (lc_29 C0 hI hc0 hs0 hS hx k)
  | 30, _ => exact lw_st C0 hI hc0 hs0 1 (pc' := 1175) (vs' := [some (.retAddr 0), some (.ref 0), some (.ref 633), some (.ref 663), some (.int i), kk, bb]) (st' := []) (M' := M) rfl (lc_30 C0 hI hc0 hs0 hS hx k)
  | 31, _ => exact lw_st C0 hI hc0 hs0 1 (pc' := 1212) (vs' := [some (.retAddr 0), some (.ref 0), some (.ref 633), some (.ref 663), some (.int i), kk, bb]) (st' := []) (M' := M) rfl (lc_31 C0 hI hc0 hs0 hS hx k)
  | 32, _ => exact lw_st C0 hI hc0 hs0 1 (pc' := 1249) (vs' := [some (.retAddr 0), some (.ref 0), some (.ref 633), some (.ref 663), some (.int i), kk, bb]) (st' := []) (M' := M) rfl (lc_32 C0 hI hc0 hs0 hS hx k)
  | 33, _ => exact lw_st C0 hI hc0 hs0 1 (pc' := 1274) (vs' := [some (.retAddr 0), some (.ref 0), some (.ref 633), some (.ref 663), some (.int i), kk, bb]) (st' := []) (M' := M) rfl (lc_33 C0 hI hc0 hs0 hS hx k)
  | 34, _ => exact lw_st C0 hI hc0 hs0 1 (pc' := 1299) (vs' := [some (.retAddr 0), some (.ref 0), some (.ref 633), some (.ref 663), some (.int i), kk, bb]) (st' := []) (M' := M) rfl (lc_34 C0 hI hc0 hs0 hS hx k)
  | 35, _ => exact lw_st C0 hI hc0 hs0 1 (pc' := 1324) (vs' := [some (.retAddr 0), some (.ref 0), some (.ref 633), some (.ref 663), some (.int i), kk, bb]) (st' := []) (M' := M) rfl (k M kk bb cells slots hS (Nat.le_succ _) (Nat.le_add_right _ _))
  | 36, _ => exact lw_st C0 hI hc0 hs0 1 (pc' := 1324) (vs' := [some (.retAddr 0), some (.ref 0), some (.ref 633), some (.ref 663), some (.int i), kk, bb]) (st' := []) (M' := M) rfl (k M kk bb cells slots hS (Nat.le_succ _) (Nat.le_add_right _ _))
  | 37, _ => exact lw_st C0 hI hc0 hs0 1 (pc' := 1324) (vs' := [some (.retAddr 0), some (.ref 0), some (.ref 633), some (.ref 663), some (.int i), kk, bb]) (st' := []) (M' := M) rfl (k M kk bb cells slots hS (Nat.le_succ _) (Nat.le_add_right _ _))
  | 38, _ => exact lw_st C0 hI hc0 hs0 1 (pc' := 1324) (vs' := [some (.retAddr 0), some (.ref 0), some (.ref 633), some (.ref 663), some (.int i), kk, bb]) (st' := []) (M' := M) rfl (k M kk bb cells slots hS (Nat.le_succ _) (Nat.le_add_right _ _))
  | 39, _ => exact lw_st C0 hI hc0 hs0 1 (pc' := 1324) (vs' := [some (.retAddr 0), some (.ref 0), some (.ref 633), some (.ref 663), some (.int i), kk, bb]) (st' := []) (M' := M) rfl (k M kk bb cells slots hS (Nat.le_succ _) (Nat.le_add_right _ _))
  | 40, _ => exact lw_st C0 hI hc0 hs0 1 (pc' := 1324) (vs' := [some (.retAddr 0), some (.ref 0), some (.ref 633), some (.ref 663), some (.int i), kk, bb]) (st' := []) (M' := M) rfl (k M kk bb cells slots hS (Nat.le_succ _) (Nat.le_add_right _ _))
  | 41, _ => exact lw_st C0 hI hc0 hs0 1 (pc' := 1324) (vs' := [some (.retAddr 0), some (.ref 0), some (.ref 633), some (.ref 663), some (.int i), kk, bb]) (st' := []) (M' := M) rfl (k M kk bb cells slots hS (Nat.le_succ _) (Nat.le_add_right _ _))
  | 42, _ => exact lw_st C0 hI hc0 hs0 1 (pc' := 1324) (vs' := [some (.retAddr 0), some (.ref 0), some (.ref 633), some (.ref 663), some (.int i), kk, bb]) (st' := []) (M' := M) rfl (k M kk bb cells slots hS (Nat.le_succ _) (Nat.le_add_right _ _))
  | 43, _ => exact lw_st C0 hI hc0 hs0 1 (pc' := 1324) (vs' := [some (.retAddr 0), some (.ref 0), some (.ref 633), some (.ref 663), some (.int i), kk, bb]) (st' := []) (M' := M) rfl (k M kk bb cells slots hS (Nat.le_succ _) (Nat.le_add_right _ _))
  | 44, _ => exact lw_st C0 hI hc0 hs0 1 (pc' := 1324) (vs' := [some (.retAddr 0), some (.ref 0), some (.ref 633), some (.ref 663), some (.int i), kk, bb]) (st' := []) (M' := M) rfl (k M kk bb cells slots hS (Nat.le_succ _) (Nat.le_add_right _ _))
  | 45, _ => exact lw_st C0 hI hc0 hs0 1 (pc' := 1324) (vs' := [some (.retAddr 0), some (.ref 0), some (.ref 633), some (.ref 663), some (.int i), kk, bb]) (st' := []) (M' := M) rfl (k M kk bb cells slots hS (Nat.le_succ _) (Nat.le_add_right _ _))
  | 46, _ => exact lw_st C0 hI hc0 hs0 1 (pc' := 1324) (vs' := [some (.retAddr 0), some (.ref 0), some (.ref 633), some (.ref 663), some (.int i), kk, bb]) (st' := []) (M' := M) rfl (k M kk bb cells slots hS (Nat.le_succ _) (Nat.le_add_right _ _))
  | 47, _ => exact lw_st C0 hI hc0 hs0 1 (pc' := 1324) (vs' := [some (.retAddr 0), some (.ref 0), some (.ref 633), some (.ref 663), some (.int i), kk, bb]) (st' := []) (M' := M) rfl (k M kk bb cells slots hS (Nat.le_succ _) (Nat.le_add_right _ _))
  | 48, _ => exact lw_st C0 hI hc0 hs0 1 (pc' := 1324) (vs' := [some (.retAddr 0), some (.ref 0), some (.ref 633), some (.ref 663), some (.int i), kk, bb]) (st' := []) (M' := M) rfl (k M kk bb cells slots hS (Nat.le_succ _) (Nat.le_add_right _ _))
  | 49, _ => exact lw_st C0 hI hc0 hs0 1 (pc' := 1324) (vs' := [some (.retAddr 0), some (.ref 0), some (.ref 633), some (.ref 663), some (.int i), kk, bb]) (st' := []) (M' := M) rfl (k M kk bb cells slots hS (Nat.le_succ _) (Nat.le_add_right _ _))
  | 50, _ => exact lw_st C0 hI hc0 hs0 1 (pc' := 1324) (vs' := [some (.retAddr 0), some (.ref 0), some (.ref 633), some (.ref 663), some (.int i), kk, bb]) (st' := []) (M' := M) rfl (k M kk bb cells slots hS (Nat.le_succ _) (Nat.le_add_right _ _))
  | 51, _ => exact lw_st C0 hI hc0 hs0 1 (pc' := 1324) (vs' := [some (.retAddr 0), some (.ref 0), some (.ref 633), some (.ref 663), some (.int i), kk, bb]) (st' := []) (M' := M) rfl (k M kk bb cells slots hS (Nat.le_succ _) (Nat.le_add_right _ _))
  | 52, _ => exact lw_st C0 hI hc0 hs0 1 (pc' := 1324) (vs' := [some (.retAddr 0), some (.ref 0), some (.ref 633), some (.ref 663), some (.int i), kk, bb]) (st' := []) (M' := M) rfl (k M kk bb cells slots hS (Nat.le_succ _) (Nat.le_add_right _ _))
  | 53, _ => exact lw_st C0 hI hc0 hs0 1 (pc' := 1324) (vs' := [some (.retAddr 0), some (.ref 0), some (.ref 633), some (.ref 663), some (.int i), kk, bb]) (st' := []) (M' := M) rfl (k M kk bb cells slots hS (Nat.le_succ _) (Nat.le_add_right _ _))
  | 54, _ => exact lw_st C0 hI hc0 hs0 1 (pc' := 1324) (vs' := [some (.retAddr 0), some (.ref 0), some (.ref 633), some (.ref 663), some (.int i), kk, bb]) (st' := []) (M' := M) rfl (k M kk bb cells slots hS (Nat.le_succ _) (Nat.le_add_right _ _))
  | 55, _ => exact lw_st C0 hI hc0 hs0 1 (pc' := 1324) (vs' := [some (.retAddr 0), some (.ref 0), some (.ref 633), some (.ref 663), some (.int i), kk, bb]) (st' := []) (M' := M) rfl (k M kk bb cells slots hS (Nat.le_succ _) (Nat.le_add_right _ _))
  | 56, _ => exact lw_st C0 hI hc0 hs0 1 (pc' := 1324) (vs' := [some (.retAddr 0), some (.ref 0), some (.ref 633), some (.ref 663), some (.int i), kk, bb]) (st' := []) (M' := M) rfl (k M kk bb cells slots hS (Nat.le_succ _) (Nat.le_add_right _ _))
  | 57, _ => exact lw_st C0 hI hc0 hs0 1 (pc' := 1324) (vs' := [some (.retAddr 0), some (.ref 0), some (.ref 633), some (.ref 663), some (.int i), kk, bb]) (st' := []) (M' := M) rfl (k M kk bb cells slots hS (Nat.le_succ _) (Nat.le_add_right _ _))
  | 58, _ => exact lw_st C0 hI hc0 hs0 1 (pc' := 1324) (vs' := [some (.retAddr 0), some (.ref 0), some (.ref 633), some (.ref 663), some (.int i), kk, bb]) (st' := []) (M' := M) rfl (k M kk bb cells slots hS (Nat.le_succ _) (Nat.le_add_right _ _))
  | 59, _ => exact lw_st C0 hI hc0 hs0 1 (pc' := 1324) (vs' := [some (.retAddr 0), some (.ref 0), some (.ref 633), some (.ref 663), some (.int i), kk, bb]) (st' := []) (M' := M) rfl (k M kk bb cells slots hS (Nat.le_succ _) (Nat.le_add_right _ _))
  | 60, _ => exact lw_st C0 hI hc0 hs0 1 (pc' := 1324) (vs' := [some (.retAddr 0), some (.ref 0), some (.ref 633), some (.ref 663), some (.int i), kk, bb]) (st' := []) (M' := M) rfl (k M kk bb cells slots hS (Nat.le_succ _) (Nat.le_add_right _ _))
  | 61, _ => exact lw_st C0 hI hc0 hs0 1 (pc' := 1324) (vs' := [some (.retAddr 0), some (.ref 0), some (.ref 633), some (.ref 663), some (.int i), kk, bb]) (st' := []) (M' := M) rfl (k M kk bb cells slots hS (Nat.le_succ _) (Nat.le_add_right _ _))
  | 62, _ => exact lw_st C0 hI hc0 hs0 1 (pc' := 1324) (vs' := [some (.retAddr 0), some (.ref 0), some (.ref 633), some (.ref 663), some (.int i), kk, bb]) (st' := []) (M' := M) rfl (k M kk bb cells slots hS (Nat.le_succ _) (Nat.le_add_right _ _))
  | 63, _ => exact lw_st C0 hI hc0 hs0 1 (pc' := 1324) (vs' := [some (.retAddr 0), some (.ref 0), some (.ref 633), some (.ref 663), some (.int i), kk, bb]) (st' := []) (M' := M) rfl (k M kk bb cells slots hS (Nat.le_succ _) (Nat.le_add_right _ _))
  | n + 64, hj => exact absurd hj (by omega)
theorem al_c {sc : List Int32} {o : Nat} {ini : Bool} {r : List Value} {M : Mem} : gGet .arraylength (some sc) o ini (.retAddr 0 :: r) M = some (.int (Int32.ofNat (gLn sc)) :: r, M) := rfl
set_option maxRecDepth 200000 in
set_option maxHeartbeats 4000000 in
theorem lw_loop (hst : l.stackTraces = false) (C0 : lw_At p s m meth c b L xs) (hI : Inv s.heap.size sa cy dC dI (some sc) s) (hL : sc.length ≤ 3072) : ∀ (t q : Nat) (i : Int32) (kk bb : Option Value) (M : Mem) (cells slots : Nat), q + t = 513 → i.toInt = 6 * (q : Int) → SV7 M → cells ≤ 664 + q → slots ≤ 80631 + 6 * q → Wst p l e room_1 s m #[Value.ref b] below meth c (lw_Z below #[Value.ref b] s) s.heap.size sa cy dC dI 7 cells slots 23 [some (.retAddr 0), some (.ref 0), some (.ref 633), some (.ref 663), some (.int i), kk, bb] [] M := by
  intro t
  have hn : (Int32.ofNat (gLn sc)).toInt = (sc.length : Int) := by
    rw [gln_len]
    exact nI_toInt (by omega)
  have o6 : (6 : Int32).toInt = 6 := rfl
  have hn6 : (Int32.ofNat (gLn sc) - 6).toInt = (sc.length : Int) - 6 := by rw [i32_sub (by omega) (by omega), hn, o6]
  have top : ∀ (i : Int32) (kk bb : Option Value) (M : Mem) (cells slots : Nat), cells ≤ 601024 → slots ≤ 7293034 → (¬ Int32.ofNat (gLn sc) - 6 < i → Wst p l e room_1 s m #[Value.ref b] below meth c (lw_Z below #[Value.ref b] s) s.heap.size sa cy dC dI 7 cells slots 33 [some (.retAddr 0), some (.ref 0), some (.ref 633), some (.ref 663), some (.int i), kk, bb] [] M) → Wst p l e room_1 s m #[Value.ref b] below meth c (lw_Z below #[Value.ref b] s) s.heap.size sa cy dC dI 7 cells slots 23 [some (.retAddr 0), some (.ref 0), some (.ref 633), some (.ref 663), some (.int i), kk, bb] [] M := by
    intro i kk bb M cells slots hcc hss h
    refine lw_st C0 hI hcc hss 2 (pc' := 26) (vs' := [some (.retAddr 0), some (.ref 0), some (.ref 633), some (.ref 663), some (.int i), kk, bb]) (st' := [.retAddr 0, .int i]) (M' := M) rfl ?_
    refine one_ok (n := 0) (lib_ok l s.heap.size sa cy dC dI (some sc)) (law_ctx C0 hI) law_tab (one_g (i := .arraylength) rfl (Or.inl rfl) al_c) hcc hss ?_
    refine lw_st C0 hI hcc hss 2 (pc := 27) (pc' := 30) (vs' := [some (.retAddr 0), some (.ref 0), some (.ref 633), some (.ref 663), some (.int i), kk, bb]) (st' := [.int (Int32.ofNat (gLn sc) - 6), .int i]) (M' := M) rfl ?_
    refine lw_st C0 hI hcc hss 1 (pc' := if Int32.ofNat (gLn sc) - 6 < i then 1330 else 33) (vs' := [some (.retAddr 0), some (.ref 0), some (.ref 633), some (.ref 663), some (.int i), kk, bb]) (st' := []) (M' := M) rfl ?_
    by_cases h9 : Int32.ofNat (gLn sc) - 6 < i
    · rw [if_pos h9]
      exact ev_W (c0 := 0) (s0 := 0) C0 hI (Ev.step (pc' := 1331) (ls' := [some (.retAddr 0), some (.ref 0), some (.ref 633), some (.ref 663), some (.int i), kk, bb]) (st' := [.int 1]) (M1 := M) 1 (fun n => rfl) (Ev.ret (fun n => rfl))) hcc hss
    · rw [if_neg h9]
      exact h h9
  induction t with
  | zero =>
    intro q i kk bb M cells slots hq hi hV hc hs
    exact top i kk bb M cells slots (by omega) (by omega) (fun h => absurd (Int32.lt_iff_toInt_lt.mpr (by omega)) h)
  | succ t ih =>
    intro q i kk bb M cells slots hq hi hV hc hs
    have hcc : cells ≤ 601024 := by omega
    have hss : slots ≤ 7293034 := by omega
    refine top i kk bb M cells slots hcc hss (fun h => ?_)
    rw [Int32.lt_iff_toInt_lt] at h
    have at_ : ∀ (j : Int32) (k : Nat), j.toInt = (k : Int) → k < 6 → ∃ x, gAt sc (i + j) = some x := by
      intro j k hj hk
      obtain ⟨x, h1, _⟩ := at_c (l := sc) (j := i + j) (kn := 6 * q + k) (by rw [i32_add (by omega) (by omega)]; omega) (by omega)
      exact ⟨x, h1⟩
    obtain ⟨x0, h0, _⟩ := at_c (l := sc) (j := i) (kn := 6 * q) (by omega) (by omega)
    have hx : SX sc i := ⟨at_ 1 1 rfl (by decide), at_ 2 2 rfl (by decide), at_ 3 3 rfl (by decide), at_ 4 4 rfl (by decide), at_ 5 5 rfl (by decide)⟩
    refine lw_st C0 hI hcc hss 2 (pc' := 36) (vs' := [some (.retAddr 0), some (.ref 0), some (.ref 633), some (.ref 663), some (.int i), kk, bb]) (st' := [.int i, .retAddr 0]) (M' := M) rfl ?_
    refine one_ok (n := 0) (lib_ok l s.heap.size sa cy dC dI (some sc)) (law_ctx C0 hI) law_tab (one_g (i := .iaload) rfl (Or.inl rfl) (sc_c h0)) hcc hss ?_
    obtain ⟨j, hj, ej⟩ := pk_andE x0 (m := 63) 6 (by decide)
    refine lw_st C0 hI hcc hss 2 (pc := 37) (pc' := 40) (vs' := [some (.retAddr 0), some (.ref 0), some (.ref 633), some (.ref 663), some (.int i), kk, bb]) (st' := [.int (x0 &&& 63)]) (M' := M) rfl ?_
    rw [ej]
    refine lw_disp hst C0 hI (by omega) (by omega) hj hV hx (fun M' kk' bb' cells' slots' hV' hc' hs' => ?_)
    refine lw_st C0 hI (by omega) (by omega) 2 (pc' := 23) (vs' := [some (.retAddr 0), some (.ref 0), some (.ref 633), some (.ref 663), some (.int (i + 6)), kk', bb']) (st' := []) (M' := M') rfl ?_
    exact ih (q + 1) (i + 6) kk' bb' M' cells' slots' (by omega) (by rw [i32_add (by omega) (by omega)]; omega) hV' (by omega) (by omega)
set_option maxHeartbeats 8000000 in
set_option maxRecDepth 200000 in
/-- from the entry -/
theorem lw_all (hst : l.stackTraces = false) (C0 : lw_At p s m meth c b L xs) (hI : Inv s.heap.size sa cy dC dI (some sc) s) (hL : sc.length ≤ 3072) : Wst p l e room_1 s m #[Value.ref b] below meth c (lw_Z below #[Value.ref b] s) s.heap.size sa cy dC dI 7 0 0 0 [some (.retAddr 0), none, none, none, none, none, none] [] [] := by
  have C := law_ctx C0 hI
  have hf := lib_ok l s.heap.size sa cy dC dI (some sc)
  refine many_ok (n := 0) hf C law_tab 2 (pc' := 4) (vs' := [some (.retAddr 0), none, none, none, none, none, none]) (st' := [.ref 0, .ref 0]) (M' := [.inr (10, gDef 10)]) (c0 := 1) (s0 := 16) rfl (Nat.le_of_ble_eq_true rfl) (Nat.le_of_ble_eq_true rfl) ?_
  obtain ⟨n1, h1⟩ := ev_P1.any (some sc)
  refine one_ok hf C law_tab (one_call (i := .invokespecial 15) (id := 79) (ls0 := [some (.ref 0), none]) (rest := [.ref 0]) rfl rfl h1) (Nat.le_of_ble_eq_true rfl) (Nat.le_of_ble_eq_true rfl) ?_
  refine many_ok (n := 0) hf C law_tab 3 (pc' := 12) (vs' := [some (.retAddr 0), some (.ref 0), none, none, none, none, none]) (st' := [.ref 633, .ref 633]) (M' := memP ++ [.inr (11, gDef 11)]) (c0 := 1) (s0 := 63) rfl (Nat.le_of_ble_eq_true rfl) (Nat.le_of_ble_eq_true rfl) ?_
  obtain ⟨n2, h2⟩ := (Ev.of (eqR_eq ctorM) (some sc))
  refine one_ok hf C law_tab (one_call (i := .invokespecial 18) (id := 143) (ls0 := [some (.ref 633)]) (rest := [.ref 633]) rfl rfl h2) (Nat.le_of_ble_eq_true rfl) (Nat.le_of_ble_eq_true rfl) ?_
  refine many_ok (n := 0) hf C law_tab 3 (pc' := 19) (vs' := [some (.retAddr 0), some (.ref 0), some (.ref 633), none, none, none, none]) (st' := [.ref 663]) (M' := (memP ++ memM) ++ [gZero 2 1]) (c0 := 1) (s0 := 1) rfl (Nat.le_of_ble_eq_true rfl) (Nat.le_of_ble_eq_true rfl) ?_
  rw [eqM mem0_k]
  refine many_ok (n := 0) hf C law_tab 3 (pc' := 23) (vs' := [some (.retAddr 0), some (.ref 0), some (.ref 633), some (.ref 663), some (.int 0), none, none]) (st' := []) (M' := mem0) (c0 := 0) (s0 := 0) rfl (Nat.le_of_ble_eq_true rfl) (Nat.le_of_ble_eq_true rfl) ?_
  exact lw_loop hst C0 hI hL 513 0 0 none none mem0 _ _ rfl rfl SV70 (Nat.le_of_ble_eq_true rfl) (Nat.le_of_ble_eq_true rfl)
end LWL
theorem whole_start {p : Program} {e : Env} {s : State} {m : MethodId} {below : List Frame} {meth : Method} {c : Code} (l : Launch) (hflags : l.flags = flags0) {b L : Nat} {xs : Nat → Int32} (hL : L ≤ 3072) (C0 : lw_At p s m meth c b L xs) : W p l e room_1 s m #[Value.ref b] below meth c s.heap [] 0 0 (lw_Z below #[Value.ref b] s) (entryFrame m ([Value.ref b] : List Value).toArray 7) := by
  have hl : l.stackTraces = false := by unfold Launch.stackTraces; rw [hflags]; decide
  have hsL : ((List.range L).map xs).length = L := by rw [List.length_map, List.length_range]
  have hsx : ∀ j, j < L → xs j = (gNth ((List.range L).map xs) j).getD 0 := by
    intro j hj
    rw [nth_eq, List.getElem?_map, List.getElem?_range hj]
    rfl
  obtain ⟨sa, cy, dC, dI, hsa, hI⟩ := inv_start C0 hsL hsx
  exact start_W C0 hsa (lw_all hl C0 hI (by rw [hsL]; exact hL))
