set_option maxHeartbeats 4000000 in
set_option maxRecDepth 100000 in
theorem law_10 {p : Program} {l : Launch} {e : Env} {s : State} {m : MethodId} {below : List Frame} {meth : Method} {c : Code} {b L : Nat} {xs : Nat → Int32} (hL : L ≤ 4096) (C0 : lw_At p s m meth c b L xs) {G : mG} {τ : mTau} {μ : mMem} {H : Heap} {locs : List Loc} {cells slots N : Nat} {x : Int32} (hx0 : 0 ≤ x.toInt) (hxL : x.toInt + 8 ≤ L) (hT : mT G s) (hG : G.2.2.1 = s.heap.size ∧ G.2.2.2 = s.heap) (hM : mw G τ μ H locs) (hLv : mLv τ μ) (hR : RR N μ μ) (hN : N + 128 ≤ 1000000) (hf : cells + 5 ≤ room_1.cells ∧ slots + 28 ≤ room_1.slots) {ls : Array Slot} (hl : lv_has ls 4 [(0, .ref b), (1, .ref (τ.1 0 0)), (2, .ref (τ.1 20 0)), (3, .int x)]) (kk : ∀ (τ' : mTau) (μ' : mMem) (H' : Heap) (locs' : List Loc), mExt τ τ' → mLv τ' μ' → mw G τ' μ' H' locs' → RR (N + 128) μ' μ' → W p l e room_1 s m #[Value.ref b] below meth c H' locs' (cells + 5) (slots + 28) (lw_Z below #[Value.ref b] s) (F0 m 756 ls [])) : W p l e room_1 s m #[Value.ref b] below meth c H locs cells slots (lw_Z below #[Value.ref b] s) (F0 m 587 ls []) := by
  obtain ⟨hx, hb, hr, hml, hown, hts0, hX, hbl, hlocks, hgv⟩ := C0
  have hts : ∀ w ∈ gG, w.before #[Value.ref b] s = true := fun w h => hts0 w (List.mem_filter.mp h).1
  have hS := lawS hG hM
  have hbA : ¬ (fun q : Nat => s.heap.size ≤ q) b := Nat.not_le.mpr hbl
  have hf0 : cells ≤ room_1.cells ∧ slots ≤ room_1.slots := ⟨by omega, by omega⟩
  have hf1 : cells + 5 ≤ room_1.cells ∧ slots + 28 ≤ room_1.slots := hf
  have hf2 : cells + 2 ≤ room_1.cells ∧ slots + 14 ≤ room_1.slots := ⟨by omega, by omega⟩
  have hf3 := hf2
  refine lv_aload_n hx hb d_L_law_587 rfl (lv_at hl 1 rfl) ?_
  refine lv_aload_n hx hb d_L_law_588 rfl (lv_at hl 0 rfl) ?_
  refine lv_iload_n hx hb d_L_law_589 rfl (lv_at hl 3 rfl) ?_
  refine lv_iconst (v := (1 : Int32)) hx hb d_L_law_590 (by decide) ?_
  refine lv_iadd hx hb d_L_law_591 ?_
  refine va_sld hx hb hX hbl hbA hS (scr_1 hx0 hxL hL) d_L_law_592 ?_
  refine lv_aload_n hx hb d_L_law_593 rfl (lv_at hl 0 rfl) ?_
  refine lv_iload_n hx hb d_L_law_594 rfl (lv_at hl 3 rfl) ?_
  refine lv_iconst (v := (2 : Int32)) hx hb d_L_law_595 (by decide) ?_
  refine lv_iadd hx hb d_L_law_596 ?_
  refine va_sld hx hb hX hbl hbA hS (scr_2 hx0 hxL hL) d_L_law_597 ?_
  generalize ev1 : (xs (x + (1 : Int32)).toNatClampNeg) = v1
  generalize ev2 : (xs (x + (2 : Int32)).toNatClampNeg) = v2
  refine q_L_61 hx hb hml hown hts hT hM (lz_0 hM) (c_X_build l G τ μ v1 v2 ) ⟨Nat.le_of_ble_eq_true rfl, Nat.le_of_ble_eq_true rfl⟩ hf0 (lv_room (Nat.le_of_ble_eq_true rfl)) hl.1 d_L_law_598 (fun H1 locs1 hM1 => ?_)
  have hM := hM1
  have hS := lawS hG hM1
  have st := st_of (A := (f_X_build μ v1 v2).1 = (f_M_build (f_X_build μ v1 v2).2 v1 v2).1) hR (by omega) (k1_of (fr_X_build v1 v2 keeps.rf)) (fr_M_build v1 v2 keeps.rf) (fun h => z_build h  v1 v2) (by omega)
  refine lv_aload_n hx hb d_L_law_601 rfl (lv_at hl 2 rfl) ?_
  refine lv_aload_n hx hb d_L_law_602 rfl (lv_at hl 0 rfl) ?_
  refine lv_iload_n hx hb d_L_law_603 rfl (lv_at hl 3 rfl) ?_
  refine lv_iconst (v := (1 : Int32)) hx hb d_L_law_604 (by decide) ?_
  refine lv_iadd hx hb d_L_law_605 ?_
  refine va_sld hx hb hX hbl hbA hS (scr_1 hx0 hxL hL) d_L_law_606 ?_
  refine lv_aload_n hx hb d_L_law_607 rfl (lv_at hl 0 rfl) ?_
  refine lv_iload_n hx hb d_L_law_608 rfl (lv_at hl 3 rfl) ?_
  refine lv_iconst (v := (2 : Int32)) hx hb d_L_law_609 (by decide) ?_
  refine lv_iadd hx hb d_L_law_610 ?_
  refine va_sld hx hb hX hbl hbA hS (scr_2 hx0 hxL hL) d_L_law_611 ?_
  rw [ev1]
  rw [ev2]
  refine q_L_65 hx hb hml hown hts hT hM (lz_20 hM) (c_M_build l G τ (f_X_build μ v1 v2).2 v1 v2 st.1) ⟨Nat.le_of_ble_eq_true rfl, Nat.le_of_ble_eq_true rfl⟩ hf0 (lv_room (Nat.le_of_ble_eq_true rfl)) hl.1 d_L_law_612 (fun H2 locs2 hM2 => ?_)
  refine lv_icmp_eq (tgt := 756) hx hb d_L_law_615 (by decide) (fun cc => ?_) (fun cc => ?_)
  · refine W.widen (k := cells + 5) (n := slots + 28) (by omega) (by omega) ?_
    exact kk τ _ H2 locs2 mExt.rf (st.2.2.2.2 _ (lv_k0 (fr_X_build v1 v2 keeps.rf) hLv)) hM2 st.2.2.2.1
  · exact absurd st.2.2.1 cc
set_option maxHeartbeats 4000000 in
set_option maxRecDepth 100000 in
theorem law_11 {p : Program} {l : Launch} {e : Env} {s : State} {m : MethodId} {below : List Frame} {meth : Method} {c : Code} {b L : Nat} {xs : Nat → Int32} (hL : L ≤ 4096) (C0 : lw_At p s m meth c b L xs) {G : mG} {τ : mTau} {μ : mMem} {H : Heap} {locs : List Loc} {cells slots N : Nat} {x : Int32} (hx0 : 0 ≤ x.toInt) (hxL : x.toInt + 8 ≤ L) (hT : mT G s) (hG : G.2.2.1 = s.heap.size ∧ G.2.2.2 = s.heap) (hM : mw G τ μ H locs) (hLv : mLv τ μ) (hR : RR N μ μ) (hN : N + 128 ≤ 1000000) (hf : cells + 5 ≤ room_1.cells ∧ slots + 28 ≤ room_1.slots) {ls : Array Slot} (hl : lv_has ls 4 [(0, .ref b), (1, .ref (τ.1 0 0)), (2, .ref (τ.1 20 0)), (3, .int x)]) (kk : ∀ (τ' : mTau) (μ' : mMem) (H' : Heap) (locs' : List Loc), mExt τ τ' → mLv τ' μ' → mw G τ' μ' H' locs' → RR (N + 128) μ' μ' → W p l e room_1 s m #[Value.ref b] below meth c H' locs' (cells + 5) (slots + 28) (lw_Z below #[Value.ref b] s) (F0 m 756 ls [])) : W p l e room_1 s m #[Value.ref b] below meth c H locs cells slots (lw_Z below #[Value.ref b] s) (F0 m 620 ls []) := by
  obtain ⟨hx, hb, hr, hml, hown, hts0, hX, hbl, hlocks, hgv⟩ := C0
  have hts : ∀ w ∈ gG, w.before #[Value.ref b] s = true := fun w h => hts0 w (List.mem_filter.mp h).1
  have hS := lawS hG hM
  have hbA : ¬ (fun q : Nat => s.heap.size ≤ q) b := Nat.not_le.mpr hbl
  have hf0 : cells ≤ room_1.cells ∧ slots ≤ room_1.slots := ⟨by omega, by omega⟩
  have hf1 : cells + 5 ≤ room_1.cells ∧ slots + 28 ≤ room_1.slots := hf
  have hf2 : cells + 2 ≤ room_1.cells ∧ slots + 14 ≤ room_1.slots := ⟨by omega, by omega⟩
  have hf3 := hf2
  refine lv_aload_n hx hb d_L_law_620 rfl (lv_at hl 1 rfl) ?_
  refine lv_aload_n hx hb d_L_law_621 rfl (lv_at hl 0 rfl) ?_
  refine lv_iload_n hx hb d_L_law_622 rfl (lv_at hl 3 rfl) ?_
  refine lv_iconst (v := (1 : Int32)) hx hb d_L_law_623 (by decide) ?_
  refine lv_iadd hx hb d_L_law_624 ?_
  refine va_sld hx hb hX hbl hbA hS (scr_1 hx0 hxL hL) d_L_law_625 ?_
  generalize ev1 : (xs (x + (1 : Int32)).toNatClampNeg) = v1
  refine q_L_66 hx hb hml hown hts hT hM (lz_0 hM) (c_X_turn l G τ μ v1 (iX_of hR)) ⟨Nat.le_of_ble_eq_true rfl, Nat.le_of_ble_eq_true rfl⟩ hf0 (lv_room (Nat.le_of_ble_eq_true rfl)) hl.1 d_L_law_626 (fun H1 locs1 hM1 => ?_)
  have hM := hM1
  have hS := lawS hG hM1
  have st := st_of (A := (f_X_turn μ v1).1 = (f_M_turn (f_X_turn μ v1).2 v1).1) hR (by omega) (k1_of (fr_X_turn v1 keeps.rf)) (fr_M_turn v1 keeps.rf) (fun h => z_turn h (by omega) v1) (by omega)
  refine lv_aload_n hx hb d_L_law_629 rfl (lv_at hl 2 rfl) ?_
  refine lv_aload_n hx hb d_L_law_630 rfl (lv_at hl 0 rfl) ?_
  refine lv_iload_n hx hb d_L_law_631 rfl (lv_at hl 3 rfl) ?_
  refine lv_iconst (v := (1 : Int32)) hx hb d_L_law_632 (by decide) ?_
  refine lv_iadd hx hb d_L_law_633 ?_
  refine va_sld hx hb hX hbl hbA hS (scr_1 hx0 hxL hL) d_L_law_634 ?_
  rw [ev1]
  refine q_L_69 hx hb hml hown hts hT hM (lz_20 hM) (c_M_turn l G τ (f_X_turn μ v1).2 v1 st.1 st.2.1) ⟨Nat.le_of_ble_eq_true rfl, Nat.le_of_ble_eq_true rfl⟩ hf0 (lv_room (Nat.le_of_ble_eq_true rfl)) hl.1 d_L_law_635 (fun H2 locs2 hM2 => ?_)
  refine lv_icmp_eq (tgt := 756) hx hb d_L_law_638 (by decide) (fun cc => ?_) (fun cc => ?_)
  · refine W.widen (k := cells + 5) (n := slots + 28) (by omega) (by omega) ?_
    exact kk τ _ H2 locs2 mExt.rf (st.2.2.2.2 _ (lv_k0 (fr_X_turn v1 keeps.rf) hLv)) hM2 st.2.2.2.1
  · exact absurd st.2.2.1 cc
set_option maxHeartbeats 4000000 in
set_option maxRecDepth 100000 in
theorem law_12 {p : Program} {l : Launch} {e : Env} {s : State} {m : MethodId} {below : List Frame} {meth : Method} {c : Code} {b L : Nat} {xs : Nat → Int32} (hL : L ≤ 4096) (C0 : lw_At p s m meth c b L xs) {G : mG} {τ : mTau} {μ : mMem} {H : Heap} {locs : List Loc} {cells slots N : Nat} {x : Int32} (hx0 : 0 ≤ x.toInt) (hxL : x.toInt + 8 ≤ L) (hT : mT G s) (hG : G.2.2.1 = s.heap.size ∧ G.2.2.2 = s.heap) (hM : mw G τ μ H locs) (hLv : mLv τ μ) (hR : RR N μ μ) (hN : N + 128 ≤ 1000000) (hf : cells + 5 ≤ room_1.cells ∧ slots + 28 ≤ room_1.slots) {ls : Array Slot} (hl : lv_has ls 4 [(0, .ref b), (1, .ref (τ.1 0 0)), (2, .ref (τ.1 20 0)), (3, .int x)]) (kk : ∀ (τ' : mTau) (μ' : mMem) (H' : Heap) (locs' : List Loc), mExt τ τ' → mLv τ' μ' → mw G τ' μ' H' locs' → RR (N + 128) μ' μ' → W p l e room_1 s m #[Value.ref b] below meth c H' locs' (cells + 5) (slots + 28) (lw_Z below #[Value.ref b] s) (F0 m 756 ls [])) : W p l e room_1 s m #[Value.ref b] below meth c H locs cells slots (lw_Z below #[Value.ref b] s) (F0 m 643 ls []) := by
  obtain ⟨hx, hb, hr, hml, hown, hts0, hX, hbl, hlocks, hgv⟩ := C0
  have hts : ∀ w ∈ gG, w.before #[Value.ref b] s = true := fun w h => hts0 w (List.mem_filter.mp h).1
  have hS := lawS hG hM
  have hbA : ¬ (fun q : Nat => s.heap.size ≤ q) b := Nat.not_le.mpr hbl
  have hf0 : cells ≤ room_1.cells ∧ slots ≤ room_1.slots := ⟨by omega, by omega⟩
  have hf1 : cells + 5 ≤ room_1.cells ∧ slots + 28 ≤ room_1.slots := hf
  have hf2 : cells + 2 ≤ room_1.cells ∧ slots + 14 ≤ room_1.slots := ⟨by omega, by omega⟩
  have hf3 := hf2
  refine lv_aload_n hx hb d_L_law_643 rfl (lv_at hl 1 rfl) ?_
  refine lv_aload_n hx hb d_L_law_644 rfl (lv_at hl 0 rfl) ?_
  refine lv_iload_n hx hb d_L_law_645 rfl (lv_at hl 3 rfl) ?_
  refine lv_iconst (v := (1 : Int32)) hx hb d_L_law_646 (by decide) ?_
  refine lv_iadd hx hb d_L_law_647 ?_
  refine va_sld hx hb hX hbl hbA hS (scr_1 hx0 hxL hL) d_L_law_648 ?_
  refine lv_aload_n hx hb d_L_law_649 rfl (lv_at hl 0 rfl) ?_
  refine lv_iload_n hx hb d_L_law_650 rfl (lv_at hl 3 rfl) ?_
  refine lv_iconst (v := (2 : Int32)) hx hb d_L_law_651 (by decide) ?_
  refine lv_iadd hx hb d_L_law_652 ?_
  refine va_sld hx hb hX hbl hbA hS (scr_2 hx0 hxL hL) d_L_law_653 ?_
  generalize ev1 : (xs (x + (1 : Int32)).toNatClampNeg) = v1
  generalize ev2 : (xs (x + (2 : Int32)).toNatClampNeg) = v2
  refine q_L_70 hx hb hml hown hts hT hM (lz_0 hM) (c_X_building l G τ μ v1 v2 ) ⟨Nat.le_of_ble_eq_true rfl, Nat.le_of_ble_eq_true rfl⟩ hf0 (lv_room (Nat.le_of_ble_eq_true rfl)) hl.1 d_L_law_654 (fun H1 locs1 hM1 => ?_)
  have hM := hM1
  have hS := lawS hG hM1
  have st := st_of (A := (f_X_building μ v1 v2) = (f_M_building μ v1 v2).1) hR (by omega) keeps.rf (fr_M_building v1 v2 keeps.rf) (fun h => z_building h  v1 v2) (by omega)
  refine lv_aload_n hx hb d_L_law_657 rfl (lv_at hl 2 rfl) ?_
  refine lv_aload_n hx hb d_L_law_658 rfl (lv_at hl 0 rfl) ?_
  refine lv_iload_n hx hb d_L_law_659 rfl (lv_at hl 3 rfl) ?_
  refine lv_iconst (v := (1 : Int32)) hx hb d_L_law_660 (by decide) ?_
  refine lv_iadd hx hb d_L_law_661 ?_
  refine va_sld hx hb hX hbl hbA hS (scr_1 hx0 hxL hL) d_L_law_662 ?_
  refine lv_aload_n hx hb d_L_law_663 rfl (lv_at hl 0 rfl) ?_
  refine lv_iload_n hx hb d_L_law_664 rfl (lv_at hl 3 rfl) ?_
  refine lv_iconst (v := (2 : Int32)) hx hb d_L_law_665 (by decide) ?_
  refine lv_iadd hx hb d_L_law_666 ?_
  refine va_sld hx hb hX hbl hbA hS (scr_2 hx0 hxL hL) d_L_law_667 ?_
  rw [ev1]
  rw [ev2]
  refine q_L_73 hx hb hml hown hts hT hM (lz_20 hM) (c_M_building l G τ μ v1 v2 st.1) ⟨Nat.le_of_ble_eq_true rfl, Nat.le_of_ble_eq_true rfl⟩ hf0 (lv_room (Nat.le_of_ble_eq_true rfl)) hl.1 d_L_law_668 (fun H2 locs2 hM2 => ?_)
  refine lv_icmp_eq (tgt := 756) hx hb d_L_law_671 (by decide) (fun cc => ?_) (fun cc => ?_)
  · refine W.widen (k := cells + 5) (n := slots + 28) (by omega) (by omega) ?_
    exact kk τ _ H2 locs2 mExt.rf (st.2.2.2.2 _ hLv) hM2 st.2.2.2.1
  · exact absurd st.2.2.1 cc
set_option maxHeartbeats 4000000 in
set_option maxRecDepth 100000 in
theorem law_13 {p : Program} {l : Launch} {e : Env} {s : State} {m : MethodId} {below : List Frame} {meth : Method} {c : Code} {b L : Nat} {xs : Nat → Int32} (hL : L ≤ 4096) (C0 : lw_At p s m meth c b L xs) {G : mG} {τ : mTau} {μ : mMem} {H : Heap} {locs : List Loc} {cells slots N : Nat} {x : Int32} (hx0 : 0 ≤ x.toInt) (hxL : x.toInt + 8 ≤ L) (hT : mT G s) (hG : G.2.2.1 = s.heap.size ∧ G.2.2.2 = s.heap) (hM : mw G τ μ H locs) (hLv : mLv τ μ) (hR : RR N μ μ) (hN : N + 128 ≤ 1000000) (hf : cells + 5 ≤ room_1.cells ∧ slots + 28 ≤ room_1.slots) {ls : Array Slot} (hl : lv_has ls 4 [(0, .ref b), (1, .ref (τ.1 0 0)), (2, .ref (τ.1 20 0)), (3, .int x)]) (kk : ∀ (τ' : mTau) (μ' : mMem) (H' : Heap) (locs' : List Loc), mExt τ τ' → mLv τ' μ' → mw G τ' μ' H' locs' → RR (N + 128) μ' μ' → W p l e room_1 s m #[Value.ref b] below meth c H' locs' (cells + 5) (slots + 28) (lw_Z below #[Value.ref b] s) (F0 m 756 ls [])) : W p l e room_1 s m #[Value.ref b] below meth c H locs cells slots (lw_Z below #[Value.ref b] s) (F0 m 676 ls []) := by
  obtain ⟨hx, hb, hr, hml, hown, hts0, hX, hbl, hlocks, hgv⟩ := C0
  have hts : ∀ w ∈ gG, w.before #[Value.ref b] s = true := fun w h => hts0 w (List.mem_filter.mp h).1
  have hS := lawS hG hM
  have hbA : ¬ (fun q : Nat => s.heap.size ≤ q) b := Nat.not_le.mpr hbl
  have hf0 : cells ≤ room_1.cells ∧ slots ≤ room_1.slots := ⟨by omega, by omega⟩
  have hf1 : cells + 5 ≤ room_1.cells ∧ slots + 28 ≤ room_1.slots := hf
  have hf2 : cells + 2 ≤ room_1.cells ∧ slots + 14 ≤ room_1.slots := ⟨by omega, by omega⟩
  have hf3 := hf2
  refine lv_aload_n hx hb d_L_law_676 rfl (lv_at hl 1 rfl) ?_
  refine lv_aload_n hx hb d_L_law_677 rfl (lv_at hl 0 rfl) ?_
  refine lv_iload_n hx hb d_L_law_678 rfl (lv_at hl 3 rfl) ?_
  refine lv_iconst (v := (1 : Int32)) hx hb d_L_law_679 (by decide) ?_
  refine lv_iadd hx hb d_L_law_680 ?_
  refine va_sld hx hb hX hbl hbA hS (scr_1 hx0 hxL hL) d_L_law_681 ?_
  refine lv_aload_n hx hb d_L_law_682 rfl (lv_at hl 0 rfl) ?_
  refine lv_iload_n hx hb d_L_law_683 rfl (lv_at hl 3 rfl) ?_
  refine lv_iconst (v := (2 : Int32)) hx hb d_L_law_684 (by decide) ?_
  refine lv_iadd hx hb d_L_law_685 ?_
  refine va_sld hx hb hX hbl hbA hS (scr_2 hx0 hxL hL) d_L_law_686 ?_
  generalize ev1 : (xs (x + (1 : Int32)).toNatClampNeg) = v1
  generalize ev2 : (xs (x + (2 : Int32)).toNatClampNeg) = v2
  refine q_L_74 hx hb hml hown hts hT hM (lz_0 hM) (c_X_told l G τ μ v1 v2 (iX_of hR)) ⟨Nat.le_of_ble_eq_true rfl, Nat.le_of_ble_eq_true rfl⟩ hf0 (lv_room (Nat.le_of_ble_eq_true rfl)) hl.1 d_L_law_687 (fun H1 locs1 hM1 => ?_)
  have hM := hM1
  have hS := lawS hG hM1
  have st := st_of (A := (f_X_told μ v1 v2) = (f_M_told μ v1 v2).1) hR (by omega) keeps.rf (fr_M_told v1 v2 keeps.rf) (fun h => z_told h (by omega) v1 v2) (by omega)
  refine lv_aload_n hx hb d_L_law_690 rfl (lv_at hl 2 rfl) ?_
  refine lv_aload_n hx hb d_L_law_691 rfl (lv_at hl 0 rfl) ?_
  refine lv_iload_n hx hb d_L_law_692 rfl (lv_at hl 3 rfl) ?_
  refine lv_iconst (v := (1 : Int32)) hx hb d_L_law_693 (by decide) ?_
  refine lv_iadd hx hb d_L_law_694 ?_
  refine va_sld hx hb hX hbl hbA hS (scr_1 hx0 hxL hL) d_L_law_695 ?_
  refine lv_aload_n hx hb d_L_law_696 rfl (lv_at hl 0 rfl) ?_
  refine lv_iload_n hx hb d_L_law_697 rfl (lv_at hl 3 rfl) ?_
  refine lv_iconst (v := (2 : Int32)) hx hb d_L_law_698 (by decide) ?_
  refine lv_iadd hx hb d_L_law_699 ?_
  refine va_sld hx hb hX hbl hbA hS (scr_2 hx0 hxL hL) d_L_law_700 ?_
  rw [ev1]
  rw [ev2]
  refine q_L_77 hx hb hml hown hts hT hM (lz_20 hM) (c_M_told l G τ μ v1 v2 st.2.1.1) ⟨Nat.le_of_ble_eq_true rfl, Nat.le_of_ble_eq_true rfl⟩ hf0 (lv_room (Nat.le_of_ble_eq_true rfl)) hl.1 d_L_law_701 (fun H2 locs2 hM2 => ?_)
  refine lv_icmp_eq (tgt := 756) hx hb d_L_law_704 (by decide) (fun cc => ?_) (fun cc => ?_)
  · refine W.widen (k := cells + 5) (n := slots + 28) (by omega) (by omega) ?_
    exact kk τ _ H2 locs2 mExt.rf (st.2.2.2.2 _ hLv) hM2 st.2.2.2.1
  · exact absurd st.2.2.1 cc
set_option maxHeartbeats 4000000 in
set_option maxRecDepth 100000 in
theorem law_14 {p : Program} {l : Launch} {e : Env} {s : State} {m : MethodId} {below : List Frame} {meth : Method} {c : Code} {b L : Nat} {xs : Nat → Int32} (hL : L ≤ 4096) (C0 : lw_At p s m meth c b L xs) {G : mG} {τ : mTau} {μ : mMem} {H : Heap} {locs : List Loc} {cells slots N : Nat} {x : Int32} (hx0 : 0 ≤ x.toInt) (hxL : x.toInt + 8 ≤ L) (hT : mT G s) (hG : G.2.2.1 = s.heap.size ∧ G.2.2.2 = s.heap) (hM : mw G τ μ H locs) (hLv : mLv τ μ) (hR : RR N μ μ) (hN : N + 128 ≤ 1000000) (hf : cells + 5 ≤ room_1.cells ∧ slots + 28 ≤ room_1.slots) {ls : Array Slot} (hl : lv_has ls 4 [(0, .ref b), (1, .ref (τ.1 0 0)), (2, .ref (τ.1 20 0)), (3, .int x)]) (kk : ∀ (τ' : mTau) (μ' : mMem) (H' : Heap) (locs' : List Loc), mExt τ τ' → mLv τ' μ' → mw G τ' μ' H' locs' → RR (N + 128) μ' μ' → W p l e room_1 s m #[Value.ref b] below meth c H' locs' (cells + 5) (slots + 28) (lw_Z below #[Value.ref b] s) (F0 m 756 ls [])) : W p l e room_1 s m #[Value.ref b] below meth c H locs cells slots (lw_Z below #[Value.ref b] s) (F0 m 709 ls []) := by
  obtain ⟨hx, hb, hr, hml, hown, hts0, hX, hbl, hlocks, hgv⟩ := C0
  have hts : ∀ w ∈ gG, w.before #[Value.ref b] s = true := fun w h => hts0 w (List.mem_filter.mp h).1
  have hS := lawS hG hM
  have hbA : ¬ (fun q : Nat => s.heap.size ≤ q) b := Nat.not_le.mpr hbl
  have hf0 : cells ≤ room_1.cells ∧ slots ≤ room_1.slots := ⟨by omega, by omega⟩
  have hf1 : cells + 5 ≤ room_1.cells ∧ slots + 28 ≤ room_1.slots := hf
  have hf2 : cells + 2 ≤ room_1.cells ∧ slots + 14 ≤ room_1.slots := ⟨by omega, by omega⟩
  have hf3 := hf2
  refine lv_aload_n hx hb d_L_law_709 rfl (lv_at hl 1 rfl) ?_
  refine lv_aload_n hx hb d_L_law_710 rfl (lv_at hl 0 rfl) ?_
  refine lv_iload_n hx hb d_L_law_711 rfl (lv_at hl 3 rfl) ?_
  refine lv_iconst (v := (1 : Int32)) hx hb d_L_law_712 (by decide) ?_
  refine lv_iadd hx hb d_L_law_713 ?_
  refine va_sld hx hb hX hbl hbA hS (scr_1 hx0 hxL hL) d_L_law_714 ?_
  generalize ev1 : (xs (x + (1 : Int32)).toNatClampNeg) = v1
  refine q_L_78 hx hb hml hown hts hT hM (lz_0 hM) (c_X_value l G τ μ v1 (iX_of hR)) ⟨Nat.le_of_ble_eq_true rfl, Nat.le_of_ble_eq_true rfl⟩ hf0 (lv_room (Nat.le_of_ble_eq_true rfl)) hl.1 d_L_law_715 (fun H1 locs1 hM1 => ?_)
  have hM := hM1
  have hS := lawS hG hM1
  have st := st_of (A := (f_X_value μ v1) = (f_M_value μ v1).1) hR (by omega) keeps.rf (fr_M_value v1 keeps.rf) (fun h => z_value h (by omega) v1) (by omega)
  refine lv_aload_n hx hb d_L_law_718 rfl (lv_at hl 2 rfl) ?_
  refine lv_aload_n hx hb d_L_law_719 rfl (lv_at hl 0 rfl) ?_
  refine lv_iload_n hx hb d_L_law_720 rfl (lv_at hl 3 rfl) ?_
  refine lv_iconst (v := (1 : Int32)) hx hb d_L_law_721 (by decide) ?_
  refine lv_iadd hx hb d_L_law_722 ?_
  refine va_sld hx hb hX hbl hbA hS (scr_1 hx0 hxL hL) d_L_law_723 ?_
  rw [ev1]
  refine q_L_82 hx hb hml hown hts hT hM (lz_20 hM) (c_M_value l G τ μ v1 st.2.1.1) ⟨Nat.le_of_ble_eq_true rfl, Nat.le_of_ble_eq_true rfl⟩ hf0 (lv_room (Nat.le_of_ble_eq_true rfl)) hl.1 d_L_law_724 (fun H2 locs2 hM2 => ?_)
  refine W.lcmp hx hb d_L_law_727 ?_
  refine lv_if_eq (tgt := 756) hx hb d_L_law_728 (by decide) (fun cc => ?_) (fun cc => ?_)
  · refine W.widen (k := cells + 5) (n := slots + 28) (by omega) (by omega) ?_
    exact kk τ _ H2 locs2 mExt.rf (st.2.2.2.2 _ hLv) hM2 st.2.2.2.1
  · exact absurd ((lg_cmp_eq _ _).mpr st.2.2.1) cc
set_option maxHeartbeats 4000000 in
set_option maxRecDepth 100000 in
theorem law_15 {p : Program} {l : Launch} {e : Env} {s : State} {m : MethodId} {below : List Frame} {meth : Method} {c : Code} {b L : Nat} {xs : Nat → Int32} (hL : L ≤ 4096) (C0 : lw_At p s m meth c b L xs) {G : mG} {τ : mTau} {μ : mMem} {H : Heap} {locs : List Loc} {cells slots N : Nat} {x : Int32} (hx0 : 0 ≤ x.toInt) (hxL : x.toInt + 8 ≤ L) (hT : mT G s) (hG : G.2.2.1 = s.heap.size ∧ G.2.2.2 = s.heap) (hM : mw G τ μ H locs) (hLv : mLv τ μ) (hR : RR N μ μ) (hN : N + 128 ≤ 1000000) (hf : cells + 5 ≤ room_1.cells ∧ slots + 28 ≤ room_1.slots) {ls : Array Slot} (hl : lv_has ls 4 [(0, .ref b), (1, .ref (τ.1 0 0)), (2, .ref (τ.1 20 0)), (3, .int x)]) (kk : ∀ (τ' : mTau) (μ' : mMem) (H' : Heap) (locs' : List Loc), mExt τ τ' → mLv τ' μ' → mw G τ' μ' H' locs' → RR (N + 128) μ' μ' → W p l e room_1 s m #[Value.ref b] below meth c H' locs' (cells + 5) (slots + 28) (lw_Z below #[Value.ref b] s) (F0 m 756 ls [])) : W p l e room_1 s m #[Value.ref b] below meth c H locs cells slots (lw_Z below #[Value.ref b] s) (F0 m 733 ls []) := by
  obtain ⟨hx, hb, hr, hml, hown, hts0, hX, hbl, hlocks, hgv⟩ := C0
  have hts : ∀ w ∈ gG, w.before #[Value.ref b] s = true := fun w h => hts0 w (List.mem_filter.mp h).1
  have hS := lawS hG hM
  have hbA : ¬ (fun q : Nat => s.heap.size ≤ q) b := Nat.not_le.mpr hbl
  have hf0 : cells ≤ room_1.cells ∧ slots ≤ room_1.slots := ⟨by omega, by omega⟩
  have hf1 : cells + 5 ≤ room_1.cells ∧ slots + 28 ≤ room_1.slots := hf
  have hf2 : cells + 2 ≤ room_1.cells ∧ slots + 14 ≤ room_1.slots := ⟨by omega, by omega⟩
  have hf3 := hf2
  refine lv_aload_n hx hb d_L_law_733 rfl (lv_at hl 1 rfl) ?_
  refine lv_aload_n hx hb d_L_law_734 rfl (lv_at hl 0 rfl) ?_
  refine lv_iload_n hx hb d_L_law_735 rfl (lv_at hl 3 rfl) ?_
  refine lv_iconst (v := (1 : Int32)) hx hb d_L_law_736 (by decide) ?_
  refine lv_iadd hx hb d_L_law_737 ?_
  refine va_sld hx hb hX hbl hbA hS (scr_1 hx0 hxL hL) d_L_law_738 ?_
  generalize ev1 : (xs (x + (1 : Int32)).toNatClampNeg) = v1
  refine q_L_83 hx hb hml hown hts hT hM (lz_0 hM) (c_X_count l G τ μ v1 ) ⟨Nat.le_of_ble_eq_true rfl, Nat.le_of_ble_eq_true rfl⟩ hf0 (lv_room (Nat.le_of_ble_eq_true rfl)) hl.1 d_L_law_739 (fun H1 locs1 hM1 => ?_)
  have hM := hM1
  have hS := lawS hG hM1
  have st := st_of (A := (f_X_count μ v1) = (f_M_count μ v1).1) hR (by omega) keeps.rf (fr_M_count v1 keeps.rf) (fun h => z_count h  v1) (by omega)
  refine lv_aload_n hx hb d_L_law_742 rfl (lv_at hl 2 rfl) ?_
  refine lv_aload_n hx hb d_L_law_743 rfl (lv_at hl 0 rfl) ?_
  refine lv_iload_n hx hb d_L_law_744 rfl (lv_at hl 3 rfl) ?_
  refine lv_iconst (v := (1 : Int32)) hx hb d_L_law_745 (by decide) ?_
  refine lv_iadd hx hb d_L_law_746 ?_
  refine va_sld hx hb hX hbl hbA hS (scr_1 hx0 hxL hL) d_L_law_747 ?_
  rw [ev1]
  refine q_L_86 hx hb hml hown hts hT hM (lz_20 hM) (c_M_count l G τ μ v1 ) ⟨Nat.le_of_ble_eq_true rfl, Nat.le_of_ble_eq_true rfl⟩ hf0 (lv_room (Nat.le_of_ble_eq_true rfl)) hl.1 d_L_law_748 (fun H2 locs2 hM2 => ?_)
  refine lv_icmp_eq (tgt := 756) hx hb d_L_law_751 (by decide) (fun cc => ?_) (fun cc => ?_)
  · refine W.widen (k := cells + 5) (n := slots + 28) (by omega) (by omega) ?_
    exact kk τ _ H2 locs2 mExt.rf (st.2.2.2.2 _ hLv) hM2 st.2.2.2.1
  · exact absurd st.2.2.1 cc
