set_option maxHeartbeats 4000000 in
set_option maxRecDepth 100000 in
theorem law_0 {p : Program} {l : Launch} {e : Env} {s : State} {m : MethodId} {below : List Frame} {meth : Method} {c : Code} {b L : Nat} {xs : Nat → Int32} (hL : L ≤ 4096) (C0 : lw_At p s m meth c b L xs) {G : mG} {τ : mTau} {μ : mMem} {H : Heap} {locs : List Loc} {cells slots N : Nat} {x : Int32} (hx0 : 0 ≤ x.toInt) (hxL : x.toInt + 8 ≤ L) (hT : mT G s) (hG : G.2.2.1 = s.heap.size ∧ G.2.2.2 = s.heap) (hM : mw G τ μ H locs) (hLv : mLv τ μ) (hR : RR N μ μ) (hN : N + 128 ≤ 1000000) (hf : cells + 5 ≤ room_1.cells ∧ slots + 28 ≤ room_1.slots) {ls : Array Slot} (hl : lv_has ls 4 [(0, .ref b), (1, .ref (τ.1 0 0)), (2, .ref (τ.1 20 0)), (3, .int x)]) (kk : ∀ (τ' : mTau) (μ' : mMem) (H' : Heap) (locs' : List Loc), mExt τ τ' → mLv τ' μ' → mw G τ' μ' H' locs' → RR (N + 128) μ' μ' → W p l e room_1 s m #[Value.ref b] below meth c H' locs' (cells + 5) (slots + 28) (lw_Z below #[Value.ref b] s) (F0 m 756 ls [])) : W p l e room_1 s m #[Value.ref b] below meth c H locs cells slots (lw_Z below #[Value.ref b] s) (F0 m 112 ls []) := by
  obtain ⟨hx, hb, hr, hml, hown, hts0, hX, hbl, hlocks, hgv⟩ := C0
  have hts : ∀ w ∈ gG, w.before #[Value.ref b] s = true := fun w h => hts0 w (List.mem_filter.mp h).1
  have hS := lawS hG hM
  have hbA : ¬ (fun q : Nat => s.heap.size ≤ q) b := Nat.not_le.mpr hbl
  have hf0 : cells ≤ room_1.cells ∧ slots ≤ room_1.slots := ⟨by omega, by omega⟩
  have hf1 : cells + 5 ≤ room_1.cells ∧ slots + 28 ≤ room_1.slots := hf
  have hf2 : cells + 2 ≤ room_1.cells ∧ slots + 14 ≤ room_1.slots := ⟨by omega, by omega⟩
  have hf3 := hf2
  refine lv_aload_n hx hb d_L_law_112 rfl (lv_at hl 1 rfl) ?_
  refine lv_aload_n hx hb d_L_law_113 rfl (lv_at hl 0 rfl) ?_
  refine lv_iload_n hx hb d_L_law_114 rfl (lv_at hl 3 rfl) ?_
  refine lv_iconst (v := (1 : Int32)) hx hb d_L_law_115 (by decide) ?_
  refine lv_iadd hx hb d_L_law_116 ?_
  refine va_sld hx hb hX hbl hbA hS (scr_1 hx0 hxL hL) d_L_law_117 ?_
  refine lv_aload_n hx hb d_L_law_118 rfl (lv_at hl 0 rfl) ?_
  refine lv_iload_n hx hb d_L_law_119 rfl (lv_at hl 3 rfl) ?_
  refine lv_iconst (v := (2 : Int32)) hx hb d_L_law_120 (by decide) ?_
  refine lv_iadd hx hb d_L_law_121 ?_
  refine va_sld hx hb hX hbl hbA hS (scr_2 hx0 hxL hL) d_L_law_122 ?_
  generalize ev1 : (xs (x + (1 : Int32)).toNatClampNeg) = v1
  generalize ev2 : (xs (x + (2 : Int32)).toNatClampNeg) = v2
  refine q_L_13 hx hb hml hown hts hT hM (lz_0 hM) (c_X_make l G τ μ v1 v2 (iX_of hR) hLv) ⟨Nat.le_of_ble_eq_true rfl, Nat.le_of_ble_eq_true rfl⟩ hf (lv_room (Nat.le_of_ble_eq_true rfl)) hl.1 d_L_law_123 (fun τ1 H1 locs1 hxt hLv1 hM1 => ?_)
  have hs0 := (hxt 0 0 (lz_0 hM)).2
  have hs20 := (hxt 20 0 (lz_20 hM)).2
  rw [← hs0, ← hs20] at hl
  have hM := hM1
  have hS := lawS hG hM1
  have st := st_of (A := (f_X_make μ v1 v2).1 = (f_M_make (f_X_make μ v1 v2).2 v1 v2).1) hR (by omega) (fr_X_make v1 v2 keeps.rf) (fr_M_make v1 v2 keeps.rf) (fun h => z_make h  v1 v2) (by omega)
  refine lv_aload_n hx hb d_L_law_126 rfl (lv_at hl 2 rfl) ?_
  refine lv_aload_n hx hb d_L_law_127 rfl (lv_at hl 0 rfl) ?_
  refine lv_iload_n hx hb d_L_law_128 rfl (lv_at hl 3 rfl) ?_
  refine lv_iconst (v := (1 : Int32)) hx hb d_L_law_129 (by decide) ?_
  refine lv_iadd hx hb d_L_law_130 ?_
  refine va_sld hx hb hX hbl hbA hS (scr_1 hx0 hxL hL) d_L_law_131 ?_
  refine lv_aload_n hx hb d_L_law_132 rfl (lv_at hl 0 rfl) ?_
  refine lv_iload_n hx hb d_L_law_133 rfl (lv_at hl 3 rfl) ?_
  refine lv_iconst (v := (2 : Int32)) hx hb d_L_law_134 (by decide) ?_
  refine lv_iadd hx hb d_L_law_135 ?_
  refine va_sld hx hb hX hbl hbA hS (scr_2 hx0 hxL hL) d_L_law_136 ?_
  rw [ev1]
  rw [ev2]
  refine q_L_17 hx hb hml hown hts hT hM (lz_20 hM) (c_M_make l G τ1 (f_X_make μ v1 v2).2 v1 v2 st.1) ⟨Nat.le_of_ble_eq_true rfl, Nat.le_of_ble_eq_true rfl⟩ hf1 (lv_room (Nat.le_of_ble_eq_true rfl)) hl.1 d_L_law_137 (fun H2 locs2 hM2 => ?_)
  refine lv_icmp_eq (tgt := 756) hx hb d_L_law_140 (by decide) (fun cc => ?_) (fun cc => ?_)
  · exact kk τ1 _ H2 locs2 hxt (st.2.2.2.2 _ hLv1) hM2 st.2.2.2.1
  · exact absurd st.2.2.1 cc
set_option maxHeartbeats 4000000 in
set_option maxRecDepth 100000 in
theorem law_1 {p : Program} {l : Launch} {e : Env} {s : State} {m : MethodId} {below : List Frame} {meth : Method} {c : Code} {b L : Nat} {xs : Nat → Int32} (hL : L ≤ 4096) (C0 : lw_At p s m meth c b L xs) {G : mG} {τ : mTau} {μ : mMem} {H : Heap} {locs : List Loc} {cells slots N : Nat} {x : Int32} (hx0 : 0 ≤ x.toInt) (hxL : x.toInt + 8 ≤ L) (hT : mT G s) (hG : G.2.2.1 = s.heap.size ∧ G.2.2.2 = s.heap) (hM : mw G τ μ H locs) (hLv : mLv τ μ) (hR : RR N μ μ) (hN : N + 128 ≤ 1000000) (hf : cells + 5 ≤ room_1.cells ∧ slots + 28 ≤ room_1.slots) {ls : Array Slot} (hl : lv_has ls 4 [(0, .ref b), (1, .ref (τ.1 0 0)), (2, .ref (τ.1 20 0)), (3, .int x)]) (kk : ∀ (τ' : mTau) (μ' : mMem) (H' : Heap) (locs' : List Loc), mExt τ τ' → mLv τ' μ' → mw G τ' μ' H' locs' → RR (N + 128) μ' μ' → W p l e room_1 s m #[Value.ref b] below meth c H' locs' (cells + 5) (slots + 28) (lw_Z below #[Value.ref b] s) (F0 m 756 ls [])) : W p l e room_1 s m #[Value.ref b] below meth c H locs cells slots (lw_Z below #[Value.ref b] s) (F0 m 145 ls []) := by
  obtain ⟨hx, hb, hr, hml, hown, hts0, hX, hbl, hlocks, hgv⟩ := C0
  have hts : ∀ w ∈ gG, w.before #[Value.ref b] s = true := fun w h => hts0 w (List.mem_filter.mp h).1
  have hS := lawS hG hM
  have hbA : ¬ (fun q : Nat => s.heap.size ≤ q) b := Nat.not_le.mpr hbl
  have hf0 : cells ≤ room_1.cells ∧ slots ≤ room_1.slots := ⟨by omega, by omega⟩
  have hf1 : cells + 5 ≤ room_1.cells ∧ slots + 28 ≤ room_1.slots := hf
  have hf2 : cells + 2 ≤ room_1.cells ∧ slots + 14 ≤ room_1.slots := ⟨by omega, by omega⟩
  have hf3 := hf2
  refine lv_aload_n hx hb d_L_law_145 rfl (lv_at hl 1 rfl) ?_
  refine lv_aload_n hx hb d_L_law_146 rfl (lv_at hl 0 rfl) ?_
  refine lv_iload_n hx hb d_L_law_147 rfl (lv_at hl 3 rfl) ?_
  refine lv_iconst (v := (1 : Int32)) hx hb d_L_law_148 (by decide) ?_
  refine lv_iadd hx hb d_L_law_149 ?_
  refine va_sld hx hb hX hbl hbA hS (scr_1 hx0 hxL hL) d_L_law_150 ?_
  generalize ev1 : (xs (x + (1 : Int32)).toNatClampNeg) = v1
  refine q_L_18 hx hb hml hown hts hT hM (lz_0 hM) (c_X_drop l G τ μ v1 (iX_of hR)) ⟨Nat.le_of_ble_eq_true rfl, Nat.le_of_ble_eq_true rfl⟩ hf0 (lv_room (Nat.le_of_ble_eq_true rfl)) hl.1 d_L_law_151 (fun H1 locs1 hM1 => ?_)
  have hM := hM1
  have hS := lawS hG hM1
  have st := st_of (A := (f_X_drop μ v1).1 = (f_M_drop (f_X_drop μ v1).2 v1).1) hR (by omega) (k1_of (fr_X_drop v1 keeps.rf)) (fr_M_drop v1 keeps.rf) (fun h => z_drop h  v1) (by omega)
  refine lv_aload_n hx hb d_L_law_154 rfl (lv_at hl 2 rfl) ?_
  refine lv_aload_n hx hb d_L_law_155 rfl (lv_at hl 0 rfl) ?_
  refine lv_iload_n hx hb d_L_law_156 rfl (lv_at hl 3 rfl) ?_
  refine lv_iconst (v := (1 : Int32)) hx hb d_L_law_157 (by decide) ?_
  refine lv_iadd hx hb d_L_law_158 ?_
  refine va_sld hx hb hX hbl hbA hS (scr_1 hx0 hxL hL) d_L_law_159 ?_
  rw [ev1]
  refine q_L_22 hx hb hml hown hts hT hM (lz_20 hM) (c_M_drop l G τ (f_X_drop μ v1).2 v1 st.1) ⟨Nat.le_of_ble_eq_true rfl, Nat.le_of_ble_eq_true rfl⟩ hf0 (lv_room (Nat.le_of_ble_eq_true rfl)) hl.1 d_L_law_160 (fun H2 locs2 hM2 => ?_)
  refine lv_icmp_eq (tgt := 756) hx hb d_L_law_163 (by decide) (fun cc => ?_) (fun cc => ?_)
  · refine W.widen (k := cells + 5) (n := slots + 28) (by omega) (by omega) ?_
    exact kk τ _ H2 locs2 mExt.rf (st.2.2.2.2 _ (lv_k0 (fr_X_drop v1 keeps.rf) hLv)) hM2 st.2.2.2.1
  · exact absurd st.2.2.1 cc
set_option maxHeartbeats 4000000 in
set_option maxRecDepth 100000 in
theorem law_2 {p : Program} {l : Launch} {e : Env} {s : State} {m : MethodId} {below : List Frame} {meth : Method} {c : Code} {b L : Nat} {xs : Nat → Int32} (hL : L ≤ 4096) (C0 : lw_At p s m meth c b L xs) {G : mG} {τ : mTau} {μ : mMem} {H : Heap} {locs : List Loc} {cells slots N : Nat} {x : Int32} (hx0 : 0 ≤ x.toInt) (hxL : x.toInt + 8 ≤ L) (hT : mT G s) (hG : G.2.2.1 = s.heap.size ∧ G.2.2.2 = s.heap) (hM : mw G τ μ H locs) (hLv : mLv τ μ) (hR : RR N μ μ) (hN : N + 128 ≤ 1000000) (hf : cells + 5 ≤ room_1.cells ∧ slots + 28 ≤ room_1.slots) {ls : Array Slot} (hl : lv_has ls 4 [(0, .ref b), (1, .ref (τ.1 0 0)), (2, .ref (τ.1 20 0)), (3, .int x)]) (kk : ∀ (τ' : mTau) (μ' : mMem) (H' : Heap) (locs' : List Loc), mExt τ τ' → mLv τ' μ' → mw G τ' μ' H' locs' → RR (N + 128) μ' μ' → W p l e room_1 s m #[Value.ref b] below meth c H' locs' (cells + 5) (slots + 28) (lw_Z below #[Value.ref b] s) (F0 m 756 ls [])) : W p l e room_1 s m #[Value.ref b] below meth c H locs cells slots (lw_Z below #[Value.ref b] s) (F0 m 168 ls []) := by
  obtain ⟨hx, hb, hr, hml, hown, hts0, hX, hbl, hlocks, hgv⟩ := C0
  have hts : ∀ w ∈ gG, w.before #[Value.ref b] s = true := fun w h => hts0 w (List.mem_filter.mp h).1
  have hS := lawS hG hM
  have hbA : ¬ (fun q : Nat => s.heap.size ≤ q) b := Nat.not_le.mpr hbl
  have hf0 : cells ≤ room_1.cells ∧ slots ≤ room_1.slots := ⟨by omega, by omega⟩
  have hf1 : cells + 5 ≤ room_1.cells ∧ slots + 28 ≤ room_1.slots := hf
  have hf2 : cells + 2 ≤ room_1.cells ∧ slots + 14 ≤ room_1.slots := ⟨by omega, by omega⟩
  have hf3 := hf2
  refine lv_aload_n hx hb d_L_law_168 rfl (lv_at hl 1 rfl) ?_
  refine lv_aload_n hx hb d_L_law_169 rfl (lv_at hl 0 rfl) ?_
  refine lv_iload_n hx hb d_L_law_170 rfl (lv_at hl 3 rfl) ?_
  refine lv_iconst (v := (1 : Int32)) hx hb d_L_law_171 (by decide) ?_
  refine lv_iadd hx hb d_L_law_172 ?_
  refine va_sld hx hb hX hbl hbA hS (scr_1 hx0 hxL hL) d_L_law_173 ?_
  generalize ev1 : (xs (x + (1 : Int32)).toNatClampNeg) = v1
  refine q_L_23 hx hb hml hown hts hT hM (lz_0 hM) (c_X_numbers l G τ μ v1 (iX_of hR)) ⟨Nat.le_of_ble_eq_true rfl, Nat.le_of_ble_eq_true rfl⟩ hf0 (lv_room (Nat.le_of_ble_eq_true rfl)) hl.1 d_L_law_174 (fun H1 locs1 hM1 => ?_)
  have hM := hM1
  have hS := lawS hG hM1
  have st := st_of (A := (f_X_numbers μ v1) = (f_M_numbers μ v1).1) hR (by omega) keeps.rf (fr_M_numbers v1 keeps.rf) (fun h => z_numbers h  v1) (by omega)
  refine lv_aload_n hx hb d_L_law_177 rfl (lv_at hl 2 rfl) ?_
  refine lv_aload_n hx hb d_L_law_178 rfl (lv_at hl 0 rfl) ?_
  refine lv_iload_n hx hb d_L_law_179 rfl (lv_at hl 3 rfl) ?_
  refine lv_iconst (v := (1 : Int32)) hx hb d_L_law_180 (by decide) ?_
  refine lv_iadd hx hb d_L_law_181 ?_
  refine va_sld hx hb hX hbl hbA hS (scr_1 hx0 hxL hL) d_L_law_182 ?_
  rw [ev1]
  refine q_L_26 hx hb hml hown hts hT hM (lz_20 hM) (c_M_numbers l G τ μ v1 st.1) ⟨Nat.le_of_ble_eq_true rfl, Nat.le_of_ble_eq_true rfl⟩ hf0 (lv_room (Nat.le_of_ble_eq_true rfl)) hl.1 d_L_law_183 (fun H2 locs2 hM2 => ?_)
  refine lv_icmp_eq (tgt := 756) hx hb d_L_law_186 (by decide) (fun cc => ?_) (fun cc => ?_)
  · refine W.widen (k := cells + 5) (n := slots + 28) (by omega) (by omega) ?_
    exact kk τ _ H2 locs2 mExt.rf (st.2.2.2.2 _ hLv) hM2 st.2.2.2.1
  · exact absurd st.2.2.1 cc
set_option maxHeartbeats 4000000 in
set_option maxRecDepth 100000 in
theorem law_3 {p : Program} {l : Launch} {e : Env} {s : State} {m : MethodId} {below : List Frame} {meth : Method} {c : Code} {b L : Nat} {xs : Nat → Int32} (hL : L ≤ 4096) (C0 : lw_At p s m meth c b L xs) {G : mG} {τ : mTau} {μ : mMem} {H : Heap} {locs : List Loc} {cells slots N : Nat} {x : Int32} (hx0 : 0 ≤ x.toInt) (hxL : x.toInt + 8 ≤ L) (hT : mT G s) (hG : G.2.2.1 = s.heap.size ∧ G.2.2.2 = s.heap) (hM : mw G τ μ H locs) (hLv : mLv τ μ) (hR : RR N μ μ) (hN : N + 128 ≤ 1000000) (hf : cells + 5 ≤ room_1.cells ∧ slots + 28 ≤ room_1.slots) {ls : Array Slot} (hl : lv_has ls 4 [(0, .ref b), (1, .ref (τ.1 0 0)), (2, .ref (τ.1 20 0)), (3, .int x)]) (kk : ∀ (τ' : mTau) (μ' : mMem) (H' : Heap) (locs' : List Loc), mExt τ τ' → mLv τ' μ' → mw G τ' μ' H' locs' → RR (N + 128) μ' μ' → W p l e room_1 s m #[Value.ref b] below meth c H' locs' (cells + 5) (slots + 28) (lw_Z below #[Value.ref b] s) (F0 m 756 ls [])) : W p l e room_1 s m #[Value.ref b] below meth c H locs cells slots (lw_Z below #[Value.ref b] s) (F0 m 191 ls []) := by
  obtain ⟨hx, hb, hr, hml, hown, hts0, hX, hbl, hlocks, hgv⟩ := C0
  have hts : ∀ w ∈ gG, w.before #[Value.ref b] s = true := fun w h => hts0 w (List.mem_filter.mp h).1
  have hS := lawS hG hM
  have hbA : ¬ (fun q : Nat => s.heap.size ≤ q) b := Nat.not_le.mpr hbl
  have hf0 : cells ≤ room_1.cells ∧ slots ≤ room_1.slots := ⟨by omega, by omega⟩
  have hf1 : cells + 5 ≤ room_1.cells ∧ slots + 28 ≤ room_1.slots := hf
  have hf2 : cells + 2 ≤ room_1.cells ∧ slots + 14 ≤ room_1.slots := ⟨by omega, by omega⟩
  have hf3 := hf2
  refine lv_aload_n hx hb d_L_law_191 rfl (lv_at hl 1 rfl) ?_
  refine lv_aload_n hx hb d_L_law_192 rfl (lv_at hl 0 rfl) ?_
  refine lv_iload_n hx hb d_L_law_193 rfl (lv_at hl 3 rfl) ?_
  refine lv_iconst (v := (1 : Int32)) hx hb d_L_law_194 (by decide) ?_
  refine lv_iadd hx hb d_L_law_195 ?_
  refine va_sld hx hb hX hbl hbA hS (scr_1 hx0 hxL hL) d_L_law_196 ?_
  refine lv_aload_n hx hb d_L_law_197 rfl (lv_at hl 0 rfl) ?_
  refine lv_iload_n hx hb d_L_law_198 rfl (lv_at hl 3 rfl) ?_
  refine lv_iconst (v := (2 : Int32)) hx hb d_L_law_199 (by decide) ?_
  refine lv_iadd hx hb d_L_law_200 ?_
  refine va_sld hx hb hX hbl hbA hS (scr_2 hx0 hxL hL) d_L_law_201 ?_
  generalize ev1 : (xs (x + (1 : Int32)).toNatClampNeg) = v1
  generalize ev2 : (xs (x + (2 : Int32)).toNatClampNeg) = v2
  refine q_L_27 hx hb hml hown hts hT hM (lz_0 hM) (c_X_about l G τ μ v1 v2 (iX_of hR)) ⟨Nat.le_of_ble_eq_true rfl, Nat.le_of_ble_eq_true rfl⟩ hf0 (lv_room (Nat.le_of_ble_eq_true rfl)) hl.1 d_L_law_202 (fun H1 locs1 hM1 => ?_)
  have hM := hM1
  have hS := lawS hG hM1
  have st := st_of (A := (f_X_about μ v1 v2) = (f_M_about μ v1 v2).1) hR (by omega) keeps.rf (fr_M_about v1 v2 keeps.rf) (fun h => z_about h  v1 v2) (by omega)
  refine lv_aload_n hx hb d_L_law_205 rfl (lv_at hl 2 rfl) ?_
  refine lv_aload_n hx hb d_L_law_206 rfl (lv_at hl 0 rfl) ?_
  refine lv_iload_n hx hb d_L_law_207 rfl (lv_at hl 3 rfl) ?_
  refine lv_iconst (v := (1 : Int32)) hx hb d_L_law_208 (by decide) ?_
  refine lv_iadd hx hb d_L_law_209 ?_
  refine va_sld hx hb hX hbl hbA hS (scr_1 hx0 hxL hL) d_L_law_210 ?_
  refine lv_aload_n hx hb d_L_law_211 rfl (lv_at hl 0 rfl) ?_
  refine lv_iload_n hx hb d_L_law_212 rfl (lv_at hl 3 rfl) ?_
  refine lv_iconst (v := (2 : Int32)) hx hb d_L_law_213 (by decide) ?_
  refine lv_iadd hx hb d_L_law_214 ?_
  refine va_sld hx hb hX hbl hbA hS (scr_2 hx0 hxL hL) d_L_law_215 ?_
  rw [ev1]
  rw [ev2]
  refine q_L_30 hx hb hml hown hts hT hM (lz_20 hM) (c_M_about l G τ μ v1 v2 st.1) ⟨Nat.le_of_ble_eq_true rfl, Nat.le_of_ble_eq_true rfl⟩ hf0 (lv_room (Nat.le_of_ble_eq_true rfl)) hl.1 d_L_law_216 (fun H2 locs2 hM2 => ?_)
  refine lv_icmp_eq (tgt := 756) hx hb d_L_law_219 (by decide) (fun cc => ?_) (fun cc => ?_)
  · refine W.widen (k := cells + 5) (n := slots + 28) (by omega) (by omega) ?_
    exact kk τ _ H2 locs2 mExt.rf (st.2.2.2.2 _ hLv) hM2 st.2.2.2.1
  · exact absurd st.2.2.1 cc
set_option maxHeartbeats 4000000 in
set_option maxRecDepth 100000 in
theorem law_4 {p : Program} {l : Launch} {e : Env} {s : State} {m : MethodId} {below : List Frame} {meth : Method} {c : Code} {b L : Nat} {xs : Nat → Int32} (hL : L ≤ 4096) (C0 : lw_At p s m meth c b L xs) {G : mG} {τ : mTau} {μ : mMem} {H : Heap} {locs : List Loc} {cells slots N : Nat} {x : Int32} (hx0 : 0 ≤ x.toInt) (hxL : x.toInt + 8 ≤ L) (hT : mT G s) (hG : G.2.2.1 = s.heap.size ∧ G.2.2.2 = s.heap) (hM : mw G τ μ H locs) (hLv : mLv τ μ) (hR : RR N μ μ) (hN : N + 128 ≤ 1000000) (hf : cells + 5 ≤ room_1.cells ∧ slots + 28 ≤ room_1.slots) {ls : Array Slot} (hl : lv_has ls 4 [(0, .ref b), (1, .ref (τ.1 0 0)), (2, .ref (τ.1 20 0)), (3, .int x)]) (kk : ∀ (τ' : mTau) (μ' : mMem) (H' : Heap) (locs' : List Loc), mExt τ τ' → mLv τ' μ' → mw G τ' μ' H' locs' → RR (N + 128) μ' μ' → W p l e room_1 s m #[Value.ref b] below meth c H' locs' (cells + 5) (slots + 28) (lw_Z below #[Value.ref b] s) (F0 m 756 ls [])) : W p l e room_1 s m #[Value.ref b] below meth c H locs cells slots (lw_Z below #[Value.ref b] s) (F0 m 224 ls []) := by
  obtain ⟨hx, hb, hr, hml, hown, hts0, hX, hbl, hlocks, hgv⟩ := C0
  have hts : ∀ w ∈ gG, w.before #[Value.ref b] s = true := fun w h => hts0 w (List.mem_filter.mp h).1
  have hS := lawS hG hM
  have hbA : ¬ (fun q : Nat => s.heap.size ≤ q) b := Nat.not_le.mpr hbl
  have hf0 : cells ≤ room_1.cells ∧ slots ≤ room_1.slots := ⟨by omega, by omega⟩
  have hf1 : cells + 5 ≤ room_1.cells ∧ slots + 28 ≤ room_1.slots := hf
  have hf2 : cells + 2 ≤ room_1.cells ∧ slots + 14 ≤ room_1.slots := ⟨by omega, by omega⟩
  have hf3 := hf2
  refine lv_aload_n hx hb d_L_law_224 rfl (lv_at hl 1 rfl) ?_
  refine lv_aload_n hx hb d_L_law_225 rfl (lv_at hl 0 rfl) ?_
  refine lv_iload_n hx hb d_L_law_226 rfl (lv_at hl 3 rfl) ?_
  refine lv_iconst (v := (1 : Int32)) hx hb d_L_law_227 (by decide) ?_
  refine lv_iadd hx hb d_L_law_228 ?_
  refine va_sld hx hb hX hbl hbA hS (scr_1 hx0 hxL hL) d_L_law_229 ?_
  refine lv_aload_n hx hb d_L_law_230 rfl (lv_at hl 0 rfl) ?_
  refine lv_iload_n hx hb d_L_law_231 rfl (lv_at hl 3 rfl) ?_
  refine lv_iconst (v := (2 : Int32)) hx hb d_L_law_232 (by decide) ?_
  refine lv_iadd hx hb d_L_law_233 ?_
  refine va_sld hx hb hX hbl hbA hS (scr_2 hx0 hxL hL) d_L_law_234 ?_
  generalize ev1 : (xs (x + (1 : Int32)).toNatClampNeg) = v1
  generalize ev2 : (xs (x + (2 : Int32)).toNatClampNeg) = v2
  refine q_L_31 hx hb hml hown hts hT hM (lz_0 hM) (c_X_collect l G τ μ v1 v2 ) ⟨Nat.le_of_ble_eq_true rfl, Nat.le_of_ble_eq_true rfl⟩ hf0 (lv_room (Nat.le_of_ble_eq_true rfl)) hl.1 d_L_law_235 (fun H1 locs1 hM1 => ?_)
  have hM := hM1
  have hS := lawS hG hM1
  have st := st_of (A := (f_X_collect μ v1 v2).1 = (f_M_collect (f_X_collect μ v1 v2).2 v1 v2).1) hR (by omega) (k1_of (fr_X_collect v1 v2 keeps.rf)) (fr_M_collect v1 v2 keeps.rf) (fun h => z_collect h  v1 v2) (by omega)
  refine lv_aload_n hx hb d_L_law_238 rfl (lv_at hl 2 rfl) ?_
  refine lv_aload_n hx hb d_L_law_239 rfl (lv_at hl 0 rfl) ?_
  refine lv_iload_n hx hb d_L_law_240 rfl (lv_at hl 3 rfl) ?_
  refine lv_iconst (v := (1 : Int32)) hx hb d_L_law_241 (by decide) ?_
  refine lv_iadd hx hb d_L_law_242 ?_
  refine va_sld hx hb hX hbl hbA hS (scr_1 hx0 hxL hL) d_L_law_243 ?_
  refine lv_aload_n hx hb d_L_law_244 rfl (lv_at hl 0 rfl) ?_
  refine lv_iload_n hx hb d_L_law_245 rfl (lv_at hl 3 rfl) ?_
  refine lv_iconst (v := (2 : Int32)) hx hb d_L_law_246 (by decide) ?_
  refine lv_iadd hx hb d_L_law_247 ?_
  refine va_sld hx hb hX hbl hbA hS (scr_2 hx0 hxL hL) d_L_law_248 ?_
  rw [ev1]
  rw [ev2]
  refine q_L_34 hx hb hml hown hts hT hM (lz_20 hM) (c_M_collect l G τ (f_X_collect μ v1 v2).2 v1 v2 st.1) ⟨Nat.le_of_ble_eq_true rfl, Nat.le_of_ble_eq_true rfl⟩ hf0 (lv_room (Nat.le_of_ble_eq_true rfl)) hl.1 d_L_law_249 (fun H2 locs2 hM2 => ?_)
  refine lv_icmp_eq (tgt := 756) hx hb d_L_law_252 (by decide) (fun cc => ?_) (fun cc => ?_)
  · refine W.widen (k := cells + 5) (n := slots + 28) (by omega) (by omega) ?_
    exact kk τ _ H2 locs2 mExt.rf (st.2.2.2.2 _ (lv_k0 (fr_X_collect v1 v2 keeps.rf) hLv)) hM2 st.2.2.2.1
  · exact absurd st.2.2.1 cc
set_option maxHeartbeats 4000000 in
set_option maxRecDepth 100000 in
theorem law_5 {p : Program} {l : Launch} {e : Env} {s : State} {m : MethodId} {below : List Frame} {meth : Method} {c : Code} {b L : Nat} {xs : Nat → Int32} (hL : L ≤ 4096) (C0 : lw_At p s m meth c b L xs) {G : mG} {τ : mTau} {μ : mMem} {H : Heap} {locs : List Loc} {cells slots N : Nat} {x : Int32} (hx0 : 0 ≤ x.toInt) (hxL : x.toInt + 8 ≤ L) (hT : mT G s) (hG : G.2.2.1 = s.heap.size ∧ G.2.2.2 = s.heap) (hM : mw G τ μ H locs) (hLv : mLv τ μ) (hR : RR N μ μ) (hN : N + 128 ≤ 1000000) (hf : cells + 5 ≤ room_1.cells ∧ slots + 28 ≤ room_1.slots) {ls : Array Slot} (hl : lv_has ls 4 [(0, .ref b), (1, .ref (τ.1 0 0)), (2, .ref (τ.1 20 0)), (3, .int x)]) (kk : ∀ (τ' : mTau) (μ' : mMem) (H' : Heap) (locs' : List Loc), mExt τ τ' → mLv τ' μ' → mw G τ' μ' H' locs' → RR (N + 128) μ' μ' → W p l e room_1 s m #[Value.ref b] below meth c H' locs' (cells + 5) (slots + 28) (lw_Z below #[Value.ref b] s) (F0 m 756 ls [])) : W p l e room_1 s m #[Value.ref b] below meth c H locs cells slots (lw_Z below #[Value.ref b] s) (F0 m 257 ls []) := by
  obtain ⟨hx, hb, hr, hml, hown, hts0, hX, hbl, hlocks, hgv⟩ := C0
  have hts : ∀ w ∈ gG, w.before #[Value.ref b] s = true := fun w h => hts0 w (List.mem_filter.mp h).1
  have hS := lawS hG hM
  have hbA : ¬ (fun q : Nat => s.heap.size ≤ q) b := Nat.not_le.mpr hbl
  have hf0 : cells ≤ room_1.cells ∧ slots ≤ room_1.slots := ⟨by omega, by omega⟩
  have hf1 : cells + 5 ≤ room_1.cells ∧ slots + 28 ≤ room_1.slots := hf
  have hf2 : cells + 2 ≤ room_1.cells ∧ slots + 14 ≤ room_1.slots := ⟨by omega, by omega⟩
  have hf3 := hf2
  refine lv_aload_n hx hb d_L_law_257 rfl (lv_at hl 1 rfl) ?_
  refine lv_aload_n hx hb d_L_law_258 rfl (lv_at hl 0 rfl) ?_
  refine lv_iload_n hx hb d_L_law_259 rfl (lv_at hl 3 rfl) ?_
  refine lv_iconst (v := (1 : Int32)) hx hb d_L_law_260 (by decide) ?_
  refine lv_iadd hx hb d_L_law_261 ?_
  refine va_sld hx hb hX hbl hbA hS (scr_1 hx0 hxL hL) d_L_law_262 ?_
  generalize ev1 : (xs (x + (1 : Int32)).toNatClampNeg) = v1
  refine q_L_35 hx hb hml hown hts hT hM (lz_0 hM) (c_X_collected l G τ μ v1 ) ⟨Nat.le_of_ble_eq_true rfl, Nat.le_of_ble_eq_true rfl⟩ hf0 (lv_room (Nat.le_of_ble_eq_true rfl)) hl.1 d_L_law_263 (fun H1 locs1 hM1 => ?_)
  have hM := hM1
  have hS := lawS hG hM1
  have st := st_of (A := (f_X_collected μ v1) = (f_M_collected μ v1).1) hR (by omega) keeps.rf (fr_M_collected v1 keeps.rf) (fun h => z_collected h  v1) (by omega)
  refine lv_aload_n hx hb d_L_law_266 rfl (lv_at hl 2 rfl) ?_
  refine lv_aload_n hx hb d_L_law_267 rfl (lv_at hl 0 rfl) ?_
  refine lv_iload_n hx hb d_L_law_268 rfl (lv_at hl 3 rfl) ?_
  refine lv_iconst (v := (1 : Int32)) hx hb d_L_law_269 (by decide) ?_
  refine lv_iadd hx hb d_L_law_270 ?_
  refine va_sld hx hb hX hbl hbA hS (scr_1 hx0 hxL hL) d_L_law_271 ?_
  rw [ev1]
  refine q_L_38 hx hb hml hown hts hT hM (lz_20 hM) (c_M_collected l G τ μ v1 ) ⟨Nat.le_of_ble_eq_true rfl, Nat.le_of_ble_eq_true rfl⟩ hf0 (lv_room (Nat.le_of_ble_eq_true rfl)) hl.1 d_L_law_272 (fun H2 locs2 hM2 => ?_)
  refine lv_icmp_eq (tgt := 756) hx hb d_L_law_275 (by decide) (fun cc => ?_) (fun cc => ?_)
  · refine W.widen (k := cells + 5) (n := slots + 28) (by omega) (by omega) ?_
    exact kk τ _ H2 locs2 mExt.rf (st.2.2.2.2 _ hLv) hM2 st.2.2.2.1
  · exact absurd st.2.2.1 cc
