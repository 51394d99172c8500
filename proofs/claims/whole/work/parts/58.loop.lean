set_option maxHeartbeats 4000000 in
set_option maxRecDepth 100000 in
theorem law_loop {p : Program} {l : Launch} {e : Env} {s : State} {m : MethodId} {below : List Frame} {meth : Method} {c : Code} {b L : Nat} {xs : Nat → Int32} (hL : L ≤ 4096) (C0 : lw_At p s m meth c b L xs) {G : mG} (hT : mT G s) (hG : G.2.2.1 = s.heap.size ∧ G.2.2.2 = s.heap) :
    ∀ (n j : Nat), 8 * j ≤ L → L + 1 ≤ 8 * j + n → ∀ (τ : mTau) (μ : mMem) (H : Heap) (locs : List Loc), mw G τ μ H locs → mLv τ μ → RR (128 * j) μ μ → ∀ (ls : Array Slot), lv_has ls 4 [(0, .ref b), (1, .ref (τ.1 0 0)), (2, .ref (τ.1 20 0)), (3, .int (nI (8 * j)))] → W p l e room_1 s m #[Value.ref b] below meth c H locs (100 + 5 * j) (5000 + 28 * j) (lw_Z below #[Value.ref b] s) (F0 m 18 ls []) := by
  obtain ⟨hx, hb, hr, hml, hown, hts0, hX, hbl, hlocks, hgv⟩ := id C0
  have hbA : ¬ (fun q : Nat => s.heap.size ≤ q) b := Nat.not_le.mpr hbl
  have e8 : (8 : Int32).toInt = 8 := rfl
  have eL : (Int32.ofNat L).toInt = L := nI_toInt (by omega)
  intro n
  induction n with
  | zero => intro j h1 h2; exact absurd h2 (by omega)
  | succ n ih =>
    intro j hj hn τ μ H locs hM hLv hR ls hl
    have hS := lawS hG hM
    have ex : (nI (8 * j)).toInt = 8 * (j : Int) := by rw [nI_toInt (by omega)]; omega
    have es := sm_sub (x := Int32.ofNat L) (y := 8) (by omega) (by omega)
    refine lv_iload_n hx hb d_L_law_18 rfl (lv_at hl 3 rfl) ?_
    refine lv_aload_n hx hb d_L_law_19 rfl (lv_at hl 0 rfl) ?_
    refine va_slen hx hb hX hbl hbA hS d_L_law_20 ?_
    refine lv_bipush (v := (8 : Int32)) hx hb d_L_law_21 (by decide) ?_
    refine lv_isub hx hb d_L_law_23 ?_
    refine lv_icmp_gt (tgt := 762) hx hb d_L_law_24 (by decide) (fun cc => ?_) (fun cc => ?_)
    · refine lv_iconst (v := 1) hx hb d_L_law_762 (by decide) ?_
      refine va_forget (fun q hq => hS.2.2 q hq) ?_
      refine W.widen (k := 600000) (n := 7302250) (by omega) (by omega) ?_
      exact lw_ret hx hb hr hlocks d_L_law_763
    · have g := nlt cc
      have hx0 : 0 ≤ (nI (8 * j)).toInt := by omega
      have hxL : (nI (8 * j)).toInt + 8 ≤ L := by omega
      have hf : 100 + 5 * j + 5 ≤ room_1.cells ∧ 5000 + 28 * j + 28 ≤ room_1.slots := ⟨show 100 + 5 * j + 5 ≤ 600000 by omega, show 5000 + 28 * j + 28 ≤ 7302250 by omega⟩
      have hNj : 128 * j + 128 ≤ 1000000 := by omega
      refine lv_aload_n hx hb d_L_law_27 rfl (lv_at hl 0 rfl) ?_
      refine lv_iload_n hx hb d_L_law_28 rfl (lv_at hl 3 rfl) ?_
      refine va_sld hx hb hX hbl hbA hS (vp_in_iff.mpr ⟨by omega, by omega⟩) d_L_law_29 ?_
      refine lv_bipush (v := (15 : Int32)) hx hb d_L_law_30 (by decide) ?_
      refine lv_iand hx hb d_L_law_32 ?_
      generalize xs (nI (8 * j)).toNatClampNeg &&& (15 : Int32) = y
      have kk : ∀ (τ' : mTau) (μ' : mMem) (H' : Heap) (locs' : List Loc), mExt τ τ' → mLv τ' μ' → mw G τ' μ' H' locs' → RR (128 * j + 128) μ' μ' → W p l e room_1 s m #[Value.ref b] below meth c H' locs' (100 + 5 * j + 5) (5000 + 28 * j + 28) (lw_Z below #[Value.ref b] s) (F0 m 756 ls []) := by
        intro τ' μ' H' locs' hxt hLv' hM' hR'
        have hs0 := (hxt 0 0 (lz_0 hM)).2
        have hs20 := (hxt 20 0 (lz_20 hM)).2
        rw [← hs0, ← hs20] at hl
        have e1 : nI (8 * j) + 8 = nI (8 * (j + 1)) := by
          apply Int32.toInt_inj.mp
          rw [sm_add (by omega) (by omega), nI_toInt (by omega), nI_toInt (by omega), e8]
          omega
        refine lv_iinc (v := nI (8 * (j + 1))) (lv' := [(3, .int (nI (8 * (j + 1)))), (0, .ref b), (1, .ref (τ'.1 0 0)), (2, .ref (τ'.1 20 0))]) hx hb d_L_law_756 hl (k := 3) rfl (by rw [← e1]; rfl) (by decide) rfl (fun ls hl => ?_)
        refine lv_goto (tgt := 18) hx hb d_L_law_759 (by decide) ?_
        have hh := ih (j + 1) (by omega) (by omega) τ' μ' H' locs' hM' hLv' (by rw [show 128 * (j + 1) = 128 * j + 128 by omega]; exact hR') ls (lv_sub hl [1, 2, 3, 0] rfl)
        rw [show 100 + 5 * (j + 1) = 100 + 5 * j + 5 by omega, show 5000 + 28 * (j + 1) = 5000 + 28 * j + 28 by omega] at hh
        exact hh
      by_cases c0 : y = (0 : Int32)
      · refine lv_tableIn (tgt := 112) hx hb d_L_law_33 (by rw [c0]; decide) (by rw [c0]; decide) (by rw [c0]; rfl) (by decide) ?_
        exact law_0 hL C0 hx0 hxL hT hG hM hLv hR hNj hf hl kk
      by_cases c1 : y = (1 : Int32)
      · refine lv_tableIn (tgt := 145) hx hb d_L_law_33 (by rw [c1]; decide) (by rw [c1]; decide) (by rw [c1]; rfl) (by decide) ?_
        exact law_1 hL C0 hx0 hxL hT hG hM hLv hR hNj hf hl kk
      by_cases c2 : y = (2 : Int32)
      · refine lv_tableIn (tgt := 168) hx hb d_L_law_33 (by rw [c2]; decide) (by rw [c2]; decide) (by rw [c2]; rfl) (by decide) ?_
        exact law_2 hL C0 hx0 hxL hT hG hM hLv hR hNj hf hl kk
      by_cases c3 : y = (3 : Int32)
      · refine lv_tableIn (tgt := 191) hx hb d_L_law_33 (by rw [c3]; decide) (by rw [c3]; decide) (by rw [c3]; rfl) (by decide) ?_
        exact law_3 hL C0 hx0 hxL hT hG hM hLv hR hNj hf hl kk
      by_cases c4 : y = (4 : Int32)
      · refine lv_tableIn (tgt := 224) hx hb d_L_law_33 (by rw [c4]; decide) (by rw [c4]; decide) (by rw [c4]; rfl) (by decide) ?_
        exact law_4 hL C0 hx0 hxL hT hG hM hLv hR hNj hf hl kk
      by_cases c5 : y = (5 : Int32)
      · refine lv_tableIn (tgt := 257) hx hb d_L_law_33 (by rw [c5]; decide) (by rw [c5]; decide) (by rw [c5]; rfl) (by decide) ?_
        exact law_5 hL C0 hx0 hxL hT hG hM hLv hR hNj hf hl kk
      by_cases c6 : y = (6 : Int32)
      · refine lv_tableIn (tgt := 280) hx hb d_L_law_33 (by rw [c6]; decide) (by rw [c6]; decide) (by rw [c6]; rfl) (by decide) ?_
        exact law_6 hL C0 hx0 hxL hT hG hM hLv hR hNj hf hl kk
      by_cases c7 : y = (7 : Int32)
      · refine lv_tableIn (tgt := 407) hx hb d_L_law_33 (by rw [c7]; decide) (by rw [c7]; decide) (by rw [c7]; rfl) (by decide) ?_
        exact law_7 hL C0 hx0 hxL hT hG hM hLv hR hNj hf hl kk
      by_cases c8 : y = (8 : Int32)
      · refine lv_tableIn (tgt := 470) hx hb d_L_law_33 (by rw [c8]; decide) (by rw [c8]; decide) (by rw [c8]; rfl) (by decide) ?_
        exact law_8 hL C0 hx0 hxL hT hG hM hLv hR hNj hf hl kk
      by_cases c9 : y = (9 : Int32)
      · refine lv_tableIn (tgt := 513) hx hb d_L_law_33 (by rw [c9]; decide) (by rw [c9]; decide) (by rw [c9]; rfl) (by decide) ?_
        exact law_9 hL C0 hx0 hxL hT hG hM hLv hR hNj hf hl kk
      by_cases c10 : y = (10 : Int32)
      · refine lv_tableIn (tgt := 587) hx hb d_L_law_33 (by rw [c10]; decide) (by rw [c10]; decide) (by rw [c10]; rfl) (by decide) ?_
        exact law_10 hL C0 hx0 hxL hT hG hM hLv hR hNj hf hl kk
      by_cases c11 : y = (11 : Int32)
      · refine lv_tableIn (tgt := 620) hx hb d_L_law_33 (by rw [c11]; decide) (by rw [c11]; decide) (by rw [c11]; rfl) (by decide) ?_
        exact law_11 hL C0 hx0 hxL hT hG hM hLv hR hNj hf hl kk
      by_cases c12 : y = (12 : Int32)
      · refine lv_tableIn (tgt := 643) hx hb d_L_law_33 (by rw [c12]; decide) (by rw [c12]; decide) (by rw [c12]; rfl) (by decide) ?_
        exact law_12 hL C0 hx0 hxL hT hG hM hLv hR hNj hf hl kk
      by_cases c13 : y = (13 : Int32)
      · refine lv_tableIn (tgt := 676) hx hb d_L_law_33 (by rw [c13]; decide) (by rw [c13]; decide) (by rw [c13]; rfl) (by decide) ?_
        exact law_13 hL C0 hx0 hxL hT hG hM hLv hR hNj hf hl kk
      by_cases c14 : y = (14 : Int32)
      · refine lv_tableIn (tgt := 709) hx hb d_L_law_33 (by rw [c14]; decide) (by rw [c14]; decide) (by rw [c14]; rfl) (by decide) ?_
        exact law_14 hL C0 hx0 hxL hT hG hM hLv hR hNj hf hl kk
      by_cases c15 : y = (15 : Int32)
      · refine lv_tableIn (tgt := 733) hx hb d_L_law_33 (by rw [c15]; decide) (by rw [c15]; decide) (by rw [c15]; rfl) (by decide) ?_
        exact law_15 hL C0 hx0 hxL hT hG hM hLv hR hNj hf hl kk
      refine lv_tableOut (tgt := 756) hx hb d_L_law_33 (by have h0 := sw_ne 0 (by decide) c0; have h1 := sw_ne 1 (by decide) c1; have h2 := sw_ne 2 (by decide) c2; have h3 := sw_ne 3 (by decide) c3; have h4 := sw_ne 4 (by decide) c4; have h5 := sw_ne 5 (by decide) c5; have h6 := sw_ne 6 (by decide) c6; have h7 := sw_ne 7 (by decide) c7; have h8 := sw_ne 8 (by decide) c8; have h9 := sw_ne 9 (by decide) c9; have h10 := sw_ne 10 (by decide) c10; have h11 := sw_ne 11 (by decide) c11; have h12 := sw_ne 12 (by decide) c12; have h13 := sw_ne 13 (by decide) c13; have h14 := sw_ne 14 (by decide) c14; have h15 := sw_ne 15 (by decide) c15; omega) (by decide) ?_
      refine W.widen (k := 100 + 5 * j + 5) (n := 5000 + 28 * j + 28) (by omega) (by omega) ?_
      exact kk τ μ H locs mExt.rf hLv hM (RR_mono hR (by omega))
