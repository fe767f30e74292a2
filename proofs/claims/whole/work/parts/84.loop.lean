/-! the loop -/
set_option maxHeartbeats 8000000 in
set_option maxRecDepth 100000 in
/-- the law's loop: at its head n calls are done -/
theorem law_loop {p : Program} {l : Launch} {e : Env} {s : State} {m : MethodId} {below : List Frame} {meth : Method} {c : Code} {E : Ev} {b L : Nat} {xs : Nat → Int32} (C : LC p l s m c E b L xs) (hL9 : L ≤ 1537) (hr : meth.sig.returnType = ret) (hlocks : meth.locks = false) {nx : Nat} (hn0 : 0 < nx) (hnx : nx ≤ 65536) (x es eo ec ds dw dc h a1 a2 a3 he hd ak o mo mc sv sa wr bt s1 s2 s3 : Nat) :
    ∀ (N n i : Nat) (st : XS) (mt : MS) (fo : Nat → Int64) (H : Heap) (locs : List Loc) (ls : Array Slot), n + N = 513 → n ≤ 512 → i = 1 + 3 * n → XN nx n st mt → va_P E.1 classes ((wX E x es eo ec ds dw dc h a1 a2 a3 he hd ak nx st ++ [wO E o fo]) ++ wM E mo mc sv sa wr bt s1 s2 s3 nx mt) H → va_D (fun q : Nat => s.heap.size ≤ q) ((wX E x es eo ec ds dw dc h a1 a2 a3 he hd ak nx st ++ [wO E o fo]) ++ wM E mo mc sv sa wr bt s1 s2 s3 nx mt) → va_S (fun q : Nat => s.heap.size ≤ q) s.heap H locs → lv_has ls 7 [(0, .ref b), (1, .ref x), (2, .ref mo), (3, .ref o), (4, .int (nI i))] →
      W p l e room_1 s m #[Value.ref b] below meth c H locs (24 + n) (1230396 + 6 * n) (lw_Z below #[Value.ref b] s) (F0 m 33 ls []) := by
  have C0 := C
  obtain ⟨hx, hb, hml, hown, hts, hX, hbl, hZ, hK, hlt, hL⟩ := C
  have hA : ∀ q : Nat, s.heap.size ≤ q → (fun q : Nat => s.heap.size ≤ q) q := fun _ h => h
  have hbA : ¬ (fun q : Nat => s.heap.size ≤ q) b := Nat.not_le.mpr hbl
  intro N
  induction N with
  | zero =>
    intro n i st mt fo H locs ls h1 h2
    omega
  | succ N ih =>
    intro n i st mt fo H locs ls h1 h2 hi h9 hP hD hS hl
    have kk : ∀ (st' : XS) (mt' : MS) (fo' : Nat → Int64) (H' : Heap) (locs' : List Loc) (ls' : Array Slot), n < 512 → XN nx (n + 1) st' mt' → va_P E.1 classes ((wX E x es eo ec ds dw dc h a1 a2 a3 he hd ak nx st' ++ [wO E o fo']) ++ wM E mo mc sv sa wr bt s1 s2 s3 nx mt') H' → va_D (fun q : Nat => s.heap.size ≤ q) ((wX E x es eo ec ds dw dc h a1 a2 a3 he hd ak nx st' ++ [wO E o fo']) ++ wM E mo mc sv sa wr bt s1 s2 s3 nx mt') → va_S (fun q : Nat => s.heap.size ≤ q) s.heap H' locs' → lv_has ls' 7 [(0, .ref b), (1, .ref x), (2, .ref mo), (3, .ref o), (4, .int (nI i))] → W p l e room_1 s m #[Value.ref b] below meth c H' locs' (24 + n + 1) (1230396 + 6 * n + 6) (lw_Z below #[Value.ref b] s) (F0 m 729 ls' []) := by
      intro st' mt' fo' H' locs' ls' hc h9 hP hD hS hl
      refine lv_iinc (v := nI (i + 3)) (lv' := [(4, .int (nI (i + 3))), (0, .ref b), (1, .ref x), (2, .ref mo), (3, .ref o)]) hx hb d_La_law_729 hl (k := 4) rfl (nI_add i 3) (by decide) rfl (fun ls hl => ?_)
      refine lv_goto (tgt := 33) hx hb d_La_law_732 (by decide) ?_
      refine W.widen (k := 24 + (n + 1)) (n := 1230396 + 6 * (n + 1)) (by omega) (by omega) ?_
      exact ih (n + 1) (i + 3) st' mt' fo' H' locs' ls (by omega) (by omega) (by omega) h9 hP hD hS (lv_sub hl [1, 2, 3, 4, 0] rfl)
    refine lv_iload hx hb d_La_law_33 (lv_at hl 4 rfl) ?_
    refine lv_aload_n hx hb d_La_law_35 rfl (lv_at hl 0 rfl) ?_
    refine va_slen hx hb hX hbl hbA hS d_La_law_36 ?_
    refine lv_iconst (v := 3) hx hb d_La_law_37 (by decide) ?_
    refine lv_isub hx hb d_La_law_38 ?_
    refine lv_icmp_gt (tgt := 735) hx hb d_La_law_39 (by decide) (fun c1 => ?_) (fun c1 => ?_)
    · refine lv_iconst (v := 1) hx hb d_La_law_735 (by decide) ?_
      refine va_forget (fun q hq => hS.2.2 q hq) ?_
      refine W.widen (k := 566663) (n := 7396082) (by omega) (by omega) ?_
      exact lw_ret hx hb hr hlocks d_La_law_736
    · have hlt3 : i + 2 < L := by
        have c1 : ¬ nI L - nI 3 < nI i := c1
        rw [Int32.lt_iff_toInt_lt, pk_sub_toInt (by omega) (by decide), nI_toInt (by omega)] at c1
        omega
      have hc : n < 512 := by omega
      have v0 : vp_in (nI i) L := vp_in_nI (by omega) hL
      have hf : 24 + n + 1 ≤ room_1.cells ∧ 1230396 + 6 * n + 6 ≤ room_1.slots := ⟨by show 24 + n + 1 ≤ 566663; omega, by show 1230396 + 6 * n + 6 ≤ 7396082; omega⟩
      refine lv_aload_n hx hb d_La_law_42 rfl (lv_at hl 0 rfl) ?_
      refine lv_iload hx hb d_La_law_43 (lv_at hl 4 rfl) ?_
      refine va_sld hx hb hX hbl hbA hS v0 d_La_law_45 ?_
      refine lv_bipush (v := 15) hx hb d_La_law_46 (by decide) ?_
      refine lv_iand hx hb d_La_law_48 ?_
      obtain ⟨w, hw, ew⟩ := pk_andE (xs (Int32.toNatClampNeg (nI i))) (m := 15) 4 (by decide)
      rw [ew]
      have h16 : w = 0 ∨ w = 1 ∨ w = 2 ∨ w = 3 ∨ w = 4 ∨ w = 5 ∨ w = 6 ∨ w = 7 ∨ w = 8 ∨ w = 9 ∨ w = 10 ∨ w = 11 ∨ w = 12 ∨ w = 13 ∨ w = 14 ∨ w = 15 := by omega
      rcases h16 with rfl | rfl | rfl | rfl | rfl | rfl | rfl | rfl | rfl | rfl | rfl | rfl | rfl | rfl | rfl | rfl
      · refine lv_tableIn (off := 67) (tgt := 116) hx hb d_La_law_49 (by decide) (by decide) rfl (by decide) ?_
        exact law_encode C0 hn0 hnx hc hlt3 h9 fo x es eo ec ds dw dc h a1 a2 a3 he hd ak o mo mc sv sa wr bt s1 s2 s3 hf hP hD hS hl (fun st' mt' fo' H' locs' ls' => kk st' mt' fo' H' locs' ls' hc)
      · refine lv_tableIn (off := 135) (tgt := 184) hx hb d_La_law_49 (by decide) (by decide) rfl (by decide) ?_
        exact law_finish C0 hn0 hnx hc hlt3 h9 fo x es eo ec ds dw dc h a1 a2 a3 he hd ak o mo mc sv sa wr bt s1 s2 s3 hf hP hD hS hl (fun st' mt' fo' H' locs' ls' => kk st' mt' fo' H' locs' ls' hc)
      · refine lv_tableIn (off := 179) (tgt := 228) hx hb d_La_law_49 (by decide) (by decide) rfl (by decide) ?_
        exact law_byteAt C0 hn0 hnx hc hlt3 h9 fo x es eo ec ds dw dc h a1 a2 a3 he hd ak o mo mc sv sa wr bt s1 s2 s3 hf hP hD hS hl (fun st' mt' fo' H' locs' ls' => kk st' mt' fo' H' locs' ls' hc)
      · refine lv_tableIn (off := 235) (tgt := 284) hx hb d_La_law_49 (by decide) (by decide) rfl (by decide) ?_
        exact law_feed C0 hn0 hnx hc hlt3 h9 fo x es eo ec ds dw dc h a1 a2 a3 he hd ak o mo mc sv sa wr bt s1 s2 s3 hf hP hD hS hl (fun st' mt' fo' H' locs' ls' => kk st' mt' fo' H' locs' ls' hc)
      · refine lv_tableIn (off := 298) (tgt := 347) hx hb d_La_law_49 (by decide) (by decide) rfl (by decide) ?_
        exact law_decode C0 hn0 hnx hc hlt3 h9 fo x es eo ec ds dw dc h a1 a2 a3 he hd ak o mo mc sv sa wr bt s1 s2 s3 hf hP hD hS hl (fun st' mt' fo' H' locs' ls' => kk st' mt' fo' H' locs' ls' hc)
      · refine lv_tableIn (off := 354) (tgt := 403) hx hb d_La_law_49 (by decide) (by decide) rfl (by decide) ?_
        exact law_state C0 hn0 hnx hc hlt3 h9 fo x es eo ec ds dw dc h a1 a2 a3 he hd ak o mo mc sv sa wr bt s1 s2 s3 hf hP hD hS hl (fun st' mt' fo' H' locs' ls' => kk st' mt' fo' H' locs' ls' hc)
      · refine lv_tableIn (off := 422) (tgt := 471) hx hb d_La_law_49 (by decide) (by decide) rfl (by decide) ?_
        exact law_whole C0 hn0 hnx hc hlt3 h9 fo x es eo ec ds dw dc h a1 a2 a3 he hd ak o mo mc sv sa wr bt s1 s2 s3 hf hP hD hS hl (fun st' mt' fo' H' locs' ls' => kk st' mt' fo' H' locs' ls' hc)
      · refine lv_tableIn (off := 490) (tgt := 539) hx hb d_La_law_49 (by decide) (by decide) rfl (by decide) ?_
        exact law_readWhole C0 hn0 hnx hc hlt3 h9 fo x es eo ec ds dw dc h a1 a2 a3 he hd ak o mo mc sv sa wr bt s1 s2 s3 hf hP hD hS hl (fun st' mt' fo' H' locs' ls' => kk st' mt' fo' H' locs' ls' hc)
      · refine lv_tableIn (off := 546) (tgt := 595) hx hb d_La_law_49 (by decide) (by decide) rfl (by decide) ?_
        exact law_save C0 hn0 hnx hc hlt3 h9 fo x es eo ec ds dw dc h a1 a2 a3 he hd ak o mo mc sv sa wr bt s1 s2 s3 hf hP hD hS hl (fun st' mt' fo' H' locs' ls' => kk st' mt' fo' H' locs' ls' hc)
      · refine lv_tableIn (off := 590) (tgt := 639) hx hb d_La_law_49 (by decide) (by decide) rfl (by decide) ?_
        exact law_back C0 hn0 hnx hc hlt3 h9 fo x es eo ec ds dw dc h a1 a2 a3 he hd ak o mo mc sv sa wr bt s1 s2 s3 hf hP hD hS hl (fun st' mt' fo' H' locs' ls' => kk st' mt' fo' H' locs' ls' hc)
      · refine lv_tableIn (off := 615) (tgt := 664) hx hb d_La_law_49 (by decide) (by decide) rfl (by decide) ?_
        exact law_raw C0 hn0 hnx hc hlt3 h9 fo x es eo ec ds dw dc h a1 a2 a3 he hd ak o mo mc sv sa wr bt s1 s2 s3 hf hP hD hS hl (fun st' mt' fo' H' locs' ls' => kk st' mt' fo' H' locs' ls' hc)
      · refine lv_tableIn (off := 656) (tgt := 705) hx hb d_La_law_49 (by decide) (by decide) rfl (by decide) ?_
        exact law_beyond C0 hn0 hnx hc hlt3 h9 fo x es eo ec ds dw dc h a1 a2 a3 he hd ak o mo mc sv sa wr bt s1 s2 s3 hf hP hD hS hl (fun st' mt' fo' H' locs' ls' => kk st' mt' fo' H' locs' ls' hc)
      · refine lv_tableIn (off := 669) (tgt := 718) hx hb d_La_law_49 (by decide) (by decide) rfl (by decide) ?_
        exact law_reset C0 hn0 hnx hc hlt3 h9 fo x es eo ec ds dw dc h a1 a2 a3 he hd ak o mo mc sv sa wr bt s1 s2 s3 hf hP hD hS hl (fun st' mt' fo' H' locs' ls' => kk st' mt' fo' H' locs' ls' hc)
      · refine lv_tableOut (tgt := 729) hx hb d_La_law_49 (Or.inr (by decide)) (by decide) ?_
        refine W.widen (k := 24 + n + 1) (n := 1230396 + 6 * n + 6) (by omega) (by omega) ?_
        exact kk st mt fo _ _ _ hc (h9.mono (by omega) (by omega) (by omega)) hP hD hS hl
      · refine lv_tableOut (tgt := 729) hx hb d_La_law_49 (Or.inr (by decide)) (by decide) ?_
        refine W.widen (k := 24 + n + 1) (n := 1230396 + 6 * n + 6) (by omega) (by omega) ?_
        exact kk st mt fo _ _ _ hc (h9.mono (by omega) (by omega) (by omega)) hP hD hS hl
      · refine lv_tableOut (tgt := 729) hx hb d_La_law_49 (Or.inr (by decide)) (by decide) ?_
        refine W.widen (k := 24 + n + 1) (n := 1230396 + 6 * n + 6) (by omega) (by omega) ?_
        exact kk st mt fo _ _ _ hc (h9.mono (by omega) (by omega) (by omega)) hP hD hS hl
