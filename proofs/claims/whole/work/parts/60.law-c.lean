theorem law_le {i L : Nat} (hL : L ≤ 3072) (hi : i ≤ L + 5) (h : ¬ Int32.ofNat L - 6 < nI i) : i + 6 ≤ L := by
  have e6 : (6 : Int32).toInt = 6 := by decide
  have hl : (Int32.ofNat L).toInt = L := nI_toInt (n := L) (by omega)
  have hn : (nI i).toInt = i := nI_toInt (by omega)
  rw [lt_I, sub_I (by rw [hl, e6]; omega) (by rw [hl, e6]; omega), hl, e6, hn] at h
  omega
section
variable {p : Program} {l : Launch} {e : Env} {s : State} {m : MethodId} {below : List Frame} {meth : Method} {c : Code} {D : va_G} {cI cJ cO : ClassId} {B A kA vA : Nat → Nat} {oB : Option Nat} {b L : Nat} {xs : Nat → Int32}

set_option maxHeartbeats 4000000 in
set_option maxRecDepth 100000 in
theorem law_loop (hr : meth.sig.returnType = ret) (hlk : meth.locks = false) (S : CallFix p m c cL_law 4 s #[Value.ref b] WL RL) (hK : va_K D vwCl (tyA cI cJ cO) s) (hX : va_X b L xs s s.heap) (hbl : b < s.heap.size) (hZ : ZS kA vA oB (fun q : Nat => s.heap.size ≤ q) s s.heap) (hL : L ≤ 3072) :
    ∀ (n i : Nat) (H : Heap) (locs : List Loc) (ls : Array Slot), L + 7 ≤ i + n → i ≤ L + 5 → LI D cI cJ cO B A (fun q : Nat => s.heap.size ≤ q) H → va_S (fun q : Nat => s.heap.size ≤ q) s.heap H locs → lv_has ls 4 [(0, .ref b), (1, .ref (B 0)), (2, .ref (A 0)), (3, .int (nI i))] → W p l e room_1 s m #[Value.ref b] below meth c H locs 32 1267 (lw_Z below #[Value.ref b] s) (F0 m 18 ls []) := by
  obtain ⟨hx, hb, hml, hown, hts⟩ := id S
  have hbA : ¬ (fun q : Nat => s.heap.size ≤ q) b := Nat.not_le.mpr hbl
  intro n
  induction n with
  | zero =>
    intro i H locs ls h1 h2
    omega
  | succ n ih =>
    intro i H locs ls hn hi0 hI0 hS hl
    refine lv_iload_n hx hb dL_law_18 rfl (lv_at hl 3 rfl) ?_
    refine lv_aload_n hx hb dL_law_19 rfl (lv_at hl 0 rfl) ?_
    refine va_slen hx hb hX hbl hbA hS dL_law_20 ?_
    refine lv_bipush (v := 6) hx hb dL_law_21 rfl ?_
    refine lv_isub hx hb dL_law_23 ?_
    refine lv_icmp_gt (tgt := 1220) hx hb dL_law_24 rfl (fun c24 => ?_) (fun c24 => ?_)
    · refine lv_iconst (v := 1) hx hb dL_law_1220 rfl ?_
      refine va_forget (fun q hq => hS.2.2 q hq) ?_
      refine W.widen (k := 600000) (n := 7302250) (Nat.le_of_ble_eq_true rfl) (Nat.le_of_ble_eq_true rfl) ?_
      exact lw_ret hx hb hr hlk dL_law_1221
    · have hi : i + 6 ≤ L := law_le hL hi0 c24
      have J : ∀ (H : Heap) (locs : List Loc), LI D cI cJ cO B A (fun q : Nat => s.heap.size ≤ q) H → va_S (fun q : Nat => s.heap.size ≤ q) s.heap H locs → W p l e room_1 s m #[Value.ref b] below meth c H locs 32 1267 (lw_Z below #[Value.ref b] s) (F0 m 1214 ls []) := by
        intro H locs hI1 hS1
        refine lv_iinc (v := nI (i + 6)) (lv' := [(3, .int (nI (i + 6))), (0, .ref b), (1, .ref (B 0)), (2, .ref (A 0))]) hx hb dL_law_1214 hl (k := 3) rfl (nI_incN _ 6) (by decide) rfl (fun ls hl => ?_)
        refine lv_goto (tgt := 18) hx hb dL_law_1217 rfl ?_
        exact ih (i + 6) H locs ls (by omega) (by omega) hI1 hS1 (lv_sub hl [1, 2, 3, 0] rfl)
      refine lv_aload_n hx hb dL_law_27 rfl (lv_at hl 0 rfl) ?_
      refine lv_iload_n hx hb dL_law_28 rfl (lv_at hl 3 rfl) ?_
      refine va_sld hx hb hX hbl hbA hS (vp_in_nI (by omega) (by omega)) dL_law_29 ?_
      refine w_i (z := xs i) (congrArg xs (nI_clamp (by omega))) ?_
      refine lv_bipush (v := 63) hx hb dL_law_30 rfl ?_
      refine lv_iand hx hb dL_law_32 ?_
      generalize xs i &&& 63 = z
      by_cases c0 : z = 0
      · refine lv_tableIn (tgt := 188) hx hb dL_law_33 (by rw [c0]; decide) (by rw [c0]; decide) (by rw [c0]; rfl) rfl ?_
        exact law_0 S hK hX hbl hbA hZ hL i hi hI0 hS hl J
      by_cases c1 : z = 1
      · refine lv_tableIn (tgt := 211) hx hb dL_law_33 (by rw [c1]; decide) (by rw [c1]; decide) (by rw [c1]; rfl) rfl ?_
        exact law_1 S hK hX hbl hbA hZ hL i hi hI0 hS hl J
      by_cases c2 : z = 2
      · refine lv_tableIn (tgt := 234) hx hb dL_law_33 (by rw [c2]; decide) (by rw [c2]; decide) (by rw [c2]; rfl) rfl ?_
        exact law_2 S hK hX hbl hbA hZ hL i hi hI0 hS hl J
      by_cases c3 : z = 3
      · refine lv_tableIn (tgt := 257) hx hb dL_law_33 (by rw [c3]; decide) (by rw [c3]; decide) (by rw [c3]; rfl) rfl ?_
        exact law_3 S hK hX hbl hbA hZ hL i hi hI0 hS hl J
      by_cases c4 : z = 4
      · refine lv_tableIn (tgt := 300) hx hb dL_law_33 (by rw [c4]; decide) (by rw [c4]; decide) (by rw [c4]; rfl) rfl ?_
        exact law_4 S hK hX hbl hbA hZ hL i hi hI0 hS hl J
      by_cases c5 : z = 5
      · refine lv_tableIn (tgt := 333) hx hb dL_law_33 (by rw [c5]; decide) (by rw [c5]; decide) (by rw [c5]; rfl) rfl ?_
        exact law_5 S hK hX hbl hbA hZ hL i hi hI0 hS hl J
      by_cases c6 : z = 6
      · refine lv_tableIn (tgt := 376) hx hb dL_law_33 (by rw [c6]; decide) (by rw [c6]; decide) (by rw [c6]; rfl) rfl ?_
        exact law_6 S hK hX hbl hbA hZ hL i hi hI0 hS hl J
      by_cases c7 : z = 7
      · refine lv_tableIn (tgt := 399) hx hb dL_law_33 (by rw [c7]; decide) (by rw [c7]; decide) (by rw [c7]; rfl) rfl ?_
        exact law_7 S hK hX hbl hbA hZ hL i hi hI0 hS hl J
      by_cases c8 : z = 8
      · refine lv_tableIn (tgt := 432) hx hb dL_law_33 (by rw [c8]; decide) (by rw [c8]; decide) (by rw [c8]; rfl) rfl ?_
        exact law_8 S hK hX hbl hbA hZ hL i hi hI0 hS hl J
      by_cases c9 : z = 9
      · refine lv_tableIn (tgt := 465) hx hb dL_law_33 (by rw [c9]; decide) (by rw [c9]; decide) (by rw [c9]; rfl) rfl ?_
        exact law_9 S hK hX hbl hbA hZ hL i hi hI0 hS hl J
      by_cases c10 : z = 10
      · refine lv_tableIn (tgt := 488) hx hb dL_law_33 (by rw [c10]; decide) (by rw [c10]; decide) (by rw [c10]; rfl) rfl ?_
        exact law_10 S hK hX hbl hbA hZ hL i hi hI0 hS hl J
      by_cases c11 : z = 11
      · refine lv_tableIn (tgt := 531) hx hb dL_law_33 (by rw [c11]; decide) (by rw [c11]; decide) (by rw [c11]; rfl) rfl ?_
        exact law_11 S hK hX hbl hbA hZ hL i hi hI0 hS hl J
      by_cases c12 : z = 12
      · refine lv_tableIn (tgt := 554) hx hb dL_law_33 (by rw [c12]; decide) (by rw [c12]; decide) (by rw [c12]; rfl) rfl ?_
        exact law_12 S hK hX hbl hbA hZ hL i hi hI0 hS hl J
      by_cases c13 : z = 13
      · refine lv_tableIn (tgt := 567) hx hb dL_law_33 (by rw [c13]; decide) (by rw [c13]; decide) (by rw [c13]; rfl) rfl ?_
        exact law_13 S hK hX hbl hbA hZ hL i hi hI0 hS hl J
      by_cases c14 : z = 14
      · refine lv_tableIn (tgt := 590) hx hb dL_law_33 (by rw [c14]; decide) (by rw [c14]; decide) (by rw [c14]; rfl) rfl ?_
        exact law_14 S hK hX hbl hbA hZ hL i hi hI0 hS hl J
      by_cases c15 : z = 15
      · refine lv_tableIn (tgt := 613) hx hb dL_law_33 (by rw [c15]; decide) (by rw [c15]; decide) (by rw [c15]; rfl) rfl ?_
        exact law_15 S hK hX hbl hbA hZ hL i hi hI0 hS hl J
      by_cases c16 : z = 16
      · refine lv_tableIn (tgt := 646) hx hb dL_law_33 (by rw [c16]; decide) (by rw [c16]; decide) (by rw [c16]; rfl) rfl ?_
        exact law_16 S hK hX hbl hbA hZ hL i hi hI0 hS hl J
      by_cases c17 : z = 17
      · refine lv_tableIn (tgt := 679) hx hb dL_law_33 (by rw [c17]; decide) (by rw [c17]; decide) (by rw [c17]; rfl) rfl ?_
        exact law_17 S hK hX hbl hbA hZ hL i hi hI0 hS hl J
      by_cases c18 : z = 18
      · refine lv_tableIn (tgt := 712) hx hb dL_law_33 (by rw [c18]; decide) (by rw [c18]; decide) (by rw [c18]; rfl) rfl ?_
        exact law_18 S hK hX hbl hbA hZ hL i hi hI0 hS hl J
      by_cases c19 : z = 19
      · refine lv_tableIn (tgt := 735) hx hb dL_law_33 (by rw [c19]; decide) (by rw [c19]; decide) (by rw [c19]; rfl) rfl ?_
        exact law_19 S hK hX hbl hbA hZ hL i hi hI0 hS hl J
      by_cases c20 : z = 20
      · refine lv_tableIn (tgt := 768) hx hb dL_law_33 (by rw [c20]; decide) (by rw [c20]; decide) (by rw [c20]; rfl) rfl ?_
        exact law_20 S hK hX hbl hbA hZ hL i hi hI0 hS hl J
      by_cases c21 : z = 21
      · refine lv_tableIn (tgt := 801) hx hb dL_law_33 (by rw [c21]; decide) (by rw [c21]; decide) (by rw [c21]; rfl) rfl ?_
        exact law_21 S hK hX hbl hbA hZ hL i hi hI0 hS hl J
      by_cases c22 : z = 22
      · refine lv_tableIn (tgt := 834) hx hb dL_law_33 (by rw [c22]; decide) (by rw [c22]; decide) (by rw [c22]; rfl) rfl ?_
        exact law_22 S hK hX hbl hbA hZ hL i hi hI0 hS hl J
      by_cases c23 : z = 23
      · refine lv_tableIn (tgt := 847) hx hb dL_law_33 (by rw [c23]; decide) (by rw [c23]; decide) (by rw [c23]; rfl) rfl ?_
        exact law_23 S hK hX hbl hbA hZ hL i hi hI0 hS hl J
      by_cases c24 : z = 24
      · refine lv_tableIn (tgt := 860) hx hb dL_law_33 (by rw [c24]; decide) (by rw [c24]; decide) (by rw [c24]; rfl) rfl ?_
        exact law_24 S hK hX hbl hbA hZ hL i hi hI0 hS hl J
      by_cases c25 : z = 25
      · refine lv_tableIn (tgt := 903) hx hb dL_law_33 (by rw [c25]; decide) (by rw [c25]; decide) (by rw [c25]; rfl) rfl ?_
        exact law_25 S hK hX hbl hbA hZ hL i hi hI0 hS hl J
      by_cases c26 : z = 26
      · refine lv_tableIn (tgt := 977) hx hb dL_law_33 (by rw [c26]; decide) (by rw [c26]; decide) (by rw [c26]; rfl) rfl ?_
        exact law_26 S hK hX hbl hbA hZ hL i hi hI0 hS hl J
      by_cases c27 : z = 27
      · refine lv_tableIn (tgt := 1040) hx hb dL_law_33 (by rw [c27]; decide) (by rw [c27]; decide) (by rw [c27]; rfl) rfl ?_
        exact law_27 S hK hX hbl hbA hZ hL i hi hI0 hS hl J
      by_cases c28 : z = 28
      · refine lv_tableIn (tgt := 1063) hx hb dL_law_33 (by rw [c28]; decide) (by rw [c28]; decide) (by rw [c28]; rfl) rfl ?_
        exact law_28 S hK hX hbl hbA hZ hL i hi hI0 hS hl J
      by_cases c29 : z = 29
      · refine lv_tableIn (tgt := 1096) hx hb dL_law_33 (by rw [c29]; decide) (by rw [c29]; decide) (by rw [c29]; rfl) rfl ?_
        exact law_29 S hK hX hbl hbA hZ hL i hi hI0 hS hl J
      by_cases c30 : z = 30
      · refine lv_tableIn (tgt := 1129) hx hb dL_law_33 (by rw [c30]; decide) (by rw [c30]; decide) (by rw [c30]; rfl) rfl ?_
        exact law_30 S hK hX hbl hbA hZ hL i hi hI0 hS hl J
      by_cases c31 : z = 31
      · refine lv_tableIn (tgt := 1142) hx hb dL_law_33 (by rw [c31]; decide) (by rw [c31]; decide) (by rw [c31]; rfl) rfl ?_
        exact law_31 S hK hX hbl hbA hZ hL i hi hI0 hS hl J
      by_cases c32 : z = 32
      · refine lv_tableIn (tgt := 1155) hx hb dL_law_33 (by rw [c32]; decide) (by rw [c32]; decide) (by rw [c32]; rfl) rfl ?_
        exact law_32 S hK hX hbl hbA hZ hL i hi hI0 hS hl J
      by_cases c33 : z = 33
      · refine lv_tableIn (tgt := 1168) hx hb dL_law_33 (by rw [c33]; decide) (by rw [c33]; decide) (by rw [c33]; rfl) rfl ?_
        exact law_33 S hK hX hbl hbA hZ hL i hi hI0 hS hl J
      by_cases c34 : z = 34
      · refine lv_tableIn (tgt := 1191) hx hb dL_law_33 (by rw [c34]; decide) (by rw [c34]; decide) (by rw [c34]; rfl) rfl ?_
        exact law_34 S hK hX hbl hbA hZ hL i hi hI0 hS hl J
      refine lv_tableOut (tgt := 1214) hx hb dL_law_33 (by have q0 := lv_neT c0 (a := 0) rfl; have q1 := lv_neT c1 (a := 1) rfl; have q2 := lv_neT c2 (a := 2) rfl; have q3 := lv_neT c3 (a := 3) rfl; have q4 := lv_neT c4 (a := 4) rfl; have q5 := lv_neT c5 (a := 5) rfl; have q6 := lv_neT c6 (a := 6) rfl; have q7 := lv_neT c7 (a := 7) rfl; have q8 := lv_neT c8 (a := 8) rfl; have q9 := lv_neT c9 (a := 9) rfl; have q10 := lv_neT c10 (a := 10) rfl; have q11 := lv_neT c11 (a := 11) rfl; have q12 := lv_neT c12 (a := 12) rfl; have q13 := lv_neT c13 (a := 13) rfl; have q14 := lv_neT c14 (a := 14) rfl; have q15 := lv_neT c15 (a := 15) rfl; have q16 := lv_neT c16 (a := 16) rfl; have q17 := lv_neT c17 (a := 17) rfl; have q18 := lv_neT c18 (a := 18) rfl; have q19 := lv_neT c19 (a := 19) rfl; have q20 := lv_neT c20 (a := 20) rfl; have q21 := lv_neT c21 (a := 21) rfl; have q22 := lv_neT c22 (a := 22) rfl; have q23 := lv_neT c23 (a := 23) rfl; have q24 := lv_neT c24 (a := 24) rfl; have q25 := lv_neT c25 (a := 25) rfl; have q26 := lv_neT c26 (a := 26) rfl; have q27 := lv_neT c27 (a := 27) rfl; have q28 := lv_neT c28 (a := 28) rfl; have q29 := lv_neT c29 (a := 29) rfl; have q30 := lv_neT c30 (a := 30) rfl; have q31 := lv_neT c31 (a := 31) rfl; have q32 := lv_neT c32 (a := 32) rfl; have q33 := lv_neT c33 (a := 33) rfl; have q34 := lv_neT c34 (a := 34) rfl; omega) rfl ?_
      exact J H locs hI0 hS
end
