section
variable {l : Launch} {D : va_G} {cI cJ cO : ClassId} {A : Nat → Nat} {sS kS oS aS tS : Nat → Int32} {ik : Int32} {cA tp : Nat → Int32} {td fm tt vl wr : Int32} {bO sO : Nat → Int32} {nU mV : Nat → Int64}

set_option maxHeartbeats 4000000 in
set_option maxRecDepth 100000 in
theorem k_X4_isClash (f : Nat) (o : Nat) (k : Nat) (hf : f < 8) (hk : k < 61) : RO l D (tyA cI cJ cO) yX4_isClash cX4_isClash 10 ((some .boolean)) 0 0 [.ref (A 0), .int (nI f), .int (nI o), .int (nI k)] (MW cI cJ A sS kS oS aS tS ik cA tp td fm tt vl wr bO sO nU mV) (.int (b2i (clB cA (k + 1) f o))) := by
  refine RO.mk (by decide) (Nat.le_of_ble_eq_true rfl) ?_
  intro p e s m below meth c ls S hr hlk hP hK hl
  have S : CallFix p m c cX4_isClash 10 s _ WL RX4 := S
  obtain ⟨hx, hb, hml, hown, hts⟩ := id S
  have hl : lv_has ls 10 [(0, .ref (A 0)), (1, .int (nI f)), (2, .int (nI o)), (3, .int (nI k))] := hl
  refine lv_iconst (v := 0) hx hb dX4_isClash_0 rfl ?_
  refine lv_istore (lv' := [(4, .int 0), (0, .ref (A 0)), (1, .int (nI f)), (2, .int (nI o)), (3, .int (nI k))]) hx hb dX4_isClash_1 hl (by decide) rfl (fun ls hl => ?_)
  refine lv_iconst (v := 0) hx hb dX4_isClash_3 rfl ?_
  refine lv_istore (lv' := [(5, .int 0), (4, .int 0), (0, .ref (A 0)), (1, .int (nI f)), (2, .int (nI o)), (3, .int (nI k))]) hx hb dX4_isClash_4 hl (by decide) rfl (fun ls hl => ?_)
  refine lv_iconst (v := 0) hx hb dX4_isClash_6 rfl ?_
  refine lv_istore (lv' := [(6, .int 0), (5, .int 0), (4, .int 0), (0, .ref (A 0)), (1, .int (nI f)), (2, .int (nI o)), (3, .int (nI k))]) hx hb dX4_isClash_7 hl (by decide) rfl (fun ls hl => ?_)
  refine lv_iconst (v := 0) hx hb dX4_isClash_9 rfl ?_
  refine lv_istore (lv' := [(7, .int 0), (6, .int 0), (5, .int 0), (4, .int 0), (0, .ref (A 0)), (1, .int (nI f)), (2, .int (nI o)), (3, .int (nI k))]) hx hb dX4_isClash_10 hl (by decide) rfl (fun ls hl => ?_)
  refine w_loop (pc := 12) (st := fun (i : Nat) => []) (μ := fun (i : Nat) => k + 1 - i) (I := fun (i : Nat) ls => (i ≤ k + 1) ∧ lv_has ls 10 [(0, .ref (A 0)), (1, .int (nI f)), (2, .int (nI o)), (3, .int (nI k)), (4, .int (b2i (anyF (fun j => bitP (cA j) f) i))), (5, .int (b2i (anyF (fun j => bitP (cA j) o) i))), (6, .int (b2i (anyF (fun j => bitP (cA j) f && bitP (cA j) o) i))), (7, .int (nI i))]) ?_ (0) ⟨Nat.zero_le _, lv_sub hl [4, 5, 6, 7, 3, 2, 1, 0] rfl⟩
  rintro i ls ⟨hi, hl⟩ ih12
  try dsimp only at ih12 ⊢
  refine lv_iload hx hb dX4_isClash_12 (lv_at hl 7 rfl) ?_
  refine lv_iload_n hx hb dX4_isClash_14 rfl (lv_at hl 3 rfl) ?_
  refine lv_icmp_gt (tgt := 102) hx hb dX4_isClash_15 rfl (fun c15 => ?_) (fun c15 => ?_)
  · replace c15 := nq_lt (a := k) (b := i) (by omega) (by omega) c15
    obtain rfl : i = k + 1 := by omega
    refine lv_iload hx hb dX4_isClash_102 (lv_at hl 4 rfl) ?_
    refine lv_if_eq (tgt := 121) hx hb dX4_isClash_104 rfl (fun c104 => ?_) (fun c104 => ?_)
    · replace c104 := (b2i_0 _).mp c104
      refine lv_iconst (v := 0) hx hb dX4_isClash_121 rfl ?_
      exact ro_zret hx hb hr hlk (by simp [clB, b2i, c15, c104]) dX4_isClash_122
    · replace c104 := b2i_n0 c104
      refine lv_iload hx hb dX4_isClash_107 (lv_at hl 5 rfl) ?_
      refine lv_if_eq (tgt := 121) hx hb dX4_isClash_109 rfl (fun c109 => ?_) (fun c109 => ?_)
      · replace c109 := (b2i_0 _).mp c109
        refine lv_iconst (v := 0) hx hb dX4_isClash_121 rfl ?_
        exact ro_zret hx hb hr hlk (by simp [clB, b2i, c15, c104, c109]) dX4_isClash_122
      · replace c109 := b2i_n0 c109
        refine lv_iload hx hb dX4_isClash_112 (lv_at hl 6 rfl) ?_
        refine lv_if_ne (tgt := 121) hx hb dX4_isClash_114 rfl (fun c114 => ?_) (fun c114 => ?_)
        · replace c114 := b2i_n0 c114
          refine lv_iconst (v := 0) hx hb dX4_isClash_121 rfl ?_
          exact ro_zret hx hb hr hlk (by simp [clB, b2i, c15, c104, c109, c114]) dX4_isClash_122
        · replace c114 := (b2i_0 _).mp c114
          refine lv_iconst (v := 1) hx hb dX4_isClash_117 rfl ?_
          refine lv_goto (tgt := 122) hx hb dX4_isClash_118 rfl ?_
          exact ro_zret hx hb hr hlk (by simp [clB, b2i, c15, c104, c109, c114]) dX4_isClash_122
  · replace c15 := nq_nlt (a := k) (b := i) (by omega) (by omega) c15
    refine lv_aload_n hx hb dX4_isClash_18 rfl (lv_at hl 0 rfl) ?_
    refine va_get (ci := 4) (v := .ref (A 6)) hx hb hts wx_X4 hown hK hP 0 rfl rfl 6 (by decide) (hts _ wf_X4_25) (fun _ h9 => h9) rfl dX4_isClash_19 ?_
    refine lv_iload hx hb dX4_isClash_22 (lv_at hl 7 rfl) ?_
    refine ia_ld hx hb hK hP 6 0 rfl rfl i (rfl) (by omega) (by decide) dX4_isClash_24 ?_
    refine lv_iload_n hx hb dX4_isClash_25 rfl (lv_at hl 1 rfl) ?_
    refine lv_ishr hx hb dX4_isClash_26 ?_
    refine lv_iconst (v := 1) hx hb dX4_isClash_27 rfl ?_
    refine lv_iand hx hb dX4_isClash_28 ?_
    refine lv_iconst (v := 1) hx hb dX4_isClash_29 rfl ?_
    refine lv_icmp_ne (tgt := 37) hx hb dX4_isClash_30 rfl (fun c30 => ?_) (fun c30 => ?_)
    · refine lv_iconst (v := 0) hx hb dX4_isClash_37 rfl ?_
      refine lv_istore (lv' := [(8, .int 0), (0, .ref (A 0)), (1, .int (nI f)), (2, .int (nI o)), (3, .int (nI k)), (4, .int (b2i (anyF (fun j => bitP (cA j) f) i))), (5, .int (b2i (anyF (fun j => bitP (cA j) o) i))), (6, .int (b2i (anyF (fun j => bitP (cA j) f && bitP (cA j) o) i))), (7, .int (nI i))]) hx hb dX4_isClash_38 hl (by decide) rfl (fun ls hl => ?_)
      refine lv_aload_n hx hb dX4_isClash_40 rfl (lv_at hl 1 rfl) ?_
      refine va_get (ci := 4) (v := .ref (A 6)) hx hb hts wx_X4 hown hK hP 0 rfl rfl 6 (by decide) (hts _ wf_X4_25) (fun _ h9 => h9) rfl dX4_isClash_41 ?_
      refine lv_iload hx hb dX4_isClash_44 (lv_at hl 8 rfl) ?_
      refine ia_ld hx hb hK hP 6 0 rfl rfl i (rfl) (by omega) (by decide) dX4_isClash_46 ?_
      refine lv_iload_n hx hb dX4_isClash_47 rfl (lv_at hl 3 rfl) ?_
      refine lv_ishr hx hb dX4_isClash_48 ?_
      refine lv_iconst (v := 1) hx hb dX4_isClash_49 rfl ?_
      refine lv_iand hx hb dX4_isClash_50 ?_
      refine lv_iconst (v := 1) hx hb dX4_isClash_51 rfl ?_
      refine lv_icmp_ne (tgt := 59) hx hb dX4_isClash_52 rfl (fun c52 => ?_) (fun c52 => ?_)
      · refine lv_iconst (v := 0) hx hb dX4_isClash_59 rfl ?_
        refine lv_istore (lv' := [(9, .int 0), (8, .int 0), (0, .ref (A 0)), (1, .int (nI f)), (2, .int (nI o)), (3, .int (nI k)), (4, .int (b2i (anyF (fun j => bitP (cA j) f) i))), (5, .int (b2i (anyF (fun j => bitP (cA j) o) i))), (6, .int (b2i (anyF (fun j => bitP (cA j) f && bitP (cA j) o) i))), (7, .int (nI i))]) hx hb dX4_isClash_60 hl (by decide) rfl (fun ls hl => ?_)
        refine lv_iload hx hb dX4_isClash_62 (lv_at hl 6 rfl) ?_
        refine lv_iload hx hb dX4_isClash_64 (lv_at hl 1 rfl) ?_
        refine lv_ior hx hb dX4_isClash_66 ?_
        refine w_i (z := b2i (anyF (fun j => bitP (cA j) f) (i + 1))) (anyF_o (b := false) (by simp [bitP, c15, c30, c52])) ?_
        refine lv_istore (lv' := [(4, .int (b2i (anyF (fun j => bitP (cA j) f) (i + 1)))), (9, .int 0), (8, .int 0), (0, .ref (A 0)), (1, .int (nI f)), (2, .int (nI o)), (3, .int (nI k)), (5, .int (b2i (anyF (fun j => bitP (cA j) o) i))), (6, .int (b2i (anyF (fun j => bitP (cA j) f && bitP (cA j) o) i))), (7, .int (nI i))]) hx hb dX4_isClash_67 hl (by decide) rfl (fun ls hl => ?_)
        refine lv_iload hx hb dX4_isClash_69 (lv_at hl 7 rfl) ?_
        refine lv_iload hx hb dX4_isClash_71 (lv_at hl 1 rfl) ?_
        refine lv_ior hx hb dX4_isClash_73 ?_
        refine w_i (z := b2i (anyF (fun j => bitP (cA j) o) (i + 1))) (anyF_o (b := false) (by simp [bitP, c15, c30, c52])) ?_
        refine lv_istore (lv' := [(5, .int (b2i (anyF (fun j => bitP (cA j) o) (i + 1)))), (4, .int (b2i (anyF (fun j => bitP (cA j) f) (i + 1)))), (9, .int 0), (8, .int 0), (0, .ref (A 0)), (1, .int (nI f)), (2, .int (nI o)), (3, .int (nI k)), (6, .int (b2i (anyF (fun j => bitP (cA j) f && bitP (cA j) o) i))), (7, .int (nI i))]) hx hb dX4_isClash_74 hl (by decide) rfl (fun ls hl => ?_)
        refine lv_iload hx hb dX4_isClash_76 (lv_at hl 8 rfl) ?_
        refine lv_iload hx hb dX4_isClash_78 (lv_at hl 3 rfl) ?_
        refine lv_if_eq (tgt := 92) hx hb dX4_isClash_80 rfl (fun c80 => ?_) (fun c80 => ?_)
        · refine lv_iconst (v := 0) hx hb dX4_isClash_92 rfl ?_
          refine lv_ior hx hb dX4_isClash_93 ?_
          refine w_i (z := b2i (anyF (fun j => bitP (cA j) f && bitP (cA j) o) (i + 1))) (anyF_o (b := false) (by simp [bitP, c15, c30, c52, c80])) ?_
          refine lv_istore (lv' := [(6, .int (b2i (anyF (fun j => bitP (cA j) f && bitP (cA j) o) (i + 1)))), (5, .int (b2i (anyF (fun j => bitP (cA j) o) (i + 1)))), (4, .int (b2i (anyF (fun j => bitP (cA j) f) (i + 1)))), (9, .int 0), (8, .int 0), (0, .ref (A 0)), (1, .int (nI f)), (2, .int (nI o)), (3, .int (nI k)), (7, .int (nI i))]) hx hb dX4_isClash_94 hl (by decide) rfl (fun ls hl => ?_)
          refine lv_iinc (v := nI (i + 1)) (lv' := [(7, .int (nI (i + 1))), (6, .int (b2i (anyF (fun j => bitP (cA j) f && bitP (cA j) o) (i + 1)))), (5, .int (b2i (anyF (fun j => bitP (cA j) o) (i + 1)))), (4, .int (b2i (anyF (fun j => bitP (cA j) f) (i + 1)))), (9, .int 0), (8, .int 0), (0, .ref (A 0)), (1, .int (nI f)), (2, .int (nI o)), (3, .int (nI k))]) hx hb dX4_isClash_96 hl (k := 9) rfl (nI_inc _) (by decide) rfl (fun ls hl => ?_)
          refine lv_goto (tgt := 12) hx hb dX4_isClash_99 rfl ?_
          exact ih12 (i + 1) ls (by first | omega | (dsimp only; omega)) ⟨(by omega), lv_sub hl [6, 7, 8, 9, 3, 2, 1, 0] rfl⟩
        · exact absurd c80 (by decide)
      · refine lv_iconst (v := 1) hx hb dX4_isClash_55 rfl ?_
        refine lv_goto (tgt := 60) hx hb dX4_isClash_56 rfl ?_
        refine lv_istore (lv' := [(9, .int 1), (8, .int 0), (0, .ref (A 0)), (1, .int (nI f)), (2, .int (nI o)), (3, .int (nI k)), (4, .int (b2i (anyF (fun j => bitP (cA j) f) i))), (5, .int (b2i (anyF (fun j => bitP (cA j) o) i))), (6, .int (b2i (anyF (fun j => bitP (cA j) f && bitP (cA j) o) i))), (7, .int (nI i))]) hx hb dX4_isClash_60 hl (by decide) rfl (fun ls hl => ?_)
        refine lv_iload hx hb dX4_isClash_62 (lv_at hl 6 rfl) ?_
        refine lv_iload hx hb dX4_isClash_64 (lv_at hl 1 rfl) ?_
        refine lv_ior hx hb dX4_isClash_66 ?_
        refine w_i (z := b2i (anyF (fun j => bitP (cA j) f) (i + 1))) (anyF_o (b := false) (by simp [bitP, c15, c30, c52])) ?_
        refine lv_istore (lv' := [(4, .int (b2i (anyF (fun j => bitP (cA j) f) (i + 1)))), (9, .int 1), (8, .int 0), (0, .ref (A 0)), (1, .int (nI f)), (2, .int (nI o)), (3, .int (nI k)), (5, .int (b2i (anyF (fun j => bitP (cA j) o) i))), (6, .int (b2i (anyF (fun j => bitP (cA j) f && bitP (cA j) o) i))), (7, .int (nI i))]) hx hb dX4_isClash_67 hl (by decide) rfl (fun ls hl => ?_)
        refine lv_iload hx hb dX4_isClash_69 (lv_at hl 7 rfl) ?_
        refine lv_iload hx hb dX4_isClash_71 (lv_at hl 1 rfl) ?_
        refine lv_ior hx hb dX4_isClash_73 ?_
        refine w_i (z := b2i (anyF (fun j => bitP (cA j) o) (i + 1))) (anyF_o (b := true) (by simp [bitP, c15, c30, c52])) ?_
        refine lv_istore (lv' := [(5, .int (b2i (anyF (fun j => bitP (cA j) o) (i + 1)))), (4, .int (b2i (anyF (fun j => bitP (cA j) f) (i + 1)))), (9, .int 1), (8, .int 0), (0, .ref (A 0)), (1, .int (nI f)), (2, .int (nI o)), (3, .int (nI k)), (6, .int (b2i (anyF (fun j => bitP (cA j) f && bitP (cA j) o) i))), (7, .int (nI i))]) hx hb dX4_isClash_74 hl (by decide) rfl (fun ls hl => ?_)
        refine lv_iload hx hb dX4_isClash_76 (lv_at hl 8 rfl) ?_
        refine lv_iload hx hb dX4_isClash_78 (lv_at hl 3 rfl) ?_
        refine lv_if_eq (tgt := 92) hx hb dX4_isClash_80 rfl (fun c80 => ?_) (fun c80 => ?_)
        · refine lv_iconst (v := 0) hx hb dX4_isClash_92 rfl ?_
          refine lv_ior hx hb dX4_isClash_93 ?_
          refine w_i (z := b2i (anyF (fun j => bitP (cA j) f && bitP (cA j) o) (i + 1))) (anyF_o (b := false) (by simp [bitP, c15, c30, c52, c80])) ?_
          refine lv_istore (lv' := [(6, .int (b2i (anyF (fun j => bitP (cA j) f && bitP (cA j) o) (i + 1)))), (5, .int (b2i (anyF (fun j => bitP (cA j) o) (i + 1)))), (4, .int (b2i (anyF (fun j => bitP (cA j) f) (i + 1)))), (9, .int 1), (8, .int 0), (0, .ref (A 0)), (1, .int (nI f)), (2, .int (nI o)), (3, .int (nI k)), (7, .int (nI i))]) hx hb dX4_isClash_94 hl (by decide) rfl (fun ls hl => ?_)
          refine lv_iinc (v := nI (i + 1)) (lv' := [(7, .int (nI (i + 1))), (6, .int (b2i (anyF (fun j => bitP (cA j) f && bitP (cA j) o) (i + 1)))), (5, .int (b2i (anyF (fun j => bitP (cA j) o) (i + 1)))), (4, .int (b2i (anyF (fun j => bitP (cA j) f) (i + 1)))), (9, .int 1), (8, .int 0), (0, .ref (A 0)), (1, .int (nI f)), (2, .int (nI o)), (3, .int (nI k))]) hx hb dX4_isClash_96 hl (k := 9) rfl (nI_inc _) (by decide) rfl (fun ls hl => ?_)
          refine lv_goto (tgt := 12) hx hb dX4_isClash_99 rfl ?_
          exact ih12 (i + 1) ls (by first | omega | (dsimp only; omega)) ⟨(by omega), lv_sub hl [6, 7, 8, 9, 3, 2, 1, 0] rfl⟩
        · exact absurd c80 (by decide)
    · refine lv_iconst (v := 1) hx hb dX4_isClash_33 rfl ?_
      refine lv_goto (tgt := 38) hx hb dX4_isClash_34 rfl ?_
      refine lv_istore (lv' := [(8, .int 1), (0, .ref (A 0)), (1, .int (nI f)), (2, .int (nI o)), (3, .int (nI k)), (4, .int (b2i (anyF (fun j => bitP (cA j) f) i))), (5, .int (b2i (anyF (fun j => bitP (cA j) o) i))), (6, .int (b2i (anyF (fun j => bitP (cA j) f && bitP (cA j) o) i))), (7, .int (nI i))]) hx hb dX4_isClash_38 hl (by decide) rfl (fun ls hl => ?_)
      refine lv_aload_n hx hb dX4_isClash_40 rfl (lv_at hl 1 rfl) ?_
      refine va_get (ci := 4) (v := .ref (A 6)) hx hb hts wx_X4 hown hK hP 0 rfl rfl 6 (by decide) (hts _ wf_X4_25) (fun _ h9 => h9) rfl dX4_isClash_41 ?_
      refine lv_iload hx hb dX4_isClash_44 (lv_at hl 8 rfl) ?_
      refine ia_ld hx hb hK hP 6 0 rfl rfl i (rfl) (by omega) (by decide) dX4_isClash_46 ?_
      refine lv_iload_n hx hb dX4_isClash_47 rfl (lv_at hl 3 rfl) ?_
      refine lv_ishr hx hb dX4_isClash_48 ?_
      refine lv_iconst (v := 1) hx hb dX4_isClash_49 rfl ?_
      refine lv_iand hx hb dX4_isClash_50 ?_
      refine lv_iconst (v := 1) hx hb dX4_isClash_51 rfl ?_
      refine lv_icmp_ne (tgt := 59) hx hb dX4_isClash_52 rfl (fun c52 => ?_) (fun c52 => ?_)
      · refine lv_iconst (v := 0) hx hb dX4_isClash_59 rfl ?_
        refine lv_istore (lv' := [(9, .int 0), (8, .int 1), (0, .ref (A 0)), (1, .int (nI f)), (2, .int (nI o)), (3, .int (nI k)), (4, .int (b2i (anyF (fun j => bitP (cA j) f) i))), (5, .int (b2i (anyF (fun j => bitP (cA j) o) i))), (6, .int (b2i (anyF (fun j => bitP (cA j) f && bitP (cA j) o) i))), (7, .int (nI i))]) hx hb dX4_isClash_60 hl (by decide) rfl (fun ls hl => ?_)
        refine lv_iload hx hb dX4_isClash_62 (lv_at hl 6 rfl) ?_
        refine lv_iload hx hb dX4_isClash_64 (lv_at hl 1 rfl) ?_
        refine lv_ior hx hb dX4_isClash_66 ?_
        refine w_i (z := b2i (anyF (fun j => bitP (cA j) f) (i + 1))) (anyF_o (b := true) (by simp [bitP, c15, c30, c52])) ?_
        refine lv_istore (lv' := [(4, .int (b2i (anyF (fun j => bitP (cA j) f) (i + 1)))), (9, .int 0), (8, .int 1), (0, .ref (A 0)), (1, .int (nI f)), (2, .int (nI o)), (3, .int (nI k)), (5, .int (b2i (anyF (fun j => bitP (cA j) o) i))), (6, .int (b2i (anyF (fun j => bitP (cA j) f && bitP (cA j) o) i))), (7, .int (nI i))]) hx hb dX4_isClash_67 hl (by decide) rfl (fun ls hl => ?_)
        refine lv_iload hx hb dX4_isClash_69 (lv_at hl 7 rfl) ?_
        refine lv_iload hx hb dX4_isClash_71 (lv_at hl 1 rfl) ?_
        refine lv_ior hx hb dX4_isClash_73 ?_
        refine w_i (z := b2i (anyF (fun j => bitP (cA j) o) (i + 1))) (anyF_o (b := false) (by simp [bitP, c15, c30, c52])) ?_
        refine lv_istore (lv' := [(5, .int (b2i (anyF (fun j => bitP (cA j) o) (i + 1)))), (4, .int (b2i (anyF (fun j => bitP (cA j) f) (i + 1)))), (9, .int 0), (8, .int 1), (0, .ref (A 0)), (1, .int (nI f)), (2, .int (nI o)), (3, .int (nI k)), (6, .int (b2i (anyF (fun j => bitP (cA j) f && bitP (cA j) o) i))), (7, .int (nI i))]) hx hb dX4_isClash_74 hl (by decide) rfl (fun ls hl => ?_)
        refine lv_iload hx hb dX4_isClash_76 (lv_at hl 8 rfl) ?_
        refine lv_iload hx hb dX4_isClash_78 (lv_at hl 3 rfl) ?_
        refine lv_if_eq (tgt := 92) hx hb dX4_isClash_80 rfl (fun c80 => ?_) (fun c80 => ?_)
        · exact absurd c80 (by decide)
        · refine lv_iload hx hb dX4_isClash_83 (lv_at hl 2 rfl) ?_
          refine lv_if_eq (tgt := 92) hx hb dX4_isClash_85 rfl (fun c85 => ?_) (fun c85 => ?_)
          · refine lv_iconst (v := 0) hx hb dX4_isClash_92 rfl ?_
            refine lv_ior hx hb dX4_isClash_93 ?_
            refine w_i (z := b2i (anyF (fun j => bitP (cA j) f && bitP (cA j) o) (i + 1))) (anyF_o (b := false) (by simp [bitP, c15, c30, c52, c80, c85])) ?_
            refine lv_istore (lv' := [(6, .int (b2i (anyF (fun j => bitP (cA j) f && bitP (cA j) o) (i + 1)))), (5, .int (b2i (anyF (fun j => bitP (cA j) o) (i + 1)))), (4, .int (b2i (anyF (fun j => bitP (cA j) f) (i + 1)))), (9, .int 0), (8, .int 1), (0, .ref (A 0)), (1, .int (nI f)), (2, .int (nI o)), (3, .int (nI k)), (7, .int (nI i))]) hx hb dX4_isClash_94 hl (by decide) rfl (fun ls hl => ?_)
            refine lv_iinc (v := nI (i + 1)) (lv' := [(7, .int (nI (i + 1))), (6, .int (b2i (anyF (fun j => bitP (cA j) f && bitP (cA j) o) (i + 1)))), (5, .int (b2i (anyF (fun j => bitP (cA j) o) (i + 1)))), (4, .int (b2i (anyF (fun j => bitP (cA j) f) (i + 1)))), (9, .int 0), (8, .int 1), (0, .ref (A 0)), (1, .int (nI f)), (2, .int (nI o)), (3, .int (nI k))]) hx hb dX4_isClash_96 hl (k := 9) rfl (nI_inc _) (by decide) rfl (fun ls hl => ?_)
            refine lv_goto (tgt := 12) hx hb dX4_isClash_99 rfl ?_
            exact ih12 (i + 1) ls (by first | omega | (dsimp only; omega)) ⟨(by omega), lv_sub hl [6, 7, 8, 9, 3, 2, 1, 0] rfl⟩
          · exact absurd c85 (by decide)
      · refine lv_iconst (v := 1) hx hb dX4_isClash_55 rfl ?_
        refine lv_goto (tgt := 60) hx hb dX4_isClash_56 rfl ?_
        refine lv_istore (lv' := [(9, .int 1), (8, .int 1), (0, .ref (A 0)), (1, .int (nI f)), (2, .int (nI o)), (3, .int (nI k)), (4, .int (b2i (anyF (fun j => bitP (cA j) f) i))), (5, .int (b2i (anyF (fun j => bitP (cA j) o) i))), (6, .int (b2i (anyF (fun j => bitP (cA j) f && bitP (cA j) o) i))), (7, .int (nI i))]) hx hb dX4_isClash_60 hl (by decide) rfl (fun ls hl => ?_)
        refine lv_iload hx hb dX4_isClash_62 (lv_at hl 6 rfl) ?_
        refine lv_iload hx hb dX4_isClash_64 (lv_at hl 1 rfl) ?_
        refine lv_ior hx hb dX4_isClash_66 ?_
        refine w_i (z := b2i (anyF (fun j => bitP (cA j) f) (i + 1))) (anyF_o (b := true) (by simp [bitP, c15, c30, c52])) ?_
        refine lv_istore (lv' := [(4, .int (b2i (anyF (fun j => bitP (cA j) f) (i + 1)))), (9, .int 1), (8, .int 1), (0, .ref (A 0)), (1, .int (nI f)), (2, .int (nI o)), (3, .int (nI k)), (5, .int (b2i (anyF (fun j => bitP (cA j) o) i))), (6, .int (b2i (anyF (fun j => bitP (cA j) f && bitP (cA j) o) i))), (7, .int (nI i))]) hx hb dX4_isClash_67 hl (by decide) rfl (fun ls hl => ?_)
        refine lv_iload hx hb dX4_isClash_69 (lv_at hl 7 rfl) ?_
        refine lv_iload hx hb dX4_isClash_71 (lv_at hl 1 rfl) ?_
        refine lv_ior hx hb dX4_isClash_73 ?_
        refine w_i (z := b2i (anyF (fun j => bitP (cA j) o) (i + 1))) (anyF_o (b := true) (by simp [bitP, c15, c30, c52])) ?_
        refine lv_istore (lv' := [(5, .int (b2i (anyF (fun j => bitP (cA j) o) (i + 1)))), (4, .int (b2i (anyF (fun j => bitP (cA j) f) (i + 1)))), (9, .int 1), (8, .int 1), (0, .ref (A 0)), (1, .int (nI f)), (2, .int (nI o)), (3, .int (nI k)), (6, .int (b2i (anyF (fun j => bitP (cA j) f && bitP (cA j) o) i))), (7, .int (nI i))]) hx hb dX4_isClash_74 hl (by decide) rfl (fun ls hl => ?_)
        refine lv_iload hx hb dX4_isClash_76 (lv_at hl 8 rfl) ?_
        refine lv_iload hx hb dX4_isClash_78 (lv_at hl 3 rfl) ?_
        refine lv_if_eq (tgt := 92) hx hb dX4_isClash_80 rfl (fun c80 => ?_) (fun c80 => ?_)
        · exact absurd c80 (by decide)
        · refine lv_iload hx hb dX4_isClash_83 (lv_at hl 2 rfl) ?_
          refine lv_if_eq (tgt := 92) hx hb dX4_isClash_85 rfl (fun c85 => ?_) (fun c85 => ?_)
          · exact absurd c85 (by decide)
          · refine lv_iconst (v := 1) hx hb dX4_isClash_88 rfl ?_
            refine lv_goto (tgt := 93) hx hb dX4_isClash_89 rfl ?_
            refine lv_ior hx hb dX4_isClash_93 ?_
            refine w_i (z := b2i (anyF (fun j => bitP (cA j) f && bitP (cA j) o) (i + 1))) (anyF_o (b := true) (by simp [bitP, c15, c30, c52, c80, c85])) ?_
            refine lv_istore (lv' := [(6, .int (b2i (anyF (fun j => bitP (cA j) f && bitP (cA j) o) (i + 1)))), (5, .int (b2i (anyF (fun j => bitP (cA j) o) (i + 1)))), (4, .int (b2i (anyF (fun j => bitP (cA j) f) (i + 1)))), (9, .int 1), (8, .int 1), (0, .ref (A 0)), (1, .int (nI f)), (2, .int (nI o)), (3, .int (nI k)), (7, .int (nI i))]) hx hb dX4_isClash_94 hl (by decide) rfl (fun ls hl => ?_)
            refine lv_iinc (v := nI (i + 1)) (lv' := [(7, .int (nI (i + 1))), (6, .int (b2i (anyF (fun j => bitP (cA j) f && bitP (cA j) o) (i + 1)))), (5, .int (b2i (anyF (fun j => bitP (cA j) o) (i + 1)))), (4, .int (b2i (anyF (fun j => bitP (cA j) f) (i + 1)))), (9, .int 1), (8, .int 1), (0, .ref (A 0)), (1, .int (nI f)), (2, .int (nI o)), (3, .int (nI k))]) hx hb dX4_isClash_96 hl (k := 9) rfl (nI_inc _) (by decide) rfl (fun ls hl => ?_)
            refine lv_goto (tgt := 12) hx hb dX4_isClash_99 rfl ?_
            exact ih12 (i + 1) ls (by first | omega | (dsimp only; omega)) ⟨(by omega), lv_sub hl [6, 7, 8, 9, 3, 2, 1, 0] rfl⟩

set_option maxHeartbeats 4000000 in
set_option maxRecDepth 100000 in
theorem k_X4_clash (n : Nat) (k : Int32) (hI : Inv sS n) : MU l D (tyA cI cJ cO) yX4_clash cX4_clash 5 ((some .int)) 8 175 [.ref (A 0), .int k] (MW cI cJ A sS kS oS aS tS ik cA tp td fm tt vl wr bO sO nU mV) (fun ov w' => ∃ aS' : Nat → Int32, ∃ cA' : Nat → Int32, ov = some (.int (clashR sS n k)) ∧ w' = (MW cI cJ A sS kS oS aS' (clashT sS tS n k) ik cA' tp td fm tt vl wr bO sO nU mV)) := by
  refine MU.mk (by decide) (Nat.le_of_ble_eq_true rfl) ?_
  intro p e s m below meth c ls S hr hlk hP hK hD hS hl
  have S : CallFix p m c cX4_clash 5 s _ WL RX4 := S
  obtain ⟨hx, hb, hml, hown, hts⟩ := id S
  have hl : lv_has ls 5 [(0, .ref (A 0)), (1, .int k)] := hl
  have h8 : n ≤ 8 := hI.1
  have hI0 := hI
  refine lv_iload_n hx hb dX4_clash_0 rfl (lv_at hl 1 rfl) ?_
  refine lv_i2l hx hb dX4_clash_1 rfl ?_
  refine lv_lconst (v := 1) hx hb dX4_clash_2 rfl ?_
  refine lv_ldc2 (v := 60) hx hb hown (hts _ wq_X4_198) dX4_clash_3 ?_
  refine ro_S (w := []) (rest := []) S hK va_P0 (k_X4_inI k 1 60 _ _ (by decide) (by decide)) gs_X4_49 hd_X4_in ⟨Nat.le_of_ble_eq_true rfl, Nat.le_of_ble_eq_true rfl⟩ rfl hl.1 (lv_room (Nat.le_of_ble_eq_true rfl)) dX4_clash_6 ⟨Nat.zero_le _, Nat.zero_le _⟩ ?_
  refine lv_if_ne (tgt := 19) hx hb dX4_clash_9 rfl (fun c9 => ?_) (fun c9 => ?_)
  · replace c9 := b2i_n0 c9
    obtain ⟨k0, hk0a, hk0b, rfl⟩ := in_nat (a := 1) (b := 60) (by decide) c9 (by decide)
    have ek0 : cl (nI k0) = k0 := cl_nI (by omega)
    refine lv_aload_n hx hb dX4_clash_19 rfl (lv_at hl 0 rfl) ?_
    refine mu_W (w := (MW cI cJ A sS kS oS aS tS ik cA tp td fm tt vl wr bO sO nU mV)) (rest := []) S hK hP hD hS (k_X4_laysAside ) gv_X4_171 hd_X4_laysAside ⟨Nat.le_of_ble_eq_true rfl, Nat.le_of_ble_eq_true rfl⟩ 4 rfl rfl rfl rfl hl.1 (lv_room (Nat.le_of_ble_eq_true rfl)) dX4_clash_20 ⟨Nat.zero_le _, Nat.zero_le _⟩ (fun ov w' H locs hp hP hD hS => ?_)
    obtain ⟨rfl, rfl⟩ := hp
    refine W.eq (g2 := F0 m 23 ls []) rfl ?_
    refine lv_iconst (v := 0) hx hb dX4_clash_23 rfl ?_
    refine lv_istore_n (lv' := [(2, .int 0), (0, .ref (A 0)), (1, .int (nI k0))]) hx hb dX4_clash_24 rfl hl (by decide) rfl (fun ls hl => ?_)
    refine w_loopH (pc := 25) (st := fun (x : Nat × (Nat → Int32)) => match x with | (i, ca) => []) (μ := fun (x : Nat × (Nat → Int32)) => match x with | (i, ca) => k0 + 1 - i) (I := fun (x : Nat × (Nat → Int32)) H locs ls => match x with | (i, ca) => (i ≤ k0 + 1) ∧ (∀ j, j < i → ca j = clA sS n j) ∧ va_P D vwCl (MW cI cJ A (hoursF sS n i) kS oS sS tS ik ca tp td fm tt vl wr bO sO nU mV) H ∧ va_D (fun z9 => z9 ∈ ((MW cI cJ A sS kS oS aS tS ik cA tp td fm tt vl wr bO sO nU mV)).map (fun z8 => z8.1)) (MW cI cJ A (hoursF sS n i) kS oS sS tS ik ca tp td fm tt vl wr bO sO nU mV) ∧ va_S (fun z9 => z9 ∈ ((MW cI cJ A sS kS oS aS tS ik cA tp td fm tt vl wr bO sO nU mV)).map (fun z8 => z8.1)) s.heap H locs ∧ lv_has ls 5 [(0, .ref (A 0)), (1, .int (nI k0)), (2, .int (nI i))]) ?_ (0, cA) ⟨Nat.zero_le _, fun j h => absurd h (Nat.not_lt_zero j), hP, hD, hS, lv_sub hl [1, 2, 0] rfl⟩
    rintro ⟨i, ca⟩ H locs ls ⟨hi, hca, hP, hD, hS, hl⟩ ih25
    try dsimp only at ih25 ⊢
    have hI := Inv_hours hI0 i
    refine lv_iload_n hx hb dX4_clash_25 rfl (lv_at hl 2 rfl) ?_
    refine lv_iload_n hx hb dX4_clash_26 rfl (lv_at hl 1 rfl) ?_
    refine lv_icmp_gt (tgt := 50) hx hb dX4_clash_27 rfl (fun c27 => ?_) (fun c27 => ?_)
    · replace c27 := nq_lt (a := k0) (b := i) (by omega) (by omega) c27
      obtain rfl : i = k0 + 1 := by omega
      have hI := hI0
      refine lv_aload_n hx hb dX4_clash_50 rfl (lv_at hl 0 rfl) ?_
      refine lv_iconst (v := (-1)) hx hb dX4_clash_51 rfl ?_
      refine mu_W (w := (MW cI cJ A (hoursF sS n (k0 + 1)) kS oS sS tS ik ca tp td fm tt vl wr bO sO nU mV)) (rest := []) S hK hP hD hS (k_X4_takesBack (-1)) gv_X4_174 hd_X4_takesBack ⟨Nat.le_of_ble_eq_true rfl, Nat.le_of_ble_eq_true rfl⟩ 4 rfl rfl rfl rfl hl.1 (lv_room (Nat.le_of_ble_eq_true rfl)) dX4_clash_52 ⟨Nat.zero_le _, Nat.zero_le _⟩ (fun ov w' H locs hp hP hD hS => ?_)
      obtain ⟨rfl, rfl⟩ := hp
      refine W.eq (g2 := F0 m 55 ls [.int (-1)]) rfl ?_
      refine w_i (z := sr2 (clB (clA sS n) (k0 + 1)) n 0) (by rw [sr2]) ?_
      refine lv_istore_n (lv' := [(2, .int (sr2 (clB (clA sS n) (k0 + 1)) n 0)), (0, .ref (A 0)), (1, .int (nI k0))]) hx hb dX4_clash_55 rfl hl (by decide) rfl (fun ls hl => ?_)
      refine lv_aload_n hx hb dX4_clash_56 rfl (lv_at hl 1 rfl) ?_
      refine va_get (ci := 4) (v := .ref (A 1)) hx hb hts wx_X4 hown hK hP 0 rfl rfl 0 (by decide) (hts _ wf_X4_7) (fun _ h9 => h9) rfl dX4_clash_57 ?_
      refine lv_iconst (v := 1) hx hb dX4_clash_60 rfl ?_
      refine ia_ld hx hb hK hP 1 0 rfl rfl 1 (rfl) (by omega) (by decide) dX4_clash_61 ?_
      refine w_i (z := nI n) (hI.2.1) ?_
      refine lv_iconst (v := 1) hx hb dX4_clash_62 rfl ?_
      refine lv_isub hx hb dX4_clash_63 ?_
      refine w_i (z := nI n - nI (0 + 1)) (rfl) ?_
      refine lv_istore_n (lv' := [(3, .int (nI n - nI (0 + 1))), (2, .int (sr2 (clB (clA sS n) (k0 + 1)) n 0)), (0, .ref (A 0)), (1, .int (nI k0))]) hx hb dX4_clash_64 rfl hl (by decide) rfl (fun ls hl => ?_)
      refine w_loopH (pc := 65) (st := fun (i : Nat) => []) (μ := fun (i : Nat) => n - i) (I := fun (i : Nat) H locs ls => (i ≤ n) ∧ va_P D vwCl (MW cI cJ A sS kS oS sS tS ik ca tp td fm tt vl wr bO sO nU mV) H ∧ va_D (fun z9 => z9 ∈ ((MW cI cJ A sS kS oS aS tS ik cA tp td fm tt vl wr bO sO nU mV)).map (fun z8 => z8.1)) (MW cI cJ A sS kS oS sS tS ik ca tp td fm tt vl wr bO sO nU mV) ∧ va_S (fun z9 => z9 ∈ ((MW cI cJ A sS kS oS aS tS ik cA tp td fm tt vl wr bO sO nU mV)).map (fun z8 => z8.1)) s.heap H locs ∧ lv_has ls 5 [(0, .ref (A 0)), (1, .int (nI k0)), (2, .int (sr2 (clB (clA sS n) (k0 + 1)) n i)), (3, .int (nI n - nI (i + 1)))]) ?_ (0) ⟨Nat.zero_le _, hP, hD, hS, lv_sub hl [2, 3, 1, 0] rfl⟩
      rintro i H locs ls ⟨hi, hP, hD, hS, hl⟩ ih65
      try dsimp only at ih65 ⊢
      refine lv_iload_n hx hb dX4_clash_65 rfl (lv_at hl 3 rfl) ?_
      refine lv_if_lt (tgt := 120) hx hb dX4_clash_66 rfl (fun c66 => ?_) (fun c66 => ?_)
      · replace c66 : i = n := by have h9 := dn_lt (c := n) (i := i + 1) (by omega) (by omega) (Int32.not_le.mpr c66); omega
        obtain rfl := c66.symm
        refine lv_iload_n hx hb dX4_clash_120 rfl (lv_at hl 2 rfl) ?_
        refine lv_if_ge (tgt := 133) hx hb dX4_clash_121 rfl (fun c121 => ?_) (fun c121 => ?_)
        · refine lv_iload_n hx hb dX4_clash_133 rfl (lv_at hl 2 rfl) ?_
          have hE : tS = clashT sS tS n (nI k0) := by simp [clashR, clashT, clashB, bump, put9, b2i, c9, c27, c121, ek0, i_lt, -Int32.not_le, -Int32.not_lt]
          have hW : (MW cI cJ A sS kS oS sS tS ik ca tp td fm tt vl wr bO sO nU mV) = (MW cI cJ A sS kS oS sS (clashT sS tS n (nI k0)) ik ca tp td fm tt vl wr bO sO nU mV) := congrArg (fun z => (MW cI cJ A sS kS oS sS z ik ca tp td fm tt vl wr bO sO nU mV)) hE
          have hP : va_P D vwCl (MW cI cJ A sS kS oS sS (clashT sS tS n (nI k0)) ik ca tp td fm tt vl wr bO sO nU mV) H := Eq.mp (congrArg (fun z => va_P D vwCl z H) hW) hP
          have hD : va_D _ (MW cI cJ A sS kS oS sS (clashT sS tS n (nI k0)) ik ca tp td fm tt vl wr bO sO nU mV) := Eq.mp (congrArg (fun z => va_D _ z) hW) hD
          exact mu_iret (MW cI cJ A sS kS oS sS (clashT sS tS n (nI k0)) ik ca tp td fm tt vl wr bO sO nU mV) hx hb hr hlk hP hS rfl (⟨sS, ca, congrArg (fun z => some (Value.int z)) (by simp [clashR, clashT, clashB, bump, put9, b2i, c9, c27, c121, ek0, i_lt, -Int32.not_le, -Int32.not_lt]), rfl⟩) dX4_clash_134
        · refine lv_aload_n hx hb dX4_clash_124 rfl (lv_at hl 0 rfl) ?_
          refine lv_ldc (v := (-1000000004)) hx hb hown (hts _ wq_X4_186) dX4_clash_125 ?_
          refine mu_W (w := (MW cI cJ A sS kS oS sS tS ik ca tp td fm tt vl wr bO sO nU mV)) (rest := []) S hK hP hD hS (k_X4_finds 3 (-1000000004) (by decide) (by decide)) gv_X4_63 hd_X4_finds ⟨Nat.le_of_ble_eq_true rfl, Nat.le_of_ble_eq_true rfl⟩ 4 rfl rfl rfl rfl hl.1 (lv_room (Nat.le_of_ble_eq_true rfl)) dX4_clash_127 ⟨Nat.zero_le _, Nat.zero_le _⟩ (fun ov w' H locs hp hP hD hS => ?_)
          obtain ⟨rfl, rfl⟩ := hp
          refine W.eq (g2 := F0 m 130 ls [.int (-1000000004)]) rfl ?_
          refine lv_goto (tgt := 134) hx hb dX4_clash_130 rfl ?_
          have hE : upd tS 3 (tS 3 + 1) = clashT sS tS n (nI k0) := by simp [clashR, clashT, clashB, bump, put9, b2i, c9, c27, c121, ek0, i_lt, -Int32.not_le, -Int32.not_lt]
          have hW : (MW cI cJ A sS kS oS sS (upd tS 3 (tS 3 + 1)) ik ca tp td fm tt vl wr bO sO nU mV) = (MW cI cJ A sS kS oS sS (clashT sS tS n (nI k0)) ik ca tp td fm tt vl wr bO sO nU mV) := congrArg (fun z => (MW cI cJ A sS kS oS sS z ik ca tp td fm tt vl wr bO sO nU mV)) hE
          have hP : va_P D vwCl (MW cI cJ A sS kS oS sS (clashT sS tS n (nI k0)) ik ca tp td fm tt vl wr bO sO nU mV) H := Eq.mp (congrArg (fun z => va_P D vwCl z H) hW) hP
          have hD : va_D _ (MW cI cJ A sS kS oS sS (clashT sS tS n (nI k0)) ik ca tp td fm tt vl wr bO sO nU mV) := Eq.mp (congrArg (fun z => va_D _ z) hW) hD
          exact mu_iret (MW cI cJ A sS kS oS sS (clashT sS tS n (nI k0)) ik ca tp td fm tt vl wr bO sO nU mV) hx hb hr hlk hP hS rfl (⟨sS, ca, congrArg (fun z => some (Value.int z)) (by simp [clashR, clashT, clashB, bump, put9, b2i, c9, c27, c121, ek0, i_lt, -Int32.not_le, -Int32.not_lt]), rfl⟩) dX4_clash_134
      · replace c66 : i < n := by have h9 := dn_ge (c := n) (i := i + 1) (by omega) (by omega) (Int32.not_lt.mp c66); omega
        refine lv_aload_n hx hb dX4_clash_69 rfl (lv_at hl 0 rfl) ?_
        refine va_get (ci := 4) (v := .ref (A 1)) hx hb hts wx_X4 hown hK hP 0 rfl rfl 0 (by decide) (hts _ wf_X4_7) (fun _ h9 => h9) rfl dX4_clash_70 ?_
        refine lv_iconst (v := 1) hx hb dX4_clash_73 rfl ?_
        refine ia_ld hx hb hK hP 1 0 rfl rfl 1 (rfl) (by omega) (by decide) dX4_clash_74 ?_
        refine w_i (z := nI n) (hI.2.1) ?_
        refine lv_iconst (v := 1) hx hb dX4_clash_75 rfl ?_
        refine lv_isub hx hb dX4_clash_76 ?_
        refine w_i (z := nI n - nI (0 + 1)) (rfl) ?_
        rw [show sr2 (clB (clA sS n) (k0 + 1)) n i = sr1 (clB (clA sS n) (k0 + 1)) n (n - (i + 1)) (sr2 (clB (clA sS n) (k0 + 1)) n i) 0 by rw [sr1]] at hl
        refine lv_istore (lv' := [(4, .int (nI n - nI (0 + 1))), (0, .ref (A 0)), (1, .int (nI k0)), (2, .int (sr1 (clB (clA sS n) (k0 + 1)) n (n - (i + 1)) (sr2 (clB (clA sS n) (k0 + 1)) n i) 0)), (3, .int (nI n - nI (i + 1)))]) hx hb dX4_clash_77 hl (by decide) rfl (fun ls hl => ?_)
        refine w_loopH (pc := 79) (st := fun (j : Nat) => []) (μ := fun (j : Nat) => i - j) (I := fun (j : Nat) H locs ls => (j ≤ i) ∧ va_P D vwCl (MW cI cJ A sS kS oS sS tS ik ca tp td fm tt vl wr bO sO nU mV) H ∧ va_D (fun z9 => z9 ∈ ((MW cI cJ A sS kS oS aS tS ik cA tp td fm tt vl wr bO sO nU mV)).map (fun z8 => z8.1)) (MW cI cJ A sS kS oS sS tS ik ca tp td fm tt vl wr bO sO nU mV) ∧ va_S (fun z9 => z9 ∈ ((MW cI cJ A sS kS oS aS tS ik cA tp td fm tt vl wr bO sO nU mV)).map (fun z8 => z8.1)) s.heap H locs ∧ lv_has ls 5 [(0, .ref (A 0)), (1, .int (nI k0)), (2, .int (sr1 (clB (clA sS n) (k0 + 1)) n (n - (i + 1)) (sr2 (clB (clA sS n) (k0 + 1)) n i) j)), (3, .int (nI n - nI (i + 1))), (4, .int (nI n - nI (j + 1)))]) ?_ (0) ⟨Nat.zero_le _, hP, hD, hS, lv_sub hl [1, 2, 3, 4, 0] rfl⟩
        rintro j H locs ls ⟨hj, hP, hD, hS, hl⟩ ih79
        try dsimp only at ih79 ⊢
        refine lv_iload hx hb dX4_clash_79 (lv_at hl 4 rfl) ?_
        refine lv_iload_n hx hb dX4_clash_81 rfl (lv_at hl 3 rfl) ?_
        refine lv_icmp_le (tgt := 114) hx hb dX4_clash_82 rfl (fun c82 => ?_) (fun c82 => ?_)
        · replace c82 := dn_le h8 c66 hj c82
          obtain rfl := c82.symm
          rw [sr2_s] at hl
          refine lv_iinc (v := nI n - nI (i + 1 + 1)) (lv' := [(3, .int (nI n - nI (i + 1 + 1))), (0, .ref (A 0)), (1, .int (nI k0)), (2, .int (sr2 (clB (clA sS n) (k0 + 1)) n (i + 1))), (4, .int (nI n - nI (i + 1)))]) hx hb dX4_clash_114 hl (k := 3) rfl (dn_inc) (by decide) rfl (fun ls hl => ?_)
          refine lv_goto (tgt := 65) hx hb dX4_clash_117 rfl ?_
          exact ih65 (i + 1) _ _ ls (by first | omega | (dsimp only; omega)) ⟨(by omega), hP, hD, hS, lv_sub hl [1, 2, 3, 0] rfl⟩
        · replace c82 := dn_nle h8 c66 hj c82
          refine lv_aload_n hx hb dX4_clash_85 rfl (lv_at hl 0 rfl) ?_
          refine lv_iload_n hx hb dX4_clash_86 rfl (lv_at hl 3 rfl) ?_
          refine w_i (z := nI (n - (i + 1))) (pk_sub (by omega)) ?_
          refine lv_iload hx hb dX4_clash_87 (lv_at hl 4 rfl) ?_
          refine w_i (z := nI (n - (j + 1))) (pk_sub (by omega)) ?_
          refine lv_iload_n hx hb dX4_clash_89 rfl (lv_at hl 1 rfl) ?_
          refine ro_V (w := (MW cI cJ A sS kS oS sS tS ik ca tp td fm tt vl wr bO sO nU mV)) (rest := []) S hK hP (k_X4_isClash (n - (i + 1)) (n - (j + 1)) k0 (by omega) (by omega)) gv_X4_203 hd_X4_isClash ⟨Nat.le_of_ble_eq_true rfl, Nat.le_of_ble_eq_true rfl⟩ 4 rfl rfl rfl rfl hl.1 (lv_room (Nat.le_of_ble_eq_true rfl)) dX4_clash_90 ⟨Nat.zero_le _, Nat.zero_le _⟩ ?_
          refine w_i (z := b2i ((clB (clA sS n) (k0 + 1)) (n - (i + 1)) (n - (j + 1)))) (congrArg b2i (clB_cong (fun z hz => hca z (by omega)))) ?_
          refine lv_if_eq (tgt := 106) hx hb dX4_clash_93 rfl (fun c93 => ?_) (fun c93 => ?_)
          · replace c93 := (b2i_0 _).mp c93
            refine lv_iload_n hx hb dX4_clash_106 rfl (lv_at hl 2 rfl) ?_
            refine w_i (z := sr1 (clB (clA sS n) (k0 + 1)) n (n - (i + 1)) (sr2 (clB (clA sS n) (k0 + 1)) n i) (j + 1)) (sr1_f c93) ?_
            refine lv_istore_n (lv' := [(2, .int (sr1 (clB (clA sS n) (k0 + 1)) n (n - (i + 1)) (sr2 (clB (clA sS n) (k0 + 1)) n i) (j + 1))), (0, .ref (A 0)), (1, .int (nI k0)), (3, .int (nI n - nI (i + 1))), (4, .int (nI n - nI (j + 1)))]) hx hb dX4_clash_107 rfl hl (by decide) rfl (fun ls hl => ?_)
            refine lv_iinc (v := nI n - nI (j + 1 + 1)) (lv' := [(4, .int (nI n - nI (j + 1 + 1))), (2, .int (sr1 (clB (clA sS n) (k0 + 1)) n (n - (i + 1)) (sr2 (clB (clA sS n) (k0 + 1)) n i) (j + 1))), (0, .ref (A 0)), (1, .int (nI k0)), (3, .int (nI n - nI (i + 1)))]) hx hb dX4_clash_108 hl (k := 4) rfl (dn_inc) (by decide) rfl (fun ls hl => ?_)
            refine lv_goto (tgt := 79) hx hb dX4_clash_111 rfl ?_
            exact ih79 (j + 1) _ _ ls (by first | omega | (dsimp only; omega)) ⟨(by omega), hP, hD, hS, lv_sub hl [2, 3, 1, 4, 0] rfl⟩
          · replace c93 := b2i_n0 c93
            refine lv_bipush (v := 10) hx hb dX4_clash_96 rfl ?_
            refine lv_iload_n hx hb dX4_clash_98 rfl (lv_at hl 3 rfl) ?_
            refine w_i (z := nI (n - (i + 1))) (pk_sub (by omega)) ?_
            refine lv_imul hx hb dX4_clash_99 ?_
            refine lv_iload hx hb dX4_clash_100 (lv_at hl 4 rfl) ?_
            refine w_i (z := nI (n - (j + 1))) (pk_sub (by omega)) ?_
            refine lv_iadd hx hb dX4_clash_102 ?_
            refine lv_goto (tgt := 107) hx hb dX4_clash_103 rfl ?_
            refine w_i (z := sr1 (clB (clA sS n) (k0 + 1)) n (n - (i + 1)) (sr2 (clB (clA sS n) (k0 + 1)) n i) (j + 1)) (sr1_t c93) ?_
            refine lv_istore_n (lv' := [(2, .int (sr1 (clB (clA sS n) (k0 + 1)) n (n - (i + 1)) (sr2 (clB (clA sS n) (k0 + 1)) n i) (j + 1))), (0, .ref (A 0)), (1, .int (nI k0)), (3, .int (nI n - nI (i + 1))), (4, .int (nI n - nI (j + 1)))]) hx hb dX4_clash_107 rfl hl (by decide) rfl (fun ls hl => ?_)
            refine lv_iinc (v := nI n - nI (j + 1 + 1)) (lv' := [(4, .int (nI n - nI (j + 1 + 1))), (2, .int (sr1 (clB (clA sS n) (k0 + 1)) n (n - (i + 1)) (sr2 (clB (clA sS n) (k0 + 1)) n i) (j + 1))), (0, .ref (A 0)), (1, .int (nI k0)), (3, .int (nI n - nI (i + 1)))]) hx hb dX4_clash_108 hl (k := 4) rfl (dn_inc) (by decide) rfl (fun ls hl => ?_)
            refine lv_goto (tgt := 79) hx hb dX4_clash_111 rfl ?_
            exact ih79 (j + 1) _ _ ls (by first | omega | (dsimp only; omega)) ⟨(by omega), hP, hD, hS, lv_sub hl [2, 3, 1, 4, 0] rfl⟩
    · replace c27 := nq_nlt (a := k0) (b := i) (by omega) (by omega) c27
      refine lv_aload_n hx hb dX4_clash_30 rfl (lv_at hl 0 rfl) ?_
      refine va_get (ci := 4) (v := .ref (A 6)) hx hb hts wx_X4 hown hK hP 0 rfl rfl 6 (by decide) (hts _ wf_X4_25) (fun _ h9 => h9) rfl dX4_clash_31 ?_
      refine lv_iload_n hx hb dX4_clash_34 rfl (lv_at hl 2 rfl) ?_
      refine lv_aload_n hx hb dX4_clash_35 rfl (lv_at hl 0 rfl) ?_
      refine ro_V (w := (MW cI cJ A (hoursF sS n i) kS oS sS tS ik ca tp td fm tt vl wr bO sO nU mV)) (rest := [.int (nI i), .ref (A 6)]) S hK hP (k_X4_content n hI) gv_X4_101 hd_X4_content ⟨Nat.le_of_ble_eq_true rfl, Nat.le_of_ble_eq_true rfl⟩ 4 rfl rfl rfl rfl hl.1 (lv_room (Nat.le_of_ble_eq_true rfl)) dX4_clash_36 ⟨Nat.zero_le _, Nat.zero_le _⟩ ?_
      refine ia_st hx hb hK hP hD hS 6 0 rfl rfl i (rfl) (by omega) (by decide) dX4_clash_39 (fun H locs hP hD hS => ?_)
      have hP : va_P D vwCl (MW cI cJ A (hoursF sS n i) kS oS sS tS ik (upd ca i (contS (hoursF sS n i) n)) tp td fm tt vl wr bO sO nU mV) H := hP
      have hD : va_D _ (MW cI cJ A (hoursF sS n i) kS oS sS tS ik (upd ca i (contS (hoursF sS n i) n)) tp td fm tt vl wr bO sO nU mV) := hD
      refine lv_aload_n hx hb dX4_clash_40 rfl (lv_at hl 0 rfl) ?_
      refine mu_W (w := (MW cI cJ A (hoursF sS n i) kS oS sS tS ik (upd ca i (contS (hoursF sS n i) n)) tp td fm tt vl wr bO sO nU mV)) (rest := []) S hK hP hD hS (k_X4_hour n hI) gv_X4_159 hd_X4_hour ⟨Nat.le_of_ble_eq_true rfl, Nat.le_of_ble_eq_true rfl⟩ 4 rfl rfl rfl rfl hl.1 (lv_room (Nat.le_of_ble_eq_true rfl)) dX4_clash_41 ⟨Nat.zero_le _, Nat.zero_le _⟩ (fun ov w' H locs hp hP hD hS => ?_)
      obtain ⟨rfl, rfl⟩ := hp
      refine W.eq (g2 := F0 m 44 ls []) rfl ?_
      have hE : hourF (hoursF sS n i) n = hoursF sS n (i + 1) := rfl
      have hW : (MW cI cJ A (hourF (hoursF sS n i) n) kS oS sS tS ik (upd ca i (contS (hoursF sS n i) n)) tp td fm tt vl wr bO sO nU mV) = (MW cI cJ A (hoursF sS n (i + 1)) kS oS sS tS ik (upd ca i (contS (hoursF sS n i) n)) tp td fm tt vl wr bO sO nU mV) := congrArg (fun z => (MW cI cJ A z kS oS sS tS ik (upd ca i (contS (hoursF sS n i) n)) tp td fm tt vl wr bO sO nU mV)) hE
      have hP : va_P D vwCl (MW cI cJ A (hoursF sS n (i + 1)) kS oS sS tS ik (upd ca i (contS (hoursF sS n i) n)) tp td fm tt vl wr bO sO nU mV) H := Eq.mp (congrArg (fun z => va_P D vwCl z H) hW) hP
      have hD : va_D _ (MW cI cJ A (hoursF sS n (i + 1)) kS oS sS tS ik (upd ca i (contS (hoursF sS n i) n)) tp td fm tt vl wr bO sO nU mV) := Eq.mp (congrArg (fun z => va_D _ z) hW) hD
      refine lv_iinc (v := nI (i + 1)) (lv' := [(2, .int (nI (i + 1))), (0, .ref (A 0)), (1, .int (nI k0))]) hx hb dX4_clash_44 hl (k := 2) rfl (nI_inc _) (by decide) rfl (fun ls hl => ?_)
      refine lv_goto (tgt := 25) hx hb dX4_clash_47 rfl ?_
      exact ih25 (i + 1, upd ca i (contS (hoursF sS n i) n)) _ _ ls (by first | omega | (dsimp only; omega)) ⟨(by omega), ca_s hca rfl, hP, hD, hS, lv_sub hl [1, 2, 0] rfl⟩
  · replace c9 := (b2i_0 _).mp c9
    refine lv_aload_n hx hb dX4_clash_12 rfl (lv_at hl 0 rfl) ?_
    refine lv_ldc (v := (-1000000001)) hx hb hown (hts _ wq_X4_44) dX4_clash_13 ?_
    refine mu_W (w := (MW cI cJ A sS kS oS aS tS ik cA tp td fm tt vl wr bO sO nU mV)) (rest := []) S hK hP hD hS (k_X4_finds 0 (-1000000001) (by decide) (by decide)) gv_X4_63 hd_X4_finds ⟨Nat.le_of_ble_eq_true rfl, Nat.le_of_ble_eq_true rfl⟩ 4 rfl rfl rfl rfl hl.1 (lv_room (Nat.le_of_ble_eq_true rfl)) dX4_clash_15 ⟨Nat.zero_le _, Nat.zero_le _⟩ (fun ov w' H locs hp hP hD hS => ?_)
    obtain ⟨rfl, rfl⟩ := hp
    refine W.eq (g2 := F0 m 18 ls [.int (-1000000001)]) rfl ?_
    have hE : upd tS 0 (tS 0 + 1) = clashT sS tS n k := by simp [clashR, clashT, clashB, bump, put9, b2i, c9, i_lt, -Int32.not_le, -Int32.not_lt]
    have hW : (MW cI cJ A sS kS oS aS (upd tS 0 (tS 0 + 1)) ik cA tp td fm tt vl wr bO sO nU mV) = (MW cI cJ A sS kS oS aS (clashT sS tS n k) ik cA tp td fm tt vl wr bO sO nU mV) := congrArg (fun z => (MW cI cJ A sS kS oS aS z ik cA tp td fm tt vl wr bO sO nU mV)) hE
    have hP : va_P D vwCl (MW cI cJ A sS kS oS aS (clashT sS tS n k) ik cA tp td fm tt vl wr bO sO nU mV) H := Eq.mp (congrArg (fun z => va_P D vwCl z H) hW) hP
    have hD : va_D _ (MW cI cJ A sS kS oS aS (clashT sS tS n k) ik cA tp td fm tt vl wr bO sO nU mV) := Eq.mp (congrArg (fun z => va_D _ z) hW) hD
    exact mu_iret (MW cI cJ A sS kS oS aS (clashT sS tS n k) ik cA tp td fm tt vl wr bO sO nU mV) hx hb hr hlk hP hS rfl (⟨aS, cA, congrArg (fun z => some (Value.int z)) (by simp [clashR, clashT, clashB, bump, put9, b2i, c9, i_lt, -Int32.not_le, -Int32.not_lt]), rfl⟩) dX4_clash_18

set_option maxHeartbeats 4000000 in
set_option maxRecDepth 100000 in
theorem k_X4_feed (d : Nat) (b : Int32) (k : Int32) (hd : d ≤ 120) : MU l D (tyA cI cJ cO) yX4_feed cX4_feed 4 ((some .int)) 1 25 [.ref (A 0), .int b, .int k] (MW cI cJ A sS kS oS aS tS ik cA tp (nI d) fm tt vl wr bO sO nU mV) (fun ov w' => ov = some (.int (feedR d k)) ∧ w' = (MW cI cJ A sS kS oS aS (feedT tS d k) ik cA (feedP tp d b k) (feedD d k) fm tt vl wr bO sO nU mV)) := by
  refine MU.mk (by decide) (Nat.le_of_ble_eq_true rfl) ?_
  intro p e s m below meth c ls S hr hlk hP hK hD hS hl
  have S : CallFix p m c cX4_feed 4 s _ WL RX4 := S
  obtain ⟨hx, hb, hml, hown, hts⟩ := id S
  have hl : lv_has ls 4 [(0, .ref (A 0)), (1, .int b), (2, .int k)] := hl
  refine lv_iload_n hx hb dX4_feed_0 rfl (lv_at hl 2 rfl) ?_
  refine lv_i2l hx hb dX4_feed_1 rfl ?_
  refine lv_lconst (v := 1) hx hb dX4_feed_2 rfl ?_
  refine lv_ldc2 (v := 4) hx hb hown (hts _ wq_X4_138) dX4_feed_3 ?_
  refine ro_S (w := []) (rest := []) S hK va_P0 (k_X4_inI k 1 4 _ _ (by decide) (by decide)) gs_X4_49 hd_X4_in ⟨Nat.le_of_ble_eq_true rfl, Nat.le_of_ble_eq_true rfl⟩ rfl hl.1 (lv_room (Nat.le_of_ble_eq_true rfl)) dX4_feed_6 ⟨Nat.zero_le _, Nat.zero_le _⟩ ?_
  refine lv_if_ne (tgt := 19) hx hb dX4_feed_9 rfl (fun c9 => ?_) (fun c9 => ?_)
  · replace c9 := b2i_n0 c9
    obtain ⟨k0, hk0a, hk0b, rfl⟩ := in_nat (a := 1) (b := 4) (by decide) c9 (by decide)
    have ek0 : cl (nI k0) = k0 := cl_nI (by omega)
    refine lv_aload_n hx hb dX4_feed_19 rfl (lv_at hl 0 rfl) ?_
    refine va_get (ci := 4) (v := .int (nI d)) hx hb hts wx_X4 hown hK hP 0 rfl rfl 8 (by decide) (hts _ wf_X4_207) (fun _ h9 => h9) rfl dX4_feed_20 ?_
    refine lv_iload_n hx hb dX4_feed_23 rfl (lv_at hl 2 rfl) ?_
    refine lv_iadd hx hb dX4_feed_24 ?_
    refine w_i (z := nI (d + k0)) (nI_add d k0) ?_
    refine lv_bipush (v := 120) hx hb dX4_feed_25 rfl ?_
    refine lv_icmp_le (tgt := 37) hx hb dX4_feed_27 rfl (fun c27 => ?_) (fun c27 => ?_)
    · replace c27 := nq_le (a := (d + k0)) (b := 120) (by omega) (by omega) c27
      refine lv_iload_n hx hb dX4_feed_37 rfl (lv_at hl 2 rfl) ?_
      refine lv_iconst (v := 1) hx hb dX4_feed_38 rfl ?_
      refine lv_isub hx hb dX4_feed_39 ?_
      refine w_i (z := nI k0 - nI (0 + 1)) (rfl) ?_
      have hE : tp = feedF tp d b k0 0 := feedF_0 _ _ _ _
      have hW : (MW cI cJ A sS kS oS aS tS ik cA tp (nI d) fm tt vl wr bO sO nU mV) = (MW cI cJ A sS kS oS aS tS ik cA (feedF tp d b k0 0) (nI d) fm tt vl wr bO sO nU mV) := congrArg (fun z => (MW cI cJ A sS kS oS aS tS ik cA z (nI d) fm tt vl wr bO sO nU mV)) hE
      have hP : va_P D vwCl (MW cI cJ A sS kS oS aS tS ik cA (feedF tp d b k0 0) (nI d) fm tt vl wr bO sO nU mV) s.heap := Eq.mp (congrArg (fun z => va_P D vwCl z s.heap) hW) hP
      have hD : va_D _ (MW cI cJ A sS kS oS aS tS ik cA (feedF tp d b k0 0) (nI d) fm tt vl wr bO sO nU mV) := Eq.mp (congrArg (fun z => va_D _ z) hW) hD
      have hE : nI d = nI (d + 0) := rfl
      have hW : (MW cI cJ A sS kS oS aS tS ik cA (feedF tp d b k0 0) (nI d) fm tt vl wr bO sO nU mV) = (MW cI cJ A sS kS oS aS tS ik cA (feedF tp d b k0 0) (nI (d + 0)) fm tt vl wr bO sO nU mV) := congrArg (fun z => (MW cI cJ A sS kS oS aS tS ik cA (feedF tp d b k0 0) z fm tt vl wr bO sO nU mV)) hE
      have hP : va_P D vwCl (MW cI cJ A sS kS oS aS tS ik cA (feedF tp d b k0 0) (nI (d + 0)) fm tt vl wr bO sO nU mV) s.heap := Eq.mp (congrArg (fun z => va_P D vwCl z s.heap) hW) hP
      have hD : va_D _ (MW cI cJ A sS kS oS aS tS ik cA (feedF tp d b k0 0) (nI (d + 0)) fm tt vl wr bO sO nU mV) := Eq.mp (congrArg (fun z => va_D _ z) hW) hD
      refine lv_istore_n (lv' := [(3, .int (nI k0 - nI (0 + 1))), (0, .ref (A 0)), (1, .int b), (2, .int (nI k0))]) hx hb dX4_feed_40 rfl hl (by decide) rfl (fun ls hl => ?_)
      refine w_loopH (pc := 41) (st := fun (i : Nat) => []) (μ := fun (i : Nat) => k0 - i) (I := fun (i : Nat) H locs ls => (i ≤ k0) ∧ va_P D vwCl (MW cI cJ A sS kS oS aS tS ik cA (feedF tp d b k0 i) (nI (d + i)) fm tt vl wr bO sO nU mV) H ∧ va_D (fun z9 => z9 ∈ ((MW cI cJ A sS kS oS aS tS ik cA tp (nI d) fm tt vl wr bO sO nU mV)).map (fun z8 => z8.1)) (MW cI cJ A sS kS oS aS tS ik cA (feedF tp d b k0 i) (nI (d + i)) fm tt vl wr bO sO nU mV) ∧ va_S (fun z9 => z9 ∈ ((MW cI cJ A sS kS oS aS tS ik cA tp (nI d) fm tt vl wr bO sO nU mV)).map (fun z8 => z8.1)) s.heap H locs ∧ lv_has ls 4 [(0, .ref (A 0)), (1, .int b), (2, .int (nI k0)), (3, .int (nI k0 - nI (i + 1)))]) ?_ (0) ⟨Nat.zero_le _, hP, hD, hS, lv_sub hl [1, 2, 3, 0] rfl⟩
      rintro i H locs ls ⟨hi, hP, hD, hS, hl⟩ ih41
      try dsimp only at ih41 ⊢
      refine lv_iload_n hx hb dX4_feed_41 rfl (lv_at hl 3 rfl) ?_
      refine lv_if_lt (tgt := 80) hx hb dX4_feed_42 rfl (fun c42 => ?_) (fun c42 => ?_)
      · replace c42 : i = k0 := by have h9 := dn_lt (c := k0) (i := i + 1) (by omega) (by omega) (Int32.not_le.mpr c42); omega
        obtain rfl := c42.symm
        refine lv_aload_n hx hb dX4_feed_80 rfl (lv_at hl 0 rfl) ?_
        refine va_get (ci := 4) (v := .int (nI (d + k0))) hx hb hts wx_X4 hown hK hP 0 rfl rfl 8 (by decide) (hts _ wf_X4_207) (fun _ h9 => h9) rfl dX4_feed_81 ?_
        have hE : tS = feedT tS d (nI k0) := by simp [feedR, feedT, feedP, feedD, feedOk, bump, put9, b2i, c9, c27, ek0, i_lt, -Int32.not_le, -Int32.not_lt]
        have hW : (MW cI cJ A sS kS oS aS tS ik cA (feedF tp d b k0 k0) (nI (d + k0)) fm tt vl wr bO sO nU mV) = (MW cI cJ A sS kS oS aS (feedT tS d (nI k0)) ik cA (feedF tp d b k0 k0) (nI (d + k0)) fm tt vl wr bO sO nU mV) := congrArg (fun z => (MW cI cJ A sS kS oS aS z ik cA (feedF tp d b k0 k0) (nI (d + k0)) fm tt vl wr bO sO nU mV)) hE
        have hP : va_P D vwCl (MW cI cJ A sS kS oS aS (feedT tS d (nI k0)) ik cA (feedF tp d b k0 k0) (nI (d + k0)) fm tt vl wr bO sO nU mV) H := Eq.mp (congrArg (fun z => va_P D vwCl z H) hW) hP
        have hD : va_D _ (MW cI cJ A sS kS oS aS (feedT tS d (nI k0)) ik cA (feedF tp d b k0 k0) (nI (d + k0)) fm tt vl wr bO sO nU mV) := Eq.mp (congrArg (fun z => va_D _ z) hW) hD
        have hE : feedF tp d b k0 k0 = feedP tp d b (nI k0) := by simp [feedR, feedT, feedP, feedD, feedOk, bump, put9, b2i, c9, c27, ek0, i_lt, -Int32.not_le, -Int32.not_lt]
        have hW : (MW cI cJ A sS kS oS aS (feedT tS d (nI k0)) ik cA (feedF tp d b k0 k0) (nI (d + k0)) fm tt vl wr bO sO nU mV) = (MW cI cJ A sS kS oS aS (feedT tS d (nI k0)) ik cA (feedP tp d b (nI k0)) (nI (d + k0)) fm tt vl wr bO sO nU mV) := congrArg (fun z => (MW cI cJ A sS kS oS aS (feedT tS d (nI k0)) ik cA z (nI (d + k0)) fm tt vl wr bO sO nU mV)) hE
        have hP : va_P D vwCl (MW cI cJ A sS kS oS aS (feedT tS d (nI k0)) ik cA (feedP tp d b (nI k0)) (nI (d + k0)) fm tt vl wr bO sO nU mV) H := Eq.mp (congrArg (fun z => va_P D vwCl z H) hW) hP
        have hD : va_D _ (MW cI cJ A sS kS oS aS (feedT tS d (nI k0)) ik cA (feedP tp d b (nI k0)) (nI (d + k0)) fm tt vl wr bO sO nU mV) := Eq.mp (congrArg (fun z => va_D _ z) hW) hD
        have hE : nI (d + k0) = feedD d (nI k0) := by simp [feedR, feedT, feedP, feedD, feedOk, bump, put9, b2i, c9, c27, ek0, i_lt, -Int32.not_le, -Int32.not_lt]
        have hW : (MW cI cJ A sS kS oS aS (feedT tS d (nI k0)) ik cA (feedP tp d b (nI k0)) (nI (d + k0)) fm tt vl wr bO sO nU mV) = (MW cI cJ A sS kS oS aS (feedT tS d (nI k0)) ik cA (feedP tp d b (nI k0)) (feedD d (nI k0)) fm tt vl wr bO sO nU mV) := congrArg (fun z => (MW cI cJ A sS kS oS aS (feedT tS d (nI k0)) ik cA (feedP tp d b (nI k0)) z fm tt vl wr bO sO nU mV)) hE
        have hP : va_P D vwCl (MW cI cJ A sS kS oS aS (feedT tS d (nI k0)) ik cA (feedP tp d b (nI k0)) (feedD d (nI k0)) fm tt vl wr bO sO nU mV) H := Eq.mp (congrArg (fun z => va_P D vwCl z H) hW) hP
        have hD : va_D _ (MW cI cJ A sS kS oS aS (feedT tS d (nI k0)) ik cA (feedP tp d b (nI k0)) (feedD d (nI k0)) fm tt vl wr bO sO nU mV) := Eq.mp (congrArg (fun z => va_D _ z) hW) hD
        exact mu_iret (MW cI cJ A sS kS oS aS (feedT tS d (nI k0)) ik cA (feedP tp d b (nI k0)) (feedD d (nI k0)) fm tt vl wr bO sO nU mV) hx hb hr hlk hP hS rfl (⟨congrArg (fun z => some (Value.int z)) (by simp [feedR, feedT, feedP, feedD, feedOk, bump, put9, b2i, c9, c27, ek0, i_lt, -Int32.not_le, -Int32.not_lt]), rfl⟩) dX4_feed_84
      · replace c42 : i < k0 := by have h9 := dn_ge (c := k0) (i := i + 1) (by omega) (by omega) (Int32.not_lt.mp c42); omega
        refine lv_aload_n hx hb dX4_feed_45 rfl (lv_at hl 0 rfl) ?_
        refine va_get (ci := 4) (v := .ref (A 7)) hx hb hts wx_X4 hown hK hP 0 rfl rfl 7 (by decide) (hts _ wf_X4_28) (fun _ h9 => h9) rfl dX4_feed_46 ?_
        refine lv_aload_n hx hb dX4_feed_49 rfl (lv_at hl 0 rfl) ?_
        refine va_get (ci := 4) (v := .int (nI (d + i))) hx hb hts wx_X4 hown hK hP 0 rfl rfl 8 (by decide) (hts _ wf_X4_207) (fun _ h9 => h9) rfl dX4_feed_50 ?_
        refine lv_iload_n hx hb dX4_feed_53 rfl (lv_at hl 1 rfl) ?_
        refine lv_bipush (v := 8) hx hb dX4_feed_54 rfl ?_
        refine lv_iload_n hx hb dX4_feed_56 rfl (lv_at hl 3 rfl) ?_
        refine lv_imul hx hb dX4_feed_57 ?_
        refine lv_ishr hx hb dX4_feed_58 ?_
        refine lv_sipush (v := 255) hx hb dX4_feed_59 rfl ?_
        refine lv_iand hx hb dX4_feed_62 ?_
        refine w_i (z := byteV b (k0 - 1 - i)) (by rw [pk_sub (by omega), show k0 - (i + 1) = k0 - 1 - i by omega]; rfl) ?_
        refine ia_st hx hb hK hP hD hS 7 0 rfl rfl (d + i) (rfl) (by omega) (by decide) dX4_feed_63 (fun H locs hP hD hS => ?_)
        have hP : va_P D vwCl (MW cI cJ A sS kS oS aS tS ik cA (upd (feedF tp d b k0 i) (d + i) (byteV b (k0 - 1 - i))) (nI (d + i)) fm tt vl wr bO sO nU mV) H := hP
        have hD : va_D _ (MW cI cJ A sS kS oS aS tS ik cA (upd (feedF tp d b k0 i) (d + i) (byteV b (k0 - 1 - i))) (nI (d + i)) fm tt vl wr bO sO nU mV) := hD
        have hE : upd (feedF tp d b k0 i) (d + i) (byteV b (k0 - 1 - i)) = feedF tp d b k0 (i + 1) := feedF_s
        have hW : (MW cI cJ A sS kS oS aS tS ik cA (upd (feedF tp d b k0 i) (d + i) (byteV b (k0 - 1 - i))) (nI (d + i)) fm tt vl wr bO sO nU mV) = (MW cI cJ A sS kS oS aS tS ik cA (feedF tp d b k0 (i + 1)) (nI (d + i)) fm tt vl wr bO sO nU mV) := congrArg (fun z => (MW cI cJ A sS kS oS aS tS ik cA z (nI (d + i)) fm tt vl wr bO sO nU mV)) hE
        have hP : va_P D vwCl (MW cI cJ A sS kS oS aS tS ik cA (feedF tp d b k0 (i + 1)) (nI (d + i)) fm tt vl wr bO sO nU mV) H := Eq.mp (congrArg (fun z => va_P D vwCl z H) hW) hP
        have hD : va_D _ (MW cI cJ A sS kS oS aS tS ik cA (feedF tp d b k0 (i + 1)) (nI (d + i)) fm tt vl wr bO sO nU mV) := Eq.mp (congrArg (fun z => va_D _ z) hW) hD
        refine lv_aload_n hx hb dX4_feed_64 rfl (lv_at hl 0 rfl) ?_
        refine lv_dup hx hb dX4_feed_65 rfl ?_
        refine va_get (ci := 4) (v := .int (nI (d + i))) hx hb hts wx_X4 hown hK hP 0 rfl rfl 8 (by decide) (hts _ wf_X4_207) (fun _ h9 => h9) rfl dX4_feed_66 ?_
        refine lv_iconst (v := 1) hx hb dX4_feed_69 rfl ?_
        refine lv_iadd hx hb dX4_feed_70 ?_
        refine w_i (z := nI (d + (i + 1))) (nI_1 (d + i)) ?_
        refine va_put (ci := 4) (v := .int (nI (d + (i + 1)))) (ty := tyX4 8) hx hb hts wx_X4 tyX4 tyX4_ok nmX4 hown hK hP hD hS 0 rfl rfl 8 (by decide) (hts _ wf_X4_207) (fun _ h9 => h9) rfl (tyX4_ok 8 (by decide)) rfl rfl (Nat.le_of_ble_eq_true rfl) dX4_feed_71 (fun H locs hP hD hS => ?_)
        have hP : va_P D vwCl (MW cI cJ A sS kS oS aS tS ik cA (feedF tp d b k0 (i + 1)) (nI (d + (i + 1))) fm tt vl wr bO sO nU mV) H := hP
        have hD : va_D _ (MW cI cJ A sS kS oS aS tS ik cA (feedF tp d b k0 (i + 1)) (nI (d + (i + 1))) fm tt vl wr bO sO nU mV) := hD
        refine lv_iinc (v := nI k0 - nI (i + 1 + 1)) (lv' := [(3, .int (nI k0 - nI (i + 1 + 1))), (0, .ref (A 0)), (1, .int b), (2, .int (nI k0))]) hx hb dX4_feed_74 hl (k := 3) rfl (dn_inc) (by decide) rfl (fun ls hl => ?_)
        refine lv_goto (tgt := 41) hx hb dX4_feed_77 rfl ?_
        exact ih41 (i + 1) _ _ ls (by first | omega | (dsimp only; omega)) ⟨(by omega), hP, hD, hS, lv_sub hl [1, 2, 3, 0] rfl⟩
    · replace c27 := nq_nle (a := (d + k0)) (b := 120) (by omega) (by omega) c27
      refine lv_aload_n hx hb dX4_feed_30 rfl (lv_at hl 0 rfl) ?_
      refine lv_ldc (v := (-1000000002)) hx hb hown (hts _ wq_X4_123) dX4_feed_31 ?_
      refine mu_W (w := (MW cI cJ A sS kS oS aS tS ik cA tp (nI d) fm tt vl wr bO sO nU mV)) (rest := []) S hK hP hD hS (k_X4_finds 1 (-1000000002) (by decide) (by decide)) gv_X4_63 hd_X4_finds ⟨Nat.le_of_ble_eq_true rfl, Nat.le_of_ble_eq_true rfl⟩ 4 rfl rfl rfl rfl hl.1 (lv_room (Nat.le_of_ble_eq_true rfl)) dX4_feed_33 ⟨Nat.zero_le _, Nat.zero_le _⟩ (fun ov w' H locs hp hP hD hS => ?_)
      obtain ⟨rfl, rfl⟩ := hp
      refine W.eq (g2 := F0 m 36 ls [.int (-1000000002)]) rfl ?_
      have hE : upd tS 1 (tS 1 + 1) = feedT tS d (nI k0) := by simp [feedR, feedT, feedP, feedD, feedOk, bump, put9, b2i, c9, c27, ek0, i_lt, -Int32.not_le, -Int32.not_lt]
      have hW : (MW cI cJ A sS kS oS aS (upd tS 1 (tS 1 + 1)) ik cA tp (nI d) fm tt vl wr bO sO nU mV) = (MW cI cJ A sS kS oS aS (feedT tS d (nI k0)) ik cA tp (nI d) fm tt vl wr bO sO nU mV) := congrArg (fun z => (MW cI cJ A sS kS oS aS z ik cA tp (nI d) fm tt vl wr bO sO nU mV)) hE
      have hP : va_P D vwCl (MW cI cJ A sS kS oS aS (feedT tS d (nI k0)) ik cA tp (nI d) fm tt vl wr bO sO nU mV) H := Eq.mp (congrArg (fun z => va_P D vwCl z H) hW) hP
      have hD : va_D _ (MW cI cJ A sS kS oS aS (feedT tS d (nI k0)) ik cA tp (nI d) fm tt vl wr bO sO nU mV) := Eq.mp (congrArg (fun z => va_D _ z) hW) hD
      have hE : tp = feedP tp d b (nI k0) := by simp [feedR, feedT, feedP, feedD, feedOk, bump, put9, b2i, c9, c27, ek0, i_lt, -Int32.not_le, -Int32.not_lt]
      have hW : (MW cI cJ A sS kS oS aS (feedT tS d (nI k0)) ik cA tp (nI d) fm tt vl wr bO sO nU mV) = (MW cI cJ A sS kS oS aS (feedT tS d (nI k0)) ik cA (feedP tp d b (nI k0)) (nI d) fm tt vl wr bO sO nU mV) := congrArg (fun z => (MW cI cJ A sS kS oS aS (feedT tS d (nI k0)) ik cA z (nI d) fm tt vl wr bO sO nU mV)) hE
      have hP : va_P D vwCl (MW cI cJ A sS kS oS aS (feedT tS d (nI k0)) ik cA (feedP tp d b (nI k0)) (nI d) fm tt vl wr bO sO nU mV) H := Eq.mp (congrArg (fun z => va_P D vwCl z H) hW) hP
      have hD : va_D _ (MW cI cJ A sS kS oS aS (feedT tS d (nI k0)) ik cA (feedP tp d b (nI k0)) (nI d) fm tt vl wr bO sO nU mV) := Eq.mp (congrArg (fun z => va_D _ z) hW) hD
      have hE : nI d = feedD d (nI k0) := by simp [feedR, feedT, feedP, feedD, feedOk, bump, put9, b2i, c9, c27, ek0, i_lt, -Int32.not_le, -Int32.not_lt]
      have hW : (MW cI cJ A sS kS oS aS (feedT tS d (nI k0)) ik cA (feedP tp d b (nI k0)) (nI d) fm tt vl wr bO sO nU mV) = (MW cI cJ A sS kS oS aS (feedT tS d (nI k0)) ik cA (feedP tp d b (nI k0)) (feedD d (nI k0)) fm tt vl wr bO sO nU mV) := congrArg (fun z => (MW cI cJ A sS kS oS aS (feedT tS d (nI k0)) ik cA (feedP tp d b (nI k0)) z fm tt vl wr bO sO nU mV)) hE
      have hP : va_P D vwCl (MW cI cJ A sS kS oS aS (feedT tS d (nI k0)) ik cA (feedP tp d b (nI k0)) (feedD d (nI k0)) fm tt vl wr bO sO nU mV) H := Eq.mp (congrArg (fun z => va_P D vwCl z H) hW) hP
      have hD : va_D _ (MW cI cJ A sS kS oS aS (feedT tS d (nI k0)) ik cA (feedP tp d b (nI k0)) (feedD d (nI k0)) fm tt vl wr bO sO nU mV) := Eq.mp (congrArg (fun z => va_D _ z) hW) hD
      exact mu_iret (MW cI cJ A sS kS oS aS (feedT tS d (nI k0)) ik cA (feedP tp d b (nI k0)) (feedD d (nI k0)) fm tt vl wr bO sO nU mV) hx hb hr hlk hP hS rfl (⟨congrArg (fun z => some (Value.int z)) (by simp [feedR, feedT, feedP, feedD, feedOk, bump, put9, b2i, c9, c27, ek0, i_lt, -Int32.not_le, -Int32.not_lt]), rfl⟩) dX4_feed_36
  · replace c9 := (b2i_0 _).mp c9
    refine lv_aload_n hx hb dX4_feed_12 rfl (lv_at hl 0 rfl) ?_
    refine lv_ldc (v := (-1000000001)) hx hb hown (hts _ wq_X4_44) dX4_feed_13 ?_
    refine mu_W (w := (MW cI cJ A sS kS oS aS tS ik cA tp (nI d) fm tt vl wr bO sO nU mV)) (rest := []) S hK hP hD hS (k_X4_finds 0 (-1000000001) (by decide) (by decide)) gv_X4_63 hd_X4_finds ⟨Nat.le_of_ble_eq_true rfl, Nat.le_of_ble_eq_true rfl⟩ 4 rfl rfl rfl rfl hl.1 (lv_room (Nat.le_of_ble_eq_true rfl)) dX4_feed_15 ⟨Nat.zero_le _, Nat.zero_le _⟩ (fun ov w' H locs hp hP hD hS => ?_)
    obtain ⟨rfl, rfl⟩ := hp
    refine W.eq (g2 := F0 m 18 ls [.int (-1000000001)]) rfl ?_
    have hE : upd tS 0 (tS 0 + 1) = feedT tS d k := by simp [feedR, feedT, feedP, feedD, feedOk, bump, put9, b2i, c9, i_lt, -Int32.not_le, -Int32.not_lt]
    have hW : (MW cI cJ A sS kS oS aS (upd tS 0 (tS 0 + 1)) ik cA tp (nI d) fm tt vl wr bO sO nU mV) = (MW cI cJ A sS kS oS aS (feedT tS d k) ik cA tp (nI d) fm tt vl wr bO sO nU mV) := congrArg (fun z => (MW cI cJ A sS kS oS aS z ik cA tp (nI d) fm tt vl wr bO sO nU mV)) hE
    have hP : va_P D vwCl (MW cI cJ A sS kS oS aS (feedT tS d k) ik cA tp (nI d) fm tt vl wr bO sO nU mV) H := Eq.mp (congrArg (fun z => va_P D vwCl z H) hW) hP
    have hD : va_D _ (MW cI cJ A sS kS oS aS (feedT tS d k) ik cA tp (nI d) fm tt vl wr bO sO nU mV) := Eq.mp (congrArg (fun z => va_D _ z) hW) hD
    have hE : tp = feedP tp d b k := by simp [feedR, feedT, feedP, feedD, feedOk, bump, put9, b2i, c9, i_lt, -Int32.not_le, -Int32.not_lt]
    have hW : (MW cI cJ A sS kS oS aS (feedT tS d k) ik cA tp (nI d) fm tt vl wr bO sO nU mV) = (MW cI cJ A sS kS oS aS (feedT tS d k) ik cA (feedP tp d b k) (nI d) fm tt vl wr bO sO nU mV) := congrArg (fun z => (MW cI cJ A sS kS oS aS (feedT tS d k) ik cA z (nI d) fm tt vl wr bO sO nU mV)) hE
    have hP : va_P D vwCl (MW cI cJ A sS kS oS aS (feedT tS d k) ik cA (feedP tp d b k) (nI d) fm tt vl wr bO sO nU mV) H := Eq.mp (congrArg (fun z => va_P D vwCl z H) hW) hP
    have hD : va_D _ (MW cI cJ A sS kS oS aS (feedT tS d k) ik cA (feedP tp d b k) (nI d) fm tt vl wr bO sO nU mV) := Eq.mp (congrArg (fun z => va_D _ z) hW) hD
    have hE : nI d = feedD d k := by simp [feedR, feedT, feedP, feedD, feedOk, bump, put9, b2i, c9, i_lt, -Int32.not_le, -Int32.not_lt]
    have hW : (MW cI cJ A sS kS oS aS (feedT tS d k) ik cA (feedP tp d b k) (nI d) fm tt vl wr bO sO nU mV) = (MW cI cJ A sS kS oS aS (feedT tS d k) ik cA (feedP tp d b k) (feedD d k) fm tt vl wr bO sO nU mV) := congrArg (fun z => (MW cI cJ A sS kS oS aS (feedT tS d k) ik cA (feedP tp d b k) z fm tt vl wr bO sO nU mV)) hE
    have hP : va_P D vwCl (MW cI cJ A sS kS oS aS (feedT tS d k) ik cA (feedP tp d b k) (feedD d k) fm tt vl wr bO sO nU mV) H := Eq.mp (congrArg (fun z => va_P D vwCl z H) hW) hP
    have hD : va_D _ (MW cI cJ A sS kS oS aS (feedT tS d k) ik cA (feedP tp d b k) (feedD d k) fm tt vl wr bO sO nU mV) := Eq.mp (congrArg (fun z => va_D _ z) hW) hD
    exact mu_iret (MW cI cJ A sS kS oS aS (feedT tS d k) ik cA (feedP tp d b k) (feedD d k) fm tt vl wr bO sO nU mV) hx hb hr hlk hP hS rfl (⟨congrArg (fun z => some (Value.int z)) (by simp [feedR, feedT, feedP, feedD, feedOk, bump, put9, b2i, c9, i_lt, -Int32.not_le, -Int32.not_lt]), rfl⟩) dX4_feed_18

set_option maxHeartbeats 4000000 in
set_option maxRecDepth 100000 in
theorem k_X4_narrowed (b : Int32) (v : Int64) : RO l D (tyA cI cJ cO) yX4_narrowed cX4_narrowed 3 ((some .long)) 0 0 [.int b, .long v] [] (.long (narL b v)) := by
  refine RO.mk (by decide) (Nat.le_of_ble_eq_true rfl) ?_
  intro p e s m below meth c ls S hr hlk hP hK hl
  have S : CallFix p m c cX4_narrowed 3 s _ WL RX4 := S
  obtain ⟨hx, hb, hml, hown, hts⟩ := id S
  have hl : lv_has ls 3 [(0, .int b), (1, .long v)] := hl
  refine lv_iload_n hx hb dX4_narrowed_0 rfl (lv_at hl 0 rfl) ?_
  refine lv_bipush (v := 8) hx hb dX4_narrowed_1 rfl ?_
  refine lv_icmp_ne (tgt := 13) hx hb dX4_narrowed_3 rfl (fun c3 => ?_) (fun c3 => ?_)
  · refine lv_iload_n hx hb dX4_narrowed_13 rfl (lv_at hl 0 rfl) ?_
    refine lv_bipush (v := 16) hx hb dX4_narrowed_14 rfl ?_
    refine lv_icmp_ne (tgt := 26) hx hb dX4_narrowed_16 rfl (fun c16 => ?_) (fun c16 => ?_)
    · refine lv_lload_n hx hb dX4_narrowed_26 rfl (lv_at hl 1 rfl) ?_
      exact ro_lret hx hb hr hlk (by first | (simp [narL, c3, c16, i_lt, -Int32.not_le, -Int32.not_lt]; done) | (simp_all; done) | (simp_all [narL]; done)) dX4_narrowed_27
    · refine lv_lload_n hx hb dX4_narrowed_19 rfl (lv_at hl 1 rfl) ?_
      refine lv_l2i hx hb dX4_narrowed_20 rfl ?_
      refine lv_i2s hx hb dX4_narrowed_21 rfl ?_
      refine lv_i2l hx hb dX4_narrowed_22 rfl ?_
      refine lv_goto (tgt := 27) hx hb dX4_narrowed_23 rfl ?_
      exact ro_lret hx hb hr hlk (by first | (simp [narL, c3, c16, i_lt, -Int32.not_le, -Int32.not_lt]; done) | (simp_all; done) | (simp_all [narL]; done)) dX4_narrowed_27
  · refine lv_lload_n hx hb dX4_narrowed_6 rfl (lv_at hl 1 rfl) ?_
    refine lv_l2i hx hb dX4_narrowed_7 rfl ?_
    refine lv_i2b hx hb dX4_narrowed_8 rfl ?_
    refine lv_i2l hx hb dX4_narrowed_9 rfl ?_
    refine lv_goto (tgt := 27) hx hb dX4_narrowed_10 rfl ?_
    exact ro_lret hx hb hr hlk (by first | (simp [narL, c3, i_lt, -Int32.not_le, -Int32.not_lt]; done) | (simp_all; done) | (simp_all [narL]; done)) dX4_narrowed_27

set_option maxHeartbeats 4000000 in
set_option maxRecDepth 100000 in
theorem k_X4_wrongSheet (x : Int32) : RO l D (tyA cI cJ cO) yX4_wrongSheet cX4_wrongSheet 2 ((some .int)) 2 45 [.ref (A 0), .int x] (MW cI cJ A sS kS oS aS tS ik cA tp td fm tt vl wr bO sO nU mV) (.int (wrongS bO x)) := by
  refine RO.mk (by decide) (Nat.le_of_ble_eq_true rfl) ?_
  intro p e s m below meth c ls S hr hlk hP hK hl
  have S : CallFix p m c cX4_wrongSheet 2 s _ WL RX4 := S
  obtain ⟨hx, hb, hml, hown, hts⟩ := id S
  have hl : lv_has ls 2 [(0, .ref (A 0)), (1, .int x)] := hl
  refine lv_iload_n hx hb dX4_wrongSheet_0 rfl (lv_at hl 1 rfl) ?_
  refine ro_S (w := []) (rest := []) S hK va_P0 (k_X4_isOne x) gs_X4_319 hd_X4_isOne ⟨Nat.le_of_ble_eq_true rfl, Nat.le_of_ble_eq_true rfl⟩ rfl hl.1 (lv_room (Nat.le_of_ble_eq_true rfl)) dX4_wrongSheet_1 ⟨Nat.zero_le _, Nat.zero_le _⟩ ?_
  refine lv_if_ne (tgt := 12) hx hb dX4_wrongSheet_4 rfl (fun c4 => ?_) (fun c4 => ?_)
  · replace c4 := b2i_n0 c4
    obtain ⟨j, hja, hjb, rfl⟩ := in_nat (a := 0) (b := 3) (by decide) c4 (by decide)
    have ej : cl (nI j) = j := cl_nI (by omega)
    refine lv_aload_n hx hb dX4_wrongSheet_12 rfl (lv_at hl 0 rfl) ?_
    refine va_get (ci := 4) (v := .ref (A 8)) hx hb hts wx_X4 hown hK hP 0 rfl rfl 13 (by decide) (hts _ wf_X4_31) (fun _ h9 => h9) rfl dX4_wrongSheet_13 ?_
    refine lv_iload_n hx hb dX4_wrongSheet_16 rfl (lv_at hl 1 rfl) ?_
    refine ia_ld hx hb hK hP 8 0 rfl rfl j (rfl) (by omega) (by decide) dX4_wrongSheet_17 ?_
    refine lv_if_ne (tgt := 27) hx hb dX4_wrongSheet_18 rfl (fun c18 => ?_) (fun c18 => ?_)
    · refine lv_iconst (v := 0) hx hb dX4_wrongSheet_27 rfl ?_
      exact ro_iret hx hb hr hlk (by simp [wrongS, c4, c18, ej]) dX4_wrongSheet_28
    · refine lv_ldcw (v := (-1000000006)) hx hb hown (hts _ wq_X4_323) dX4_wrongSheet_21 ?_
      refine lv_goto (tgt := 28) hx hb dX4_wrongSheet_24 rfl ?_
      exact ro_iret hx hb hr hlk (by simp [wrongS, c4, c18, ej]) dX4_wrongSheet_28
  · replace c4 := (b2i_0 _).mp c4
    refine lv_ldc (v := (-1000000001)) hx hb hown (hts _ wq_X4_44) dX4_wrongSheet_7 ?_
    refine lv_goto (tgt := 28) hx hb dX4_wrongSheet_9 rfl ?_
    exact ro_iret hx hb hr hlk (by simp [wrongS, c4]) dX4_wrongSheet_28

set_option maxHeartbeats 4000000 in
set_option maxRecDepth 100000 in
theorem k_X4_sheet (x : Int32) (b : Int32) (k : Int32) : MU l D (tyA cI cJ cO) yX4_sheet cX4_sheet 5 ((some .int)) 2 45 [.ref (A 0), .int x, .int b, .int k] (MW cI cJ A sS kS oS aS tS ik cA tp td fm tt vl wr bO sO nU mV) (fun ov w' => ov = some (.int (shtR x b k)) ∧ w' = (MW cI cJ A sS kS oS aS (shtT tS x b k) ik cA tp td fm tt vl wr (shtB bO x b k) (shtS sO x b k) (shtU nU x b k) mV)) := by
  refine MU.mk (by decide) (Nat.le_of_ble_eq_true rfl) ?_
  intro p e s m below meth c ls S hr hlk hP hK hD hS hl
  have S : CallFix p m c cX4_sheet 5 s _ WL RX4 := S
  obtain ⟨hx, hb, hml, hown, hts⟩ := id S
  have hl : lv_has ls 5 [(0, .ref (A 0)), (1, .int x), (2, .int b), (3, .int k)] := hl
  refine lv_iload_n hx hb dX4_sheet_0 rfl (lv_at hl 1 rfl) ?_
  refine ro_S (w := []) (rest := []) S hK va_P0 (k_X4_isOne x) gs_X4_319 hd_X4_isOne ⟨Nat.le_of_ble_eq_true rfl, Nat.le_of_ble_eq_true rfl⟩ rfl hl.1 (lv_room (Nat.le_of_ble_eq_true rfl)) dX4_sheet_1 ⟨Nat.zero_le _, Nat.zero_le _⟩ ?_
  refine lv_if_eq (tgt := 29) hx hb dX4_sheet_4 rfl (fun c4 => ?_) (fun c4 => ?_)
  · replace c4 := (b2i_0 _).mp c4
    refine lv_aload_n hx hb dX4_sheet_29 rfl (lv_at hl 0 rfl) ?_
    refine lv_ldc (v := (-1000000001)) hx hb hown (hts _ wq_X4_44) dX4_sheet_30 ?_
    refine mu_W (w := (MW cI cJ A sS kS oS aS tS ik cA tp td fm tt vl wr bO sO nU mV)) (rest := []) S hK hP hD hS (k_X4_finds 0 (-1000000001) (by decide) (by decide)) gv_X4_63 hd_X4_finds ⟨Nat.le_of_ble_eq_true rfl, Nat.le_of_ble_eq_true rfl⟩ 4 rfl rfl rfl rfl hl.1 (lv_room (Nat.le_of_ble_eq_true rfl)) dX4_sheet_32 ⟨Nat.zero_le _, Nat.zero_le _⟩ (fun ov w' H locs hp hP hD hS => ?_)
    obtain ⟨rfl, rfl⟩ := hp
    refine W.eq (g2 := F0 m 35 ls [.int (-1000000001)]) rfl ?_
    have hE : upd tS 0 (tS 0 + 1) = shtT tS x b k := by simp [shtR, shtT, shtB, shtS, shtU, shtW, shtZ, bitsOk, pk_us, bump, put9, b2i, c4, i_lt, -Int32.not_le, -Int32.not_lt]
    have hW : (MW cI cJ A sS kS oS aS (upd tS 0 (tS 0 + 1)) ik cA tp td fm tt vl wr bO sO nU mV) = (MW cI cJ A sS kS oS aS (shtT tS x b k) ik cA tp td fm tt vl wr bO sO nU mV) := congrArg (fun z => (MW cI cJ A sS kS oS aS z ik cA tp td fm tt vl wr bO sO nU mV)) hE
    have hP : va_P D vwCl (MW cI cJ A sS kS oS aS (shtT tS x b k) ik cA tp td fm tt vl wr bO sO nU mV) H := Eq.mp (congrArg (fun z => va_P D vwCl z H) hW) hP
    have hD : va_D _ (MW cI cJ A sS kS oS aS (shtT tS x b k) ik cA tp td fm tt vl wr bO sO nU mV) := Eq.mp (congrArg (fun z => va_D _ z) hW) hD
    have hE : bO = shtB bO x b k := by simp [shtR, shtT, shtB, shtS, shtU, shtW, shtZ, bitsOk, pk_us, bump, put9, b2i, c4, i_lt, -Int32.not_le, -Int32.not_lt]
    have hW : (MW cI cJ A sS kS oS aS (shtT tS x b k) ik cA tp td fm tt vl wr bO sO nU mV) = (MW cI cJ A sS kS oS aS (shtT tS x b k) ik cA tp td fm tt vl wr (shtB bO x b k) sO nU mV) := congrArg (fun z => (MW cI cJ A sS kS oS aS (shtT tS x b k) ik cA tp td fm tt vl wr z sO nU mV)) hE
    have hP : va_P D vwCl (MW cI cJ A sS kS oS aS (shtT tS x b k) ik cA tp td fm tt vl wr (shtB bO x b k) sO nU mV) H := Eq.mp (congrArg (fun z => va_P D vwCl z H) hW) hP
    have hD : va_D _ (MW cI cJ A sS kS oS aS (shtT tS x b k) ik cA tp td fm tt vl wr (shtB bO x b k) sO nU mV) := Eq.mp (congrArg (fun z => va_D _ z) hW) hD
    have hE : sO = shtS sO x b k := by simp [shtR, shtT, shtB, shtS, shtU, shtW, shtZ, bitsOk, pk_us, bump, put9, b2i, c4, i_lt, -Int32.not_le, -Int32.not_lt]
    have hW : (MW cI cJ A sS kS oS aS (shtT tS x b k) ik cA tp td fm tt vl wr (shtB bO x b k) sO nU mV) = (MW cI cJ A sS kS oS aS (shtT tS x b k) ik cA tp td fm tt vl wr (shtB bO x b k) (shtS sO x b k) nU mV) := congrArg (fun z => (MW cI cJ A sS kS oS aS (shtT tS x b k) ik cA tp td fm tt vl wr (shtB bO x b k) z nU mV)) hE
    have hP : va_P D vwCl (MW cI cJ A sS kS oS aS (shtT tS x b k) ik cA tp td fm tt vl wr (shtB bO x b k) (shtS sO x b k) nU mV) H := Eq.mp (congrArg (fun z => va_P D vwCl z H) hW) hP
    have hD : va_D _ (MW cI cJ A sS kS oS aS (shtT tS x b k) ik cA tp td fm tt vl wr (shtB bO x b k) (shtS sO x b k) nU mV) := Eq.mp (congrArg (fun z => va_D _ z) hW) hD
    have hE : nU = shtU nU x b k := by simp [shtR, shtT, shtB, shtS, shtU, shtW, shtZ, bitsOk, pk_us, bump, put9, b2i, c4, i_lt, -Int32.not_le, -Int32.not_lt]
    have hW : (MW cI cJ A sS kS oS aS (shtT tS x b k) ik cA tp td fm tt vl wr (shtB bO x b k) (shtS sO x b k) nU mV) = (MW cI cJ A sS kS oS aS (shtT tS x b k) ik cA tp td fm tt vl wr (shtB bO x b k) (shtS sO x b k) (shtU nU x b k) mV) := congrArg (fun z => (MW cI cJ A sS kS oS aS (shtT tS x b k) ik cA tp td fm tt vl wr (shtB bO x b k) (shtS sO x b k) z mV)) hE
    have hP : va_P D vwCl (MW cI cJ A sS kS oS aS (shtT tS x b k) ik cA tp td fm tt vl wr (shtB bO x b k) (shtS sO x b k) (shtU nU x b k) mV) H := Eq.mp (congrArg (fun z => va_P D vwCl z H) hW) hP
    have hD : va_D _ (MW cI cJ A sS kS oS aS (shtT tS x b k) ik cA tp td fm tt vl wr (shtB bO x b k) (shtS sO x b k) (shtU nU x b k) mV) := Eq.mp (congrArg (fun z => va_D _ z) hW) hD
    exact mu_iret (MW cI cJ A sS kS oS aS (shtT tS x b k) ik cA tp td fm tt vl wr (shtB bO x b k) (shtS sO x b k) (shtU nU x b k) mV) hx hb hr hlk hP hS rfl (⟨congrArg (fun z => some (Value.int z)) (by simp [shtR, shtT, shtB, shtS, shtU, shtW, shtZ, bitsOk, pk_us, bump, put9, b2i, c4, i_lt, -Int32.not_le, -Int32.not_lt]), rfl⟩) dX4_sheet_35
  · replace c4 := b2i_n0 c4
    obtain ⟨j, hja, hjb, rfl⟩ := in_nat (a := 0) (b := 3) (by decide) c4 (by decide)
    have ej : cl (nI j) = j := cl_nI (by omega)
    refine lv_iload_n hx hb dX4_sheet_7 rfl (lv_at hl 2 rfl) ?_
    refine lv_if_eq (tgt := 36) hx hb dX4_sheet_8 rfl (fun c8 => ?_) (fun c8 => ?_)
    · refine lv_iload_n hx hb dX4_sheet_36 rfl (lv_at hl 3 rfl) ?_
      refine lv_if_ge (tgt := 48) hx hb dX4_sheet_37 rfl (fun c37 => ?_) (fun c37 => ?_)
      · refine lv_iload_n hx hb dX4_sheet_48 rfl (lv_at hl 3 rfl) ?_
        refine lv_bipush (v := 40) hx hb dX4_sheet_49 rfl ?_
        refine lv_icmp_le (tgt := 61) hx hb dX4_sheet_51 rfl (fun c51 => ?_) (fun c51 => ?_)
        · refine lv_aload_n hx hb dX4_sheet_61 rfl (lv_at hl 0 rfl) ?_
          refine va_get (ci := 4) (v := .ref (A 8)) hx hb hts wx_X4 hown hK hP 0 rfl rfl 13 (by decide) (hts _ wf_X4_31) (fun _ h9 => h9) rfl dX4_sheet_62 ?_
          refine lv_iload_n hx hb dX4_sheet_65 rfl (lv_at hl 1 rfl) ?_
          refine lv_iload_n hx hb dX4_sheet_66 rfl (lv_at hl 2 rfl) ?_
          refine ia_st hx hb hK hP hD hS 8 0 rfl rfl j (rfl) (by omega) (by decide) dX4_sheet_67 (fun H locs hP hD hS => ?_)
          have hP : va_P D vwCl (MW cI cJ A sS kS oS aS tS ik cA tp td fm tt vl wr (upd bO j b) sO nU mV) H := hP
          have hD : va_D _ (MW cI cJ A sS kS oS aS tS ik cA tp td fm tt vl wr (upd bO j b) sO nU mV) := hD
          refine lv_aload_n hx hb dX4_sheet_68 rfl (lv_at hl 0 rfl) ?_
          refine va_get (ci := 4) (v := .ref (A 9)) hx hb hts wx_X4 hown hK hP 0 rfl rfl 14 (by decide) (hts _ wf_X4_34) (fun _ h9 => h9) rfl dX4_sheet_69 ?_
          refine lv_iload_n hx hb dX4_sheet_72 rfl (lv_at hl 1 rfl) ?_
          refine lv_iload_n hx hb dX4_sheet_73 rfl (lv_at hl 2 rfl) ?_
          refine lv_if_ne (tgt := 81) hx hb dX4_sheet_74 rfl (fun c74 => ?_) (fun c74 => ?_)
          · exact absurd c8 c74
          · refine lv_iconst (v := 0) hx hb dX4_sheet_77 rfl ?_
            refine lv_goto (tgt := 82) hx hb dX4_sheet_78 rfl ?_
            refine ia_st hx hb hK hP hD hS 9 0 rfl rfl j (rfl) (by omega) (by decide) dX4_sheet_82 (fun H locs hP hD hS => ?_)
            have hP : va_P D vwCl (MW cI cJ A sS kS oS aS tS ik cA tp td fm tt vl wr (upd bO j b) (upd sO j 0) nU mV) H := hP
            have hD : va_D _ (MW cI cJ A sS kS oS aS tS ik cA tp td fm tt vl wr (upd bO j b) (upd sO j 0) nU mV) := hD
            refine lv_iconst (v := 0) hx hb dX4_sheet_83 rfl ?_
            have hE : nU = zeroL nU j 0 := zeroL_0 _ _
            have hW : (MW cI cJ A sS kS oS aS tS ik cA tp td fm tt vl wr (upd bO j b) (upd sO j 0) nU mV) = (MW cI cJ A sS kS oS aS tS ik cA tp td fm tt vl wr (upd bO j b) (upd sO j 0) (zeroL nU j 0) mV) := congrArg (fun z => (MW cI cJ A sS kS oS aS tS ik cA tp td fm tt vl wr (upd bO j b) (upd sO j 0) z mV)) hE
            have hP : va_P D vwCl (MW cI cJ A sS kS oS aS tS ik cA tp td fm tt vl wr (upd bO j b) (upd sO j 0) (zeroL nU j 0) mV) H := Eq.mp (congrArg (fun z => va_P D vwCl z H) hW) hP
            have hD : va_D _ (MW cI cJ A sS kS oS aS tS ik cA tp td fm tt vl wr (upd bO j b) (upd sO j 0) (zeroL nU j 0) mV) := Eq.mp (congrArg (fun z => va_D _ z) hW) hD
            refine lv_istore (lv' := [(4, .int 0), (0, .ref (A 0)), (1, .int (nI j)), (2, .int b), (3, .int k)]) hx hb dX4_sheet_84 hl (by decide) rfl (fun ls hl => ?_)
            refine w_loopH (pc := 86) (st := fun (i : Nat) => []) (μ := fun (i : Nat) => 40 - i) (I := fun (i : Nat) H locs ls => (i ≤ 40) ∧ va_P D vwCl (MW cI cJ A sS kS oS aS tS ik cA tp td fm tt vl wr (upd bO j b) (upd sO j 0) (zeroL nU j i) mV) H ∧ va_D (fun z9 => z9 ∈ ((MW cI cJ A sS kS oS aS tS ik cA tp td fm tt vl wr bO sO nU mV)).map (fun z8 => z8.1)) (MW cI cJ A sS kS oS aS tS ik cA tp td fm tt vl wr (upd bO j b) (upd sO j 0) (zeroL nU j i) mV) ∧ va_S (fun z9 => z9 ∈ ((MW cI cJ A sS kS oS aS tS ik cA tp td fm tt vl wr bO sO nU mV)).map (fun z8 => z8.1)) s.heap H locs ∧ lv_has ls 5 [(0, .ref (A 0)), (1, .int (nI j)), (2, .int b), (3, .int k), (4, .int (nI i))]) ?_ (0) ⟨Nat.zero_le _, hP, hD, hS, lv_sub hl [1, 2, 3, 4, 0] rfl⟩
            rintro i H locs ls ⟨hi, hP, hD, hS, hl⟩ ih86
            try dsimp only at ih86 ⊢
            refine lv_iload hx hb dX4_sheet_86 (lv_at hl 4 rfl) ?_
            refine lv_bipush (v := 40) hx hb dX4_sheet_88 rfl ?_
            refine lv_icmp_ge (tgt := 112) hx hb dX4_sheet_90 rfl (fun c90 => ?_) (fun c90 => ?_)
            · replace c90 := nq_le (a := 40) (b := i) (by omega) (by omega) c90
              obtain rfl : i = 40 := by omega
              refine lv_aload_n hx hb dX4_sheet_112 rfl (lv_at hl 0 rfl) ?_
              refine va_get (ci := 4) (v := .ref (A 9)) hx hb hts wx_X4 hown hK hP 0 rfl rfl 14 (by decide) (hts _ wf_X4_34) (fun _ h9 => h9) rfl dX4_sheet_113 ?_
              refine lv_iload_n hx hb dX4_sheet_116 rfl (lv_at hl 1 rfl) ?_
              refine ia_ld hx hb hK hP 9 0 rfl rfl j (rfl) (by omega) (by decide) dX4_sheet_117 ?_
              have hE : tS = shtT tS (nI j) b k := by simp [shtR, shtT, shtB, shtS, shtU, shtW, shtZ, bitsOk, pk_us, bump, put9, b2i, c4, c8, c37, c51, c74, c90, ej, i_lt, -Int32.not_le, -Int32.not_lt]
              have hW : (MW cI cJ A sS kS oS aS tS ik cA tp td fm tt vl wr (upd bO j b) (upd sO j 0) (zeroL nU j 40) mV) = (MW cI cJ A sS kS oS aS (shtT tS (nI j) b k) ik cA tp td fm tt vl wr (upd bO j b) (upd sO j 0) (zeroL nU j 40) mV) := congrArg (fun z => (MW cI cJ A sS kS oS aS z ik cA tp td fm tt vl wr (upd bO j b) (upd sO j 0) (zeroL nU j 40) mV)) hE
              have hP : va_P D vwCl (MW cI cJ A sS kS oS aS (shtT tS (nI j) b k) ik cA tp td fm tt vl wr (upd bO j b) (upd sO j 0) (zeroL nU j 40) mV) H := Eq.mp (congrArg (fun z => va_P D vwCl z H) hW) hP
              have hD : va_D _ (MW cI cJ A sS kS oS aS (shtT tS (nI j) b k) ik cA tp td fm tt vl wr (upd bO j b) (upd sO j 0) (zeroL nU j 40) mV) := Eq.mp (congrArg (fun z => va_D _ z) hW) hD
              have hE : upd bO j b = shtB bO (nI j) b k := by simp [shtR, shtT, shtB, shtS, shtU, shtW, shtZ, bitsOk, pk_us, bump, put9, b2i, c4, c8, c37, c51, c74, c90, ej, i_lt, -Int32.not_le, -Int32.not_lt]
              have hW : (MW cI cJ A sS kS oS aS (shtT tS (nI j) b k) ik cA tp td fm tt vl wr (upd bO j b) (upd sO j 0) (zeroL nU j 40) mV) = (MW cI cJ A sS kS oS aS (shtT tS (nI j) b k) ik cA tp td fm tt vl wr (shtB bO (nI j) b k) (upd sO j 0) (zeroL nU j 40) mV) := congrArg (fun z => (MW cI cJ A sS kS oS aS (shtT tS (nI j) b k) ik cA tp td fm tt vl wr z (upd sO j 0) (zeroL nU j 40) mV)) hE
              have hP : va_P D vwCl (MW cI cJ A sS kS oS aS (shtT tS (nI j) b k) ik cA tp td fm tt vl wr (shtB bO (nI j) b k) (upd sO j 0) (zeroL nU j 40) mV) H := Eq.mp (congrArg (fun z => va_P D vwCl z H) hW) hP
              have hD : va_D _ (MW cI cJ A sS kS oS aS (shtT tS (nI j) b k) ik cA tp td fm tt vl wr (shtB bO (nI j) b k) (upd sO j 0) (zeroL nU j 40) mV) := Eq.mp (congrArg (fun z => va_D _ z) hW) hD
              have hE : upd sO j 0 = shtS sO (nI j) b k := by simp [shtR, shtT, shtB, shtS, shtU, shtW, shtZ, bitsOk, pk_us, bump, put9, b2i, c4, c8, c37, c51, c74, c90, ej, i_lt, -Int32.not_le, -Int32.not_lt]
              have hW : (MW cI cJ A sS kS oS aS (shtT tS (nI j) b k) ik cA tp td fm tt vl wr (shtB bO (nI j) b k) (upd sO j 0) (zeroL nU j 40) mV) = (MW cI cJ A sS kS oS aS (shtT tS (nI j) b k) ik cA tp td fm tt vl wr (shtB bO (nI j) b k) (shtS sO (nI j) b k) (zeroL nU j 40) mV) := congrArg (fun z => (MW cI cJ A sS kS oS aS (shtT tS (nI j) b k) ik cA tp td fm tt vl wr (shtB bO (nI j) b k) z (zeroL nU j 40) mV)) hE
              have hP : va_P D vwCl (MW cI cJ A sS kS oS aS (shtT tS (nI j) b k) ik cA tp td fm tt vl wr (shtB bO (nI j) b k) (shtS sO (nI j) b k) (zeroL nU j 40) mV) H := Eq.mp (congrArg (fun z => va_P D vwCl z H) hW) hP
              have hD : va_D _ (MW cI cJ A sS kS oS aS (shtT tS (nI j) b k) ik cA tp td fm tt vl wr (shtB bO (nI j) b k) (shtS sO (nI j) b k) (zeroL nU j 40) mV) := Eq.mp (congrArg (fun z => va_D _ z) hW) hD
              have hE : zeroL nU j 40 = shtU nU (nI j) b k := by simp [shtR, shtT, shtB, shtS, shtU, shtW, shtZ, bitsOk, pk_us, bump, put9, b2i, c4, c8, c37, c51, c74, c90, ej, i_lt, -Int32.not_le, -Int32.not_lt]
              have hW : (MW cI cJ A sS kS oS aS (shtT tS (nI j) b k) ik cA tp td fm tt vl wr (shtB bO (nI j) b k) (shtS sO (nI j) b k) (zeroL nU j 40) mV) = (MW cI cJ A sS kS oS aS (shtT tS (nI j) b k) ik cA tp td fm tt vl wr (shtB bO (nI j) b k) (shtS sO (nI j) b k) (shtU nU (nI j) b k) mV) := congrArg (fun z => (MW cI cJ A sS kS oS aS (shtT tS (nI j) b k) ik cA tp td fm tt vl wr (shtB bO (nI j) b k) (shtS sO (nI j) b k) z mV)) hE
              have hP : va_P D vwCl (MW cI cJ A sS kS oS aS (shtT tS (nI j) b k) ik cA tp td fm tt vl wr (shtB bO (nI j) b k) (shtS sO (nI j) b k) (shtU nU (nI j) b k) mV) H := Eq.mp (congrArg (fun z => va_P D vwCl z H) hW) hP
              have hD : va_D _ (MW cI cJ A sS kS oS aS (shtT tS (nI j) b k) ik cA tp td fm tt vl wr (shtB bO (nI j) b k) (shtS sO (nI j) b k) (shtU nU (nI j) b k) mV) := Eq.mp (congrArg (fun z => va_D _ z) hW) hD
              exact mu_iret (MW cI cJ A sS kS oS aS (shtT tS (nI j) b k) ik cA tp td fm tt vl wr (shtB bO (nI j) b k) (shtS sO (nI j) b k) (shtU nU (nI j) b k) mV) hx hb hr hlk hP hS rfl (⟨congrArg (fun z => some (Value.int z)) (by simp [shtR, shtT, shtB, shtS, shtU, shtW, shtZ, bitsOk, pk_us, bump, put9, b2i, c4, c8, c37, c51, c74, c90, ej, i_lt, -Int32.not_le, -Int32.not_lt]), rfl⟩) dX4_sheet_118
            · replace c90 := nq_nle (a := 40) (b := i) (by omega) (by omega) c90
              refine lv_aload_n hx hb dX4_sheet_93 rfl (lv_at hl 0 rfl) ?_
              refine va_get (ci := 4) (v := .ref (A 10)) hx hb hts wx_X4 hown hK hP 0 rfl rfl 15 (by decide) (hts _ wf_X4_37) (fun _ h9 => h9) rfl dX4_sheet_94 ?_
              refine lv_bipush (v := 40) hx hb dX4_sheet_97 rfl ?_
              refine lv_iload_n hx hb dX4_sheet_99 rfl (lv_at hl 1 rfl) ?_
              refine lv_imul hx hb dX4_sheet_100 ?_
              refine lv_iload hx hb dX4_sheet_101 (lv_at hl 4 rfl) ?_
              refine lv_iadd hx hb dX4_sheet_103 ?_
              refine lv_lconst (v := 0) hx hb dX4_sheet_104 rfl ?_
              refine la_st hx hb hK hP hD hS 10 1 rfl rfl (40 * j + i) (nI_40 j i) (by omega) (by decide) dX4_sheet_105 (fun H locs hP hD hS => ?_)
              have hP : va_P D vwCl (MW cI cJ A sS kS oS aS tS ik cA tp td fm tt vl wr (upd bO j b) (upd sO j 0) (vp_updL (zeroL nU j i) (40 * j + i) 0) mV) H := hP
              have hD : va_D _ (MW cI cJ A sS kS oS aS tS ik cA tp td fm tt vl wr (upd bO j b) (upd sO j 0) (vp_updL (zeroL nU j i) (40 * j + i) 0) mV) := hD
              have hE : vp_updL (zeroL nU j i) (40 * j + i) 0 = zeroL nU j (i + 1) := zeroL_s
              have hW : (MW cI cJ A sS kS oS aS tS ik cA tp td fm tt vl wr (upd bO j b) (upd sO j 0) (vp_updL (zeroL nU j i) (40 * j + i) 0) mV) = (MW cI cJ A sS kS oS aS tS ik cA tp td fm tt vl wr (upd bO j b) (upd sO j 0) (zeroL nU j (i + 1)) mV) := congrArg (fun z => (MW cI cJ A sS kS oS aS tS ik cA tp td fm tt vl wr (upd bO j b) (upd sO j 0) z mV)) hE
              have hP : va_P D vwCl (MW cI cJ A sS kS oS aS tS ik cA tp td fm tt vl wr (upd bO j b) (upd sO j 0) (zeroL nU j (i + 1)) mV) H := Eq.mp (congrArg (fun z => va_P D vwCl z H) hW) hP
              have hD : va_D _ (MW cI cJ A sS kS oS aS tS ik cA tp td fm tt vl wr (upd bO j b) (upd sO j 0) (zeroL nU j (i + 1)) mV) := Eq.mp (congrArg (fun z => va_D _ z) hW) hD
              refine lv_iinc (v := nI (i + 1)) (lv' := [(4, .int (nI (i + 1))), (0, .ref (A 0)), (1, .int (nI j)), (2, .int b), (3, .int k)]) hx hb dX4_sheet_106 hl (k := 4) rfl (nI_inc _) (by decide) rfl (fun ls hl => ?_)
              refine lv_goto (tgt := 86) hx hb dX4_sheet_109 rfl ?_
              exact ih86 (i + 1) _ _ ls (by first | omega | (dsimp only; omega)) ⟨(by omega), hP, hD, hS, lv_sub hl [1, 2, 3, 4, 0] rfl⟩
        · refine lv_aload_n hx hb dX4_sheet_54 rfl (lv_at hl 0 rfl) ?_
          refine lv_ldc (v := (-1000000001)) hx hb hown (hts _ wq_X4_44) dX4_sheet_55 ?_
          refine mu_W (w := (MW cI cJ A sS kS oS aS tS ik cA tp td fm tt vl wr bO sO nU mV)) (rest := []) S hK hP hD hS (k_X4_finds 0 (-1000000001) (by decide) (by decide)) gv_X4_63 hd_X4_finds ⟨Nat.le_of_ble_eq_true rfl, Nat.le_of_ble_eq_true rfl⟩ 4 rfl rfl rfl rfl hl.1 (lv_room (Nat.le_of_ble_eq_true rfl)) dX4_sheet_57 ⟨Nat.zero_le _, Nat.zero_le _⟩ (fun ov w' H locs hp hP hD hS => ?_)
          obtain ⟨rfl, rfl⟩ := hp
          refine W.eq (g2 := F0 m 60 ls [.int (-1000000001)]) rfl ?_
          have hE : upd tS 0 (tS 0 + 1) = shtT tS (nI j) b k := by simp [shtR, shtT, shtB, shtS, shtU, shtW, shtZ, bitsOk, pk_us, bump, put9, b2i, c4, c8, c37, c51, ej, i_lt, -Int32.not_le, -Int32.not_lt]
          have hW : (MW cI cJ A sS kS oS aS (upd tS 0 (tS 0 + 1)) ik cA tp td fm tt vl wr bO sO nU mV) = (MW cI cJ A sS kS oS aS (shtT tS (nI j) b k) ik cA tp td fm tt vl wr bO sO nU mV) := congrArg (fun z => (MW cI cJ A sS kS oS aS z ik cA tp td fm tt vl wr bO sO nU mV)) hE
          have hP : va_P D vwCl (MW cI cJ A sS kS oS aS (shtT tS (nI j) b k) ik cA tp td fm tt vl wr bO sO nU mV) H := Eq.mp (congrArg (fun z => va_P D vwCl z H) hW) hP
          have hD : va_D _ (MW cI cJ A sS kS oS aS (shtT tS (nI j) b k) ik cA tp td fm tt vl wr bO sO nU mV) := Eq.mp (congrArg (fun z => va_D _ z) hW) hD
          have hE : bO = shtB bO (nI j) b k := by simp [shtR, shtT, shtB, shtS, shtU, shtW, shtZ, bitsOk, pk_us, bump, put9, b2i, c4, c8, c37, c51, ej, i_lt, -Int32.not_le, -Int32.not_lt]
          have hW : (MW cI cJ A sS kS oS aS (shtT tS (nI j) b k) ik cA tp td fm tt vl wr bO sO nU mV) = (MW cI cJ A sS kS oS aS (shtT tS (nI j) b k) ik cA tp td fm tt vl wr (shtB bO (nI j) b k) sO nU mV) := congrArg (fun z => (MW cI cJ A sS kS oS aS (shtT tS (nI j) b k) ik cA tp td fm tt vl wr z sO nU mV)) hE
          have hP : va_P D vwCl (MW cI cJ A sS kS oS aS (shtT tS (nI j) b k) ik cA tp td fm tt vl wr (shtB bO (nI j) b k) sO nU mV) H := Eq.mp (congrArg (fun z => va_P D vwCl z H) hW) hP
          have hD : va_D _ (MW cI cJ A sS kS oS aS (shtT tS (nI j) b k) ik cA tp td fm tt vl wr (shtB bO (nI j) b k) sO nU mV) := Eq.mp (congrArg (fun z => va_D _ z) hW) hD
          have hE : sO = shtS sO (nI j) b k := by simp [shtR, shtT, shtB, shtS, shtU, shtW, shtZ, bitsOk, pk_us, bump, put9, b2i, c4, c8, c37, c51, ej, i_lt, -Int32.not_le, -Int32.not_lt]
          have hW : (MW cI cJ A sS kS oS aS (shtT tS (nI j) b k) ik cA tp td fm tt vl wr (shtB bO (nI j) b k) sO nU mV) = (MW cI cJ A sS kS oS aS (shtT tS (nI j) b k) ik cA tp td fm tt vl wr (shtB bO (nI j) b k) (shtS sO (nI j) b k) nU mV) := congrArg (fun z => (MW cI cJ A sS kS oS aS (shtT tS (nI j) b k) ik cA tp td fm tt vl wr (shtB bO (nI j) b k) z nU mV)) hE
          have hP : va_P D vwCl (MW cI cJ A sS kS oS aS (shtT tS (nI j) b k) ik cA tp td fm tt vl wr (shtB bO (nI j) b k) (shtS sO (nI j) b k) nU mV) H := Eq.mp (congrArg (fun z => va_P D vwCl z H) hW) hP
          have hD : va_D _ (MW cI cJ A sS kS oS aS (shtT tS (nI j) b k) ik cA tp td fm tt vl wr (shtB bO (nI j) b k) (shtS sO (nI j) b k) nU mV) := Eq.mp (congrArg (fun z => va_D _ z) hW) hD
          have hE : nU = shtU nU (nI j) b k := by simp [shtR, shtT, shtB, shtS, shtU, shtW, shtZ, bitsOk, pk_us, bump, put9, b2i, c4, c8, c37, c51, ej, i_lt, -Int32.not_le, -Int32.not_lt]
          have hW : (MW cI cJ A sS kS oS aS (shtT tS (nI j) b k) ik cA tp td fm tt vl wr (shtB bO (nI j) b k) (shtS sO (nI j) b k) nU mV) = (MW cI cJ A sS kS oS aS (shtT tS (nI j) b k) ik cA tp td fm tt vl wr (shtB bO (nI j) b k) (shtS sO (nI j) b k) (shtU nU (nI j) b k) mV) := congrArg (fun z => (MW cI cJ A sS kS oS aS (shtT tS (nI j) b k) ik cA tp td fm tt vl wr (shtB bO (nI j) b k) (shtS sO (nI j) b k) z mV)) hE
          have hP : va_P D vwCl (MW cI cJ A sS kS oS aS (shtT tS (nI j) b k) ik cA tp td fm tt vl wr (shtB bO (nI j) b k) (shtS sO (nI j) b k) (shtU nU (nI j) b k) mV) H := Eq.mp (congrArg (fun z => va_P D vwCl z H) hW) hP
          have hD : va_D _ (MW cI cJ A sS kS oS aS (shtT tS (nI j) b k) ik cA tp td fm tt vl wr (shtB bO (nI j) b k) (shtS sO (nI j) b k) (shtU nU (nI j) b k) mV) := Eq.mp (congrArg (fun z => va_D _ z) hW) hD
          exact mu_iret (MW cI cJ A sS kS oS aS (shtT tS (nI j) b k) ik cA tp td fm tt vl wr (shtB bO (nI j) b k) (shtS sO (nI j) b k) (shtU nU (nI j) b k) mV) hx hb hr hlk hP hS rfl (⟨congrArg (fun z => some (Value.int z)) (by simp [shtR, shtT, shtB, shtS, shtU, shtW, shtZ, bitsOk, pk_us, bump, put9, b2i, c4, c8, c37, c51, ej, i_lt, -Int32.not_le, -Int32.not_lt]), rfl⟩) dX4_sheet_60
      · refine lv_aload_n hx hb dX4_sheet_40 rfl (lv_at hl 0 rfl) ?_
        refine lv_ldcw (v := (-1000000007)) hx hb hown (hts _ wq_X4_322) dX4_sheet_41 ?_
        refine mu_W (w := (MW cI cJ A sS kS oS aS tS ik cA tp td fm tt vl wr bO sO nU mV)) (rest := []) S hK hP hD hS (k_X4_finds 6 (-1000000007) (by decide) (by decide)) gv_X4_63 hd_X4_finds ⟨Nat.le_of_ble_eq_true rfl, Nat.le_of_ble_eq_true rfl⟩ 4 rfl rfl rfl rfl hl.1 (lv_room (Nat.le_of_ble_eq_true rfl)) dX4_sheet_44 ⟨Nat.zero_le _, Nat.zero_le _⟩ (fun ov w' H locs hp hP hD hS => ?_)
        obtain ⟨rfl, rfl⟩ := hp
        refine W.eq (g2 := F0 m 47 ls [.int (-1000000007)]) rfl ?_
        have hE : upd tS 6 (tS 6 + 1) = shtT tS (nI j) b k := by simp [shtR, shtT, shtB, shtS, shtU, shtW, shtZ, bitsOk, pk_us, bump, put9, b2i, c4, c8, c37, ej, i_lt, -Int32.not_le, -Int32.not_lt]
        have hW : (MW cI cJ A sS kS oS aS (upd tS 6 (tS 6 + 1)) ik cA tp td fm tt vl wr bO sO nU mV) = (MW cI cJ A sS kS oS aS (shtT tS (nI j) b k) ik cA tp td fm tt vl wr bO sO nU mV) := congrArg (fun z => (MW cI cJ A sS kS oS aS z ik cA tp td fm tt vl wr bO sO nU mV)) hE
        have hP : va_P D vwCl (MW cI cJ A sS kS oS aS (shtT tS (nI j) b k) ik cA tp td fm tt vl wr bO sO nU mV) H := Eq.mp (congrArg (fun z => va_P D vwCl z H) hW) hP
        have hD : va_D _ (MW cI cJ A sS kS oS aS (shtT tS (nI j) b k) ik cA tp td fm tt vl wr bO sO nU mV) := Eq.mp (congrArg (fun z => va_D _ z) hW) hD
        have hE : bO = shtB bO (nI j) b k := by simp [shtR, shtT, shtB, shtS, shtU, shtW, shtZ, bitsOk, pk_us, bump, put9, b2i, c4, c8, c37, ej, i_lt, -Int32.not_le, -Int32.not_lt]
        have hW : (MW cI cJ A sS kS oS aS (shtT tS (nI j) b k) ik cA tp td fm tt vl wr bO sO nU mV) = (MW cI cJ A sS kS oS aS (shtT tS (nI j) b k) ik cA tp td fm tt vl wr (shtB bO (nI j) b k) sO nU mV) := congrArg (fun z => (MW cI cJ A sS kS oS aS (shtT tS (nI j) b k) ik cA tp td fm tt vl wr z sO nU mV)) hE
        have hP : va_P D vwCl (MW cI cJ A sS kS oS aS (shtT tS (nI j) b k) ik cA tp td fm tt vl wr (shtB bO (nI j) b k) sO nU mV) H := Eq.mp (congrArg (fun z => va_P D vwCl z H) hW) hP
        have hD : va_D _ (MW cI cJ A sS kS oS aS (shtT tS (nI j) b k) ik cA tp td fm tt vl wr (shtB bO (nI j) b k) sO nU mV) := Eq.mp (congrArg (fun z => va_D _ z) hW) hD
        have hE : sO = shtS sO (nI j) b k := by simp [shtR, shtT, shtB, shtS, shtU, shtW, shtZ, bitsOk, pk_us, bump, put9, b2i, c4, c8, c37, ej, i_lt, -Int32.not_le, -Int32.not_lt]
        have hW : (MW cI cJ A sS kS oS aS (shtT tS (nI j) b k) ik cA tp td fm tt vl wr (shtB bO (nI j) b k) sO nU mV) = (MW cI cJ A sS kS oS aS (shtT tS (nI j) b k) ik cA tp td fm tt vl wr (shtB bO (nI j) b k) (shtS sO (nI j) b k) nU mV) := congrArg (fun z => (MW cI cJ A sS kS oS aS (shtT tS (nI j) b k) ik cA tp td fm tt vl wr (shtB bO (nI j) b k) z nU mV)) hE
        have hP : va_P D vwCl (MW cI cJ A sS kS oS aS (shtT tS (nI j) b k) ik cA tp td fm tt vl wr (shtB bO (nI j) b k) (shtS sO (nI j) b k) nU mV) H := Eq.mp (congrArg (fun z => va_P D vwCl z H) hW) hP
        have hD : va_D _ (MW cI cJ A sS kS oS aS (shtT tS (nI j) b k) ik cA tp td fm tt vl wr (shtB bO (nI j) b k) (shtS sO (nI j) b k) nU mV) := Eq.mp (congrArg (fun z => va_D _ z) hW) hD
        have hE : nU = shtU nU (nI j) b k := by simp [shtR, shtT, shtB, shtS, shtU, shtW, shtZ, bitsOk, pk_us, bump, put9, b2i, c4, c8, c37, ej, i_lt, -Int32.not_le, -Int32.not_lt]
        have hW : (MW cI cJ A sS kS oS aS (shtT tS (nI j) b k) ik cA tp td fm tt vl wr (shtB bO (nI j) b k) (shtS sO (nI j) b k) nU mV) = (MW cI cJ A sS kS oS aS (shtT tS (nI j) b k) ik cA tp td fm tt vl wr (shtB bO (nI j) b k) (shtS sO (nI j) b k) (shtU nU (nI j) b k) mV) := congrArg (fun z => (MW cI cJ A sS kS oS aS (shtT tS (nI j) b k) ik cA tp td fm tt vl wr (shtB bO (nI j) b k) (shtS sO (nI j) b k) z mV)) hE
        have hP : va_P D vwCl (MW cI cJ A sS kS oS aS (shtT tS (nI j) b k) ik cA tp td fm tt vl wr (shtB bO (nI j) b k) (shtS sO (nI j) b k) (shtU nU (nI j) b k) mV) H := Eq.mp (congrArg (fun z => va_P D vwCl z H) hW) hP
        have hD : va_D _ (MW cI cJ A sS kS oS aS (shtT tS (nI j) b k) ik cA tp td fm tt vl wr (shtB bO (nI j) b k) (shtS sO (nI j) b k) (shtU nU (nI j) b k) mV) := Eq.mp (congrArg (fun z => va_D _ z) hW) hD
        exact mu_iret (MW cI cJ A sS kS oS aS (shtT tS (nI j) b k) ik cA tp td fm tt vl wr (shtB bO (nI j) b k) (shtS sO (nI j) b k) (shtU nU (nI j) b k) mV) hx hb hr hlk hP hS rfl (⟨congrArg (fun z => some (Value.int z)) (by simp [shtR, shtT, shtB, shtS, shtU, shtW, shtZ, bitsOk, pk_us, bump, put9, b2i, c4, c8, c37, ej, i_lt, -Int32.not_le, -Int32.not_lt]), rfl⟩) dX4_sheet_47
    · refine lv_iload_n hx hb dX4_sheet_11 rfl (lv_at hl 2 rfl) ?_
      refine lv_bipush (v := 8) hx hb dX4_sheet_12 rfl ?_
      refine lv_icmp_eq (tgt := 36) hx hb dX4_sheet_14 rfl (fun c14 => ?_) (fun c14 => ?_)
      · refine lv_iload_n hx hb dX4_sheet_36 rfl (lv_at hl 3 rfl) ?_
        refine lv_if_ge (tgt := 48) hx hb dX4_sheet_37 rfl (fun c37 => ?_) (fun c37 => ?_)
        · refine lv_iload_n hx hb dX4_sheet_48 rfl (lv_at hl 3 rfl) ?_
          refine lv_bipush (v := 40) hx hb dX4_sheet_49 rfl ?_
          refine lv_icmp_le (tgt := 61) hx hb dX4_sheet_51 rfl (fun c51 => ?_) (fun c51 => ?_)
          · refine lv_aload_n hx hb dX4_sheet_61 rfl (lv_at hl 0 rfl) ?_
            refine va_get (ci := 4) (v := .ref (A 8)) hx hb hts wx_X4 hown hK hP 0 rfl rfl 13 (by decide) (hts _ wf_X4_31) (fun _ h9 => h9) rfl dX4_sheet_62 ?_
            refine lv_iload_n hx hb dX4_sheet_65 rfl (lv_at hl 1 rfl) ?_
            refine lv_iload_n hx hb dX4_sheet_66 rfl (lv_at hl 2 rfl) ?_
            refine ia_st hx hb hK hP hD hS 8 0 rfl rfl j (rfl) (by omega) (by decide) dX4_sheet_67 (fun H locs hP hD hS => ?_)
            have hP : va_P D vwCl (MW cI cJ A sS kS oS aS tS ik cA tp td fm tt vl wr (upd bO j b) sO nU mV) H := hP
            have hD : va_D _ (MW cI cJ A sS kS oS aS tS ik cA tp td fm tt vl wr (upd bO j b) sO nU mV) := hD
            refine lv_aload_n hx hb dX4_sheet_68 rfl (lv_at hl 0 rfl) ?_
            refine va_get (ci := 4) (v := .ref (A 9)) hx hb hts wx_X4 hown hK hP 0 rfl rfl 14 (by decide) (hts _ wf_X4_34) (fun _ h9 => h9) rfl dX4_sheet_69 ?_
            refine lv_iload_n hx hb dX4_sheet_72 rfl (lv_at hl 1 rfl) ?_
            refine lv_iload_n hx hb dX4_sheet_73 rfl (lv_at hl 2 rfl) ?_
            refine lv_if_ne (tgt := 81) hx hb dX4_sheet_74 rfl (fun c74 => ?_) (fun c74 => ?_)
            · refine lv_iload_n hx hb dX4_sheet_81 rfl (lv_at hl 3 rfl) ?_
              refine ia_st hx hb hK hP hD hS 9 0 rfl rfl j (rfl) (by omega) (by decide) dX4_sheet_82 (fun H locs hP hD hS => ?_)
              have hP : va_P D vwCl (MW cI cJ A sS kS oS aS tS ik cA tp td fm tt vl wr (upd bO j b) (upd sO j k) nU mV) H := hP
              have hD : va_D _ (MW cI cJ A sS kS oS aS tS ik cA tp td fm tt vl wr (upd bO j b) (upd sO j k) nU mV) := hD
              refine lv_iconst (v := 0) hx hb dX4_sheet_83 rfl ?_
              have hE : nU = zeroL nU j 0 := zeroL_0 _ _
              have hW : (MW cI cJ A sS kS oS aS tS ik cA tp td fm tt vl wr (upd bO j b) (upd sO j k) nU mV) = (MW cI cJ A sS kS oS aS tS ik cA tp td fm tt vl wr (upd bO j b) (upd sO j k) (zeroL nU j 0) mV) := congrArg (fun z => (MW cI cJ A sS kS oS aS tS ik cA tp td fm tt vl wr (upd bO j b) (upd sO j k) z mV)) hE
              have hP : va_P D vwCl (MW cI cJ A sS kS oS aS tS ik cA tp td fm tt vl wr (upd bO j b) (upd sO j k) (zeroL nU j 0) mV) H := Eq.mp (congrArg (fun z => va_P D vwCl z H) hW) hP
              have hD : va_D _ (MW cI cJ A sS kS oS aS tS ik cA tp td fm tt vl wr (upd bO j b) (upd sO j k) (zeroL nU j 0) mV) := Eq.mp (congrArg (fun z => va_D _ z) hW) hD
              refine lv_istore (lv' := [(4, .int 0), (0, .ref (A 0)), (1, .int (nI j)), (2, .int b), (3, .int k)]) hx hb dX4_sheet_84 hl (by decide) rfl (fun ls hl => ?_)
              refine w_loopH (pc := 86) (st := fun (i : Nat) => []) (μ := fun (i : Nat) => 40 - i) (I := fun (i : Nat) H locs ls => (i ≤ 40) ∧ va_P D vwCl (MW cI cJ A sS kS oS aS tS ik cA tp td fm tt vl wr (upd bO j b) (upd sO j k) (zeroL nU j i) mV) H ∧ va_D (fun z9 => z9 ∈ ((MW cI cJ A sS kS oS aS tS ik cA tp td fm tt vl wr bO sO nU mV)).map (fun z8 => z8.1)) (MW cI cJ A sS kS oS aS tS ik cA tp td fm tt vl wr (upd bO j b) (upd sO j k) (zeroL nU j i) mV) ∧ va_S (fun z9 => z9 ∈ ((MW cI cJ A sS kS oS aS tS ik cA tp td fm tt vl wr bO sO nU mV)).map (fun z8 => z8.1)) s.heap H locs ∧ lv_has ls 5 [(0, .ref (A 0)), (1, .int (nI j)), (2, .int b), (3, .int k), (4, .int (nI i))]) ?_ (0) ⟨Nat.zero_le _, hP, hD, hS, lv_sub hl [1, 2, 3, 4, 0] rfl⟩
              rintro i H locs ls ⟨hi, hP, hD, hS, hl⟩ ih86
              try dsimp only at ih86 ⊢
              refine lv_iload hx hb dX4_sheet_86 (lv_at hl 4 rfl) ?_
              refine lv_bipush (v := 40) hx hb dX4_sheet_88 rfl ?_
              refine lv_icmp_ge (tgt := 112) hx hb dX4_sheet_90 rfl (fun c90 => ?_) (fun c90 => ?_)
              · replace c90 := nq_le (a := 40) (b := i) (by omega) (by omega) c90
                obtain rfl : i = 40 := by omega
                refine lv_aload_n hx hb dX4_sheet_112 rfl (lv_at hl 0 rfl) ?_
                refine va_get (ci := 4) (v := .ref (A 9)) hx hb hts wx_X4 hown hK hP 0 rfl rfl 14 (by decide) (hts _ wf_X4_34) (fun _ h9 => h9) rfl dX4_sheet_113 ?_
                refine lv_iload_n hx hb dX4_sheet_116 rfl (lv_at hl 1 rfl) ?_
                refine ia_ld hx hb hK hP 9 0 rfl rfl j (rfl) (by omega) (by decide) dX4_sheet_117 ?_
                have hE : tS = shtT tS (nI j) b k := by simp [shtR, shtT, shtB, shtS, shtU, shtW, shtZ, bitsOk, pk_us, bump, put9, b2i, c4, c8, c14, c37, c51, c74, c90, ej, i_lt, -Int32.not_le, -Int32.not_lt]
                have hW : (MW cI cJ A sS kS oS aS tS ik cA tp td fm tt vl wr (upd bO j b) (upd sO j k) (zeroL nU j 40) mV) = (MW cI cJ A sS kS oS aS (shtT tS (nI j) b k) ik cA tp td fm tt vl wr (upd bO j b) (upd sO j k) (zeroL nU j 40) mV) := congrArg (fun z => (MW cI cJ A sS kS oS aS z ik cA tp td fm tt vl wr (upd bO j b) (upd sO j k) (zeroL nU j 40) mV)) hE
                have hP : va_P D vwCl (MW cI cJ A sS kS oS aS (shtT tS (nI j) b k) ik cA tp td fm tt vl wr (upd bO j b) (upd sO j k) (zeroL nU j 40) mV) H := Eq.mp (congrArg (fun z => va_P D vwCl z H) hW) hP
                have hD : va_D _ (MW cI cJ A sS kS oS aS (shtT tS (nI j) b k) ik cA tp td fm tt vl wr (upd bO j b) (upd sO j k) (zeroL nU j 40) mV) := Eq.mp (congrArg (fun z => va_D _ z) hW) hD
                have hE : upd bO j b = shtB bO (nI j) b k := by simp [shtR, shtT, shtB, shtS, shtU, shtW, shtZ, bitsOk, pk_us, bump, put9, b2i, c4, c8, c14, c37, c51, c74, c90, ej, i_lt, -Int32.not_le, -Int32.not_lt]
                have hW : (MW cI cJ A sS kS oS aS (shtT tS (nI j) b k) ik cA tp td fm tt vl wr (upd bO j b) (upd sO j k) (zeroL nU j 40) mV) = (MW cI cJ A sS kS oS aS (shtT tS (nI j) b k) ik cA tp td fm tt vl wr (shtB bO (nI j) b k) (upd sO j k) (zeroL nU j 40) mV) := congrArg (fun z => (MW cI cJ A sS kS oS aS (shtT tS (nI j) b k) ik cA tp td fm tt vl wr z (upd sO j k) (zeroL nU j 40) mV)) hE
                have hP : va_P D vwCl (MW cI cJ A sS kS oS aS (shtT tS (nI j) b k) ik cA tp td fm tt vl wr (shtB bO (nI j) b k) (upd sO j k) (zeroL nU j 40) mV) H := Eq.mp (congrArg (fun z => va_P D vwCl z H) hW) hP
                have hD : va_D _ (MW cI cJ A sS kS oS aS (shtT tS (nI j) b k) ik cA tp td fm tt vl wr (shtB bO (nI j) b k) (upd sO j k) (zeroL nU j 40) mV) := Eq.mp (congrArg (fun z => va_D _ z) hW) hD
                have hE : upd sO j k = shtS sO (nI j) b k := by simp [shtR, shtT, shtB, shtS, shtU, shtW, shtZ, bitsOk, pk_us, bump, put9, b2i, c4, c8, c14, c37, c51, c74, c90, ej, i_lt, -Int32.not_le, -Int32.not_lt]
                have hW : (MW cI cJ A sS kS oS aS (shtT tS (nI j) b k) ik cA tp td fm tt vl wr (shtB bO (nI j) b k) (upd sO j k) (zeroL nU j 40) mV) = (MW cI cJ A sS kS oS aS (shtT tS (nI j) b k) ik cA tp td fm tt vl wr (shtB bO (nI j) b k) (shtS sO (nI j) b k) (zeroL nU j 40) mV) := congrArg (fun z => (MW cI cJ A sS kS oS aS (shtT tS (nI j) b k) ik cA tp td fm tt vl wr (shtB bO (nI j) b k) z (zeroL nU j 40) mV)) hE
                have hP : va_P D vwCl (MW cI cJ A sS kS oS aS (shtT tS (nI j) b k) ik cA tp td fm tt vl wr (shtB bO (nI j) b k) (shtS sO (nI j) b k) (zeroL nU j 40) mV) H := Eq.mp (congrArg (fun z => va_P D vwCl z H) hW) hP
                have hD : va_D _ (MW cI cJ A sS kS oS aS (shtT tS (nI j) b k) ik cA tp td fm tt vl wr (shtB bO (nI j) b k) (shtS sO (nI j) b k) (zeroL nU j 40) mV) := Eq.mp (congrArg (fun z => va_D _ z) hW) hD
                have hE : zeroL nU j 40 = shtU nU (nI j) b k := by simp [shtR, shtT, shtB, shtS, shtU, shtW, shtZ, bitsOk, pk_us, bump, put9, b2i, c4, c8, c14, c37, c51, c74, c90, ej, i_lt, -Int32.not_le, -Int32.not_lt]
                have hW : (MW cI cJ A sS kS oS aS (shtT tS (nI j) b k) ik cA tp td fm tt vl wr (shtB bO (nI j) b k) (shtS sO (nI j) b k) (zeroL nU j 40) mV) = (MW cI cJ A sS kS oS aS (shtT tS (nI j) b k) ik cA tp td fm tt vl wr (shtB bO (nI j) b k) (shtS sO (nI j) b k) (shtU nU (nI j) b k) mV) := congrArg (fun z => (MW cI cJ A sS kS oS aS (shtT tS (nI j) b k) ik cA tp td fm tt vl wr (shtB bO (nI j) b k) (shtS sO (nI j) b k) z mV)) hE
                have hP : va_P D vwCl (MW cI cJ A sS kS oS aS (shtT tS (nI j) b k) ik cA tp td fm tt vl wr (shtB bO (nI j) b k) (shtS sO (nI j) b k) (shtU nU (nI j) b k) mV) H := Eq.mp (congrArg (fun z => va_P D vwCl z H) hW) hP
                have hD : va_D _ (MW cI cJ A sS kS oS aS (shtT tS (nI j) b k) ik cA tp td fm tt vl wr (shtB bO (nI j) b k) (shtS sO (nI j) b k) (shtU nU (nI j) b k) mV) := Eq.mp (congrArg (fun z => va_D _ z) hW) hD
                exact mu_iret (MW cI cJ A sS kS oS aS (shtT tS (nI j) b k) ik cA tp td fm tt vl wr (shtB bO (nI j) b k) (shtS sO (nI j) b k) (shtU nU (nI j) b k) mV) hx hb hr hlk hP hS rfl (⟨congrArg (fun z => some (Value.int z)) (by simp [shtR, shtT, shtB, shtS, shtU, shtW, shtZ, bitsOk, pk_us, bump, put9, b2i, c4, c8, c14, c37, c51, c74, c90, ej, i_lt, -Int32.not_le, -Int32.not_lt]), rfl⟩) dX4_sheet_118
              · replace c90 := nq_nle (a := 40) (b := i) (by omega) (by omega) c90
                refine lv_aload_n hx hb dX4_sheet_93 rfl (lv_at hl 0 rfl) ?_
                refine va_get (ci := 4) (v := .ref (A 10)) hx hb hts wx_X4 hown hK hP 0 rfl rfl 15 (by decide) (hts _ wf_X4_37) (fun _ h9 => h9) rfl dX4_sheet_94 ?_
                refine lv_bipush (v := 40) hx hb dX4_sheet_97 rfl ?_
                refine lv_iload_n hx hb dX4_sheet_99 rfl (lv_at hl 1 rfl) ?_
                refine lv_imul hx hb dX4_sheet_100 ?_
                refine lv_iload hx hb dX4_sheet_101 (lv_at hl 4 rfl) ?_
                refine lv_iadd hx hb dX4_sheet_103 ?_
                refine lv_lconst (v := 0) hx hb dX4_sheet_104 rfl ?_
                refine la_st hx hb hK hP hD hS 10 1 rfl rfl (40 * j + i) (nI_40 j i) (by omega) (by decide) dX4_sheet_105 (fun H locs hP hD hS => ?_)
                have hP : va_P D vwCl (MW cI cJ A sS kS oS aS tS ik cA tp td fm tt vl wr (upd bO j b) (upd sO j k) (vp_updL (zeroL nU j i) (40 * j + i) 0) mV) H := hP
                have hD : va_D _ (MW cI cJ A sS kS oS aS tS ik cA tp td fm tt vl wr (upd bO j b) (upd sO j k) (vp_updL (zeroL nU j i) (40 * j + i) 0) mV) := hD
                have hE : vp_updL (zeroL nU j i) (40 * j + i) 0 = zeroL nU j (i + 1) := zeroL_s
                have hW : (MW cI cJ A sS kS oS aS tS ik cA tp td fm tt vl wr (upd bO j b) (upd sO j k) (vp_updL (zeroL nU j i) (40 * j + i) 0) mV) = (MW cI cJ A sS kS oS aS tS ik cA tp td fm tt vl wr (upd bO j b) (upd sO j k) (zeroL nU j (i + 1)) mV) := congrArg (fun z => (MW cI cJ A sS kS oS aS tS ik cA tp td fm tt vl wr (upd bO j b) (upd sO j k) z mV)) hE
                have hP : va_P D vwCl (MW cI cJ A sS kS oS aS tS ik cA tp td fm tt vl wr (upd bO j b) (upd sO j k) (zeroL nU j (i + 1)) mV) H := Eq.mp (congrArg (fun z => va_P D vwCl z H) hW) hP
                have hD : va_D _ (MW cI cJ A sS kS oS aS tS ik cA tp td fm tt vl wr (upd bO j b) (upd sO j k) (zeroL nU j (i + 1)) mV) := Eq.mp (congrArg (fun z => va_D _ z) hW) hD
                refine lv_iinc (v := nI (i + 1)) (lv' := [(4, .int (nI (i + 1))), (0, .ref (A 0)), (1, .int (nI j)), (2, .int b), (3, .int k)]) hx hb dX4_sheet_106 hl (k := 4) rfl (nI_inc _) (by decide) rfl (fun ls hl => ?_)
                refine lv_goto (tgt := 86) hx hb dX4_sheet_109 rfl ?_
                exact ih86 (i + 1) _ _ ls (by first | omega | (dsimp only; omega)) ⟨(by omega), hP, hD, hS, lv_sub hl [1, 2, 3, 4, 0] rfl⟩
            · exact absurd c74 c8
          · refine lv_aload_n hx hb dX4_sheet_54 rfl (lv_at hl 0 rfl) ?_
            refine lv_ldc (v := (-1000000001)) hx hb hown (hts _ wq_X4_44) dX4_sheet_55 ?_
            refine mu_W (w := (MW cI cJ A sS kS oS aS tS ik cA tp td fm tt vl wr bO sO nU mV)) (rest := []) S hK hP hD hS (k_X4_finds 0 (-1000000001) (by decide) (by decide)) gv_X4_63 hd_X4_finds ⟨Nat.le_of_ble_eq_true rfl, Nat.le_of_ble_eq_true rfl⟩ 4 rfl rfl rfl rfl hl.1 (lv_room (Nat.le_of_ble_eq_true rfl)) dX4_sheet_57 ⟨Nat.zero_le _, Nat.zero_le _⟩ (fun ov w' H locs hp hP hD hS => ?_)
            obtain ⟨rfl, rfl⟩ := hp
            refine W.eq (g2 := F0 m 60 ls [.int (-1000000001)]) rfl ?_
            have hE : upd tS 0 (tS 0 + 1) = shtT tS (nI j) b k := by simp [shtR, shtT, shtB, shtS, shtU, shtW, shtZ, bitsOk, pk_us, bump, put9, b2i, c4, c8, c14, c37, c51, ej, i_lt, -Int32.not_le, -Int32.not_lt]
            have hW : (MW cI cJ A sS kS oS aS (upd tS 0 (tS 0 + 1)) ik cA tp td fm tt vl wr bO sO nU mV) = (MW cI cJ A sS kS oS aS (shtT tS (nI j) b k) ik cA tp td fm tt vl wr bO sO nU mV) := congrArg (fun z => (MW cI cJ A sS kS oS aS z ik cA tp td fm tt vl wr bO sO nU mV)) hE
            have hP : va_P D vwCl (MW cI cJ A sS kS oS aS (shtT tS (nI j) b k) ik cA tp td fm tt vl wr bO sO nU mV) H := Eq.mp (congrArg (fun z => va_P D vwCl z H) hW) hP
            have hD : va_D _ (MW cI cJ A sS kS oS aS (shtT tS (nI j) b k) ik cA tp td fm tt vl wr bO sO nU mV) := Eq.mp (congrArg (fun z => va_D _ z) hW) hD
            have hE : bO = shtB bO (nI j) b k := by simp [shtR, shtT, shtB, shtS, shtU, shtW, shtZ, bitsOk, pk_us, bump, put9, b2i, c4, c8, c14, c37, c51, ej, i_lt, -Int32.not_le, -Int32.not_lt]
            have hW : (MW cI cJ A sS kS oS aS (shtT tS (nI j) b k) ik cA tp td fm tt vl wr bO sO nU mV) = (MW cI cJ A sS kS oS aS (shtT tS (nI j) b k) ik cA tp td fm tt vl wr (shtB bO (nI j) b k) sO nU mV) := congrArg (fun z => (MW cI cJ A sS kS oS aS (shtT tS (nI j) b k) ik cA tp td fm tt vl wr z sO nU mV)) hE
            have hP : va_P D vwCl (MW cI cJ A sS kS oS aS (shtT tS (nI j) b k) ik cA tp td fm tt vl wr (shtB bO (nI j) b k) sO nU mV) H := Eq.mp (congrArg (fun z => va_P D vwCl z H) hW) hP
            have hD : va_D _ (MW cI cJ A sS kS oS aS (shtT tS (nI j) b k) ik cA tp td fm tt vl wr (shtB bO (nI j) b k) sO nU mV) := Eq.mp (congrArg (fun z => va_D _ z) hW) hD
            have hE : sO = shtS sO (nI j) b k := by simp [shtR, shtT, shtB, shtS, shtU, shtW, shtZ, bitsOk, pk_us, bump, put9, b2i, c4, c8, c14, c37, c51, ej, i_lt, -Int32.not_le, -Int32.not_lt]
            have hW : (MW cI cJ A sS kS oS aS (shtT tS (nI j) b k) ik cA tp td fm tt vl wr (shtB bO (nI j) b k) sO nU mV) = (MW cI cJ A sS kS oS aS (shtT tS (nI j) b k) ik cA tp td fm tt vl wr (shtB bO (nI j) b k) (shtS sO (nI j) b k) nU mV) := congrArg (fun z => (MW cI cJ A sS kS oS aS (shtT tS (nI j) b k) ik cA tp td fm tt vl wr (shtB bO (nI j) b k) z nU mV)) hE
            have hP : va_P D vwCl (MW cI cJ A sS kS oS aS (shtT tS (nI j) b k) ik cA tp td fm tt vl wr (shtB bO (nI j) b k) (shtS sO (nI j) b k) nU mV) H := Eq.mp (congrArg (fun z => va_P D vwCl z H) hW) hP
            have hD : va_D _ (MW cI cJ A sS kS oS aS (shtT tS (nI j) b k) ik cA tp td fm tt vl wr (shtB bO (nI j) b k) (shtS sO (nI j) b k) nU mV) := Eq.mp (congrArg (fun z => va_D _ z) hW) hD
            have hE : nU = shtU nU (nI j) b k := by simp [shtR, shtT, shtB, shtS, shtU, shtW, shtZ, bitsOk, pk_us, bump, put9, b2i, c4, c8, c14, c37, c51, ej, i_lt, -Int32.not_le, -Int32.not_lt]
            have hW : (MW cI cJ A sS kS oS aS (shtT tS (nI j) b k) ik cA tp td fm tt vl wr (shtB bO (nI j) b k) (shtS sO (nI j) b k) nU mV) = (MW cI cJ A sS kS oS aS (shtT tS (nI j) b k) ik cA tp td fm tt vl wr (shtB bO (nI j) b k) (shtS sO (nI j) b k) (shtU nU (nI j) b k) mV) := congrArg (fun z => (MW cI cJ A sS kS oS aS (shtT tS (nI j) b k) ik cA tp td fm tt vl wr (shtB bO (nI j) b k) (shtS sO (nI j) b k) z mV)) hE
            have hP : va_P D vwCl (MW cI cJ A sS kS oS aS (shtT tS (nI j) b k) ik cA tp td fm tt vl wr (shtB bO (nI j) b k) (shtS sO (nI j) b k) (shtU nU (nI j) b k) mV) H := Eq.mp (congrArg (fun z => va_P D vwCl z H) hW) hP
            have hD : va_D _ (MW cI cJ A sS kS oS aS (shtT tS (nI j) b k) ik cA tp td fm tt vl wr (shtB bO (nI j) b k) (shtS sO (nI j) b k) (shtU nU (nI j) b k) mV) := Eq.mp (congrArg (fun z => va_D _ z) hW) hD
            exact mu_iret (MW cI cJ A sS kS oS aS (shtT tS (nI j) b k) ik cA tp td fm tt vl wr (shtB bO (nI j) b k) (shtS sO (nI j) b k) (shtU nU (nI j) b k) mV) hx hb hr hlk hP hS rfl (⟨congrArg (fun z => some (Value.int z)) (by simp [shtR, shtT, shtB, shtS, shtU, shtW, shtZ, bitsOk, pk_us, bump, put9, b2i, c4, c8, c14, c37, c51, ej, i_lt, -Int32.not_le, -Int32.not_lt]), rfl⟩) dX4_sheet_60
        · refine lv_aload_n hx hb dX4_sheet_40 rfl (lv_at hl 0 rfl) ?_
          refine lv_ldcw (v := (-1000000007)) hx hb hown (hts _ wq_X4_322) dX4_sheet_41 ?_
          refine mu_W (w := (MW cI cJ A sS kS oS aS tS ik cA tp td fm tt vl wr bO sO nU mV)) (rest := []) S hK hP hD hS (k_X4_finds 6 (-1000000007) (by decide) (by decide)) gv_X4_63 hd_X4_finds ⟨Nat.le_of_ble_eq_true rfl, Nat.le_of_ble_eq_true rfl⟩ 4 rfl rfl rfl rfl hl.1 (lv_room (Nat.le_of_ble_eq_true rfl)) dX4_sheet_44 ⟨Nat.zero_le _, Nat.zero_le _⟩ (fun ov w' H locs hp hP hD hS => ?_)
          obtain ⟨rfl, rfl⟩ := hp
          refine W.eq (g2 := F0 m 47 ls [.int (-1000000007)]) rfl ?_
          have hE : upd tS 6 (tS 6 + 1) = shtT tS (nI j) b k := by simp [shtR, shtT, shtB, shtS, shtU, shtW, shtZ, bitsOk, pk_us, bump, put9, b2i, c4, c8, c14, c37, ej, i_lt, -Int32.not_le, -Int32.not_lt]
          have hW : (MW cI cJ A sS kS oS aS (upd tS 6 (tS 6 + 1)) ik cA tp td fm tt vl wr bO sO nU mV) = (MW cI cJ A sS kS oS aS (shtT tS (nI j) b k) ik cA tp td fm tt vl wr bO sO nU mV) := congrArg (fun z => (MW cI cJ A sS kS oS aS z ik cA tp td fm tt vl wr bO sO nU mV)) hE
          have hP : va_P D vwCl (MW cI cJ A sS kS oS aS (shtT tS (nI j) b k) ik cA tp td fm tt vl wr bO sO nU mV) H := Eq.mp (congrArg (fun z => va_P D vwCl z H) hW) hP
          have hD : va_D _ (MW cI cJ A sS kS oS aS (shtT tS (nI j) b k) ik cA tp td fm tt vl wr bO sO nU mV) := Eq.mp (congrArg (fun z => va_D _ z) hW) hD
          have hE : bO = shtB bO (nI j) b k := by simp [shtR, shtT, shtB, shtS, shtU, shtW, shtZ, bitsOk, pk_us, bump, put9, b2i, c4, c8, c14, c37, ej, i_lt, -Int32.not_le, -Int32.not_lt]
          have hW : (MW cI cJ A sS kS oS aS (shtT tS (nI j) b k) ik cA tp td fm tt vl wr bO sO nU mV) = (MW cI cJ A sS kS oS aS (shtT tS (nI j) b k) ik cA tp td fm tt vl wr (shtB bO (nI j) b k) sO nU mV) := congrArg (fun z => (MW cI cJ A sS kS oS aS (shtT tS (nI j) b k) ik cA tp td fm tt vl wr z sO nU mV)) hE
          have hP : va_P D vwCl (MW cI cJ A sS kS oS aS (shtT tS (nI j) b k) ik cA tp td fm tt vl wr (shtB bO (nI j) b k) sO nU mV) H := Eq.mp (congrArg (fun z => va_P D vwCl z H) hW) hP
          have hD : va_D _ (MW cI cJ A sS kS oS aS (shtT tS (nI j) b k) ik cA tp td fm tt vl wr (shtB bO (nI j) b k) sO nU mV) := Eq.mp (congrArg (fun z => va_D _ z) hW) hD
          have hE : sO = shtS sO (nI j) b k := by simp [shtR, shtT, shtB, shtS, shtU, shtW, shtZ, bitsOk, pk_us, bump, put9, b2i, c4, c8, c14, c37, ej, i_lt, -Int32.not_le, -Int32.not_lt]
          have hW : (MW cI cJ A sS kS oS aS (shtT tS (nI j) b k) ik cA tp td fm tt vl wr (shtB bO (nI j) b k) sO nU mV) = (MW cI cJ A sS kS oS aS (shtT tS (nI j) b k) ik cA tp td fm tt vl wr (shtB bO (nI j) b k) (shtS sO (nI j) b k) nU mV) := congrArg (fun z => (MW cI cJ A sS kS oS aS (shtT tS (nI j) b k) ik cA tp td fm tt vl wr (shtB bO (nI j) b k) z nU mV)) hE
          have hP : va_P D vwCl (MW cI cJ A sS kS oS aS (shtT tS (nI j) b k) ik cA tp td fm tt vl wr (shtB bO (nI j) b k) (shtS sO (nI j) b k) nU mV) H := Eq.mp (congrArg (fun z => va_P D vwCl z H) hW) hP
          have hD : va_D _ (MW cI cJ A sS kS oS aS (shtT tS (nI j) b k) ik cA tp td fm tt vl wr (shtB bO (nI j) b k) (shtS sO (nI j) b k) nU mV) := Eq.mp (congrArg (fun z => va_D _ z) hW) hD
          have hE : nU = shtU nU (nI j) b k := by simp [shtR, shtT, shtB, shtS, shtU, shtW, shtZ, bitsOk, pk_us, bump, put9, b2i, c4, c8, c14, c37, ej, i_lt, -Int32.not_le, -Int32.not_lt]
          have hW : (MW cI cJ A sS kS oS aS (shtT tS (nI j) b k) ik cA tp td fm tt vl wr (shtB bO (nI j) b k) (shtS sO (nI j) b k) nU mV) = (MW cI cJ A sS kS oS aS (shtT tS (nI j) b k) ik cA tp td fm tt vl wr (shtB bO (nI j) b k) (shtS sO (nI j) b k) (shtU nU (nI j) b k) mV) := congrArg (fun z => (MW cI cJ A sS kS oS aS (shtT tS (nI j) b k) ik cA tp td fm tt vl wr (shtB bO (nI j) b k) (shtS sO (nI j) b k) z mV)) hE
          have hP : va_P D vwCl (MW cI cJ A sS kS oS aS (shtT tS (nI j) b k) ik cA tp td fm tt vl wr (shtB bO (nI j) b k) (shtS sO (nI j) b k) (shtU nU (nI j) b k) mV) H := Eq.mp (congrArg (fun z => va_P D vwCl z H) hW) hP
          have hD : va_D _ (MW cI cJ A sS kS oS aS (shtT tS (nI j) b k) ik cA tp td fm tt vl wr (shtB bO (nI j) b k) (shtS sO (nI j) b k) (shtU nU (nI j) b k) mV) := Eq.mp (congrArg (fun z => va_D _ z) hW) hD
          exact mu_iret (MW cI cJ A sS kS oS aS (shtT tS (nI j) b k) ik cA tp td fm tt vl wr (shtB bO (nI j) b k) (shtS sO (nI j) b k) (shtU nU (nI j) b k) mV) hx hb hr hlk hP hS rfl (⟨congrArg (fun z => some (Value.int z)) (by simp [shtR, shtT, shtB, shtS, shtU, shtW, shtZ, bitsOk, pk_us, bump, put9, b2i, c4, c8, c14, c37, ej, i_lt, -Int32.not_le, -Int32.not_lt]), rfl⟩) dX4_sheet_47
      · refine lv_iload_n hx hb dX4_sheet_17 rfl (lv_at hl 2 rfl) ?_
        refine lv_bipush (v := 16) hx hb dX4_sheet_18 rfl ?_
        refine lv_icmp_eq (tgt := 36) hx hb dX4_sheet_20 rfl (fun c20 => ?_) (fun c20 => ?_)
        · refine lv_iload_n hx hb dX4_sheet_36 rfl (lv_at hl 3 rfl) ?_
          refine lv_if_ge (tgt := 48) hx hb dX4_sheet_37 rfl (fun c37 => ?_) (fun c37 => ?_)
          · refine lv_iload_n hx hb dX4_sheet_48 rfl (lv_at hl 3 rfl) ?_
            refine lv_bipush (v := 40) hx hb dX4_sheet_49 rfl ?_
            refine lv_icmp_le (tgt := 61) hx hb dX4_sheet_51 rfl (fun c51 => ?_) (fun c51 => ?_)
            · refine lv_aload_n hx hb dX4_sheet_61 rfl (lv_at hl 0 rfl) ?_
              refine va_get (ci := 4) (v := .ref (A 8)) hx hb hts wx_X4 hown hK hP 0 rfl rfl 13 (by decide) (hts _ wf_X4_31) (fun _ h9 => h9) rfl dX4_sheet_62 ?_
              refine lv_iload_n hx hb dX4_sheet_65 rfl (lv_at hl 1 rfl) ?_
              refine lv_iload_n hx hb dX4_sheet_66 rfl (lv_at hl 2 rfl) ?_
              refine ia_st hx hb hK hP hD hS 8 0 rfl rfl j (rfl) (by omega) (by decide) dX4_sheet_67 (fun H locs hP hD hS => ?_)
              have hP : va_P D vwCl (MW cI cJ A sS kS oS aS tS ik cA tp td fm tt vl wr (upd bO j b) sO nU mV) H := hP
              have hD : va_D _ (MW cI cJ A sS kS oS aS tS ik cA tp td fm tt vl wr (upd bO j b) sO nU mV) := hD
              refine lv_aload_n hx hb dX4_sheet_68 rfl (lv_at hl 0 rfl) ?_
              refine va_get (ci := 4) (v := .ref (A 9)) hx hb hts wx_X4 hown hK hP 0 rfl rfl 14 (by decide) (hts _ wf_X4_34) (fun _ h9 => h9) rfl dX4_sheet_69 ?_
              refine lv_iload_n hx hb dX4_sheet_72 rfl (lv_at hl 1 rfl) ?_
              refine lv_iload_n hx hb dX4_sheet_73 rfl (lv_at hl 2 rfl) ?_
              refine lv_if_ne (tgt := 81) hx hb dX4_sheet_74 rfl (fun c74 => ?_) (fun c74 => ?_)
              · refine lv_iload_n hx hb dX4_sheet_81 rfl (lv_at hl 3 rfl) ?_
                refine ia_st hx hb hK hP hD hS 9 0 rfl rfl j (rfl) (by omega) (by decide) dX4_sheet_82 (fun H locs hP hD hS => ?_)
                have hP : va_P D vwCl (MW cI cJ A sS kS oS aS tS ik cA tp td fm tt vl wr (upd bO j b) (upd sO j k) nU mV) H := hP
                have hD : va_D _ (MW cI cJ A sS kS oS aS tS ik cA tp td fm tt vl wr (upd bO j b) (upd sO j k) nU mV) := hD
                refine lv_iconst (v := 0) hx hb dX4_sheet_83 rfl ?_
                have hE : nU = zeroL nU j 0 := zeroL_0 _ _
                have hW : (MW cI cJ A sS kS oS aS tS ik cA tp td fm tt vl wr (upd bO j b) (upd sO j k) nU mV) = (MW cI cJ A sS kS oS aS tS ik cA tp td fm tt vl wr (upd bO j b) (upd sO j k) (zeroL nU j 0) mV) := congrArg (fun z => (MW cI cJ A sS kS oS aS tS ik cA tp td fm tt vl wr (upd bO j b) (upd sO j k) z mV)) hE
                have hP : va_P D vwCl (MW cI cJ A sS kS oS aS tS ik cA tp td fm tt vl wr (upd bO j b) (upd sO j k) (zeroL nU j 0) mV) H := Eq.mp (congrArg (fun z => va_P D vwCl z H) hW) hP
                have hD : va_D _ (MW cI cJ A sS kS oS aS tS ik cA tp td fm tt vl wr (upd bO j b) (upd sO j k) (zeroL nU j 0) mV) := Eq.mp (congrArg (fun z => va_D _ z) hW) hD
                refine lv_istore (lv' := [(4, .int 0), (0, .ref (A 0)), (1, .int (nI j)), (2, .int b), (3, .int k)]) hx hb dX4_sheet_84 hl (by decide) rfl (fun ls hl => ?_)
                refine w_loopH (pc := 86) (st := fun (i : Nat) => []) (μ := fun (i : Nat) => 40 - i) (I := fun (i : Nat) H locs ls => (i ≤ 40) ∧ va_P D vwCl (MW cI cJ A sS kS oS aS tS ik cA tp td fm tt vl wr (upd bO j b) (upd sO j k) (zeroL nU j i) mV) H ∧ va_D (fun z9 => z9 ∈ ((MW cI cJ A sS kS oS aS tS ik cA tp td fm tt vl wr bO sO nU mV)).map (fun z8 => z8.1)) (MW cI cJ A sS kS oS aS tS ik cA tp td fm tt vl wr (upd bO j b) (upd sO j k) (zeroL nU j i) mV) ∧ va_S (fun z9 => z9 ∈ ((MW cI cJ A sS kS oS aS tS ik cA tp td fm tt vl wr bO sO nU mV)).map (fun z8 => z8.1)) s.heap H locs ∧ lv_has ls 5 [(0, .ref (A 0)), (1, .int (nI j)), (2, .int b), (3, .int k), (4, .int (nI i))]) ?_ (0) ⟨Nat.zero_le _, hP, hD, hS, lv_sub hl [1, 2, 3, 4, 0] rfl⟩
                rintro i H locs ls ⟨hi, hP, hD, hS, hl⟩ ih86
                try dsimp only at ih86 ⊢
                refine lv_iload hx hb dX4_sheet_86 (lv_at hl 4 rfl) ?_
                refine lv_bipush (v := 40) hx hb dX4_sheet_88 rfl ?_
                refine lv_icmp_ge (tgt := 112) hx hb dX4_sheet_90 rfl (fun c90 => ?_) (fun c90 => ?_)
                · replace c90 := nq_le (a := 40) (b := i) (by omega) (by omega) c90
                  obtain rfl : i = 40 := by omega
                  refine lv_aload_n hx hb dX4_sheet_112 rfl (lv_at hl 0 rfl) ?_
                  refine va_get (ci := 4) (v := .ref (A 9)) hx hb hts wx_X4 hown hK hP 0 rfl rfl 14 (by decide) (hts _ wf_X4_34) (fun _ h9 => h9) rfl dX4_sheet_113 ?_
                  refine lv_iload_n hx hb dX4_sheet_116 rfl (lv_at hl 1 rfl) ?_
                  refine ia_ld hx hb hK hP 9 0 rfl rfl j (rfl) (by omega) (by decide) dX4_sheet_117 ?_
                  have hE : tS = shtT tS (nI j) b k := by simp [shtR, shtT, shtB, shtS, shtU, shtW, shtZ, bitsOk, pk_us, bump, put9, b2i, c4, c8, c14, c20, c37, c51, c74, c90, ej, i_lt, -Int32.not_le, -Int32.not_lt]
                  have hW : (MW cI cJ A sS kS oS aS tS ik cA tp td fm tt vl wr (upd bO j b) (upd sO j k) (zeroL nU j 40) mV) = (MW cI cJ A sS kS oS aS (shtT tS (nI j) b k) ik cA tp td fm tt vl wr (upd bO j b) (upd sO j k) (zeroL nU j 40) mV) := congrArg (fun z => (MW cI cJ A sS kS oS aS z ik cA tp td fm tt vl wr (upd bO j b) (upd sO j k) (zeroL nU j 40) mV)) hE
                  have hP : va_P D vwCl (MW cI cJ A sS kS oS aS (shtT tS (nI j) b k) ik cA tp td fm tt vl wr (upd bO j b) (upd sO j k) (zeroL nU j 40) mV) H := Eq.mp (congrArg (fun z => va_P D vwCl z H) hW) hP
                  have hD : va_D _ (MW cI cJ A sS kS oS aS (shtT tS (nI j) b k) ik cA tp td fm tt vl wr (upd bO j b) (upd sO j k) (zeroL nU j 40) mV) := Eq.mp (congrArg (fun z => va_D _ z) hW) hD
                  have hE : upd bO j b = shtB bO (nI j) b k := by simp [shtR, shtT, shtB, shtS, shtU, shtW, shtZ, bitsOk, pk_us, bump, put9, b2i, c4, c8, c14, c20, c37, c51, c74, c90, ej, i_lt, -Int32.not_le, -Int32.not_lt]
                  have hW : (MW cI cJ A sS kS oS aS (shtT tS (nI j) b k) ik cA tp td fm tt vl wr (upd bO j b) (upd sO j k) (zeroL nU j 40) mV) = (MW cI cJ A sS kS oS aS (shtT tS (nI j) b k) ik cA tp td fm tt vl wr (shtB bO (nI j) b k) (upd sO j k) (zeroL nU j 40) mV) := congrArg (fun z => (MW cI cJ A sS kS oS aS (shtT tS (nI j) b k) ik cA tp td fm tt vl wr z (upd sO j k) (zeroL nU j 40) mV)) hE
                  have hP : va_P D vwCl (MW cI cJ A sS kS oS aS (shtT tS (nI j) b k) ik cA tp td fm tt vl wr (shtB bO (nI j) b k) (upd sO j k) (zeroL nU j 40) mV) H := Eq.mp (congrArg (fun z => va_P D vwCl z H) hW) hP
                  have hD : va_D _ (MW cI cJ A sS kS oS aS (shtT tS (nI j) b k) ik cA tp td fm tt vl wr (shtB bO (nI j) b k) (upd sO j k) (zeroL nU j 40) mV) := Eq.mp (congrArg (fun z => va_D _ z) hW) hD
                  have hE : upd sO j k = shtS sO (nI j) b k := by simp [shtR, shtT, shtB, shtS, shtU, shtW, shtZ, bitsOk, pk_us, bump, put9, b2i, c4, c8, c14, c20, c37, c51, c74, c90, ej, i_lt, -Int32.not_le, -Int32.not_lt]
                  have hW : (MW cI cJ A sS kS oS aS (shtT tS (nI j) b k) ik cA tp td fm tt vl wr (shtB bO (nI j) b k) (upd sO j k) (zeroL nU j 40) mV) = (MW cI cJ A sS kS oS aS (shtT tS (nI j) b k) ik cA tp td fm tt vl wr (shtB bO (nI j) b k) (shtS sO (nI j) b k) (zeroL nU j 40) mV) := congrArg (fun z => (MW cI cJ A sS kS oS aS (shtT tS (nI j) b k) ik cA tp td fm tt vl wr (shtB bO (nI j) b k) z (zeroL nU j 40) mV)) hE
                  have hP : va_P D vwCl (MW cI cJ A sS kS oS aS (shtT tS (nI j) b k) ik cA tp td fm tt vl wr (shtB bO (nI j) b k) (shtS sO (nI j) b k) (zeroL nU j 40) mV) H := Eq.mp (congrArg (fun z => va_P D vwCl z H) hW) hP
                  have hD : va_D _ (MW cI cJ A sS kS oS aS (shtT tS (nI j) b k) ik cA tp td fm tt vl wr (shtB bO (nI j) b k) (shtS sO (nI j) b k) (zeroL nU j 40) mV) := Eq.mp (congrArg (fun z => va_D _ z) hW) hD
                  have hE : zeroL nU j 40 = shtU nU (nI j) b k := by simp [shtR, shtT, shtB, shtS, shtU, shtW, shtZ, bitsOk, pk_us, bump, put9, b2i, c4, c8, c14, c20, c37, c51, c74, c90, ej, i_lt, -Int32.not_le, -Int32.not_lt]
                  have hW : (MW cI cJ A sS kS oS aS (shtT tS (nI j) b k) ik cA tp td fm tt vl wr (shtB bO (nI j) b k) (shtS sO (nI j) b k) (zeroL nU j 40) mV) = (MW cI cJ A sS kS oS aS (shtT tS (nI j) b k) ik cA tp td fm tt vl wr (shtB bO (nI j) b k) (shtS sO (nI j) b k) (shtU nU (nI j) b k) mV) := congrArg (fun z => (MW cI cJ A sS kS oS aS (shtT tS (nI j) b k) ik cA tp td fm tt vl wr (shtB bO (nI j) b k) (shtS sO (nI j) b k) z mV)) hE
                  have hP : va_P D vwCl (MW cI cJ A sS kS oS aS (shtT tS (nI j) b k) ik cA tp td fm tt vl wr (shtB bO (nI j) b k) (shtS sO (nI j) b k) (shtU nU (nI j) b k) mV) H := Eq.mp (congrArg (fun z => va_P D vwCl z H) hW) hP
                  have hD : va_D _ (MW cI cJ A sS kS oS aS (shtT tS (nI j) b k) ik cA tp td fm tt vl wr (shtB bO (nI j) b k) (shtS sO (nI j) b k) (shtU nU (nI j) b k) mV) := Eq.mp (congrArg (fun z => va_D _ z) hW) hD
                  exact mu_iret (MW cI cJ A sS kS oS aS (shtT tS (nI j) b k) ik cA tp td fm tt vl wr (shtB bO (nI j) b k) (shtS sO (nI j) b k) (shtU nU (nI j) b k) mV) hx hb hr hlk hP hS rfl (⟨congrArg (fun z => some (Value.int z)) (by simp [shtR, shtT, shtB, shtS, shtU, shtW, shtZ, bitsOk, pk_us, bump, put9, b2i, c4, c8, c14, c20, c37, c51, c74, c90, ej, i_lt, -Int32.not_le, -Int32.not_lt]), rfl⟩) dX4_sheet_118
                · replace c90 := nq_nle (a := 40) (b := i) (by omega) (by omega) c90
                  refine lv_aload_n hx hb dX4_sheet_93 rfl (lv_at hl 0 rfl) ?_
                  refine va_get (ci := 4) (v := .ref (A 10)) hx hb hts wx_X4 hown hK hP 0 rfl rfl 15 (by decide) (hts _ wf_X4_37) (fun _ h9 => h9) rfl dX4_sheet_94 ?_
                  refine lv_bipush (v := 40) hx hb dX4_sheet_97 rfl ?_
                  refine lv_iload_n hx hb dX4_sheet_99 rfl (lv_at hl 1 rfl) ?_
                  refine lv_imul hx hb dX4_sheet_100 ?_
                  refine lv_iload hx hb dX4_sheet_101 (lv_at hl 4 rfl) ?_
                  refine lv_iadd hx hb dX4_sheet_103 ?_
                  refine lv_lconst (v := 0) hx hb dX4_sheet_104 rfl ?_
                  refine la_st hx hb hK hP hD hS 10 1 rfl rfl (40 * j + i) (nI_40 j i) (by omega) (by decide) dX4_sheet_105 (fun H locs hP hD hS => ?_)
                  have hP : va_P D vwCl (MW cI cJ A sS kS oS aS tS ik cA tp td fm tt vl wr (upd bO j b) (upd sO j k) (vp_updL (zeroL nU j i) (40 * j + i) 0) mV) H := hP
                  have hD : va_D _ (MW cI cJ A sS kS oS aS tS ik cA tp td fm tt vl wr (upd bO j b) (upd sO j k) (vp_updL (zeroL nU j i) (40 * j + i) 0) mV) := hD
                  have hE : vp_updL (zeroL nU j i) (40 * j + i) 0 = zeroL nU j (i + 1) := zeroL_s
                  have hW : (MW cI cJ A sS kS oS aS tS ik cA tp td fm tt vl wr (upd bO j b) (upd sO j k) (vp_updL (zeroL nU j i) (40 * j + i) 0) mV) = (MW cI cJ A sS kS oS aS tS ik cA tp td fm tt vl wr (upd bO j b) (upd sO j k) (zeroL nU j (i + 1)) mV) := congrArg (fun z => (MW cI cJ A sS kS oS aS tS ik cA tp td fm tt vl wr (upd bO j b) (upd sO j k) z mV)) hE
                  have hP : va_P D vwCl (MW cI cJ A sS kS oS aS tS ik cA tp td fm tt vl wr (upd bO j b) (upd sO j k) (zeroL nU j (i + 1)) mV) H := Eq.mp (congrArg (fun z => va_P D vwCl z H) hW) hP
                  have hD : va_D _ (MW cI cJ A sS kS oS aS tS ik cA tp td fm tt vl wr (upd bO j b) (upd sO j k) (zeroL nU j (i + 1)) mV) := Eq.mp (congrArg (fun z => va_D _ z) hW) hD
                  refine lv_iinc (v := nI (i + 1)) (lv' := [(4, .int (nI (i + 1))), (0, .ref (A 0)), (1, .int (nI j)), (2, .int b), (3, .int k)]) hx hb dX4_sheet_106 hl (k := 4) rfl (nI_inc _) (by decide) rfl (fun ls hl => ?_)
                  refine lv_goto (tgt := 86) hx hb dX4_sheet_109 rfl ?_
                  exact ih86 (i + 1) _ _ ls (by first | omega | (dsimp only; omega)) ⟨(by omega), hP, hD, hS, lv_sub hl [1, 2, 3, 4, 0] rfl⟩
              · exact absurd c74 c8
            · refine lv_aload_n hx hb dX4_sheet_54 rfl (lv_at hl 0 rfl) ?_
              refine lv_ldc (v := (-1000000001)) hx hb hown (hts _ wq_X4_44) dX4_sheet_55 ?_
              refine mu_W (w := (MW cI cJ A sS kS oS aS tS ik cA tp td fm tt vl wr bO sO nU mV)) (rest := []) S hK hP hD hS (k_X4_finds 0 (-1000000001) (by decide) (by decide)) gv_X4_63 hd_X4_finds ⟨Nat.le_of_ble_eq_true rfl, Nat.le_of_ble_eq_true rfl⟩ 4 rfl rfl rfl rfl hl.1 (lv_room (Nat.le_of_ble_eq_true rfl)) dX4_sheet_57 ⟨Nat.zero_le _, Nat.zero_le _⟩ (fun ov w' H locs hp hP hD hS => ?_)
              obtain ⟨rfl, rfl⟩ := hp
              refine W.eq (g2 := F0 m 60 ls [.int (-1000000001)]) rfl ?_
              have hE : upd tS 0 (tS 0 + 1) = shtT tS (nI j) b k := by simp [shtR, shtT, shtB, shtS, shtU, shtW, shtZ, bitsOk, pk_us, bump, put9, b2i, c4, c8, c14, c20, c37, c51, ej, i_lt, -Int32.not_le, -Int32.not_lt]
              have hW : (MW cI cJ A sS kS oS aS (upd tS 0 (tS 0 + 1)) ik cA tp td fm tt vl wr bO sO nU mV) = (MW cI cJ A sS kS oS aS (shtT tS (nI j) b k) ik cA tp td fm tt vl wr bO sO nU mV) := congrArg (fun z => (MW cI cJ A sS kS oS aS z ik cA tp td fm tt vl wr bO sO nU mV)) hE
              have hP : va_P D vwCl (MW cI cJ A sS kS oS aS (shtT tS (nI j) b k) ik cA tp td fm tt vl wr bO sO nU mV) H := Eq.mp (congrArg (fun z => va_P D vwCl z H) hW) hP
              have hD : va_D _ (MW cI cJ A sS kS oS aS (shtT tS (nI j) b k) ik cA tp td fm tt vl wr bO sO nU mV) := Eq.mp (congrArg (fun z => va_D _ z) hW) hD
              have hE : bO = shtB bO (nI j) b k := by simp [shtR, shtT, shtB, shtS, shtU, shtW, shtZ, bitsOk, pk_us, bump, put9, b2i, c4, c8, c14, c20, c37, c51, ej, i_lt, -Int32.not_le, -Int32.not_lt]
              have hW : (MW cI cJ A sS kS oS aS (shtT tS (nI j) b k) ik cA tp td fm tt vl wr bO sO nU mV) = (MW cI cJ A sS kS oS aS (shtT tS (nI j) b k) ik cA tp td fm tt vl wr (shtB bO (nI j) b k) sO nU mV) := congrArg (fun z => (MW cI cJ A sS kS oS aS (shtT tS (nI j) b k) ik cA tp td fm tt vl wr z sO nU mV)) hE
              have hP : va_P D vwCl (MW cI cJ A sS kS oS aS (shtT tS (nI j) b k) ik cA tp td fm tt vl wr (shtB bO (nI j) b k) sO nU mV) H := Eq.mp (congrArg (fun z => va_P D vwCl z H) hW) hP
              have hD : va_D _ (MW cI cJ A sS kS oS aS (shtT tS (nI j) b k) ik cA tp td fm tt vl wr (shtB bO (nI j) b k) sO nU mV) := Eq.mp (congrArg (fun z => va_D _ z) hW) hD
              have hE : sO = shtS sO (nI j) b k := by simp [shtR, shtT, shtB, shtS, shtU, shtW, shtZ, bitsOk, pk_us, bump, put9, b2i, c4, c8, c14, c20, c37, c51, ej, i_lt, -Int32.not_le, -Int32.not_lt]
              have hW : (MW cI cJ A sS kS oS aS (shtT tS (nI j) b k) ik cA tp td fm tt vl wr (shtB bO (nI j) b k) sO nU mV) = (MW cI cJ A sS kS oS aS (shtT tS (nI j) b k) ik cA tp td fm tt vl wr (shtB bO (nI j) b k) (shtS sO (nI j) b k) nU mV) := congrArg (fun z => (MW cI cJ A sS kS oS aS (shtT tS (nI j) b k) ik cA tp td fm tt vl wr (shtB bO (nI j) b k) z nU mV)) hE
              have hP : va_P D vwCl (MW cI cJ A sS kS oS aS (shtT tS (nI j) b k) ik cA tp td fm tt vl wr (shtB bO (nI j) b k) (shtS sO (nI j) b k) nU mV) H := Eq.mp (congrArg (fun z => va_P D vwCl z H) hW) hP
              have hD : va_D _ (MW cI cJ A sS kS oS aS (shtT tS (nI j) b k) ik cA tp td fm tt vl wr (shtB bO (nI j) b k) (shtS sO (nI j) b k) nU mV) := Eq.mp (congrArg (fun z => va_D _ z) hW) hD
              have hE : nU = shtU nU (nI j) b k := by simp [shtR, shtT, shtB, shtS, shtU, shtW, shtZ, bitsOk, pk_us, bump, put9, b2i, c4, c8, c14, c20, c37, c51, ej, i_lt, -Int32.not_le, -Int32.not_lt]
              have hW : (MW cI cJ A sS kS oS aS (shtT tS (nI j) b k) ik cA tp td fm tt vl wr (shtB bO (nI j) b k) (shtS sO (nI j) b k) nU mV) = (MW cI cJ A sS kS oS aS (shtT tS (nI j) b k) ik cA tp td fm tt vl wr (shtB bO (nI j) b k) (shtS sO (nI j) b k) (shtU nU (nI j) b k) mV) := congrArg (fun z => (MW cI cJ A sS kS oS aS (shtT tS (nI j) b k) ik cA tp td fm tt vl wr (shtB bO (nI j) b k) (shtS sO (nI j) b k) z mV)) hE
              have hP : va_P D vwCl (MW cI cJ A sS kS oS aS (shtT tS (nI j) b k) ik cA tp td fm tt vl wr (shtB bO (nI j) b k) (shtS sO (nI j) b k) (shtU nU (nI j) b k) mV) H := Eq.mp (congrArg (fun z => va_P D vwCl z H) hW) hP
              have hD : va_D _ (MW cI cJ A sS kS oS aS (shtT tS (nI j) b k) ik cA tp td fm tt vl wr (shtB bO (nI j) b k) (shtS sO (nI j) b k) (shtU nU (nI j) b k) mV) := Eq.mp (congrArg (fun z => va_D _ z) hW) hD
              exact mu_iret (MW cI cJ A sS kS oS aS (shtT tS (nI j) b k) ik cA tp td fm tt vl wr (shtB bO (nI j) b k) (shtS sO (nI j) b k) (shtU nU (nI j) b k) mV) hx hb hr hlk hP hS rfl (⟨congrArg (fun z => some (Value.int z)) (by simp [shtR, shtT, shtB, shtS, shtU, shtW, shtZ, bitsOk, pk_us, bump, put9, b2i, c4, c8, c14, c20, c37, c51, ej, i_lt, -Int32.not_le, -Int32.not_lt]), rfl⟩) dX4_sheet_60
          · refine lv_aload_n hx hb dX4_sheet_40 rfl (lv_at hl 0 rfl) ?_
            refine lv_ldcw (v := (-1000000007)) hx hb hown (hts _ wq_X4_322) dX4_sheet_41 ?_
            refine mu_W (w := (MW cI cJ A sS kS oS aS tS ik cA tp td fm tt vl wr bO sO nU mV)) (rest := []) S hK hP hD hS (k_X4_finds 6 (-1000000007) (by decide) (by decide)) gv_X4_63 hd_X4_finds ⟨Nat.le_of_ble_eq_true rfl, Nat.le_of_ble_eq_true rfl⟩ 4 rfl rfl rfl rfl hl.1 (lv_room (Nat.le_of_ble_eq_true rfl)) dX4_sheet_44 ⟨Nat.zero_le _, Nat.zero_le _⟩ (fun ov w' H locs hp hP hD hS => ?_)
            obtain ⟨rfl, rfl⟩ := hp
            refine W.eq (g2 := F0 m 47 ls [.int (-1000000007)]) rfl ?_
            have hE : upd tS 6 (tS 6 + 1) = shtT tS (nI j) b k := by simp [shtR, shtT, shtB, shtS, shtU, shtW, shtZ, bitsOk, pk_us, bump, put9, b2i, c4, c8, c14, c20, c37, ej, i_lt, -Int32.not_le, -Int32.not_lt]
            have hW : (MW cI cJ A sS kS oS aS (upd tS 6 (tS 6 + 1)) ik cA tp td fm tt vl wr bO sO nU mV) = (MW cI cJ A sS kS oS aS (shtT tS (nI j) b k) ik cA tp td fm tt vl wr bO sO nU mV) := congrArg (fun z => (MW cI cJ A sS kS oS aS z ik cA tp td fm tt vl wr bO sO nU mV)) hE
            have hP : va_P D vwCl (MW cI cJ A sS kS oS aS (shtT tS (nI j) b k) ik cA tp td fm tt vl wr bO sO nU mV) H := Eq.mp (congrArg (fun z => va_P D vwCl z H) hW) hP
            have hD : va_D _ (MW cI cJ A sS kS oS aS (shtT tS (nI j) b k) ik cA tp td fm tt vl wr bO sO nU mV) := Eq.mp (congrArg (fun z => va_D _ z) hW) hD
            have hE : bO = shtB bO (nI j) b k := by simp [shtR, shtT, shtB, shtS, shtU, shtW, shtZ, bitsOk, pk_us, bump, put9, b2i, c4, c8, c14, c20, c37, ej, i_lt, -Int32.not_le, -Int32.not_lt]
            have hW : (MW cI cJ A sS kS oS aS (shtT tS (nI j) b k) ik cA tp td fm tt vl wr bO sO nU mV) = (MW cI cJ A sS kS oS aS (shtT tS (nI j) b k) ik cA tp td fm tt vl wr (shtB bO (nI j) b k) sO nU mV) := congrArg (fun z => (MW cI cJ A sS kS oS aS (shtT tS (nI j) b k) ik cA tp td fm tt vl wr z sO nU mV)) hE
            have hP : va_P D vwCl (MW cI cJ A sS kS oS aS (shtT tS (nI j) b k) ik cA tp td fm tt vl wr (shtB bO (nI j) b k) sO nU mV) H := Eq.mp (congrArg (fun z => va_P D vwCl z H) hW) hP
            have hD : va_D _ (MW cI cJ A sS kS oS aS (shtT tS (nI j) b k) ik cA tp td fm tt vl wr (shtB bO (nI j) b k) sO nU mV) := Eq.mp (congrArg (fun z => va_D _ z) hW) hD
            have hE : sO = shtS sO (nI j) b k := by simp [shtR, shtT, shtB, shtS, shtU, shtW, shtZ, bitsOk, pk_us, bump, put9, b2i, c4, c8, c14, c20, c37, ej, i_lt, -Int32.not_le, -Int32.not_lt]
            have hW : (MW cI cJ A sS kS oS aS (shtT tS (nI j) b k) ik cA tp td fm tt vl wr (shtB bO (nI j) b k) sO nU mV) = (MW cI cJ A sS kS oS aS (shtT tS (nI j) b k) ik cA tp td fm tt vl wr (shtB bO (nI j) b k) (shtS sO (nI j) b k) nU mV) := congrArg (fun z => (MW cI cJ A sS kS oS aS (shtT tS (nI j) b k) ik cA tp td fm tt vl wr (shtB bO (nI j) b k) z nU mV)) hE
            have hP : va_P D vwCl (MW cI cJ A sS kS oS aS (shtT tS (nI j) b k) ik cA tp td fm tt vl wr (shtB bO (nI j) b k) (shtS sO (nI j) b k) nU mV) H := Eq.mp (congrArg (fun z => va_P D vwCl z H) hW) hP
            have hD : va_D _ (MW cI cJ A sS kS oS aS (shtT tS (nI j) b k) ik cA tp td fm tt vl wr (shtB bO (nI j) b k) (shtS sO (nI j) b k) nU mV) := Eq.mp (congrArg (fun z => va_D _ z) hW) hD
            have hE : nU = shtU nU (nI j) b k := by simp [shtR, shtT, shtB, shtS, shtU, shtW, shtZ, bitsOk, pk_us, bump, put9, b2i, c4, c8, c14, c20, c37, ej, i_lt, -Int32.not_le, -Int32.not_lt]
            have hW : (MW cI cJ A sS kS oS aS (shtT tS (nI j) b k) ik cA tp td fm tt vl wr (shtB bO (nI j) b k) (shtS sO (nI j) b k) nU mV) = (MW cI cJ A sS kS oS aS (shtT tS (nI j) b k) ik cA tp td fm tt vl wr (shtB bO (nI j) b k) (shtS sO (nI j) b k) (shtU nU (nI j) b k) mV) := congrArg (fun z => (MW cI cJ A sS kS oS aS (shtT tS (nI j) b k) ik cA tp td fm tt vl wr (shtB bO (nI j) b k) (shtS sO (nI j) b k) z mV)) hE
            have hP : va_P D vwCl (MW cI cJ A sS kS oS aS (shtT tS (nI j) b k) ik cA tp td fm tt vl wr (shtB bO (nI j) b k) (shtS sO (nI j) b k) (shtU nU (nI j) b k) mV) H := Eq.mp (congrArg (fun z => va_P D vwCl z H) hW) hP
            have hD : va_D _ (MW cI cJ A sS kS oS aS (shtT tS (nI j) b k) ik cA tp td fm tt vl wr (shtB bO (nI j) b k) (shtS sO (nI j) b k) (shtU nU (nI j) b k) mV) := Eq.mp (congrArg (fun z => va_D _ z) hW) hD
            exact mu_iret (MW cI cJ A sS kS oS aS (shtT tS (nI j) b k) ik cA tp td fm tt vl wr (shtB bO (nI j) b k) (shtS sO (nI j) b k) (shtU nU (nI j) b k) mV) hx hb hr hlk hP hS rfl (⟨congrArg (fun z => some (Value.int z)) (by simp [shtR, shtT, shtB, shtS, shtU, shtW, shtZ, bitsOk, pk_us, bump, put9, b2i, c4, c8, c14, c20, c37, ej, i_lt, -Int32.not_le, -Int32.not_lt]), rfl⟩) dX4_sheet_47
        · refine lv_iload_n hx hb dX4_sheet_23 rfl (lv_at hl 2 rfl) ?_
          refine lv_bipush (v := 64) hx hb dX4_sheet_24 rfl ?_
          refine lv_icmp_eq (tgt := 36) hx hb dX4_sheet_26 rfl (fun c26 => ?_) (fun c26 => ?_)
          · refine lv_iload_n hx hb dX4_sheet_36 rfl (lv_at hl 3 rfl) ?_
            refine lv_if_ge (tgt := 48) hx hb dX4_sheet_37 rfl (fun c37 => ?_) (fun c37 => ?_)
            · refine lv_iload_n hx hb dX4_sheet_48 rfl (lv_at hl 3 rfl) ?_
              refine lv_bipush (v := 40) hx hb dX4_sheet_49 rfl ?_
              refine lv_icmp_le (tgt := 61) hx hb dX4_sheet_51 rfl (fun c51 => ?_) (fun c51 => ?_)
              · refine lv_aload_n hx hb dX4_sheet_61 rfl (lv_at hl 0 rfl) ?_
                refine va_get (ci := 4) (v := .ref (A 8)) hx hb hts wx_X4 hown hK hP 0 rfl rfl 13 (by decide) (hts _ wf_X4_31) (fun _ h9 => h9) rfl dX4_sheet_62 ?_
                refine lv_iload_n hx hb dX4_sheet_65 rfl (lv_at hl 1 rfl) ?_
                refine lv_iload_n hx hb dX4_sheet_66 rfl (lv_at hl 2 rfl) ?_
                refine ia_st hx hb hK hP hD hS 8 0 rfl rfl j (rfl) (by omega) (by decide) dX4_sheet_67 (fun H locs hP hD hS => ?_)
                have hP : va_P D vwCl (MW cI cJ A sS kS oS aS tS ik cA tp td fm tt vl wr (upd bO j b) sO nU mV) H := hP
                have hD : va_D _ (MW cI cJ A sS kS oS aS tS ik cA tp td fm tt vl wr (upd bO j b) sO nU mV) := hD
                refine lv_aload_n hx hb dX4_sheet_68 rfl (lv_at hl 0 rfl) ?_
                refine va_get (ci := 4) (v := .ref (A 9)) hx hb hts wx_X4 hown hK hP 0 rfl rfl 14 (by decide) (hts _ wf_X4_34) (fun _ h9 => h9) rfl dX4_sheet_69 ?_
                refine lv_iload_n hx hb dX4_sheet_72 rfl (lv_at hl 1 rfl) ?_
                refine lv_iload_n hx hb dX4_sheet_73 rfl (lv_at hl 2 rfl) ?_
                refine lv_if_ne (tgt := 81) hx hb dX4_sheet_74 rfl (fun c74 => ?_) (fun c74 => ?_)
                · refine lv_iload_n hx hb dX4_sheet_81 rfl (lv_at hl 3 rfl) ?_
                  refine ia_st hx hb hK hP hD hS 9 0 rfl rfl j (rfl) (by omega) (by decide) dX4_sheet_82 (fun H locs hP hD hS => ?_)
                  have hP : va_P D vwCl (MW cI cJ A sS kS oS aS tS ik cA tp td fm tt vl wr (upd bO j b) (upd sO j k) nU mV) H := hP
                  have hD : va_D _ (MW cI cJ A sS kS oS aS tS ik cA tp td fm tt vl wr (upd bO j b) (upd sO j k) nU mV) := hD
                  refine lv_iconst (v := 0) hx hb dX4_sheet_83 rfl ?_
                  have hE : nU = zeroL nU j 0 := zeroL_0 _ _
                  have hW : (MW cI cJ A sS kS oS aS tS ik cA tp td fm tt vl wr (upd bO j b) (upd sO j k) nU mV) = (MW cI cJ A sS kS oS aS tS ik cA tp td fm tt vl wr (upd bO j b) (upd sO j k) (zeroL nU j 0) mV) := congrArg (fun z => (MW cI cJ A sS kS oS aS tS ik cA tp td fm tt vl wr (upd bO j b) (upd sO j k) z mV)) hE
                  have hP : va_P D vwCl (MW cI cJ A sS kS oS aS tS ik cA tp td fm tt vl wr (upd bO j b) (upd sO j k) (zeroL nU j 0) mV) H := Eq.mp (congrArg (fun z => va_P D vwCl z H) hW) hP
                  have hD : va_D _ (MW cI cJ A sS kS oS aS tS ik cA tp td fm tt vl wr (upd bO j b) (upd sO j k) (zeroL nU j 0) mV) := Eq.mp (congrArg (fun z => va_D _ z) hW) hD
                  refine lv_istore (lv' := [(4, .int 0), (0, .ref (A 0)), (1, .int (nI j)), (2, .int b), (3, .int k)]) hx hb dX4_sheet_84 hl (by decide) rfl (fun ls hl => ?_)
                  refine w_loopH (pc := 86) (st := fun (i : Nat) => []) (μ := fun (i : Nat) => 40 - i) (I := fun (i : Nat) H locs ls => (i ≤ 40) ∧ va_P D vwCl (MW cI cJ A sS kS oS aS tS ik cA tp td fm tt vl wr (upd bO j b) (upd sO j k) (zeroL nU j i) mV) H ∧ va_D (fun z9 => z9 ∈ ((MW cI cJ A sS kS oS aS tS ik cA tp td fm tt vl wr bO sO nU mV)).map (fun z8 => z8.1)) (MW cI cJ A sS kS oS aS tS ik cA tp td fm tt vl wr (upd bO j b) (upd sO j k) (zeroL nU j i) mV) ∧ va_S (fun z9 => z9 ∈ ((MW cI cJ A sS kS oS aS tS ik cA tp td fm tt vl wr bO sO nU mV)).map (fun z8 => z8.1)) s.heap H locs ∧ lv_has ls 5 [(0, .ref (A 0)), (1, .int (nI j)), (2, .int b), (3, .int k), (4, .int (nI i))]) ?_ (0) ⟨Nat.zero_le _, hP, hD, hS, lv_sub hl [1, 2, 3, 4, 0] rfl⟩
                  rintro i H locs ls ⟨hi, hP, hD, hS, hl⟩ ih86
                  try dsimp only at ih86 ⊢
                  refine lv_iload hx hb dX4_sheet_86 (lv_at hl 4 rfl) ?_
                  refine lv_bipush (v := 40) hx hb dX4_sheet_88 rfl ?_
                  refine lv_icmp_ge (tgt := 112) hx hb dX4_sheet_90 rfl (fun c90 => ?_) (fun c90 => ?_)
                  · replace c90 := nq_le (a := 40) (b := i) (by omega) (by omega) c90
                    obtain rfl : i = 40 := by omega
                    refine lv_aload_n hx hb dX4_sheet_112 rfl (lv_at hl 0 rfl) ?_
                    refine va_get (ci := 4) (v := .ref (A 9)) hx hb hts wx_X4 hown hK hP 0 rfl rfl 14 (by decide) (hts _ wf_X4_34) (fun _ h9 => h9) rfl dX4_sheet_113 ?_
                    refine lv_iload_n hx hb dX4_sheet_116 rfl (lv_at hl 1 rfl) ?_
                    refine ia_ld hx hb hK hP 9 0 rfl rfl j (rfl) (by omega) (by decide) dX4_sheet_117 ?_
                    have hE : tS = shtT tS (nI j) b k := by simp [shtR, shtT, shtB, shtS, shtU, shtW, shtZ, bitsOk, pk_us, bump, put9, b2i, c4, c8, c14, c20, c26, c37, c51, c74, c90, ej, i_lt, -Int32.not_le, -Int32.not_lt]
                    have hW : (MW cI cJ A sS kS oS aS tS ik cA tp td fm tt vl wr (upd bO j b) (upd sO j k) (zeroL nU j 40) mV) = (MW cI cJ A sS kS oS aS (shtT tS (nI j) b k) ik cA tp td fm tt vl wr (upd bO j b) (upd sO j k) (zeroL nU j 40) mV) := congrArg (fun z => (MW cI cJ A sS kS oS aS z ik cA tp td fm tt vl wr (upd bO j b) (upd sO j k) (zeroL nU j 40) mV)) hE
                    have hP : va_P D vwCl (MW cI cJ A sS kS oS aS (shtT tS (nI j) b k) ik cA tp td fm tt vl wr (upd bO j b) (upd sO j k) (zeroL nU j 40) mV) H := Eq.mp (congrArg (fun z => va_P D vwCl z H) hW) hP
                    have hD : va_D _ (MW cI cJ A sS kS oS aS (shtT tS (nI j) b k) ik cA tp td fm tt vl wr (upd bO j b) (upd sO j k) (zeroL nU j 40) mV) := Eq.mp (congrArg (fun z => va_D _ z) hW) hD
                    have hE : upd bO j b = shtB bO (nI j) b k := by simp [shtR, shtT, shtB, shtS, shtU, shtW, shtZ, bitsOk, pk_us, bump, put9, b2i, c4, c8, c14, c20, c26, c37, c51, c74, c90, ej, i_lt, -Int32.not_le, -Int32.not_lt]
                    have hW : (MW cI cJ A sS kS oS aS (shtT tS (nI j) b k) ik cA tp td fm tt vl wr (upd bO j b) (upd sO j k) (zeroL nU j 40) mV) = (MW cI cJ A sS kS oS aS (shtT tS (nI j) b k) ik cA tp td fm tt vl wr (shtB bO (nI j) b k) (upd sO j k) (zeroL nU j 40) mV) := congrArg (fun z => (MW cI cJ A sS kS oS aS (shtT tS (nI j) b k) ik cA tp td fm tt vl wr z (upd sO j k) (zeroL nU j 40) mV)) hE
                    have hP : va_P D vwCl (MW cI cJ A sS kS oS aS (shtT tS (nI j) b k) ik cA tp td fm tt vl wr (shtB bO (nI j) b k) (upd sO j k) (zeroL nU j 40) mV) H := Eq.mp (congrArg (fun z => va_P D vwCl z H) hW) hP
                    have hD : va_D _ (MW cI cJ A sS kS oS aS (shtT tS (nI j) b k) ik cA tp td fm tt vl wr (shtB bO (nI j) b k) (upd sO j k) (zeroL nU j 40) mV) := Eq.mp (congrArg (fun z => va_D _ z) hW) hD
                    have hE : upd sO j k = shtS sO (nI j) b k := by simp [shtR, shtT, shtB, shtS, shtU, shtW, shtZ, bitsOk, pk_us, bump, put9, b2i, c4, c8, c14, c20, c26, c37, c51, c74, c90, ej, i_lt, -Int32.not_le, -Int32.not_lt]
                    have hW : (MW cI cJ A sS kS oS aS (shtT tS (nI j) b k) ik cA tp td fm tt vl wr (shtB bO (nI j) b k) (upd sO j k) (zeroL nU j 40) mV) = (MW cI cJ A sS kS oS aS (shtT tS (nI j) b k) ik cA tp td fm tt vl wr (shtB bO (nI j) b k) (shtS sO (nI j) b k) (zeroL nU j 40) mV) := congrArg (fun z => (MW cI cJ A sS kS oS aS (shtT tS (nI j) b k) ik cA tp td fm tt vl wr (shtB bO (nI j) b k) z (zeroL nU j 40) mV)) hE
                    have hP : va_P D vwCl (MW cI cJ A sS kS oS aS (shtT tS (nI j) b k) ik cA tp td fm tt vl wr (shtB bO (nI j) b k) (shtS sO (nI j) b k) (zeroL nU j 40) mV) H := Eq.mp (congrArg (fun z => va_P D vwCl z H) hW) hP
                    have hD : va_D _ (MW cI cJ A sS kS oS aS (shtT tS (nI j) b k) ik cA tp td fm tt vl wr (shtB bO (nI j) b k) (shtS sO (nI j) b k) (zeroL nU j 40) mV) := Eq.mp (congrArg (fun z => va_D _ z) hW) hD
                    have hE : zeroL nU j 40 = shtU nU (nI j) b k := by simp [shtR, shtT, shtB, shtS, shtU, shtW, shtZ, bitsOk, pk_us, bump, put9, b2i, c4, c8, c14, c20, c26, c37, c51, c74, c90, ej, i_lt, -Int32.not_le, -Int32.not_lt]
                    have hW : (MW cI cJ A sS kS oS aS (shtT tS (nI j) b k) ik cA tp td fm tt vl wr (shtB bO (nI j) b k) (shtS sO (nI j) b k) (zeroL nU j 40) mV) = (MW cI cJ A sS kS oS aS (shtT tS (nI j) b k) ik cA tp td fm tt vl wr (shtB bO (nI j) b k) (shtS sO (nI j) b k) (shtU nU (nI j) b k) mV) := congrArg (fun z => (MW cI cJ A sS kS oS aS (shtT tS (nI j) b k) ik cA tp td fm tt vl wr (shtB bO (nI j) b k) (shtS sO (nI j) b k) z mV)) hE
                    have hP : va_P D vwCl (MW cI cJ A sS kS oS aS (shtT tS (nI j) b k) ik cA tp td fm tt vl wr (shtB bO (nI j) b k) (shtS sO (nI j) b k) (shtU nU (nI j) b k) mV) H := Eq.mp (congrArg (fun z => va_P D vwCl z H) hW) hP
                    have hD : va_D _ (MW cI cJ A sS kS oS aS (shtT tS (nI j) b k) ik cA tp td fm tt vl wr (shtB bO (nI j) b k) (shtS sO (nI j) b k) (shtU nU (nI j) b k) mV) := Eq.mp (congrArg (fun z => va_D _ z) hW) hD
                    exact mu_iret (MW cI cJ A sS kS oS aS (shtT tS (nI j) b k) ik cA tp td fm tt vl wr (shtB bO (nI j) b k) (shtS sO (nI j) b k) (shtU nU (nI j) b k) mV) hx hb hr hlk hP hS rfl (⟨congrArg (fun z => some (Value.int z)) (by simp [shtR, shtT, shtB, shtS, shtU, shtW, shtZ, bitsOk, pk_us, bump, put9, b2i, c4, c8, c14, c20, c26, c37, c51, c74, c90, ej, i_lt, -Int32.not_le, -Int32.not_lt]), rfl⟩) dX4_sheet_118
                  · replace c90 := nq_nle (a := 40) (b := i) (by omega) (by omega) c90
                    refine lv_aload_n hx hb dX4_sheet_93 rfl (lv_at hl 0 rfl) ?_
                    refine va_get (ci := 4) (v := .ref (A 10)) hx hb hts wx_X4 hown hK hP 0 rfl rfl 15 (by decide) (hts _ wf_X4_37) (fun _ h9 => h9) rfl dX4_sheet_94 ?_
                    refine lv_bipush (v := 40) hx hb dX4_sheet_97 rfl ?_
                    refine lv_iload_n hx hb dX4_sheet_99 rfl (lv_at hl 1 rfl) ?_
                    refine lv_imul hx hb dX4_sheet_100 ?_
                    refine lv_iload hx hb dX4_sheet_101 (lv_at hl 4 rfl) ?_
                    refine lv_iadd hx hb dX4_sheet_103 ?_
                    refine lv_lconst (v := 0) hx hb dX4_sheet_104 rfl ?_
                    refine la_st hx hb hK hP hD hS 10 1 rfl rfl (40 * j + i) (nI_40 j i) (by omega) (by decide) dX4_sheet_105 (fun H locs hP hD hS => ?_)
                    have hP : va_P D vwCl (MW cI cJ A sS kS oS aS tS ik cA tp td fm tt vl wr (upd bO j b) (upd sO j k) (vp_updL (zeroL nU j i) (40 * j + i) 0) mV) H := hP
                    have hD : va_D _ (MW cI cJ A sS kS oS aS tS ik cA tp td fm tt vl wr (upd bO j b) (upd sO j k) (vp_updL (zeroL nU j i) (40 * j + i) 0) mV) := hD
                    have hE : vp_updL (zeroL nU j i) (40 * j + i) 0 = zeroL nU j (i + 1) := zeroL_s
                    have hW : (MW cI cJ A sS kS oS aS tS ik cA tp td fm tt vl wr (upd bO j b) (upd sO j k) (vp_updL (zeroL nU j i) (40 * j + i) 0) mV) = (MW cI cJ A sS kS oS aS tS ik cA tp td fm tt vl wr (upd bO j b) (upd sO j k) (zeroL nU j (i + 1)) mV) := congrArg (fun z => (MW cI cJ A sS kS oS aS tS ik cA tp td fm tt vl wr (upd bO j b) (upd sO j k) z mV)) hE
                    have hP : va_P D vwCl (MW cI cJ A sS kS oS aS tS ik cA tp td fm tt vl wr (upd bO j b) (upd sO j k) (zeroL nU j (i + 1)) mV) H := Eq.mp (congrArg (fun z => va_P D vwCl z H) hW) hP
                    have hD : va_D _ (MW cI cJ A sS kS oS aS tS ik cA tp td fm tt vl wr (upd bO j b) (upd sO j k) (zeroL nU j (i + 1)) mV) := Eq.mp (congrArg (fun z => va_D _ z) hW) hD
                    refine lv_iinc (v := nI (i + 1)) (lv' := [(4, .int (nI (i + 1))), (0, .ref (A 0)), (1, .int (nI j)), (2, .int b), (3, .int k)]) hx hb dX4_sheet_106 hl (k := 4) rfl (nI_inc _) (by decide) rfl (fun ls hl => ?_)
                    refine lv_goto (tgt := 86) hx hb dX4_sheet_109 rfl ?_
                    exact ih86 (i + 1) _ _ ls (by first | omega | (dsimp only; omega)) ⟨(by omega), hP, hD, hS, lv_sub hl [1, 2, 3, 4, 0] rfl⟩
                · exact absurd c74 c8
              · refine lv_aload_n hx hb dX4_sheet_54 rfl (lv_at hl 0 rfl) ?_
                refine lv_ldc (v := (-1000000001)) hx hb hown (hts _ wq_X4_44) dX4_sheet_55 ?_
                refine mu_W (w := (MW cI cJ A sS kS oS aS tS ik cA tp td fm tt vl wr bO sO nU mV)) (rest := []) S hK hP hD hS (k_X4_finds 0 (-1000000001) (by decide) (by decide)) gv_X4_63 hd_X4_finds ⟨Nat.le_of_ble_eq_true rfl, Nat.le_of_ble_eq_true rfl⟩ 4 rfl rfl rfl rfl hl.1 (lv_room (Nat.le_of_ble_eq_true rfl)) dX4_sheet_57 ⟨Nat.zero_le _, Nat.zero_le _⟩ (fun ov w' H locs hp hP hD hS => ?_)
                obtain ⟨rfl, rfl⟩ := hp
                refine W.eq (g2 := F0 m 60 ls [.int (-1000000001)]) rfl ?_
                have hE : upd tS 0 (tS 0 + 1) = shtT tS (nI j) b k := by simp [shtR, shtT, shtB, shtS, shtU, shtW, shtZ, bitsOk, pk_us, bump, put9, b2i, c4, c8, c14, c20, c26, c37, c51, ej, i_lt, -Int32.not_le, -Int32.not_lt]
                have hW : (MW cI cJ A sS kS oS aS (upd tS 0 (tS 0 + 1)) ik cA tp td fm tt vl wr bO sO nU mV) = (MW cI cJ A sS kS oS aS (shtT tS (nI j) b k) ik cA tp td fm tt vl wr bO sO nU mV) := congrArg (fun z => (MW cI cJ A sS kS oS aS z ik cA tp td fm tt vl wr bO sO nU mV)) hE
                have hP : va_P D vwCl (MW cI cJ A sS kS oS aS (shtT tS (nI j) b k) ik cA tp td fm tt vl wr bO sO nU mV) H := Eq.mp (congrArg (fun z => va_P D vwCl z H) hW) hP
                have hD : va_D _ (MW cI cJ A sS kS oS aS (shtT tS (nI j) b k) ik cA tp td fm tt vl wr bO sO nU mV) := Eq.mp (congrArg (fun z => va_D _ z) hW) hD
                have hE : bO = shtB bO (nI j) b k := by simp [shtR, shtT, shtB, shtS, shtU, shtW, shtZ, bitsOk, pk_us, bump, put9, b2i, c4, c8, c14, c20, c26, c37, c51, ej, i_lt, -Int32.not_le, -Int32.not_lt]
                have hW : (MW cI cJ A sS kS oS aS (shtT tS (nI j) b k) ik cA tp td fm tt vl wr bO sO nU mV) = (MW cI cJ A sS kS oS aS (shtT tS (nI j) b k) ik cA tp td fm tt vl wr (shtB bO (nI j) b k) sO nU mV) := congrArg (fun z => (MW cI cJ A sS kS oS aS (shtT tS (nI j) b k) ik cA tp td fm tt vl wr z sO nU mV)) hE
                have hP : va_P D vwCl (MW cI cJ A sS kS oS aS (shtT tS (nI j) b k) ik cA tp td fm tt vl wr (shtB bO (nI j) b k) sO nU mV) H := Eq.mp (congrArg (fun z => va_P D vwCl z H) hW) hP
                have hD : va_D _ (MW cI cJ A sS kS oS aS (shtT tS (nI j) b k) ik cA tp td fm tt vl wr (shtB bO (nI j) b k) sO nU mV) := Eq.mp (congrArg (fun z => va_D _ z) hW) hD
                have hE : sO = shtS sO (nI j) b k := by simp [shtR, shtT, shtB, shtS, shtU, shtW, shtZ, bitsOk, pk_us, bump, put9, b2i, c4, c8, c14, c20, c26, c37, c51, ej, i_lt, -Int32.not_le, -Int32.not_lt]
                have hW : (MW cI cJ A sS kS oS aS (shtT tS (nI j) b k) ik cA tp td fm tt vl wr (shtB bO (nI j) b k) sO nU mV) = (MW cI cJ A sS kS oS aS (shtT tS (nI j) b k) ik cA tp td fm tt vl wr (shtB bO (nI j) b k) (shtS sO (nI j) b k) nU mV) := congrArg (fun z => (MW cI cJ A sS kS oS aS (shtT tS (nI j) b k) ik cA tp td fm tt vl wr (shtB bO (nI j) b k) z nU mV)) hE
                have hP : va_P D vwCl (MW cI cJ A sS kS oS aS (shtT tS (nI j) b k) ik cA tp td fm tt vl wr (shtB bO (nI j) b k) (shtS sO (nI j) b k) nU mV) H := Eq.mp (congrArg (fun z => va_P D vwCl z H) hW) hP
                have hD : va_D _ (MW cI cJ A sS kS oS aS (shtT tS (nI j) b k) ik cA tp td fm tt vl wr (shtB bO (nI j) b k) (shtS sO (nI j) b k) nU mV) := Eq.mp (congrArg (fun z => va_D _ z) hW) hD
                have hE : nU = shtU nU (nI j) b k := by simp [shtR, shtT, shtB, shtS, shtU, shtW, shtZ, bitsOk, pk_us, bump, put9, b2i, c4, c8, c14, c20, c26, c37, c51, ej, i_lt, -Int32.not_le, -Int32.not_lt]
                have hW : (MW cI cJ A sS kS oS aS (shtT tS (nI j) b k) ik cA tp td fm tt vl wr (shtB bO (nI j) b k) (shtS sO (nI j) b k) nU mV) = (MW cI cJ A sS kS oS aS (shtT tS (nI j) b k) ik cA tp td fm tt vl wr (shtB bO (nI j) b k) (shtS sO (nI j) b k) (shtU nU (nI j) b k) mV) := congrArg (fun z => (MW cI cJ A sS kS oS aS (shtT tS (nI j) b k) ik cA tp td fm tt vl wr (shtB bO (nI j) b k) (shtS sO (nI j) b k) z mV)) hE
                have hP : va_P D vwCl (MW cI cJ A sS kS oS aS (shtT tS (nI j) b k) ik cA tp td fm tt vl wr (shtB bO (nI j) b k) (shtS sO (nI j) b k) (shtU nU (nI j) b k) mV) H := Eq.mp (congrArg (fun z => va_P D vwCl z H) hW) hP
                have hD : va_D _ (MW cI cJ A sS kS oS aS (shtT tS (nI j) b k) ik cA tp td fm tt vl wr (shtB bO (nI j) b k) (shtS sO (nI j) b k) (shtU nU (nI j) b k) mV) := Eq.mp (congrArg (fun z => va_D _ z) hW) hD
                exact mu_iret (MW cI cJ A sS kS oS aS (shtT tS (nI j) b k) ik cA tp td fm tt vl wr (shtB bO (nI j) b k) (shtS sO (nI j) b k) (shtU nU (nI j) b k) mV) hx hb hr hlk hP hS rfl (⟨congrArg (fun z => some (Value.int z)) (by simp [shtR, shtT, shtB, shtS, shtU, shtW, shtZ, bitsOk, pk_us, bump, put9, b2i, c4, c8, c14, c20, c26, c37, c51, ej, i_lt, -Int32.not_le, -Int32.not_lt]), rfl⟩) dX4_sheet_60
            · refine lv_aload_n hx hb dX4_sheet_40 rfl (lv_at hl 0 rfl) ?_
              refine lv_ldcw (v := (-1000000007)) hx hb hown (hts _ wq_X4_322) dX4_sheet_41 ?_
              refine mu_W (w := (MW cI cJ A sS kS oS aS tS ik cA tp td fm tt vl wr bO sO nU mV)) (rest := []) S hK hP hD hS (k_X4_finds 6 (-1000000007) (by decide) (by decide)) gv_X4_63 hd_X4_finds ⟨Nat.le_of_ble_eq_true rfl, Nat.le_of_ble_eq_true rfl⟩ 4 rfl rfl rfl rfl hl.1 (lv_room (Nat.le_of_ble_eq_true rfl)) dX4_sheet_44 ⟨Nat.zero_le _, Nat.zero_le _⟩ (fun ov w' H locs hp hP hD hS => ?_)
              obtain ⟨rfl, rfl⟩ := hp
              refine W.eq (g2 := F0 m 47 ls [.int (-1000000007)]) rfl ?_
              have hE : upd tS 6 (tS 6 + 1) = shtT tS (nI j) b k := by simp [shtR, shtT, shtB, shtS, shtU, shtW, shtZ, bitsOk, pk_us, bump, put9, b2i, c4, c8, c14, c20, c26, c37, ej, i_lt, -Int32.not_le, -Int32.not_lt]
              have hW : (MW cI cJ A sS kS oS aS (upd tS 6 (tS 6 + 1)) ik cA tp td fm tt vl wr bO sO nU mV) = (MW cI cJ A sS kS oS aS (shtT tS (nI j) b k) ik cA tp td fm tt vl wr bO sO nU mV) := congrArg (fun z => (MW cI cJ A sS kS oS aS z ik cA tp td fm tt vl wr bO sO nU mV)) hE
              have hP : va_P D vwCl (MW cI cJ A sS kS oS aS (shtT tS (nI j) b k) ik cA tp td fm tt vl wr bO sO nU mV) H := Eq.mp (congrArg (fun z => va_P D vwCl z H) hW) hP
              have hD : va_D _ (MW cI cJ A sS kS oS aS (shtT tS (nI j) b k) ik cA tp td fm tt vl wr bO sO nU mV) := Eq.mp (congrArg (fun z => va_D _ z) hW) hD
              have hE : bO = shtB bO (nI j) b k := by simp [shtR, shtT, shtB, shtS, shtU, shtW, shtZ, bitsOk, pk_us, bump, put9, b2i, c4, c8, c14, c20, c26, c37, ej, i_lt, -Int32.not_le, -Int32.not_lt]
              have hW : (MW cI cJ A sS kS oS aS (shtT tS (nI j) b k) ik cA tp td fm tt vl wr bO sO nU mV) = (MW cI cJ A sS kS oS aS (shtT tS (nI j) b k) ik cA tp td fm tt vl wr (shtB bO (nI j) b k) sO nU mV) := congrArg (fun z => (MW cI cJ A sS kS oS aS (shtT tS (nI j) b k) ik cA tp td fm tt vl wr z sO nU mV)) hE
              have hP : va_P D vwCl (MW cI cJ A sS kS oS aS (shtT tS (nI j) b k) ik cA tp td fm tt vl wr (shtB bO (nI j) b k) sO nU mV) H := Eq.mp (congrArg (fun z => va_P D vwCl z H) hW) hP
              have hD : va_D _ (MW cI cJ A sS kS oS aS (shtT tS (nI j) b k) ik cA tp td fm tt vl wr (shtB bO (nI j) b k) sO nU mV) := Eq.mp (congrArg (fun z => va_D _ z) hW) hD
              have hE : sO = shtS sO (nI j) b k := by simp [shtR, shtT, shtB, shtS, shtU, shtW, shtZ, bitsOk, pk_us, bump, put9, b2i, c4, c8, c14, c20, c26, c37, ej, i_lt, -Int32.not_le, -Int32.not_lt]
              have hW : (MW cI cJ A sS kS oS aS (shtT tS (nI j) b k) ik cA tp td fm tt vl wr (shtB bO (nI j) b k) sO nU mV) = (MW cI cJ A sS kS oS aS (shtT tS (nI j) b k) ik cA tp td fm tt vl wr (shtB bO (nI j) b k) (shtS sO (nI j) b k) nU mV) := congrArg (fun z => (MW cI cJ A sS kS oS aS (shtT tS (nI j) b k) ik cA tp td fm tt vl wr (shtB bO (nI j) b k) z nU mV)) hE
              have hP : va_P D vwCl (MW cI cJ A sS kS oS aS (shtT tS (nI j) b k) ik cA tp td fm tt vl wr (shtB bO (nI j) b k) (shtS sO (nI j) b k) nU mV) H := Eq.mp (congrArg (fun z => va_P D vwCl z H) hW) hP
              have hD : va_D _ (MW cI cJ A sS kS oS aS (shtT tS (nI j) b k) ik cA tp td fm tt vl wr (shtB bO (nI j) b k) (shtS sO (nI j) b k) nU mV) := Eq.mp (congrArg (fun z => va_D _ z) hW) hD
              have hE : nU = shtU nU (nI j) b k := by simp [shtR, shtT, shtB, shtS, shtU, shtW, shtZ, bitsOk, pk_us, bump, put9, b2i, c4, c8, c14, c20, c26, c37, ej, i_lt, -Int32.not_le, -Int32.not_lt]
              have hW : (MW cI cJ A sS kS oS aS (shtT tS (nI j) b k) ik cA tp td fm tt vl wr (shtB bO (nI j) b k) (shtS sO (nI j) b k) nU mV) = (MW cI cJ A sS kS oS aS (shtT tS (nI j) b k) ik cA tp td fm tt vl wr (shtB bO (nI j) b k) (shtS sO (nI j) b k) (shtU nU (nI j) b k) mV) := congrArg (fun z => (MW cI cJ A sS kS oS aS (shtT tS (nI j) b k) ik cA tp td fm tt vl wr (shtB bO (nI j) b k) (shtS sO (nI j) b k) z mV)) hE
              have hP : va_P D vwCl (MW cI cJ A sS kS oS aS (shtT tS (nI j) b k) ik cA tp td fm tt vl wr (shtB bO (nI j) b k) (shtS sO (nI j) b k) (shtU nU (nI j) b k) mV) H := Eq.mp (congrArg (fun z => va_P D vwCl z H) hW) hP
              have hD : va_D _ (MW cI cJ A sS kS oS aS (shtT tS (nI j) b k) ik cA tp td fm tt vl wr (shtB bO (nI j) b k) (shtS sO (nI j) b k) (shtU nU (nI j) b k) mV) := Eq.mp (congrArg (fun z => va_D _ z) hW) hD
              exact mu_iret (MW cI cJ A sS kS oS aS (shtT tS (nI j) b k) ik cA tp td fm tt vl wr (shtB bO (nI j) b k) (shtS sO (nI j) b k) (shtU nU (nI j) b k) mV) hx hb hr hlk hP hS rfl (⟨congrArg (fun z => some (Value.int z)) (by simp [shtR, shtT, shtB, shtS, shtU, shtW, shtZ, bitsOk, pk_us, bump, put9, b2i, c4, c8, c14, c20, c26, c37, ej, i_lt, -Int32.not_le, -Int32.not_lt]), rfl⟩) dX4_sheet_47
          · refine lv_aload_n hx hb dX4_sheet_29 rfl (lv_at hl 0 rfl) ?_
            refine lv_ldc (v := (-1000000001)) hx hb hown (hts _ wq_X4_44) dX4_sheet_30 ?_
            refine mu_W (w := (MW cI cJ A sS kS oS aS tS ik cA tp td fm tt vl wr bO sO nU mV)) (rest := []) S hK hP hD hS (k_X4_finds 0 (-1000000001) (by decide) (by decide)) gv_X4_63 hd_X4_finds ⟨Nat.le_of_ble_eq_true rfl, Nat.le_of_ble_eq_true rfl⟩ 4 rfl rfl rfl rfl hl.1 (lv_room (Nat.le_of_ble_eq_true rfl)) dX4_sheet_32 ⟨Nat.zero_le _, Nat.zero_le _⟩ (fun ov w' H locs hp hP hD hS => ?_)
            obtain ⟨rfl, rfl⟩ := hp
            refine W.eq (g2 := F0 m 35 ls [.int (-1000000001)]) rfl ?_
            have hE : upd tS 0 (tS 0 + 1) = shtT tS (nI j) b k := by simp [shtR, shtT, shtB, shtS, shtU, shtW, shtZ, bitsOk, pk_us, bump, put9, b2i, c4, c8, c14, c20, c26, ej, i_lt, -Int32.not_le, -Int32.not_lt]
            have hW : (MW cI cJ A sS kS oS aS (upd tS 0 (tS 0 + 1)) ik cA tp td fm tt vl wr bO sO nU mV) = (MW cI cJ A sS kS oS aS (shtT tS (nI j) b k) ik cA tp td fm tt vl wr bO sO nU mV) := congrArg (fun z => (MW cI cJ A sS kS oS aS z ik cA tp td fm tt vl wr bO sO nU mV)) hE
            have hP : va_P D vwCl (MW cI cJ A sS kS oS aS (shtT tS (nI j) b k) ik cA tp td fm tt vl wr bO sO nU mV) H := Eq.mp (congrArg (fun z => va_P D vwCl z H) hW) hP
            have hD : va_D _ (MW cI cJ A sS kS oS aS (shtT tS (nI j) b k) ik cA tp td fm tt vl wr bO sO nU mV) := Eq.mp (congrArg (fun z => va_D _ z) hW) hD
            have hE : bO = shtB bO (nI j) b k := by simp [shtR, shtT, shtB, shtS, shtU, shtW, shtZ, bitsOk, pk_us, bump, put9, b2i, c4, c8, c14, c20, c26, ej, i_lt, -Int32.not_le, -Int32.not_lt]
            have hW : (MW cI cJ A sS kS oS aS (shtT tS (nI j) b k) ik cA tp td fm tt vl wr bO sO nU mV) = (MW cI cJ A sS kS oS aS (shtT tS (nI j) b k) ik cA tp td fm tt vl wr (shtB bO (nI j) b k) sO nU mV) := congrArg (fun z => (MW cI cJ A sS kS oS aS (shtT tS (nI j) b k) ik cA tp td fm tt vl wr z sO nU mV)) hE
            have hP : va_P D vwCl (MW cI cJ A sS kS oS aS (shtT tS (nI j) b k) ik cA tp td fm tt vl wr (shtB bO (nI j) b k) sO nU mV) H := Eq.mp (congrArg (fun z => va_P D vwCl z H) hW) hP
            have hD : va_D _ (MW cI cJ A sS kS oS aS (shtT tS (nI j) b k) ik cA tp td fm tt vl wr (shtB bO (nI j) b k) sO nU mV) := Eq.mp (congrArg (fun z => va_D _ z) hW) hD
            have hE : sO = shtS sO (nI j) b k := by simp [shtR, shtT, shtB, shtS, shtU, shtW, shtZ, bitsOk, pk_us, bump, put9, b2i, c4, c8, c14, c20, c26, ej, i_lt, -Int32.not_le, -Int32.not_lt]
            have hW : (MW cI cJ A sS kS oS aS (shtT tS (nI j) b k) ik cA tp td fm tt vl wr (shtB bO (nI j) b k) sO nU mV) = (MW cI cJ A sS kS oS aS (shtT tS (nI j) b k) ik cA tp td fm tt vl wr (shtB bO (nI j) b k) (shtS sO (nI j) b k) nU mV) := congrArg (fun z => (MW cI cJ A sS kS oS aS (shtT tS (nI j) b k) ik cA tp td fm tt vl wr (shtB bO (nI j) b k) z nU mV)) hE
            have hP : va_P D vwCl (MW cI cJ A sS kS oS aS (shtT tS (nI j) b k) ik cA tp td fm tt vl wr (shtB bO (nI j) b k) (shtS sO (nI j) b k) nU mV) H := Eq.mp (congrArg (fun z => va_P D vwCl z H) hW) hP
            have hD : va_D _ (MW cI cJ A sS kS oS aS (shtT tS (nI j) b k) ik cA tp td fm tt vl wr (shtB bO (nI j) b k) (shtS sO (nI j) b k) nU mV) := Eq.mp (congrArg (fun z => va_D _ z) hW) hD
            have hE : nU = shtU nU (nI j) b k := by simp [shtR, shtT, shtB, shtS, shtU, shtW, shtZ, bitsOk, pk_us, bump, put9, b2i, c4, c8, c14, c20, c26, ej, i_lt, -Int32.not_le, -Int32.not_lt]
            have hW : (MW cI cJ A sS kS oS aS (shtT tS (nI j) b k) ik cA tp td fm tt vl wr (shtB bO (nI j) b k) (shtS sO (nI j) b k) nU mV) = (MW cI cJ A sS kS oS aS (shtT tS (nI j) b k) ik cA tp td fm tt vl wr (shtB bO (nI j) b k) (shtS sO (nI j) b k) (shtU nU (nI j) b k) mV) := congrArg (fun z => (MW cI cJ A sS kS oS aS (shtT tS (nI j) b k) ik cA tp td fm tt vl wr (shtB bO (nI j) b k) (shtS sO (nI j) b k) z mV)) hE
            have hP : va_P D vwCl (MW cI cJ A sS kS oS aS (shtT tS (nI j) b k) ik cA tp td fm tt vl wr (shtB bO (nI j) b k) (shtS sO (nI j) b k) (shtU nU (nI j) b k) mV) H := Eq.mp (congrArg (fun z => va_P D vwCl z H) hW) hP
            have hD : va_D _ (MW cI cJ A sS kS oS aS (shtT tS (nI j) b k) ik cA tp td fm tt vl wr (shtB bO (nI j) b k) (shtS sO (nI j) b k) (shtU nU (nI j) b k) mV) := Eq.mp (congrArg (fun z => va_D _ z) hW) hD
            exact mu_iret (MW cI cJ A sS kS oS aS (shtT tS (nI j) b k) ik cA tp td fm tt vl wr (shtB bO (nI j) b k) (shtS sO (nI j) b k) (shtU nU (nI j) b k) mV) hx hb hr hlk hP hS rfl (⟨congrArg (fun z => some (Value.int z)) (by simp [shtR, shtT, shtB, shtS, shtU, shtW, shtZ, bitsOk, pk_us, bump, put9, b2i, c4, c8, c14, c20, c26, ej, i_lt, -Int32.not_le, -Int32.not_lt]), rfl⟩) dX4_sheet_35

set_option maxHeartbeats 4000000 in
set_option maxRecDepth 100000 in
theorem k_X4_write (x : Int32) (i : Int32) (v : Int64) (hSh : ShI sO) : MU l D (tyA cI cJ cO) yX4_write cX4_write 8 ((some .long)) 3 66 [.ref (A 0), .int x, .int i, .long v] (MW cI cJ A sS kS oS aS tS ik cA tp td fm tt vl wr bO sO nU mV) (fun ov w' => ov = some (.long (wrtR bO sO nU x i)) ∧ w' = (MW cI cJ A sS kS oS aS (wrtT tS bO sO x i) ik cA tp td fm tt vl wr bO sO (wrtU bO sO nU x i v) mV)) := by
  refine MU.mk (by decide) (Nat.le_of_ble_eq_true rfl) ?_
  intro p e s m below meth c ls S hr hlk hP hK hD hS hl
  have S : CallFix p m c cX4_write 8 s _ WL RX4 := S
  obtain ⟨hx, hb, hml, hown, hts⟩ := id S
  have hl : lv_has ls 8 [(0, .ref (A 0)), (1, .int x), (2, .int i), (3, .long v)] := hl
  refine lv_aload_n hx hb dX4_write_0 rfl (lv_at hl 0 rfl) ?_
  refine lv_iload_n hx hb dX4_write_1 rfl (lv_at hl 1 rfl) ?_
  refine ro_V (w := (MW cI cJ A sS kS oS aS tS ik cA tp td fm tt vl wr bO sO nU mV)) (rest := []) S hK hP (k_X4_wrongSheet x) gv_X4_324 hd_X4_wrongSheet ⟨Nat.le_of_ble_eq_true rfl, Nat.le_of_ble_eq_true rfl⟩ 4 rfl rfl rfl rfl hl.1 (lv_room (Nat.le_of_ble_eq_true rfl)) dX4_write_2 ⟨Nat.zero_le _, Nat.zero_le _⟩ ?_
  rcases wrong_c bO x with ⟨hs0, hw⟩ | ⟨j, hs0, rfl, hs1, hw⟩ | ⟨j, hs0, rfl, hs1, hw⟩
  · refine w_i (z := (-1000000001)) (hw) ?_
    refine lv_istore (lv' := [(5, .int (-1000000001)), (0, .ref (A 0)), (1, .int x), (2, .int i), (3, .long v)]) hx hb dX4_write_5 hl (by decide) rfl (fun ls hl => ?_)
    refine lv_iload hx hb dX4_write_7 (lv_at hl 0 rfl) ?_
    refine lv_if_eq (tgt := 20) hx hb dX4_write_9 rfl (fun c9 => ?_) (fun c9 => ?_)
    · exact absurd c9 (by decide)
    · refine lv_aload_n hx hb dX4_write_12 rfl (lv_at hl 1 rfl) ?_
      refine lv_iload hx hb dX4_write_13 (lv_at hl 0 rfl) ?_
      refine mu_W (w := (MW cI cJ A sS kS oS aS tS ik cA tp td fm tt vl wr bO sO nU mV)) (rest := []) S hK hP hD hS (k_X4_finds 0 (-1000000001) (by decide) (by decide)) gv_X4_63 hd_X4_finds ⟨Nat.le_of_ble_eq_true rfl, Nat.le_of_ble_eq_true rfl⟩ 4 rfl rfl rfl rfl hl.1 (lv_room (Nat.le_of_ble_eq_true rfl)) dX4_write_15 ⟨Nat.zero_le _, Nat.zero_le _⟩ (fun ov w' H locs hp hP hD hS => ?_)
      obtain ⟨rfl, rfl⟩ := hp
      refine W.eq (g2 := F0 m 18 ls [.int (-1000000001)]) rfl ?_
      refine lv_i2l hx hb dX4_write_18 rfl ?_
      have hE : upd tS 0 (tS 0 + 1) = wrtT tS bO sO x i := by simp [wrtR, wrtT, wrtU, wrtOk, wrT, bump, put9, b2i, c9, hw, i_lt, -Int32.not_le, -Int32.not_lt]
      have hW : (MW cI cJ A sS kS oS aS (upd tS 0 (tS 0 + 1)) ik cA tp td fm tt vl wr bO sO nU mV) = (MW cI cJ A sS kS oS aS (wrtT tS bO sO x i) ik cA tp td fm tt vl wr bO sO nU mV) := congrArg (fun z => (MW cI cJ A sS kS oS aS z ik cA tp td fm tt vl wr bO sO nU mV)) hE
      have hP : va_P D vwCl (MW cI cJ A sS kS oS aS (wrtT tS bO sO x i) ik cA tp td fm tt vl wr bO sO nU mV) H := Eq.mp (congrArg (fun z => va_P D vwCl z H) hW) hP
      have hD : va_D _ (MW cI cJ A sS kS oS aS (wrtT tS bO sO x i) ik cA tp td fm tt vl wr bO sO nU mV) := Eq.mp (congrArg (fun z => va_D _ z) hW) hD
      have hE : nU = wrtU bO sO nU x i v := by simp [wrtR, wrtT, wrtU, wrtOk, wrT, bump, put9, b2i, c9, hw, i_lt, -Int32.not_le, -Int32.not_lt]
      have hW : (MW cI cJ A sS kS oS aS (wrtT tS bO sO x i) ik cA tp td fm tt vl wr bO sO nU mV) = (MW cI cJ A sS kS oS aS (wrtT tS bO sO x i) ik cA tp td fm tt vl wr bO sO (wrtU bO sO nU x i v) mV) := congrArg (fun z => (MW cI cJ A sS kS oS aS (wrtT tS bO sO x i) ik cA tp td fm tt vl wr bO sO z mV)) hE
      have hP : va_P D vwCl (MW cI cJ A sS kS oS aS (wrtT tS bO sO x i) ik cA tp td fm tt vl wr bO sO (wrtU bO sO nU x i v) mV) H := Eq.mp (congrArg (fun z => va_P D vwCl z H) hW) hP
      have hD : va_D _ (MW cI cJ A sS kS oS aS (wrtT tS bO sO x i) ik cA tp td fm tt vl wr bO sO (wrtU bO sO nU x i v) mV) := Eq.mp (congrArg (fun z => va_D _ z) hW) hD
      exact mu_lret (MW cI cJ A sS kS oS aS (wrtT tS bO sO x i) ik cA tp td fm tt vl wr bO sO (wrtU bO sO nU x i v) mV) hx hb hr hlk hP hS rfl (⟨congrArg (fun z => some (Value.long z)) (by simp [wrtR, wrtT, wrtU, wrtOk, wrT, bump, put9, b2i, c9, hw, i_lt, -Int32.not_le, -Int32.not_lt]), rfl⟩) dX4_write_19
  · have ej : cl (nI j) = j := cl_nI (by omega)
    refine w_i (z := (-1000000006)) (hw) ?_
    refine lv_istore (lv' := [(5, .int (-1000000006)), (0, .ref (A 0)), (1, .int (nI j)), (2, .int i), (3, .long v)]) hx hb dX4_write_5 hl (by decide) rfl (fun ls hl => ?_)
    refine lv_iload hx hb dX4_write_7 (lv_at hl 0 rfl) ?_
    refine lv_if_eq (tgt := 20) hx hb dX4_write_9 rfl (fun c9 => ?_) (fun c9 => ?_)
    · exact absurd c9 (by decide)
    · refine lv_aload_n hx hb dX4_write_12 rfl (lv_at hl 1 rfl) ?_
      refine lv_iload hx hb dX4_write_13 (lv_at hl 0 rfl) ?_
      refine mu_W (w := (MW cI cJ A sS kS oS aS tS ik cA tp td fm tt vl wr bO sO nU mV)) (rest := []) S hK hP hD hS (k_X4_finds 5 (-1000000006) (by decide) (by decide)) gv_X4_63 hd_X4_finds ⟨Nat.le_of_ble_eq_true rfl, Nat.le_of_ble_eq_true rfl⟩ 4 rfl rfl rfl rfl hl.1 (lv_room (Nat.le_of_ble_eq_true rfl)) dX4_write_15 ⟨Nat.zero_le _, Nat.zero_le _⟩ (fun ov w' H locs hp hP hD hS => ?_)
      obtain ⟨rfl, rfl⟩ := hp
      refine W.eq (g2 := F0 m 18 ls [.int (-1000000006)]) rfl ?_
      refine lv_i2l hx hb dX4_write_18 rfl ?_
      have hE : upd tS 5 (tS 5 + 1) = wrtT tS bO sO (nI j) i := by simp [wrtR, wrtT, wrtU, wrtOk, wrT, bump, put9, b2i, c9, ej, hw, i_lt, -Int32.not_le, -Int32.not_lt]
      have hW : (MW cI cJ A sS kS oS aS (upd tS 5 (tS 5 + 1)) ik cA tp td fm tt vl wr bO sO nU mV) = (MW cI cJ A sS kS oS aS (wrtT tS bO sO (nI j) i) ik cA tp td fm tt vl wr bO sO nU mV) := congrArg (fun z => (MW cI cJ A sS kS oS aS z ik cA tp td fm tt vl wr bO sO nU mV)) hE
      have hP : va_P D vwCl (MW cI cJ A sS kS oS aS (wrtT tS bO sO (nI j) i) ik cA tp td fm tt vl wr bO sO nU mV) H := Eq.mp (congrArg (fun z => va_P D vwCl z H) hW) hP
      have hD : va_D _ (MW cI cJ A sS kS oS aS (wrtT tS bO sO (nI j) i) ik cA tp td fm tt vl wr bO sO nU mV) := Eq.mp (congrArg (fun z => va_D _ z) hW) hD
      have hE : nU = wrtU bO sO nU (nI j) i v := by simp [wrtR, wrtT, wrtU, wrtOk, wrT, bump, put9, b2i, c9, ej, hw, i_lt, -Int32.not_le, -Int32.not_lt]
      have hW : (MW cI cJ A sS kS oS aS (wrtT tS bO sO (nI j) i) ik cA tp td fm tt vl wr bO sO nU mV) = (MW cI cJ A sS kS oS aS (wrtT tS bO sO (nI j) i) ik cA tp td fm tt vl wr bO sO (wrtU bO sO nU (nI j) i v) mV) := congrArg (fun z => (MW cI cJ A sS kS oS aS (wrtT tS bO sO (nI j) i) ik cA tp td fm tt vl wr bO sO z mV)) hE
      have hP : va_P D vwCl (MW cI cJ A sS kS oS aS (wrtT tS bO sO (nI j) i) ik cA tp td fm tt vl wr bO sO (wrtU bO sO nU (nI j) i v) mV) H := Eq.mp (congrArg (fun z => va_P D vwCl z H) hW) hP
      have hD : va_D _ (MW cI cJ A sS kS oS aS (wrtT tS bO sO (nI j) i) ik cA tp td fm tt vl wr bO sO (wrtU bO sO nU (nI j) i v) mV) := Eq.mp (congrArg (fun z => va_D _ z) hW) hD
      exact mu_lret (MW cI cJ A sS kS oS aS (wrtT tS bO sO (nI j) i) ik cA tp td fm tt vl wr bO sO (wrtU bO sO nU (nI j) i v) mV) hx hb hr hlk hP hS rfl (⟨congrArg (fun z => some (Value.long z)) (by simp [wrtR, wrtT, wrtU, wrtOk, wrT, bump, put9, b2i, c9, ej, hw, i_lt, -Int32.not_le, -Int32.not_lt]), rfl⟩) dX4_write_19
  · have ej : cl (nI j) = j := cl_nI (by omega)
    obtain ⟨hz, hz40⟩ := sh_n hSh hs0
    refine w_i (z := 0) (hw) ?_
    refine lv_istore (lv' := [(5, .int 0), (0, .ref (A 0)), (1, .int (nI j)), (2, .int i), (3, .long v)]) hx hb dX4_write_5 hl (by decide) rfl (fun ls hl => ?_)
    refine lv_iload hx hb dX4_write_7 (lv_at hl 0 rfl) ?_
    refine lv_if_eq (tgt := 20) hx hb dX4_write_9 rfl (fun c9 => ?_) (fun c9 => ?_)
    · refine lv_iload_n hx hb dX4_write_20 rfl (lv_at hl 3 rfl) ?_
      refine lv_i2l hx hb dX4_write_21 rfl ?_
      refine lv_lconst (v := 0) hx hb dX4_write_22 rfl ?_
      refine lv_aload_n hx hb dX4_write_23 rfl (lv_at hl 1 rfl) ?_
      refine va_get (ci := 4) (v := .ref (A 9)) hx hb hts wx_X4 hown hK hP 0 rfl rfl 14 (by decide) (hts _ wf_X4_34) (fun _ h9 => h9) rfl dX4_write_24 ?_
      refine lv_iload_n hx hb dX4_write_27 rfl (lv_at hl 2 rfl) ?_
      refine ia_ld hx hb hK hP 9 0 rfl rfl j (rfl) (by omega) (by decide) dX4_write_28 ?_
      refine lv_iconst (v := 1) hx hb dX4_write_29 rfl ?_
      refine lv_isub hx hb dX4_write_30 ?_
      refine lv_i2l hx hb dX4_write_31 rfl ?_
      refine ro_S (w := []) (rest := []) S hK va_P0 (k_X4_inI i 0 ((sO j) - 1) _ _ (by decide) (rfl)) gs_X4_49 hd_X4_in ⟨Nat.le_of_ble_eq_true rfl, Nat.le_of_ble_eq_true rfl⟩ rfl hl.1 (lv_room (Nat.le_of_ble_eq_true rfl)) dX4_write_32 ⟨Nat.zero_le _, Nat.zero_le _⟩ ?_
      refine lv_if_ne (tgt := 46) hx hb dX4_write_35 rfl (fun c35 => ?_) (fun c35 => ?_)
      · replace c35 := b2i_n0 c35
        obtain ⟨q, hq, rfl⟩ := shi_in hSh hs0 c35
        have eq0 : cl (nI q) = q := cl_nI (by omega)
        refine lv_aload_n hx hb dX4_write_46 rfl (lv_at hl 1 rfl) ?_
        refine va_get (ci := 4) (v := .ref (A 10)) hx hb hts wx_X4 hown hK hP 0 rfl rfl 15 (by decide) (hts _ wf_X4_37) (fun _ h9 => h9) rfl dX4_write_47 ?_
        refine lv_bipush (v := 40) hx hb dX4_write_50 rfl ?_
        refine lv_iload_n hx hb dX4_write_52 rfl (lv_at hl 2 rfl) ?_
        refine lv_imul hx hb dX4_write_53 ?_
        refine lv_iload_n hx hb dX4_write_54 rfl (lv_at hl 3 rfl) ?_
        refine lv_iadd hx hb dX4_write_55 ?_
        refine la_ld hx hb hK hP 10 1 rfl rfl (40 * j + q) (nI_40 j q) (by omega) (by decide) dX4_write_56 ?_
        refine lv_lstore (lv' := [(6, .long (nU (40 * j + q))), (5, .int 0), (0, .ref (A 0)), (1, .int (nI j)), (2, .int (nI q)), (3, .long v)]) hx hb dX4_write_57 hl (by decide) rfl (fun ls hl => ?_)
        refine lv_aload_n hx hb dX4_write_59 rfl (lv_at hl 2 rfl) ?_
        refine va_get (ci := 4) (v := .ref (A 10)) hx hb hts wx_X4 hown hK hP 0 rfl rfl 15 (by decide) (hts _ wf_X4_37) (fun _ h9 => h9) rfl dX4_write_60 ?_
        refine lv_bipush (v := 40) hx hb dX4_write_63 rfl ?_
        refine lv_iload_n hx hb dX4_write_65 rfl (lv_at hl 3 rfl) ?_
        refine lv_imul hx hb dX4_write_66 ?_
        refine lv_iload_n hx hb dX4_write_67 rfl (lv_at hl 4 rfl) ?_
        refine lv_iadd hx hb dX4_write_68 ?_
        refine lv_aload_n hx hb dX4_write_69 rfl (lv_at hl 2 rfl) ?_
        refine va_get (ci := 4) (v := .ref (A 8)) hx hb hts wx_X4 hown hK hP 0 rfl rfl 13 (by decide) (hts _ wf_X4_31) (fun _ h9 => h9) rfl dX4_write_70 ?_
        refine lv_iload_n hx hb dX4_write_73 rfl (lv_at hl 3 rfl) ?_
        refine ia_ld hx hb hK hP 8 0 rfl rfl j (rfl) (by omega) (by decide) dX4_write_74 ?_
        refine lv_lload_n hx hb dX4_write_75 rfl (lv_at hl 5 rfl) ?_
        refine ro_S (w := []) (rest := [.int ((40 * (nI j)) + (nI q)), .ref (A 10)]) S hK va_P0 (k_X4_narrowed (bO j) v) gs_X4_327 hd_X4_narrowed ⟨Nat.le_of_ble_eq_true rfl, Nat.le_of_ble_eq_true rfl⟩ rfl hl.1 (lv_room (Nat.le_of_ble_eq_true rfl)) dX4_write_76 ⟨Nat.zero_le _, Nat.zero_le _⟩ ?_
        refine la_st hx hb hK hP hD hS 10 1 rfl rfl (40 * j + q) (nI_40 j q) (by omega) (by decide) dX4_write_79 (fun H locs hP hD hS => ?_)
        have hP : va_P D vwCl (MW cI cJ A sS kS oS aS tS ik cA tp td fm tt vl wr bO sO (vp_updL nU (40 * j + q) (narL (bO j) v)) mV) H := hP
        have hD : va_D _ (MW cI cJ A sS kS oS aS tS ik cA tp td fm tt vl wr bO sO (vp_updL nU (40 * j + q) (narL (bO j) v)) mV) := hD
        refine lv_lload hx hb dX4_write_80 (lv_at hl 0 rfl) ?_
        have hE : tS = wrtT tS bO sO (nI j) (nI q) := by simp [wrtR, wrtT, wrtU, wrtOk, wrT, bump, put9, b2i, c9, c35, ej, hs1, hw, eq0, i_lt, -Int32.not_le, -Int32.not_lt]
        have hW : (MW cI cJ A sS kS oS aS tS ik cA tp td fm tt vl wr bO sO (vp_updL nU (40 * j + q) (narL (bO j) v)) mV) = (MW cI cJ A sS kS oS aS (wrtT tS bO sO (nI j) (nI q)) ik cA tp td fm tt vl wr bO sO (vp_updL nU (40 * j + q) (narL (bO j) v)) mV) := congrArg (fun z => (MW cI cJ A sS kS oS aS z ik cA tp td fm tt vl wr bO sO (vp_updL nU (40 * j + q) (narL (bO j) v)) mV)) hE
        have hP : va_P D vwCl (MW cI cJ A sS kS oS aS (wrtT tS bO sO (nI j) (nI q)) ik cA tp td fm tt vl wr bO sO (vp_updL nU (40 * j + q) (narL (bO j) v)) mV) H := Eq.mp (congrArg (fun z => va_P D vwCl z H) hW) hP
        have hD : va_D _ (MW cI cJ A sS kS oS aS (wrtT tS bO sO (nI j) (nI q)) ik cA tp td fm tt vl wr bO sO (vp_updL nU (40 * j + q) (narL (bO j) v)) mV) := Eq.mp (congrArg (fun z => va_D _ z) hW) hD
        have hE : vp_updL nU (40 * j + q) (narL (bO j) v) = wrtU bO sO nU (nI j) (nI q) v := by simp [wrtR, wrtT, wrtU, wrtOk, wrT, bump, put9, b2i, c9, c35, ej, hs1, hw, eq0, i_lt, -Int32.not_le, -Int32.not_lt]
        have hW : (MW cI cJ A sS kS oS aS (wrtT tS bO sO (nI j) (nI q)) ik cA tp td fm tt vl wr bO sO (vp_updL nU (40 * j + q) (narL (bO j) v)) mV) = (MW cI cJ A sS kS oS aS (wrtT tS bO sO (nI j) (nI q)) ik cA tp td fm tt vl wr bO sO (wrtU bO sO nU (nI j) (nI q) v) mV) := congrArg (fun z => (MW cI cJ A sS kS oS aS (wrtT tS bO sO (nI j) (nI q)) ik cA tp td fm tt vl wr bO sO z mV)) hE
        have hP : va_P D vwCl (MW cI cJ A sS kS oS aS (wrtT tS bO sO (nI j) (nI q)) ik cA tp td fm tt vl wr bO sO (wrtU bO sO nU (nI j) (nI q) v) mV) H := Eq.mp (congrArg (fun z => va_P D vwCl z H) hW) hP
        have hD : va_D _ (MW cI cJ A sS kS oS aS (wrtT tS bO sO (nI j) (nI q)) ik cA tp td fm tt vl wr bO sO (wrtU bO sO nU (nI j) (nI q) v) mV) := Eq.mp (congrArg (fun z => va_D _ z) hW) hD
        exact mu_lret (MW cI cJ A sS kS oS aS (wrtT tS bO sO (nI j) (nI q)) ik cA tp td fm tt vl wr bO sO (wrtU bO sO nU (nI j) (nI q) v) mV) hx hb hr hlk hP hS rfl (⟨congrArg (fun z => some (Value.long z)) (by simp [wrtR, wrtT, wrtU, wrtOk, wrT, bump, put9, b2i, c9, c35, ej, hs1, hw, eq0, i_lt, -Int32.not_le, -Int32.not_lt]), rfl⟩) dX4_write_82
      · replace c35 := (b2i_0 _).mp c35
        refine lv_aload_n hx hb dX4_write_38 rfl (lv_at hl 1 rfl) ?_
        refine lv_ldc (v := (-1000000001)) hx hb hown (hts _ wq_X4_44) dX4_write_39 ?_
        refine mu_W (w := (MW cI cJ A sS kS oS aS tS ik cA tp td fm tt vl wr bO sO nU mV)) (rest := []) S hK hP hD hS (k_X4_finds 0 (-1000000001) (by decide) (by decide)) gv_X4_63 hd_X4_finds ⟨Nat.le_of_ble_eq_true rfl, Nat.le_of_ble_eq_true rfl⟩ 4 rfl rfl rfl rfl hl.1 (lv_room (Nat.le_of_ble_eq_true rfl)) dX4_write_41 ⟨Nat.zero_le _, Nat.zero_le _⟩ (fun ov w' H locs hp hP hD hS => ?_)
        obtain ⟨rfl, rfl⟩ := hp
        refine W.eq (g2 := F0 m 44 ls [.int (-1000000001)]) rfl ?_
        refine lv_i2l hx hb dX4_write_44 rfl ?_
        have hE : upd tS 0 (tS 0 + 1) = wrtT tS bO sO (nI j) i := by simp [wrtR, wrtT, wrtU, wrtOk, wrT, bump, put9, b2i, c9, c35, ej, hs1, hw, i_lt, -Int32.not_le, -Int32.not_lt]
        have hW : (MW cI cJ A sS kS oS aS (upd tS 0 (tS 0 + 1)) ik cA tp td fm tt vl wr bO sO nU mV) = (MW cI cJ A sS kS oS aS (wrtT tS bO sO (nI j) i) ik cA tp td fm tt vl wr bO sO nU mV) := congrArg (fun z => (MW cI cJ A sS kS oS aS z ik cA tp td fm tt vl wr bO sO nU mV)) hE
        have hP : va_P D vwCl (MW cI cJ A sS kS oS aS (wrtT tS bO sO (nI j) i) ik cA tp td fm tt vl wr bO sO nU mV) H := Eq.mp (congrArg (fun z => va_P D vwCl z H) hW) hP
        have hD : va_D _ (MW cI cJ A sS kS oS aS (wrtT tS bO sO (nI j) i) ik cA tp td fm tt vl wr bO sO nU mV) := Eq.mp (congrArg (fun z => va_D _ z) hW) hD
        have hE : nU = wrtU bO sO nU (nI j) i v := by simp [wrtR, wrtT, wrtU, wrtOk, wrT, bump, put9, b2i, c9, c35, ej, hs1, hw, i_lt, -Int32.not_le, -Int32.not_lt]
        have hW : (MW cI cJ A sS kS oS aS (wrtT tS bO sO (nI j) i) ik cA tp td fm tt vl wr bO sO nU mV) = (MW cI cJ A sS kS oS aS (wrtT tS bO sO (nI j) i) ik cA tp td fm tt vl wr bO sO (wrtU bO sO nU (nI j) i v) mV) := congrArg (fun z => (MW cI cJ A sS kS oS aS (wrtT tS bO sO (nI j) i) ik cA tp td fm tt vl wr bO sO z mV)) hE
        have hP : va_P D vwCl (MW cI cJ A sS kS oS aS (wrtT tS bO sO (nI j) i) ik cA tp td fm tt vl wr bO sO (wrtU bO sO nU (nI j) i v) mV) H := Eq.mp (congrArg (fun z => va_P D vwCl z H) hW) hP
        have hD : va_D _ (MW cI cJ A sS kS oS aS (wrtT tS bO sO (nI j) i) ik cA tp td fm tt vl wr bO sO (wrtU bO sO nU (nI j) i v) mV) := Eq.mp (congrArg (fun z => va_D _ z) hW) hD
        exact mu_lret (MW cI cJ A sS kS oS aS (wrtT tS bO sO (nI j) i) ik cA tp td fm tt vl wr bO sO (wrtU bO sO nU (nI j) i v) mV) hx hb hr hlk hP hS rfl (⟨congrArg (fun z => some (Value.long z)) (by simp [wrtR, wrtT, wrtU, wrtOk, wrT, bump, put9, b2i, c9, c35, ej, hs1, hw, i_lt, -Int32.not_le, -Int32.not_lt]), rfl⟩) dX4_write_45
    · exact absurd c9 (by decide)

set_option maxHeartbeats 4000000 in
set_option maxRecDepth 100000 in
theorem k_X4_copy (x : Int32) (a : Int32) (y : Int32) (b : Int32) (k : Int32) (hSh : ShI sO) : MU l D (tyA cI cJ cO) yX4_copy cX4_copy 7 ((some .int)) 2 45 [.ref (A 0), .int x, .int a, .int y, .int b, .int k] (MW cI cJ A sS kS oS aS tS ik cA tp td fm tt vl wr bO sO nU mV) (fun ov w' => ∃ mV' : Nat → Int64, ov = some (.int (cpR (cpW bO sO x a y b k) k)) ∧ w' = (MW cI cJ A sS kS oS aS (cpT tS (cpW bO sO x a y b k)) ik cA tp td fm tt vl wr bO sO (cpU nU (cpW bO sO x a y b k) x a y b k) mV')) := by
  refine MU.mk (by decide) (Nat.le_of_ble_eq_true rfl) ?_
  intro p e s m below meth c ls S hr hlk hP hK hD hS hl
  have S : CallFix p m c cX4_copy 7 s _ WL RX4 := S
  obtain ⟨hx, hb, hml, hown, hts⟩ := id S
  have hl : lv_has ls 7 [(0, .ref (A 0)), (1, .int x), (2, .int a), (3, .int y), (4, .int b), (5, .int k)] := hl
  refine lv_iload_n hx hb dX4_copy_0 rfl (lv_at hl 1 rfl) ?_
  refine ro_S (w := []) (rest := []) S hK va_P0 (k_X4_isOne x) gs_X4_319 hd_X4_isOne ⟨Nat.le_of_ble_eq_true rfl, Nat.le_of_ble_eq_true rfl⟩ rfl hl.1 (lv_room (Nat.le_of_ble_eq_true rfl)) dX4_copy_1 ⟨Nat.zero_le _, Nat.zero_le _⟩ ?_
  refine lv_if_eq (tgt := 14) hx hb dX4_copy_4 rfl (fun c4 => ?_) (fun c4 => ?_)
  · replace c4 := (b2i_0 _).mp c4
    refine lv_aload_n hx hb dX4_copy_14 rfl (lv_at hl 0 rfl) ?_
    refine lv_ldc (v := (-1000000001)) hx hb hown (hts _ wq_X4_44) dX4_copy_15 ?_
    refine mu_W (w := (MW cI cJ A sS kS oS aS tS ik cA tp td fm tt vl wr bO sO nU mV)) (rest := []) S hK hP hD hS (k_X4_finds 0 (-1000000001) (by decide) (by decide)) gv_X4_63 hd_X4_finds ⟨Nat.le_of_ble_eq_true rfl, Nat.le_of_ble_eq_true rfl⟩ 4 rfl rfl rfl rfl hl.1 (lv_room (Nat.le_of_ble_eq_true rfl)) dX4_copy_17 ⟨Nat.zero_le _, Nat.zero_le _⟩ (fun ov w' H locs hp hP hD hS => ?_)
    obtain ⟨rfl, rfl⟩ := hp
    refine W.eq (g2 := F0 m 20 ls [.int (-1000000001)]) rfl ?_
    have hE : upd tS 0 (tS 0 + 1) = cpT tS (cpW bO sO x a y b k) := by simp [cpR, cpT, cpU, cpW, bump, put9, b2i, c4, i_lt, -Int32.not_le, -Int32.not_lt]
    have hW : (MW cI cJ A sS kS oS aS (upd tS 0 (tS 0 + 1)) ik cA tp td fm tt vl wr bO sO nU mV) = (MW cI cJ A sS kS oS aS (cpT tS (cpW bO sO x a y b k)) ik cA tp td fm tt vl wr bO sO nU mV) := congrArg (fun z => (MW cI cJ A sS kS oS aS z ik cA tp td fm tt vl wr bO sO nU mV)) hE
    have hP : va_P D vwCl (MW cI cJ A sS kS oS aS (cpT tS (cpW bO sO x a y b k)) ik cA tp td fm tt vl wr bO sO nU mV) H := Eq.mp (congrArg (fun z => va_P D vwCl z H) hW) hP
    have hD : va_D _ (MW cI cJ A sS kS oS aS (cpT tS (cpW bO sO x a y b k)) ik cA tp td fm tt vl wr bO sO nU mV) := Eq.mp (congrArg (fun z => va_D _ z) hW) hD
    have hE : nU = cpU nU (cpW bO sO x a y b k) x a y b k := by simp [cpR, cpT, cpU, cpW, bump, put9, b2i, c4, i_lt, -Int32.not_le, -Int32.not_lt]
    have hW : (MW cI cJ A sS kS oS aS (cpT tS (cpW bO sO x a y b k)) ik cA tp td fm tt vl wr bO sO nU mV) = (MW cI cJ A sS kS oS aS (cpT tS (cpW bO sO x a y b k)) ik cA tp td fm tt vl wr bO sO (cpU nU (cpW bO sO x a y b k) x a y b k) mV) := congrArg (fun z => (MW cI cJ A sS kS oS aS (cpT tS (cpW bO sO x a y b k)) ik cA tp td fm tt vl wr bO sO z mV)) hE
    have hP : va_P D vwCl (MW cI cJ A sS kS oS aS (cpT tS (cpW bO sO x a y b k)) ik cA tp td fm tt vl wr bO sO (cpU nU (cpW bO sO x a y b k) x a y b k) mV) H := Eq.mp (congrArg (fun z => va_P D vwCl z H) hW) hP
    have hD : va_D _ (MW cI cJ A sS kS oS aS (cpT tS (cpW bO sO x a y b k)) ik cA tp td fm tt vl wr bO sO (cpU nU (cpW bO sO x a y b k) x a y b k) mV) := Eq.mp (congrArg (fun z => va_D _ z) hW) hD
    exact mu_iret (MW cI cJ A sS kS oS aS (cpT tS (cpW bO sO x a y b k)) ik cA tp td fm tt vl wr bO sO (cpU nU (cpW bO sO x a y b k) x a y b k) mV) hx hb hr hlk hP hS rfl (⟨mV, congrArg (fun z => some (Value.int z)) (by simp [cpR, cpT, cpU, cpW, bump, put9, b2i, c4, i_lt, -Int32.not_le, -Int32.not_lt]), rfl⟩) dX4_copy_20
  · replace c4 := b2i_n0 c4
    obtain ⟨x0, hx0a, hx0b, rfl⟩ := in_nat (a := 0) (b := 3) (by decide) c4 (by decide)
    have ex0 : cl (nI x0) = x0 := cl_nI (by omega)
    refine lv_iload_n hx hb dX4_copy_7 rfl (lv_at hl 3 rfl) ?_
    refine ro_S (w := []) (rest := []) S hK va_P0 (k_X4_isOne y) gs_X4_319 hd_X4_isOne ⟨Nat.le_of_ble_eq_true rfl, Nat.le_of_ble_eq_true rfl⟩ rfl hl.1 (lv_room (Nat.le_of_ble_eq_true rfl)) dX4_copy_8 ⟨Nat.zero_le _, Nat.zero_le _⟩ ?_
    refine lv_if_ne (tgt := 21) hx hb dX4_copy_11 rfl (fun c11 => ?_) (fun c11 => ?_)
    · replace c11 := b2i_n0 c11
      obtain ⟨y0, hy0a, hy0b, rfl⟩ := in_nat (a := 0) (b := 3) (by decide) c11 (by decide)
      have ey0 : cl (nI y0) = y0 := cl_nI (by omega)
      refine lv_aload_n hx hb dX4_copy_21 rfl (lv_at hl 0 rfl) ?_
      refine va_get (ci := 4) (v := .ref (A 8)) hx hb hts wx_X4 hown hK hP 0 rfl rfl 13 (by decide) (hts _ wf_X4_31) (fun _ h9 => h9) rfl dX4_copy_22 ?_
      refine lv_iload_n hx hb dX4_copy_25 rfl (lv_at hl 1 rfl) ?_
      refine ia_ld hx hb hK hP 8 0 rfl rfl x0 (rfl) (by omega) (by decide) dX4_copy_26 ?_
      refine lv_if_eq (tgt := 39) hx hb dX4_copy_27 rfl (fun c27 => ?_) (fun c27 => ?_)
      · refine lv_aload_n hx hb dX4_copy_39 rfl (lv_at hl 0 rfl) ?_
        refine lv_ldcw (v := (-1000000006)) hx hb hown (hts _ wq_X4_323) dX4_copy_40 ?_
        refine mu_W (w := (MW cI cJ A sS kS oS aS tS ik cA tp td fm tt vl wr bO sO nU mV)) (rest := []) S hK hP hD hS (k_X4_finds 5 (-1000000006) (by decide) (by decide)) gv_X4_63 hd_X4_finds ⟨Nat.le_of_ble_eq_true rfl, Nat.le_of_ble_eq_true rfl⟩ 4 rfl rfl rfl rfl hl.1 (lv_room (Nat.le_of_ble_eq_true rfl)) dX4_copy_43 ⟨Nat.zero_le _, Nat.zero_le _⟩ (fun ov w' H locs hp hP hD hS => ?_)
        obtain ⟨rfl, rfl⟩ := hp
        refine W.eq (g2 := F0 m 46 ls [.int (-1000000006)]) rfl ?_
        have hE : upd tS 5 (tS 5 + 1) = cpT tS (cpW bO sO (nI x0) a (nI y0) b k) := by simp [cpR, cpT, cpU, cpW, bump, put9, b2i, c4, c11, c27, ex0, ey0, i_lt, -Int32.not_le, -Int32.not_lt]
        have hW : (MW cI cJ A sS kS oS aS (upd tS 5 (tS 5 + 1)) ik cA tp td fm tt vl wr bO sO nU mV) = (MW cI cJ A sS kS oS aS (cpT tS (cpW bO sO (nI x0) a (nI y0) b k)) ik cA tp td fm tt vl wr bO sO nU mV) := congrArg (fun z => (MW cI cJ A sS kS oS aS z ik cA tp td fm tt vl wr bO sO nU mV)) hE
        have hP : va_P D vwCl (MW cI cJ A sS kS oS aS (cpT tS (cpW bO sO (nI x0) a (nI y0) b k)) ik cA tp td fm tt vl wr bO sO nU mV) H := Eq.mp (congrArg (fun z => va_P D vwCl z H) hW) hP
        have hD : va_D _ (MW cI cJ A sS kS oS aS (cpT tS (cpW bO sO (nI x0) a (nI y0) b k)) ik cA tp td fm tt vl wr bO sO nU mV) := Eq.mp (congrArg (fun z => va_D _ z) hW) hD
        have hE : nU = cpU nU (cpW bO sO (nI x0) a (nI y0) b k) (nI x0) a (nI y0) b k := by simp [cpR, cpT, cpU, cpW, bump, put9, b2i, c4, c11, c27, ex0, ey0, i_lt, -Int32.not_le, -Int32.not_lt]
        have hW : (MW cI cJ A sS kS oS aS (cpT tS (cpW bO sO (nI x0) a (nI y0) b k)) ik cA tp td fm tt vl wr bO sO nU mV) = (MW cI cJ A sS kS oS aS (cpT tS (cpW bO sO (nI x0) a (nI y0) b k)) ik cA tp td fm tt vl wr bO sO (cpU nU (cpW bO sO (nI x0) a (nI y0) b k) (nI x0) a (nI y0) b k) mV) := congrArg (fun z => (MW cI cJ A sS kS oS aS (cpT tS (cpW bO sO (nI x0) a (nI y0) b k)) ik cA tp td fm tt vl wr bO sO z mV)) hE
        have hP : va_P D vwCl (MW cI cJ A sS kS oS aS (cpT tS (cpW bO sO (nI x0) a (nI y0) b k)) ik cA tp td fm tt vl wr bO sO (cpU nU (cpW bO sO (nI x0) a (nI y0) b k) (nI x0) a (nI y0) b k) mV) H := Eq.mp (congrArg (fun z => va_P D vwCl z H) hW) hP
        have hD : va_D _ (MW cI cJ A sS kS oS aS (cpT tS (cpW bO sO (nI x0) a (nI y0) b k)) ik cA tp td fm tt vl wr bO sO (cpU nU (cpW bO sO (nI x0) a (nI y0) b k) (nI x0) a (nI y0) b k) mV) := Eq.mp (congrArg (fun z => va_D _ z) hW) hD
        exact mu_iret (MW cI cJ A sS kS oS aS (cpT tS (cpW bO sO (nI x0) a (nI y0) b k)) ik cA tp td fm tt vl wr bO sO (cpU nU (cpW bO sO (nI x0) a (nI y0) b k) (nI x0) a (nI y0) b k) mV) hx hb hr hlk hP hS rfl (⟨mV, congrArg (fun z => some (Value.int z)) (by simp [cpR, cpT, cpU, cpW, bump, put9, b2i, c4, c11, c27, ex0, ey0, i_lt, -Int32.not_le, -Int32.not_lt]), rfl⟩) dX4_copy_46
      · refine lv_aload_n hx hb dX4_copy_30 rfl (lv_at hl 0 rfl) ?_
        refine va_get (ci := 4) (v := .ref (A 8)) hx hb hts wx_X4 hown hK hP 0 rfl rfl 13 (by decide) (hts _ wf_X4_31) (fun _ h9 => h9) rfl dX4_copy_31 ?_
        refine lv_iload_n hx hb dX4_copy_34 rfl (lv_at hl 3 rfl) ?_
        refine ia_ld hx hb hK hP 8 0 rfl rfl y0 (rfl) (by omega) (by decide) dX4_copy_35 ?_
        refine lv_if_ne (tgt := 47) hx hb dX4_copy_36 rfl (fun c36 => ?_) (fun c36 => ?_)
        · refine lv_aload_n hx hb dX4_copy_47 rfl (lv_at hl 0 rfl) ?_
          refine va_get (ci := 4) (v := .ref (A 8)) hx hb hts wx_X4 hown hK hP 0 rfl rfl 13 (by decide) (hts _ wf_X4_31) (fun _ h9 => h9) rfl dX4_copy_48 ?_
          refine lv_iload_n hx hb dX4_copy_51 rfl (lv_at hl 1 rfl) ?_
          refine ia_ld hx hb hK hP 8 0 rfl rfl x0 (rfl) (by omega) (by decide) dX4_copy_52 ?_
          refine lv_aload_n hx hb dX4_copy_53 rfl (lv_at hl 0 rfl) ?_
          refine va_get (ci := 4) (v := .ref (A 8)) hx hb hts wx_X4 hown hK hP 0 rfl rfl 13 (by decide) (hts _ wf_X4_31) (fun _ h9 => h9) rfl dX4_copy_54 ?_
          refine lv_iload_n hx hb dX4_copy_57 rfl (lv_at hl 3 rfl) ?_
          refine ia_ld hx hb hK hP 8 0 rfl rfl y0 (rfl) (by omega) (by decide) dX4_copy_58 ?_
          refine lv_icmp_eq (tgt := 69) hx hb dX4_copy_59 rfl (fun c59 => ?_) (fun c59 => ?_)
          · refine lv_iload_n hx hb dX4_copy_69 rfl (lv_at hl 2 rfl) ?_
            refine lv_if_lt (tgt := 110) hx hb dX4_copy_70 rfl (fun c70 => ?_) (fun c70 => ?_)
            · replace c70 := Int32.not_le.mpr c70
              refine lv_aload_n hx hb dX4_copy_110 rfl (lv_at hl 0 rfl) ?_
              refine lv_ldc (v := (-1000000001)) hx hb hown (hts _ wq_X4_44) dX4_copy_111 ?_
              refine mu_W (w := (MW cI cJ A sS kS oS aS tS ik cA tp td fm tt vl wr bO sO nU mV)) (rest := []) S hK hP hD hS (k_X4_finds 0 (-1000000001) (by decide) (by decide)) gv_X4_63 hd_X4_finds ⟨Nat.le_of_ble_eq_true rfl, Nat.le_of_ble_eq_true rfl⟩ 4 rfl rfl rfl rfl hl.1 (lv_room (Nat.le_of_ble_eq_true rfl)) dX4_copy_113 ⟨Nat.zero_le _, Nat.zero_le _⟩ (fun ov w' H locs hp hP hD hS => ?_)
              obtain ⟨rfl, rfl⟩ := hp
              refine W.eq (g2 := F0 m 116 ls [.int (-1000000001)]) rfl ?_
              have hE : upd tS 0 (tS 0 + 1) = cpT tS (cpW bO sO (nI x0) a (nI y0) b k) := by simp [cpR, cpT, cpU, cpW, bump, put9, b2i, c4, c11, c27, c36, c59, c70, ex0, ey0, i_lt, -Int32.not_le, -Int32.not_lt]
              have hW : (MW cI cJ A sS kS oS aS (upd tS 0 (tS 0 + 1)) ik cA tp td fm tt vl wr bO sO nU mV) = (MW cI cJ A sS kS oS aS (cpT tS (cpW bO sO (nI x0) a (nI y0) b k)) ik cA tp td fm tt vl wr bO sO nU mV) := congrArg (fun z => (MW cI cJ A sS kS oS aS z ik cA tp td fm tt vl wr bO sO nU mV)) hE
              have hP : va_P D vwCl (MW cI cJ A sS kS oS aS (cpT tS (cpW bO sO (nI x0) a (nI y0) b k)) ik cA tp td fm tt vl wr bO sO nU mV) H := Eq.mp (congrArg (fun z => va_P D vwCl z H) hW) hP
              have hD : va_D _ (MW cI cJ A sS kS oS aS (cpT tS (cpW bO sO (nI x0) a (nI y0) b k)) ik cA tp td fm tt vl wr bO sO nU mV) := Eq.mp (congrArg (fun z => va_D _ z) hW) hD
              have hE : nU = cpU nU (cpW bO sO (nI x0) a (nI y0) b k) (nI x0) a (nI y0) b k := by simp [cpR, cpT, cpU, cpW, bump, put9, b2i, c4, c11, c27, c36, c59, c70, ex0, ey0, i_lt, -Int32.not_le, -Int32.not_lt]
              have hW : (MW cI cJ A sS kS oS aS (cpT tS (cpW bO sO (nI x0) a (nI y0) b k)) ik cA tp td fm tt vl wr bO sO nU mV) = (MW cI cJ A sS kS oS aS (cpT tS (cpW bO sO (nI x0) a (nI y0) b k)) ik cA tp td fm tt vl wr bO sO (cpU nU (cpW bO sO (nI x0) a (nI y0) b k) (nI x0) a (nI y0) b k) mV) := congrArg (fun z => (MW cI cJ A sS kS oS aS (cpT tS (cpW bO sO (nI x0) a (nI y0) b k)) ik cA tp td fm tt vl wr bO sO z mV)) hE
              have hP : va_P D vwCl (MW cI cJ A sS kS oS aS (cpT tS (cpW bO sO (nI x0) a (nI y0) b k)) ik cA tp td fm tt vl wr bO sO (cpU nU (cpW bO sO (nI x0) a (nI y0) b k) (nI x0) a (nI y0) b k) mV) H := Eq.mp (congrArg (fun z => va_P D vwCl z H) hW) hP
              have hD : va_D _ (MW cI cJ A sS kS oS aS (cpT tS (cpW bO sO (nI x0) a (nI y0) b k)) ik cA tp td fm tt vl wr bO sO (cpU nU (cpW bO sO (nI x0) a (nI y0) b k) (nI x0) a (nI y0) b k) mV) := Eq.mp (congrArg (fun z => va_D _ z) hW) hD
              exact mu_iret (MW cI cJ A sS kS oS aS (cpT tS (cpW bO sO (nI x0) a (nI y0) b k)) ik cA tp td fm tt vl wr bO sO (cpU nU (cpW bO sO (nI x0) a (nI y0) b k) (nI x0) a (nI y0) b k) mV) hx hb hr hlk hP hS rfl (⟨mV, congrArg (fun z => some (Value.int z)) (by simp [cpR, cpT, cpU, cpW, bump, put9, b2i, c4, c11, c27, c36, c59, c70, ex0, ey0, i_lt, -Int32.not_le, -Int32.not_lt]), rfl⟩) dX4_copy_116
            · replace c70 := Int32.not_lt.mp c70
              refine lv_iload hx hb dX4_copy_73 (lv_at hl 4 rfl) ?_
              refine lv_if_lt (tgt := 110) hx hb dX4_copy_75 rfl (fun c75 => ?_) (fun c75 => ?_)
              · replace c75 := Int32.not_le.mpr c75
                refine lv_aload_n hx hb dX4_copy_110 rfl (lv_at hl 0 rfl) ?_
                refine lv_ldc (v := (-1000000001)) hx hb hown (hts _ wq_X4_44) dX4_copy_111 ?_
                refine mu_W (w := (MW cI cJ A sS kS oS aS tS ik cA tp td fm tt vl wr bO sO nU mV)) (rest := []) S hK hP hD hS (k_X4_finds 0 (-1000000001) (by decide) (by decide)) gv_X4_63 hd_X4_finds ⟨Nat.le_of_ble_eq_true rfl, Nat.le_of_ble_eq_true rfl⟩ 4 rfl rfl rfl rfl hl.1 (lv_room (Nat.le_of_ble_eq_true rfl)) dX4_copy_113 ⟨Nat.zero_le _, Nat.zero_le _⟩ (fun ov w' H locs hp hP hD hS => ?_)
                obtain ⟨rfl, rfl⟩ := hp
                refine W.eq (g2 := F0 m 116 ls [.int (-1000000001)]) rfl ?_
                have hE : upd tS 0 (tS 0 + 1) = cpT tS (cpW bO sO (nI x0) a (nI y0) b k) := by simp [cpR, cpT, cpU, cpW, bump, put9, b2i, c4, c11, c27, c36, c59, c70, c75, ex0, ey0, i_lt, -Int32.not_le, -Int32.not_lt]
                have hW : (MW cI cJ A sS kS oS aS (upd tS 0 (tS 0 + 1)) ik cA tp td fm tt vl wr bO sO nU mV) = (MW cI cJ A sS kS oS aS (cpT tS (cpW bO sO (nI x0) a (nI y0) b k)) ik cA tp td fm tt vl wr bO sO nU mV) := congrArg (fun z => (MW cI cJ A sS kS oS aS z ik cA tp td fm tt vl wr bO sO nU mV)) hE
                have hP : va_P D vwCl (MW cI cJ A sS kS oS aS (cpT tS (cpW bO sO (nI x0) a (nI y0) b k)) ik cA tp td fm tt vl wr bO sO nU mV) H := Eq.mp (congrArg (fun z => va_P D vwCl z H) hW) hP
                have hD : va_D _ (MW cI cJ A sS kS oS aS (cpT tS (cpW bO sO (nI x0) a (nI y0) b k)) ik cA tp td fm tt vl wr bO sO nU mV) := Eq.mp (congrArg (fun z => va_D _ z) hW) hD
                have hE : nU = cpU nU (cpW bO sO (nI x0) a (nI y0) b k) (nI x0) a (nI y0) b k := by simp [cpR, cpT, cpU, cpW, bump, put9, b2i, c4, c11, c27, c36, c59, c70, c75, ex0, ey0, i_lt, -Int32.not_le, -Int32.not_lt]
                have hW : (MW cI cJ A sS kS oS aS (cpT tS (cpW bO sO (nI x0) a (nI y0) b k)) ik cA tp td fm tt vl wr bO sO nU mV) = (MW cI cJ A sS kS oS aS (cpT tS (cpW bO sO (nI x0) a (nI y0) b k)) ik cA tp td fm tt vl wr bO sO (cpU nU (cpW bO sO (nI x0) a (nI y0) b k) (nI x0) a (nI y0) b k) mV) := congrArg (fun z => (MW cI cJ A sS kS oS aS (cpT tS (cpW bO sO (nI x0) a (nI y0) b k)) ik cA tp td fm tt vl wr bO sO z mV)) hE
                have hP : va_P D vwCl (MW cI cJ A sS kS oS aS (cpT tS (cpW bO sO (nI x0) a (nI y0) b k)) ik cA tp td fm tt vl wr bO sO (cpU nU (cpW bO sO (nI x0) a (nI y0) b k) (nI x0) a (nI y0) b k) mV) H := Eq.mp (congrArg (fun z => va_P D vwCl z H) hW) hP
                have hD : va_D _ (MW cI cJ A sS kS oS aS (cpT tS (cpW bO sO (nI x0) a (nI y0) b k)) ik cA tp td fm tt vl wr bO sO (cpU nU (cpW bO sO (nI x0) a (nI y0) b k) (nI x0) a (nI y0) b k) mV) := Eq.mp (congrArg (fun z => va_D _ z) hW) hD
                exact mu_iret (MW cI cJ A sS kS oS aS (cpT tS (cpW bO sO (nI x0) a (nI y0) b k)) ik cA tp td fm tt vl wr bO sO (cpU nU (cpW bO sO (nI x0) a (nI y0) b k) (nI x0) a (nI y0) b k) mV) hx hb hr hlk hP hS rfl (⟨mV, congrArg (fun z => some (Value.int z)) (by simp [cpR, cpT, cpU, cpW, bump, put9, b2i, c4, c11, c27, c36, c59, c70, c75, ex0, ey0, i_lt, -Int32.not_le, -Int32.not_lt]), rfl⟩) dX4_copy_116
              · replace c75 := Int32.not_lt.mp c75
                refine lv_iload hx hb dX4_copy_78 (lv_at hl 5 rfl) ?_
                refine lv_if_lt (tgt := 110) hx hb dX4_copy_80 rfl (fun c80 => ?_) (fun c80 => ?_)
                · replace c80 := Int32.not_le.mpr c80
                  refine lv_aload_n hx hb dX4_copy_110 rfl (lv_at hl 0 rfl) ?_
                  refine lv_ldc (v := (-1000000001)) hx hb hown (hts _ wq_X4_44) dX4_copy_111 ?_
                  refine mu_W (w := (MW cI cJ A sS kS oS aS tS ik cA tp td fm tt vl wr bO sO nU mV)) (rest := []) S hK hP hD hS (k_X4_finds 0 (-1000000001) (by decide) (by decide)) gv_X4_63 hd_X4_finds ⟨Nat.le_of_ble_eq_true rfl, Nat.le_of_ble_eq_true rfl⟩ 4 rfl rfl rfl rfl hl.1 (lv_room (Nat.le_of_ble_eq_true rfl)) dX4_copy_113 ⟨Nat.zero_le _, Nat.zero_le _⟩ (fun ov w' H locs hp hP hD hS => ?_)
                  obtain ⟨rfl, rfl⟩ := hp
                  refine W.eq (g2 := F0 m 116 ls [.int (-1000000001)]) rfl ?_
                  have hE : upd tS 0 (tS 0 + 1) = cpT tS (cpW bO sO (nI x0) a (nI y0) b k) := by simp [cpR, cpT, cpU, cpW, bump, put9, b2i, c4, c11, c27, c36, c59, c70, c75, c80, ex0, ey0, i_lt, -Int32.not_le, -Int32.not_lt]
                  have hW : (MW cI cJ A sS kS oS aS (upd tS 0 (tS 0 + 1)) ik cA tp td fm tt vl wr bO sO nU mV) = (MW cI cJ A sS kS oS aS (cpT tS (cpW bO sO (nI x0) a (nI y0) b k)) ik cA tp td fm tt vl wr bO sO nU mV) := congrArg (fun z => (MW cI cJ A sS kS oS aS z ik cA tp td fm tt vl wr bO sO nU mV)) hE
                  have hP : va_P D vwCl (MW cI cJ A sS kS oS aS (cpT tS (cpW bO sO (nI x0) a (nI y0) b k)) ik cA tp td fm tt vl wr bO sO nU mV) H := Eq.mp (congrArg (fun z => va_P D vwCl z H) hW) hP
                  have hD : va_D _ (MW cI cJ A sS kS oS aS (cpT tS (cpW bO sO (nI x0) a (nI y0) b k)) ik cA tp td fm tt vl wr bO sO nU mV) := Eq.mp (congrArg (fun z => va_D _ z) hW) hD
                  have hE : nU = cpU nU (cpW bO sO (nI x0) a (nI y0) b k) (nI x0) a (nI y0) b k := by simp [cpR, cpT, cpU, cpW, bump, put9, b2i, c4, c11, c27, c36, c59, c70, c75, c80, ex0, ey0, i_lt, -Int32.not_le, -Int32.not_lt]
                  have hW : (MW cI cJ A sS kS oS aS (cpT tS (cpW bO sO (nI x0) a (nI y0) b k)) ik cA tp td fm tt vl wr bO sO nU mV) = (MW cI cJ A sS kS oS aS (cpT tS (cpW bO sO (nI x0) a (nI y0) b k)) ik cA tp td fm tt vl wr bO sO (cpU nU (cpW bO sO (nI x0) a (nI y0) b k) (nI x0) a (nI y0) b k) mV) := congrArg (fun z => (MW cI cJ A sS kS oS aS (cpT tS (cpW bO sO (nI x0) a (nI y0) b k)) ik cA tp td fm tt vl wr bO sO z mV)) hE
                  have hP : va_P D vwCl (MW cI cJ A sS kS oS aS (cpT tS (cpW bO sO (nI x0) a (nI y0) b k)) ik cA tp td fm tt vl wr bO sO (cpU nU (cpW bO sO (nI x0) a (nI y0) b k) (nI x0) a (nI y0) b k) mV) H := Eq.mp (congrArg (fun z => va_P D vwCl z H) hW) hP
                  have hD : va_D _ (MW cI cJ A sS kS oS aS (cpT tS (cpW bO sO (nI x0) a (nI y0) b k)) ik cA tp td fm tt vl wr bO sO (cpU nU (cpW bO sO (nI x0) a (nI y0) b k) (nI x0) a (nI y0) b k) mV) := Eq.mp (congrArg (fun z => va_D _ z) hW) hD
                  exact mu_iret (MW cI cJ A sS kS oS aS (cpT tS (cpW bO sO (nI x0) a (nI y0) b k)) ik cA tp td fm tt vl wr bO sO (cpU nU (cpW bO sO (nI x0) a (nI y0) b k) (nI x0) a (nI y0) b k) mV) hx hb hr hlk hP hS rfl (⟨mV, congrArg (fun z => some (Value.int z)) (by simp [cpR, cpT, cpU, cpW, bump, put9, b2i, c4, c11, c27, c36, c59, c70, c75, c80, ex0, ey0, i_lt, -Int32.not_le, -Int32.not_lt]), rfl⟩) dX4_copy_116
                · replace c80 := Int32.not_lt.mp c80
                  refine lv_iload hx hb dX4_copy_83 (lv_at hl 5 rfl) ?_
                  refine lv_aload_n hx hb dX4_copy_85 rfl (lv_at hl 0 rfl) ?_
                  refine va_get (ci := 4) (v := .ref (A 9)) hx hb hts wx_X4 hown hK hP 0 rfl rfl 14 (by decide) (hts _ wf_X4_34) (fun _ h9 => h9) rfl dX4_copy_86 ?_
                  refine lv_iload_n hx hb dX4_copy_89 rfl (lv_at hl 1 rfl) ?_
                  refine ia_ld hx hb hK hP 9 0 rfl rfl x0 (rfl) (by omega) (by decide) dX4_copy_90 ?_
                  refine lv_iload_n hx hb dX4_copy_91 rfl (lv_at hl 2 rfl) ?_
                  refine lv_isub hx hb dX4_copy_92 ?_
                  refine lv_icmp_gt (tgt := 110) hx hb dX4_copy_93 rfl (fun c93 => ?_) (fun c93 => ?_)
                  · replace c93 := Int32.not_le.mpr c93
                    refine lv_aload_n hx hb dX4_copy_110 rfl (lv_at hl 0 rfl) ?_
                    refine lv_ldc (v := (-1000000001)) hx hb hown (hts _ wq_X4_44) dX4_copy_111 ?_
                    refine mu_W (w := (MW cI cJ A sS kS oS aS tS ik cA tp td fm tt vl wr bO sO nU mV)) (rest := []) S hK hP hD hS (k_X4_finds 0 (-1000000001) (by decide) (by decide)) gv_X4_63 hd_X4_finds ⟨Nat.le_of_ble_eq_true rfl, Nat.le_of_ble_eq_true rfl⟩ 4 rfl rfl rfl rfl hl.1 (lv_room (Nat.le_of_ble_eq_true rfl)) dX4_copy_113 ⟨Nat.zero_le _, Nat.zero_le _⟩ (fun ov w' H locs hp hP hD hS => ?_)
                    obtain ⟨rfl, rfl⟩ := hp
                    refine W.eq (g2 := F0 m 116 ls [.int (-1000000001)]) rfl ?_
                    have hE : upd tS 0 (tS 0 + 1) = cpT tS (cpW bO sO (nI x0) a (nI y0) b k) := by simp [cpR, cpT, cpU, cpW, bump, put9, b2i, c4, c11, c27, c36, c59, c70, c75, c80, c93, ex0, ey0, i_lt, -Int32.not_le, -Int32.not_lt]
                    have hW : (MW cI cJ A sS kS oS aS (upd tS 0 (tS 0 + 1)) ik cA tp td fm tt vl wr bO sO nU mV) = (MW cI cJ A sS kS oS aS (cpT tS (cpW bO sO (nI x0) a (nI y0) b k)) ik cA tp td fm tt vl wr bO sO nU mV) := congrArg (fun z => (MW cI cJ A sS kS oS aS z ik cA tp td fm tt vl wr bO sO nU mV)) hE
                    have hP : va_P D vwCl (MW cI cJ A sS kS oS aS (cpT tS (cpW bO sO (nI x0) a (nI y0) b k)) ik cA tp td fm tt vl wr bO sO nU mV) H := Eq.mp (congrArg (fun z => va_P D vwCl z H) hW) hP
                    have hD : va_D _ (MW cI cJ A sS kS oS aS (cpT tS (cpW bO sO (nI x0) a (nI y0) b k)) ik cA tp td fm tt vl wr bO sO nU mV) := Eq.mp (congrArg (fun z => va_D _ z) hW) hD
                    have hE : nU = cpU nU (cpW bO sO (nI x0) a (nI y0) b k) (nI x0) a (nI y0) b k := by simp [cpR, cpT, cpU, cpW, bump, put9, b2i, c4, c11, c27, c36, c59, c70, c75, c80, c93, ex0, ey0, i_lt, -Int32.not_le, -Int32.not_lt]
                    have hW : (MW cI cJ A sS kS oS aS (cpT tS (cpW bO sO (nI x0) a (nI y0) b k)) ik cA tp td fm tt vl wr bO sO nU mV) = (MW cI cJ A sS kS oS aS (cpT tS (cpW bO sO (nI x0) a (nI y0) b k)) ik cA tp td fm tt vl wr bO sO (cpU nU (cpW bO sO (nI x0) a (nI y0) b k) (nI x0) a (nI y0) b k) mV) := congrArg (fun z => (MW cI cJ A sS kS oS aS (cpT tS (cpW bO sO (nI x0) a (nI y0) b k)) ik cA tp td fm tt vl wr bO sO z mV)) hE
                    have hP : va_P D vwCl (MW cI cJ A sS kS oS aS (cpT tS (cpW bO sO (nI x0) a (nI y0) b k)) ik cA tp td fm tt vl wr bO sO (cpU nU (cpW bO sO (nI x0) a (nI y0) b k) (nI x0) a (nI y0) b k) mV) H := Eq.mp (congrArg (fun z => va_P D vwCl z H) hW) hP
                    have hD : va_D _ (MW cI cJ A sS kS oS aS (cpT tS (cpW bO sO (nI x0) a (nI y0) b k)) ik cA tp td fm tt vl wr bO sO (cpU nU (cpW bO sO (nI x0) a (nI y0) b k) (nI x0) a (nI y0) b k) mV) := Eq.mp (congrArg (fun z => va_D _ z) hW) hD
                    exact mu_iret (MW cI cJ A sS kS oS aS (cpT tS (cpW bO sO (nI x0) a (nI y0) b k)) ik cA tp td fm tt vl wr bO sO (cpU nU (cpW bO sO (nI x0) a (nI y0) b k) (nI x0) a (nI y0) b k) mV) hx hb hr hlk hP hS rfl (⟨mV, congrArg (fun z => some (Value.int z)) (by simp [cpR, cpT, cpU, cpW, bump, put9, b2i, c4, c11, c27, c36, c59, c70, c75, c80, c93, ex0, ey0, i_lt, -Int32.not_le, -Int32.not_lt]), rfl⟩) dX4_copy_116
                  · replace c93 := Int32.not_lt.mp c93
                    refine lv_iload hx hb dX4_copy_96 (lv_at hl 5 rfl) ?_
                    refine lv_aload_n hx hb dX4_copy_98 rfl (lv_at hl 0 rfl) ?_
                    refine va_get (ci := 4) (v := .ref (A 9)) hx hb hts wx_X4 hown hK hP 0 rfl rfl 14 (by decide) (hts _ wf_X4_34) (fun _ h9 => h9) rfl dX4_copy_99 ?_
                    refine lv_iload_n hx hb dX4_copy_102 rfl (lv_at hl 3 rfl) ?_
                    refine ia_ld hx hb hK hP 9 0 rfl rfl y0 (rfl) (by omega) (by decide) dX4_copy_103 ?_
                    refine lv_iload hx hb dX4_copy_104 (lv_at hl 4 rfl) ?_
                    refine lv_isub hx hb dX4_copy_106 ?_
                    refine lv_icmp_le (tgt := 117) hx hb dX4_copy_107 rfl (fun c107 => ?_) (fun c107 => ?_)
                    · obtain ⟨a0, b0, k0, rfl, rfl, rfl, hka, hkb⟩ := cp_in hSh (by omega) (by omega) c70 c75 c80 c93 c107
                      have ea0 : cl (nI a0) = a0 := cl_nI (by omega)
                      have eb0 : cl (nI b0) = b0 := cl_nI (by omega)
                      have ek0 : cl (nI k0) = k0 := cl_nI (by omega)
                      refine lv_iconst (v := 0) hx hb dX4_copy_117 rfl ?_
                      have hE : mV = movF nU mV (40 * x0 + a0) 0 := movF_0 _ _ _
                      have hW : (MW cI cJ A sS kS oS aS tS ik cA tp td fm tt vl wr bO sO nU mV) = (MW cI cJ A sS kS oS aS tS ik cA tp td fm tt vl wr bO sO nU (movF nU mV (40 * x0 + a0) 0)) := congrArg (fun z => (MW cI cJ A sS kS oS aS tS ik cA tp td fm tt vl wr bO sO nU z)) hE
                      have hP : va_P D vwCl (MW cI cJ A sS kS oS aS tS ik cA tp td fm tt vl wr bO sO nU (movF nU mV (40 * x0 + a0) 0)) s.heap := Eq.mp (congrArg (fun z => va_P D vwCl z s.heap) hW) hP
                      have hD : va_D _ (MW cI cJ A sS kS oS aS tS ik cA tp td fm tt vl wr bO sO nU (movF nU mV (40 * x0 + a0) 0)) := Eq.mp (congrArg (fun z => va_D _ z) hW) hD
                      refine lv_istore (lv' := [(6, .int 0), (0, .ref (A 0)), (1, .int (nI x0)), (2, .int (nI a0)), (3, .int (nI y0)), (4, .int (nI b0)), (5, .int (nI k0))]) hx hb dX4_copy_118 hl (by decide) rfl (fun ls hl => ?_)
                      refine w_loopH (pc := 120) (st := fun (i : Nat) => []) (μ := fun (i : Nat) => k0 - i) (I := fun (i : Nat) H locs ls => (i ≤ k0) ∧ va_P D vwCl (MW cI cJ A sS kS oS aS tS ik cA tp td fm tt vl wr bO sO nU (movF nU mV (40 * x0 + a0) i)) H ∧ va_D (fun z9 => z9 ∈ ((MW cI cJ A sS kS oS aS tS ik cA tp td fm tt vl wr bO sO nU mV)).map (fun z8 => z8.1)) (MW cI cJ A sS kS oS aS tS ik cA tp td fm tt vl wr bO sO nU (movF nU mV (40 * x0 + a0) i)) ∧ va_S (fun z9 => z9 ∈ ((MW cI cJ A sS kS oS aS tS ik cA tp td fm tt vl wr bO sO nU mV)).map (fun z8 => z8.1)) s.heap H locs ∧ lv_has ls 7 [(0, .ref (A 0)), (1, .int (nI x0)), (2, .int (nI a0)), (3, .int (nI y0)), (4, .int (nI b0)), (5, .int (nI k0)), (6, .int (nI i))]) ?_ (0) ⟨Nat.zero_le _, hP, hD, hS, lv_sub hl [1, 2, 3, 4, 5, 6, 0] rfl⟩
                      rintro i H locs ls ⟨hi, hP, hD, hS, hl⟩ ih120
                      try dsimp only at ih120 ⊢
                      refine lv_iload hx hb dX4_copy_120 (lv_at hl 6 rfl) ?_
                      refine lv_iload hx hb dX4_copy_122 (lv_at hl 5 rfl) ?_
                      refine lv_icmp_ge (tgt := 154) hx hb dX4_copy_124 rfl (fun c124 => ?_) (fun c124 => ?_)
                      · replace c124 := nq_le (a := k0) (b := i) (by omega) (by omega) c124
                        obtain rfl : k0 = i := by omega
                        refine lv_iconst (v := 0) hx hb dX4_copy_154 rfl ?_
                        have hE : nU = cpyF nU (40 * x0 + a0) (40 * y0 + b0) 0 := cpyF_0 _ _ _
                        have hW : (MW cI cJ A sS kS oS aS tS ik cA tp td fm tt vl wr bO sO nU (movF nU mV (40 * x0 + a0) k0)) = (MW cI cJ A sS kS oS aS tS ik cA tp td fm tt vl wr bO sO (cpyF nU (40 * x0 + a0) (40 * y0 + b0) 0) (movF nU mV (40 * x0 + a0) k0)) := congrArg (fun z => (MW cI cJ A sS kS oS aS tS ik cA tp td fm tt vl wr bO sO z (movF nU mV (40 * x0 + a0) k0))) hE
                        have hP : va_P D vwCl (MW cI cJ A sS kS oS aS tS ik cA tp td fm tt vl wr bO sO (cpyF nU (40 * x0 + a0) (40 * y0 + b0) 0) (movF nU mV (40 * x0 + a0) k0)) H := Eq.mp (congrArg (fun z => va_P D vwCl z H) hW) hP
                        have hD : va_D _ (MW cI cJ A sS kS oS aS tS ik cA tp td fm tt vl wr bO sO (cpyF nU (40 * x0 + a0) (40 * y0 + b0) 0) (movF nU mV (40 * x0 + a0) k0)) := Eq.mp (congrArg (fun z => va_D _ z) hW) hD
                        refine lv_istore (lv' := [(6, .int 0), (0, .ref (A 0)), (1, .int (nI x0)), (2, .int (nI a0)), (3, .int (nI y0)), (4, .int (nI b0)), (5, .int (nI k0))]) hx hb dX4_copy_155 hl (by decide) rfl (fun ls hl => ?_)
                        refine w_loopH (pc := 157) (st := fun (i : Nat) => []) (μ := fun (i : Nat) => k0 - i) (I := fun (i : Nat) H locs ls => (i ≤ k0) ∧ va_P D vwCl (MW cI cJ A sS kS oS aS tS ik cA tp td fm tt vl wr bO sO (cpyF nU (40 * x0 + a0) (40 * y0 + b0) i) (movF nU mV (40 * x0 + a0) k0)) H ∧ va_D (fun z9 => z9 ∈ ((MW cI cJ A sS kS oS aS tS ik cA tp td fm tt vl wr bO sO nU mV)).map (fun z8 => z8.1)) (MW cI cJ A sS kS oS aS tS ik cA tp td fm tt vl wr bO sO (cpyF nU (40 * x0 + a0) (40 * y0 + b0) i) (movF nU mV (40 * x0 + a0) k0)) ∧ va_S (fun z9 => z9 ∈ ((MW cI cJ A sS kS oS aS tS ik cA tp td fm tt vl wr bO sO nU mV)).map (fun z8 => z8.1)) s.heap H locs ∧ lv_has ls 7 [(0, .ref (A 0)), (1, .int (nI x0)), (2, .int (nI a0)), (3, .int (nI y0)), (4, .int (nI b0)), (5, .int (nI k0)), (6, .int (nI i))]) ?_ (0) ⟨Nat.zero_le _, hP, hD, hS, lv_sub hl [1, 2, 3, 4, 5, 6, 0] rfl⟩
                        rintro i H locs ls ⟨hi, hP, hD, hS, hl⟩ ih157
                        try dsimp only at ih157 ⊢
                        refine lv_iload hx hb dX4_copy_157 (lv_at hl 6 rfl) ?_
                        refine lv_iload hx hb dX4_copy_159 (lv_at hl 5 rfl) ?_
                        refine lv_icmp_ge (tgt := 192) hx hb dX4_copy_161 rfl (fun c161 => ?_) (fun c161 => ?_)
                        · replace c161 := nq_le (a := k0) (b := i) (by omega) (by omega) c161
                          obtain rfl : k0 = i := by omega
                          refine lv_iload hx hb dX4_copy_192 (lv_at hl 5 rfl) ?_
                          have hE : tS = cpT tS (cpW bO sO (nI x0) (nI a0) (nI y0) (nI b0) (nI k0)) := by simp [cpR, cpT, cpU, cpW, bump, put9, b2i, c4, c11, c27, c36, c59, c70, c75, c80, c93, c107, c124, c161, ex0, ey0, ea0, eb0, ek0, i_lt, -Int32.not_le, -Int32.not_lt]
                          have hW : (MW cI cJ A sS kS oS aS tS ik cA tp td fm tt vl wr bO sO (cpyF nU (40 * x0 + a0) (40 * y0 + b0) k0) (movF nU mV (40 * x0 + a0) k0)) = (MW cI cJ A sS kS oS aS (cpT tS (cpW bO sO (nI x0) (nI a0) (nI y0) (nI b0) (nI k0))) ik cA tp td fm tt vl wr bO sO (cpyF nU (40 * x0 + a0) (40 * y0 + b0) k0) (movF nU mV (40 * x0 + a0) k0)) := congrArg (fun z => (MW cI cJ A sS kS oS aS z ik cA tp td fm tt vl wr bO sO (cpyF nU (40 * x0 + a0) (40 * y0 + b0) k0) (movF nU mV (40 * x0 + a0) k0))) hE
                          have hP : va_P D vwCl (MW cI cJ A sS kS oS aS (cpT tS (cpW bO sO (nI x0) (nI a0) (nI y0) (nI b0) (nI k0))) ik cA tp td fm tt vl wr bO sO (cpyF nU (40 * x0 + a0) (40 * y0 + b0) k0) (movF nU mV (40 * x0 + a0) k0)) H := Eq.mp (congrArg (fun z => va_P D vwCl z H) hW) hP
                          have hD : va_D _ (MW cI cJ A sS kS oS aS (cpT tS (cpW bO sO (nI x0) (nI a0) (nI y0) (nI b0) (nI k0))) ik cA tp td fm tt vl wr bO sO (cpyF nU (40 * x0 + a0) (40 * y0 + b0) k0) (movF nU mV (40 * x0 + a0) k0)) := Eq.mp (congrArg (fun z => va_D _ z) hW) hD
                          have hE : cpyF nU (40 * x0 + a0) (40 * y0 + b0) k0 = cpU nU (cpW bO sO (nI x0) (nI a0) (nI y0) (nI b0) (nI k0)) (nI x0) (nI a0) (nI y0) (nI b0) (nI k0) := by simp [cpR, cpT, cpU, cpW, bump, put9, b2i, c4, c11, c27, c36, c59, c70, c75, c80, c93, c107, c124, c161, ex0, ey0, ea0, eb0, ek0, i_lt, -Int32.not_le, -Int32.not_lt]
                          have hW : (MW cI cJ A sS kS oS aS (cpT tS (cpW bO sO (nI x0) (nI a0) (nI y0) (nI b0) (nI k0))) ik cA tp td fm tt vl wr bO sO (cpyF nU (40 * x0 + a0) (40 * y0 + b0) k0) (movF nU mV (40 * x0 + a0) k0)) = (MW cI cJ A sS kS oS aS (cpT tS (cpW bO sO (nI x0) (nI a0) (nI y0) (nI b0) (nI k0))) ik cA tp td fm tt vl wr bO sO (cpU nU (cpW bO sO (nI x0) (nI a0) (nI y0) (nI b0) (nI k0)) (nI x0) (nI a0) (nI y0) (nI b0) (nI k0)) (movF nU mV (40 * x0 + a0) k0)) := congrArg (fun z => (MW cI cJ A sS kS oS aS (cpT tS (cpW bO sO (nI x0) (nI a0) (nI y0) (nI b0) (nI k0))) ik cA tp td fm tt vl wr bO sO z (movF nU mV (40 * x0 + a0) k0))) hE
                          have hP : va_P D vwCl (MW cI cJ A sS kS oS aS (cpT tS (cpW bO sO (nI x0) (nI a0) (nI y0) (nI b0) (nI k0))) ik cA tp td fm tt vl wr bO sO (cpU nU (cpW bO sO (nI x0) (nI a0) (nI y0) (nI b0) (nI k0)) (nI x0) (nI a0) (nI y0) (nI b0) (nI k0)) (movF nU mV (40 * x0 + a0) k0)) H := Eq.mp (congrArg (fun z => va_P D vwCl z H) hW) hP
                          have hD : va_D _ (MW cI cJ A sS kS oS aS (cpT tS (cpW bO sO (nI x0) (nI a0) (nI y0) (nI b0) (nI k0))) ik cA tp td fm tt vl wr bO sO (cpU nU (cpW bO sO (nI x0) (nI a0) (nI y0) (nI b0) (nI k0)) (nI x0) (nI a0) (nI y0) (nI b0) (nI k0)) (movF nU mV (40 * x0 + a0) k0)) := Eq.mp (congrArg (fun z => va_D _ z) hW) hD
                          exact mu_iret (MW cI cJ A sS kS oS aS (cpT tS (cpW bO sO (nI x0) (nI a0) (nI y0) (nI b0) (nI k0))) ik cA tp td fm tt vl wr bO sO (cpU nU (cpW bO sO (nI x0) (nI a0) (nI y0) (nI b0) (nI k0)) (nI x0) (nI a0) (nI y0) (nI b0) (nI k0)) (movF nU mV (40 * x0 + a0) k0)) hx hb hr hlk hP hS rfl (⟨(movF nU mV (40 * x0 + a0) k0), congrArg (fun z => some (Value.int z)) (by simp [cpR, cpT, cpU, cpW, bump, put9, b2i, c4, c11, c27, c36, c59, c70, c75, c80, c93, c107, c124, c161, ex0, ey0, ea0, eb0, ek0, i_lt, -Int32.not_le, -Int32.not_lt]), rfl⟩) dX4_copy_194
                        · replace c161 := nq_nle (a := k0) (b := i) (by omega) (by omega) c161
                          refine lv_aload_n hx hb dX4_copy_164 rfl (lv_at hl 0 rfl) ?_
                          refine va_get (ci := 4) (v := .ref (A 10)) hx hb hts wx_X4 hown hK hP 0 rfl rfl 15 (by decide) (hts _ wf_X4_37) (fun _ h9 => h9) rfl dX4_copy_165 ?_
                          refine lv_bipush (v := 40) hx hb dX4_copy_168 rfl ?_
                          refine lv_iload_n hx hb dX4_copy_170 rfl (lv_at hl 3 rfl) ?_
                          refine lv_imul hx hb dX4_copy_171 ?_
                          refine lv_iload hx hb dX4_copy_172 (lv_at hl 4 rfl) ?_
                          refine lv_iadd hx hb dX4_copy_174 ?_
                          refine lv_iload hx hb dX4_copy_175 (lv_at hl 6 rfl) ?_
                          refine lv_iadd hx hb dX4_copy_177 ?_
                          refine lv_aload_n hx hb dX4_copy_178 rfl (lv_at hl 0 rfl) ?_
                          refine va_get (ci := 4) (v := .ref (A 11)) hx hb hts wx_X4 hown hK hP 0 rfl rfl 16 (by decide) (hts _ wf_X4_41) (fun _ h9 => h9) rfl dX4_copy_179 ?_
                          refine lv_iload hx hb dX4_copy_182 (lv_at hl 6 rfl) ?_
                          refine la_ld hx hb hK hP 11 1 rfl rfl i (rfl) (by omega) (by decide) dX4_copy_184 ?_
                          refine w_l (z := nU (40 * x0 + a0 + i)) (by simp [movF]; omega) ?_
                          refine la_st hx hb hK hP hD hS 10 1 rfl rfl (40 * y0 + b0 + i) (nI_403 y0 b0 i) (by omega) (by decide) dX4_copy_185 (fun H locs hP hD hS => ?_)
                          have hP : va_P D vwCl (MW cI cJ A sS kS oS aS tS ik cA tp td fm tt vl wr bO sO (vp_updL (cpyF nU (40 * x0 + a0) (40 * y0 + b0) i) (40 * y0 + b0 + i) (nU (40 * x0 + a0 + i))) (movF nU mV (40 * x0 + a0) k0)) H := hP
                          have hD : va_D _ (MW cI cJ A sS kS oS aS tS ik cA tp td fm tt vl wr bO sO (vp_updL (cpyF nU (40 * x0 + a0) (40 * y0 + b0) i) (40 * y0 + b0 + i) (nU (40 * x0 + a0 + i))) (movF nU mV (40 * x0 + a0) k0)) := hD
                          have hE : vp_updL (cpyF nU (40 * x0 + a0) (40 * y0 + b0) i) (40 * y0 + b0 + i) (nU (40 * x0 + a0 + i)) = cpyF nU (40 * x0 + a0) (40 * y0 + b0) (i + 1) := cpyF_s
                          have hW : (MW cI cJ A sS kS oS aS tS ik cA tp td fm tt vl wr bO sO (vp_updL (cpyF nU (40 * x0 + a0) (40 * y0 + b0) i) (40 * y0 + b0 + i) (nU (40 * x0 + a0 + i))) (movF nU mV (40 * x0 + a0) k0)) = (MW cI cJ A sS kS oS aS tS ik cA tp td fm tt vl wr bO sO (cpyF nU (40 * x0 + a0) (40 * y0 + b0) (i + 1)) (movF nU mV (40 * x0 + a0) k0)) := congrArg (fun z => (MW cI cJ A sS kS oS aS tS ik cA tp td fm tt vl wr bO sO z (movF nU mV (40 * x0 + a0) k0))) hE
                          have hP : va_P D vwCl (MW cI cJ A sS kS oS aS tS ik cA tp td fm tt vl wr bO sO (cpyF nU (40 * x0 + a0) (40 * y0 + b0) (i + 1)) (movF nU mV (40 * x0 + a0) k0)) H := Eq.mp (congrArg (fun z => va_P D vwCl z H) hW) hP
                          have hD : va_D _ (MW cI cJ A sS kS oS aS tS ik cA tp td fm tt vl wr bO sO (cpyF nU (40 * x0 + a0) (40 * y0 + b0) (i + 1)) (movF nU mV (40 * x0 + a0) k0)) := Eq.mp (congrArg (fun z => va_D _ z) hW) hD
                          refine lv_iinc (v := nI (i + 1)) (lv' := [(6, .int (nI (i + 1))), (0, .ref (A 0)), (1, .int (nI x0)), (2, .int (nI a0)), (3, .int (nI y0)), (4, .int (nI b0)), (5, .int (nI k0))]) hx hb dX4_copy_186 hl (k := 6) rfl (nI_inc _) (by decide) rfl (fun ls hl => ?_)
                          refine lv_goto (tgt := 157) hx hb dX4_copy_189 rfl ?_
                          exact ih157 (i + 1) _ _ ls (by first | omega | (dsimp only; omega)) ⟨(by omega), hP, hD, hS, lv_sub hl [1, 2, 3, 4, 5, 6, 0] rfl⟩
                      · replace c124 := nq_nle (a := k0) (b := i) (by omega) (by omega) c124
                        refine lv_aload_n hx hb dX4_copy_127 rfl (lv_at hl 0 rfl) ?_
                        refine va_get (ci := 4) (v := .ref (A 11)) hx hb hts wx_X4 hown hK hP 0 rfl rfl 16 (by decide) (hts _ wf_X4_41) (fun _ h9 => h9) rfl dX4_copy_128 ?_
                        refine lv_iload hx hb dX4_copy_131 (lv_at hl 6 rfl) ?_
                        refine lv_aload_n hx hb dX4_copy_133 rfl (lv_at hl 0 rfl) ?_
                        refine va_get (ci := 4) (v := .ref (A 10)) hx hb hts wx_X4 hown hK hP 0 rfl rfl 15 (by decide) (hts _ wf_X4_37) (fun _ h9 => h9) rfl dX4_copy_134 ?_
                        refine lv_bipush (v := 40) hx hb dX4_copy_137 rfl ?_
                        refine lv_iload_n hx hb dX4_copy_139 rfl (lv_at hl 1 rfl) ?_
                        refine lv_imul hx hb dX4_copy_140 ?_
                        refine lv_iload_n hx hb dX4_copy_141 rfl (lv_at hl 2 rfl) ?_
                        refine lv_iadd hx hb dX4_copy_142 ?_
                        refine lv_iload hx hb dX4_copy_143 (lv_at hl 6 rfl) ?_
                        refine lv_iadd hx hb dX4_copy_145 ?_
                        refine la_ld hx hb hK hP 10 1 rfl rfl (40 * x0 + a0 + i) (nI_403 x0 a0 i) (by omega) (by decide) dX4_copy_146 ?_
                        refine la_st hx hb hK hP hD hS 11 1 rfl rfl i (rfl) (by omega) (by decide) dX4_copy_147 (fun H locs hP hD hS => ?_)
                        have hP : va_P D vwCl (MW cI cJ A sS kS oS aS tS ik cA tp td fm tt vl wr bO sO nU (vp_updL (movF nU mV (40 * x0 + a0) i) i (nU (40 * x0 + a0 + i)))) H := hP
                        have hD : va_D _ (MW cI cJ A sS kS oS aS tS ik cA tp td fm tt vl wr bO sO nU (vp_updL (movF nU mV (40 * x0 + a0) i) i (nU (40 * x0 + a0 + i)))) := hD
                        have hE : vp_updL (movF nU mV (40 * x0 + a0) i) i (nU (40 * x0 + a0 + i)) = movF nU mV (40 * x0 + a0) (i + 1) := movF_s
                        have hW : (MW cI cJ A sS kS oS aS tS ik cA tp td fm tt vl wr bO sO nU (vp_updL (movF nU mV (40 * x0 + a0) i) i (nU (40 * x0 + a0 + i)))) = (MW cI cJ A sS kS oS aS tS ik cA tp td fm tt vl wr bO sO nU (movF nU mV (40 * x0 + a0) (i + 1))) := congrArg (fun z => (MW cI cJ A sS kS oS aS tS ik cA tp td fm tt vl wr bO sO nU z)) hE
                        have hP : va_P D vwCl (MW cI cJ A sS kS oS aS tS ik cA tp td fm tt vl wr bO sO nU (movF nU mV (40 * x0 + a0) (i + 1))) H := Eq.mp (congrArg (fun z => va_P D vwCl z H) hW) hP
                        have hD : va_D _ (MW cI cJ A sS kS oS aS tS ik cA tp td fm tt vl wr bO sO nU (movF nU mV (40 * x0 + a0) (i + 1))) := Eq.mp (congrArg (fun z => va_D _ z) hW) hD
                        refine lv_iinc (v := nI (i + 1)) (lv' := [(6, .int (nI (i + 1))), (0, .ref (A 0)), (1, .int (nI x0)), (2, .int (nI a0)), (3, .int (nI y0)), (4, .int (nI b0)), (5, .int (nI k0))]) hx hb dX4_copy_148 hl (k := 6) rfl (nI_inc _) (by decide) rfl (fun ls hl => ?_)
                        refine lv_goto (tgt := 120) hx hb dX4_copy_151 rfl ?_
                        exact ih120 (i + 1) _ _ ls (by first | omega | (dsimp only; omega)) ⟨(by omega), hP, hD, hS, lv_sub hl [1, 2, 3, 4, 5, 6, 0] rfl⟩
                    · refine lv_aload_n hx hb dX4_copy_110 rfl (lv_at hl 0 rfl) ?_
                      refine lv_ldc (v := (-1000000001)) hx hb hown (hts _ wq_X4_44) dX4_copy_111 ?_
                      refine mu_W (w := (MW cI cJ A sS kS oS aS tS ik cA tp td fm tt vl wr bO sO nU mV)) (rest := []) S hK hP hD hS (k_X4_finds 0 (-1000000001) (by decide) (by decide)) gv_X4_63 hd_X4_finds ⟨Nat.le_of_ble_eq_true rfl, Nat.le_of_ble_eq_true rfl⟩ 4 rfl rfl rfl rfl hl.1 (lv_room (Nat.le_of_ble_eq_true rfl)) dX4_copy_113 ⟨Nat.zero_le _, Nat.zero_le _⟩ (fun ov w' H locs hp hP hD hS => ?_)
                      obtain ⟨rfl, rfl⟩ := hp
                      refine W.eq (g2 := F0 m 116 ls [.int (-1000000001)]) rfl ?_
                      have hE : upd tS 0 (tS 0 + 1) = cpT tS (cpW bO sO (nI x0) a (nI y0) b k) := by simp [cpR, cpT, cpU, cpW, bump, put9, b2i, c4, c11, c27, c36, c59, c70, c75, c80, c93, c107, ex0, ey0, i_lt, -Int32.not_le, -Int32.not_lt]
                      have hW : (MW cI cJ A sS kS oS aS (upd tS 0 (tS 0 + 1)) ik cA tp td fm tt vl wr bO sO nU mV) = (MW cI cJ A sS kS oS aS (cpT tS (cpW bO sO (nI x0) a (nI y0) b k)) ik cA tp td fm tt vl wr bO sO nU mV) := congrArg (fun z => (MW cI cJ A sS kS oS aS z ik cA tp td fm tt vl wr bO sO nU mV)) hE
                      have hP : va_P D vwCl (MW cI cJ A sS kS oS aS (cpT tS (cpW bO sO (nI x0) a (nI y0) b k)) ik cA tp td fm tt vl wr bO sO nU mV) H := Eq.mp (congrArg (fun z => va_P D vwCl z H) hW) hP
                      have hD : va_D _ (MW cI cJ A sS kS oS aS (cpT tS (cpW bO sO (nI x0) a (nI y0) b k)) ik cA tp td fm tt vl wr bO sO nU mV) := Eq.mp (congrArg (fun z => va_D _ z) hW) hD
                      have hE : nU = cpU nU (cpW bO sO (nI x0) a (nI y0) b k) (nI x0) a (nI y0) b k := by simp [cpR, cpT, cpU, cpW, bump, put9, b2i, c4, c11, c27, c36, c59, c70, c75, c80, c93, c107, ex0, ey0, i_lt, -Int32.not_le, -Int32.not_lt]
                      have hW : (MW cI cJ A sS kS oS aS (cpT tS (cpW bO sO (nI x0) a (nI y0) b k)) ik cA tp td fm tt vl wr bO sO nU mV) = (MW cI cJ A sS kS oS aS (cpT tS (cpW bO sO (nI x0) a (nI y0) b k)) ik cA tp td fm tt vl wr bO sO (cpU nU (cpW bO sO (nI x0) a (nI y0) b k) (nI x0) a (nI y0) b k) mV) := congrArg (fun z => (MW cI cJ A sS kS oS aS (cpT tS (cpW bO sO (nI x0) a (nI y0) b k)) ik cA tp td fm tt vl wr bO sO z mV)) hE
                      have hP : va_P D vwCl (MW cI cJ A sS kS oS aS (cpT tS (cpW bO sO (nI x0) a (nI y0) b k)) ik cA tp td fm tt vl wr bO sO (cpU nU (cpW bO sO (nI x0) a (nI y0) b k) (nI x0) a (nI y0) b k) mV) H := Eq.mp (congrArg (fun z => va_P D vwCl z H) hW) hP
                      have hD : va_D _ (MW cI cJ A sS kS oS aS (cpT tS (cpW bO sO (nI x0) a (nI y0) b k)) ik cA tp td fm tt vl wr bO sO (cpU nU (cpW bO sO (nI x0) a (nI y0) b k) (nI x0) a (nI y0) b k) mV) := Eq.mp (congrArg (fun z => va_D _ z) hW) hD
                      exact mu_iret (MW cI cJ A sS kS oS aS (cpT tS (cpW bO sO (nI x0) a (nI y0) b k)) ik cA tp td fm tt vl wr bO sO (cpU nU (cpW bO sO (nI x0) a (nI y0) b k) (nI x0) a (nI y0) b k) mV) hx hb hr hlk hP hS rfl (⟨mV, congrArg (fun z => some (Value.int z)) (by simp [cpR, cpT, cpU, cpW, bump, put9, b2i, c4, c11, c27, c36, c59, c70, c75, c80, c93, c107, ex0, ey0, i_lt, -Int32.not_le, -Int32.not_lt]), rfl⟩) dX4_copy_116
          · refine lv_aload_n hx hb dX4_copy_62 rfl (lv_at hl 0 rfl) ?_
            refine lv_ldc (v := (-1000000003)) hx hb hown (hts _ wq_X4_148) dX4_copy_63 ?_
            refine mu_W (w := (MW cI cJ A sS kS oS aS tS ik cA tp td fm tt vl wr bO sO nU mV)) (rest := []) S hK hP hD hS (k_X4_finds 2 (-1000000003) (by decide) (by decide)) gv_X4_63 hd_X4_finds ⟨Nat.le_of_ble_eq_true rfl, Nat.le_of_ble_eq_true rfl⟩ 4 rfl rfl rfl rfl hl.1 (lv_room (Nat.le_of_ble_eq_true rfl)) dX4_copy_65 ⟨Nat.zero_le _, Nat.zero_le _⟩ (fun ov w' H locs hp hP hD hS => ?_)
            obtain ⟨rfl, rfl⟩ := hp
            refine W.eq (g2 := F0 m 68 ls [.int (-1000000003)]) rfl ?_
            have hE : upd tS 2 (tS 2 + 1) = cpT tS (cpW bO sO (nI x0) a (nI y0) b k) := by simp [cpR, cpT, cpU, cpW, bump, put9, b2i, c4, c11, c27, c36, c59, ex0, ey0, i_lt, -Int32.not_le, -Int32.not_lt]
            have hW : (MW cI cJ A sS kS oS aS (upd tS 2 (tS 2 + 1)) ik cA tp td fm tt vl wr bO sO nU mV) = (MW cI cJ A sS kS oS aS (cpT tS (cpW bO sO (nI x0) a (nI y0) b k)) ik cA tp td fm tt vl wr bO sO nU mV) := congrArg (fun z => (MW cI cJ A sS kS oS aS z ik cA tp td fm tt vl wr bO sO nU mV)) hE
            have hP : va_P D vwCl (MW cI cJ A sS kS oS aS (cpT tS (cpW bO sO (nI x0) a (nI y0) b k)) ik cA tp td fm tt vl wr bO sO nU mV) H := Eq.mp (congrArg (fun z => va_P D vwCl z H) hW) hP
            have hD : va_D _ (MW cI cJ A sS kS oS aS (cpT tS (cpW bO sO (nI x0) a (nI y0) b k)) ik cA tp td fm tt vl wr bO sO nU mV) := Eq.mp (congrArg (fun z => va_D _ z) hW) hD
            have hE : nU = cpU nU (cpW bO sO (nI x0) a (nI y0) b k) (nI x0) a (nI y0) b k := by simp [cpR, cpT, cpU, cpW, bump, put9, b2i, c4, c11, c27, c36, c59, ex0, ey0, i_lt, -Int32.not_le, -Int32.not_lt]
            have hW : (MW cI cJ A sS kS oS aS (cpT tS (cpW bO sO (nI x0) a (nI y0) b k)) ik cA tp td fm tt vl wr bO sO nU mV) = (MW cI cJ A sS kS oS aS (cpT tS (cpW bO sO (nI x0) a (nI y0) b k)) ik cA tp td fm tt vl wr bO sO (cpU nU (cpW bO sO (nI x0) a (nI y0) b k) (nI x0) a (nI y0) b k) mV) := congrArg (fun z => (MW cI cJ A sS kS oS aS (cpT tS (cpW bO sO (nI x0) a (nI y0) b k)) ik cA tp td fm tt vl wr bO sO z mV)) hE
            have hP : va_P D vwCl (MW cI cJ A sS kS oS aS (cpT tS (cpW bO sO (nI x0) a (nI y0) b k)) ik cA tp td fm tt vl wr bO sO (cpU nU (cpW bO sO (nI x0) a (nI y0) b k) (nI x0) a (nI y0) b k) mV) H := Eq.mp (congrArg (fun z => va_P D vwCl z H) hW) hP
            have hD : va_D _ (MW cI cJ A sS kS oS aS (cpT tS (cpW bO sO (nI x0) a (nI y0) b k)) ik cA tp td fm tt vl wr bO sO (cpU nU (cpW bO sO (nI x0) a (nI y0) b k) (nI x0) a (nI y0) b k) mV) := Eq.mp (congrArg (fun z => va_D _ z) hW) hD
            exact mu_iret (MW cI cJ A sS kS oS aS (cpT tS (cpW bO sO (nI x0) a (nI y0) b k)) ik cA tp td fm tt vl wr bO sO (cpU nU (cpW bO sO (nI x0) a (nI y0) b k) (nI x0) a (nI y0) b k) mV) hx hb hr hlk hP hS rfl (⟨mV, congrArg (fun z => some (Value.int z)) (by simp [cpR, cpT, cpU, cpW, bump, put9, b2i, c4, c11, c27, c36, c59, ex0, ey0, i_lt, -Int32.not_le, -Int32.not_lt]), rfl⟩) dX4_copy_68
        · refine lv_aload_n hx hb dX4_copy_39 rfl (lv_at hl 0 rfl) ?_
          refine lv_ldcw (v := (-1000000006)) hx hb hown (hts _ wq_X4_323) dX4_copy_40 ?_
          refine mu_W (w := (MW cI cJ A sS kS oS aS tS ik cA tp td fm tt vl wr bO sO nU mV)) (rest := []) S hK hP hD hS (k_X4_finds 5 (-1000000006) (by decide) (by decide)) gv_X4_63 hd_X4_finds ⟨Nat.le_of_ble_eq_true rfl, Nat.le_of_ble_eq_true rfl⟩ 4 rfl rfl rfl rfl hl.1 (lv_room (Nat.le_of_ble_eq_true rfl)) dX4_copy_43 ⟨Nat.zero_le _, Nat.zero_le _⟩ (fun ov w' H locs hp hP hD hS => ?_)
          obtain ⟨rfl, rfl⟩ := hp
          refine W.eq (g2 := F0 m 46 ls [.int (-1000000006)]) rfl ?_
          have hE : upd tS 5 (tS 5 + 1) = cpT tS (cpW bO sO (nI x0) a (nI y0) b k) := by simp [cpR, cpT, cpU, cpW, bump, put9, b2i, c4, c11, c27, c36, ex0, ey0, i_lt, -Int32.not_le, -Int32.not_lt]
          have hW : (MW cI cJ A sS kS oS aS (upd tS 5 (tS 5 + 1)) ik cA tp td fm tt vl wr bO sO nU mV) = (MW cI cJ A sS kS oS aS (cpT tS (cpW bO sO (nI x0) a (nI y0) b k)) ik cA tp td fm tt vl wr bO sO nU mV) := congrArg (fun z => (MW cI cJ A sS kS oS aS z ik cA tp td fm tt vl wr bO sO nU mV)) hE
          have hP : va_P D vwCl (MW cI cJ A sS kS oS aS (cpT tS (cpW bO sO (nI x0) a (nI y0) b k)) ik cA tp td fm tt vl wr bO sO nU mV) H := Eq.mp (congrArg (fun z => va_P D vwCl z H) hW) hP
          have hD : va_D _ (MW cI cJ A sS kS oS aS (cpT tS (cpW bO sO (nI x0) a (nI y0) b k)) ik cA tp td fm tt vl wr bO sO nU mV) := Eq.mp (congrArg (fun z => va_D _ z) hW) hD
          have hE : nU = cpU nU (cpW bO sO (nI x0) a (nI y0) b k) (nI x0) a (nI y0) b k := by simp [cpR, cpT, cpU, cpW, bump, put9, b2i, c4, c11, c27, c36, ex0, ey0, i_lt, -Int32.not_le, -Int32.not_lt]
          have hW : (MW cI cJ A sS kS oS aS (cpT tS (cpW bO sO (nI x0) a (nI y0) b k)) ik cA tp td fm tt vl wr bO sO nU mV) = (MW cI cJ A sS kS oS aS (cpT tS (cpW bO sO (nI x0) a (nI y0) b k)) ik cA tp td fm tt vl wr bO sO (cpU nU (cpW bO sO (nI x0) a (nI y0) b k) (nI x0) a (nI y0) b k) mV) := congrArg (fun z => (MW cI cJ A sS kS oS aS (cpT tS (cpW bO sO (nI x0) a (nI y0) b k)) ik cA tp td fm tt vl wr bO sO z mV)) hE
          have hP : va_P D vwCl (MW cI cJ A sS kS oS aS (cpT tS (cpW bO sO (nI x0) a (nI y0) b k)) ik cA tp td fm tt vl wr bO sO (cpU nU (cpW bO sO (nI x0) a (nI y0) b k) (nI x0) a (nI y0) b k) mV) H := Eq.mp (congrArg (fun z => va_P D vwCl z H) hW) hP
          have hD : va_D _ (MW cI cJ A sS kS oS aS (cpT tS (cpW bO sO (nI x0) a (nI y0) b k)) ik cA tp td fm tt vl wr bO sO (cpU nU (cpW bO sO (nI x0) a (nI y0) b k) (nI x0) a (nI y0) b k) mV) := Eq.mp (congrArg (fun z => va_D _ z) hW) hD
          exact mu_iret (MW cI cJ A sS kS oS aS (cpT tS (cpW bO sO (nI x0) a (nI y0) b k)) ik cA tp td fm tt vl wr bO sO (cpU nU (cpW bO sO (nI x0) a (nI y0) b k) (nI x0) a (nI y0) b k) mV) hx hb hr hlk hP hS rfl (⟨mV, congrArg (fun z => some (Value.int z)) (by simp [cpR, cpT, cpU, cpW, bump, put9, b2i, c4, c11, c27, c36, ex0, ey0, i_lt, -Int32.not_le, -Int32.not_lt]), rfl⟩) dX4_copy_46
    · replace c11 := (b2i_0 _).mp c11
      refine lv_aload_n hx hb dX4_copy_14 rfl (lv_at hl 0 rfl) ?_
      refine lv_ldc (v := (-1000000001)) hx hb hown (hts _ wq_X4_44) dX4_copy_15 ?_
      refine mu_W (w := (MW cI cJ A sS kS oS aS tS ik cA tp td fm tt vl wr bO sO nU mV)) (rest := []) S hK hP hD hS (k_X4_finds 0 (-1000000001) (by decide) (by decide)) gv_X4_63 hd_X4_finds ⟨Nat.le_of_ble_eq_true rfl, Nat.le_of_ble_eq_true rfl⟩ 4 rfl rfl rfl rfl hl.1 (lv_room (Nat.le_of_ble_eq_true rfl)) dX4_copy_17 ⟨Nat.zero_le _, Nat.zero_le _⟩ (fun ov w' H locs hp hP hD hS => ?_)
      obtain ⟨rfl, rfl⟩ := hp
      refine W.eq (g2 := F0 m 20 ls [.int (-1000000001)]) rfl ?_
      have hE : upd tS 0 (tS 0 + 1) = cpT tS (cpW bO sO (nI x0) a y b k) := by simp [cpR, cpT, cpU, cpW, bump, put9, b2i, c4, c11, ex0, i_lt, -Int32.not_le, -Int32.not_lt]
      have hW : (MW cI cJ A sS kS oS aS (upd tS 0 (tS 0 + 1)) ik cA tp td fm tt vl wr bO sO nU mV) = (MW cI cJ A sS kS oS aS (cpT tS (cpW bO sO (nI x0) a y b k)) ik cA tp td fm tt vl wr bO sO nU mV) := congrArg (fun z => (MW cI cJ A sS kS oS aS z ik cA tp td fm tt vl wr bO sO nU mV)) hE
      have hP : va_P D vwCl (MW cI cJ A sS kS oS aS (cpT tS (cpW bO sO (nI x0) a y b k)) ik cA tp td fm tt vl wr bO sO nU mV) H := Eq.mp (congrArg (fun z => va_P D vwCl z H) hW) hP
      have hD : va_D _ (MW cI cJ A sS kS oS aS (cpT tS (cpW bO sO (nI x0) a y b k)) ik cA tp td fm tt vl wr bO sO nU mV) := Eq.mp (congrArg (fun z => va_D _ z) hW) hD
      have hE : nU = cpU nU (cpW bO sO (nI x0) a y b k) (nI x0) a y b k := by simp [cpR, cpT, cpU, cpW, bump, put9, b2i, c4, c11, ex0, i_lt, -Int32.not_le, -Int32.not_lt]
      have hW : (MW cI cJ A sS kS oS aS (cpT tS (cpW bO sO (nI x0) a y b k)) ik cA tp td fm tt vl wr bO sO nU mV) = (MW cI cJ A sS kS oS aS (cpT tS (cpW bO sO (nI x0) a y b k)) ik cA tp td fm tt vl wr bO sO (cpU nU (cpW bO sO (nI x0) a y b k) (nI x0) a y b k) mV) := congrArg (fun z => (MW cI cJ A sS kS oS aS (cpT tS (cpW bO sO (nI x0) a y b k)) ik cA tp td fm tt vl wr bO sO z mV)) hE
      have hP : va_P D vwCl (MW cI cJ A sS kS oS aS (cpT tS (cpW bO sO (nI x0) a y b k)) ik cA tp td fm tt vl wr bO sO (cpU nU (cpW bO sO (nI x0) a y b k) (nI x0) a y b k) mV) H := Eq.mp (congrArg (fun z => va_P D vwCl z H) hW) hP
      have hD : va_D _ (MW cI cJ A sS kS oS aS (cpT tS (cpW bO sO (nI x0) a y b k)) ik cA tp td fm tt vl wr bO sO (cpU nU (cpW bO sO (nI x0) a y b k) (nI x0) a y b k) mV) := Eq.mp (congrArg (fun z => va_D _ z) hW) hD
      exact mu_iret (MW cI cJ A sS kS oS aS (cpT tS (cpW bO sO (nI x0) a y b k)) ik cA tp td fm tt vl wr bO sO (cpU nU (cpW bO sO (nI x0) a y b k) (nI x0) a y b k) mV) hx hb hr hlk hP hS rfl (⟨mV, congrArg (fun z => some (Value.int z)) (by simp [cpR, cpT, cpU, cpW, bump, put9, b2i, c4, c11, ex0, i_lt, -Int32.not_le, -Int32.not_lt]), rfl⟩) dX4_copy_20

end
