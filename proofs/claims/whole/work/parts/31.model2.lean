def rX6_empties : Room := { frames := 2, cells := 0, slots := 0, locals := 47 }
def sX6_empties_L54 (ru : Nat → Int32) (sh : Nat → Int32) (sn : Int32) (se : Nat → Int32) : Nat → Int32 → Int32 → Int32 → Int32 → Nat → (Nat → Int32) → (Nat → Int32)
  | 0, le, sm, fi, cg, k, lvv => (fun _ => 0)
  | n + 1, le, sm, fi, cg, k, lvv => (if 400 ≤ (nI k) then lvv else sX6_empties_L54 ru sh sn se n le sm fi (if 0 ≤ cg then sX6_behind sh sn se cg (nI k) le sm else cg) (k + 1) (upd lvv k (if (if 0 ≤ cg then (cg / 100) / (ru 0) else (0 : Int32)) ≤ 9 then if 0 ≤ cg then (cg / 100) / (ru 0) else (0 : Int32) else (9 : Int32))))
def sX6_empties (ru : Nat → Int32) (sh : Nat → Int32) (sn : Int32) (se : Nat → Int32) (dn : Nat) (kd : Nat → Int32) (ld : Nat → Int32) (tm : Nat → Int32) (pk : Nat → Int32) (ts : Nat → Int32) (io : Nat → Int32) (lv : Nat → Int32) (nu : Int32) : (Nat → Int32) := sX6_empties_L54 ru sh sn se 401 ((ru 1) + (nu / 25)) ((sX6_drains ru dn kd ld tm pk ts (sX6_bits dn io) (((nu / 5) - (nu / 5) / 5 * 5) + 1)) + (20 * (nu - nu / 5 * 5))) (1000 * (ru 0)) (1000 * (ru 0)) 0 lv
set_option maxHeartbeats 4000000 in
set_option maxRecDepth 100000 in
theorem kX6_empties (l : Launch) (dC : Nat → ClassId) (dI : Nat → Nat → Nat) (cI cQ cZ : ClassId) (ad : Nat → Nat) (th : Int32) (tr : Int64) (ru : Nat → Int32) (sh : Nat → Int32) (sn : Int32) (se : Nat → Int32) (dn : Nat) (kd : Nat → Int32) (ld : Nat → Int32) (tm : Nat → Int32) (pk : Nat → Int32) (ts : Nat → Int32) (wo : Nat → Int32) (io : Nat → Int32) (sg : Nat) (sd : Nat → Int32) (sl : Nat → Int32) (lv : Nat → Int32) (mt : Nat → Int32) (nu : Int32) (sz : Nat) (hI : mOk ru sh sn se dn sg sd) : Met l yX6_empties wsX6_empties rX6_empties (va_Pc [.ref (ad 0), .int nu] (cd_pre dC dI cI cQ cZ (wMd cI cZ ad th tr ru sh sn se dn kd ld tm pk ts wo io sg sd sl lv mt) sz)) (va_Qv (fun _ => True) (cd_post dC dI (wMd cI cZ ad th tr ru sh sn se dn kd ld tm pk ts wo io sg sd sl lv mt) (wMd cI cZ ad th tr ru sh sn se dn kd ld tm pk ts wo io sg sd sl (sX6_empties ru sh sn se dn kd ld tm pk ts io lv nu) mt) sz) (va_A (wMd cI cZ ad th tr ru sh sn se dn kd ld tm pk ts wo io sg sd sl lv mt) sz)) 0 0 (va_A (wMd cI cZ ad th tr ru sh sn se dn kd ld tm pk ts wo io sg sd sl lv mt) sz) := by
  have hiX6 : ∀ w ∈ u_ws RX6 TX6 19, w ∈ wsX6_empties := by decide +kernel
  generalize hex : sX6_empties ru sh sn se dn kd ld tm pk ts io lv nu = ex
  unfold sX6_empties at hex
  refine cd_mMv [.ref (ad 0), .int nu] (by decide) rfl (Nat.le_of_ble_eq_true rfl) ?_
  intro Q A p e s m args below meth c ls hx hb hml hown hts hA hinit hret hK hP hD hS hl
  have hl : lv_has ls 8 [(0, .ref (ad 0)), (1, .int nu)] := hl
  have hdn : dn ≤ 8 := hI.2.2.2.1
  have hsg : sg ≤ 12 := hI.2.2.2.2.1
  refine lv_aload_n hx hb dX6_empties_0 rfl (lv_at hl 0 rfl) ?_
  refine va_get (D := (dC, dI)) (ci := 6) (v := .ref (ad 1)) (C := RX6) (T := TX6) (N := 19) hx hb hts hiX6 hown hK.1 hP 0 rfl rfl 2 (by decide) (hts (.fieldLink RX6 7 "CellDaysModel" "rules" "[I") (by decide +kernel)) (fun _ h9 => h9) rfl dX6_empties_1 ?_
  refine lv_iconst (v := 1) hx hb dX6_empties_4 (by decide) ?_
  refine va_iald hx hb hK.1 hP 1 0 rfl rfl (vp_in_nI (n := 1) (N := 3) (by decide) (by decide)) dX6_empties_5 ?_
  refine W.eq (g2 := F0 m 6 ls [.int (ru 1)]) (rfl) ?_
  refine lv_iload_n hx hb dX6_empties_6 rfl (lv_at hl 1 rfl) ?_
  refine lv_bipush (v := 25) hx hb dX6_empties_7 (by decide) ?_
  refine lv_idiv hx hb dX6_empties_9 (by decide) ?_
  refine lv_iadd hx hb dX6_empties_10 ?_
  refine lv_istore_n (lv' := [(2, .int ((ru 1) + (nu / 25))), (0, .ref (ad 0)), (1, .int nu)]) hx hb dX6_empties_11 rfl hl (by decide) rfl (fun ls hl => ?_)
  refine lv_aload_n hx hb dX6_empties_12 rfl (lv_at hl 1 rfl) ?_
  refine lv_aload_n hx hb dX6_empties_13 rfl (lv_at hl 1 rfl) ?_
  refine cd_rV (As := []) (b := (ad 0)) (ci := 6) (q := (RX6, TX6, 19)) (rest := [.ref (ad 0)]) ⟨hx, hb, hml, hown, hts⟩ (kX6_bits l dC dI cI cQ cZ ad th tr ru sh sn se dn kd ld tm pk ts wo io sg sd sl lv mt hI) (cwV 0 hts gX6_empties_X6_bits rfl rfl rfl (by decide +kernel) ⟨by decide, by decide⟩) hK hP rfl rfl rfl hl.1 rfl (Nat.le_of_ble_eq_true rfl) dX6_empties_14 ⟨by decide, by decide⟩ ?_
  refine lv_iload_n hx hb dX6_empties_17 rfl (lv_at hl 2 rfl) ?_
  refine lv_iconst (v := 5) hx hb dX6_empties_18 (by decide) ?_
  refine lv_idiv hx hb dX6_empties_19 (by decide) ?_
  refine lv_iconst (v := 5) hx hb dX6_empties_20 (by decide) ?_
  refine lv_irem hx hb dX6_empties_21 (by decide) ?_
  refine lv_iconst (v := 1) hx hb dX6_empties_22 (by decide) ?_
  refine lv_iadd hx hb dX6_empties_23 ?_
  refine cd_rV (As := [.int (sX6_bits dn io), .int (((nu / 5) - (nu / 5) / 5 * 5) + 1)]) (b := (ad 0)) (ci := 6) (q := (RX6, TX6, 19)) (rest := []) ⟨hx, hb, hml, hown, hts⟩ (kX6_drains l dC dI cI cQ cZ ad th tr ru sh sn se dn kd ld tm pk ts wo io sg sd sl lv mt (sX6_bits dn io) (((nu / 5) - (nu / 5) / 5 * 5) + 1) hI) (cwV 2 hts gX6_empties_X6_drains rfl rfl rfl (by decide +kernel) ⟨by decide, by decide⟩) hK hP rfl rfl rfl hl.1 rfl (Nat.le_of_ble_eq_true rfl) dX6_empties_24 ⟨by decide, by decide⟩ ?_
  refine lv_bipush (v := 20) hx hb dX6_empties_27 (by decide) ?_
  refine lv_iload_n hx hb dX6_empties_29 rfl (lv_at hl 2 rfl) ?_
  refine lv_iconst (v := 5) hx hb dX6_empties_30 (by decide) ?_
  refine lv_irem hx hb dX6_empties_31 (by decide) ?_
  refine lv_imul hx hb dX6_empties_32 ?_
  refine lv_iadd hx hb dX6_empties_33 ?_
  refine lv_istore_n (lv' := [(3, .int ((sX6_drains ru dn kd ld tm pk ts (sX6_bits dn io) (((nu / 5) - (nu / 5) / 5 * 5) + 1)) + (20 * (nu - nu / 5 * 5)))), (2, .int ((ru 1) + (nu / 25))), (0, .ref (ad 0)), (1, .int nu)]) hx hb dX6_empties_34 rfl hl (by decide) rfl (fun ls hl => ?_)
  refine lv_sipush (v := 1000) hx hb dX6_empties_35 (by decide) ?_
  refine lv_aload_n hx hb dX6_empties_38 rfl (lv_at hl 2 rfl) ?_
  refine va_get (D := (dC, dI)) (ci := 6) (v := .ref (ad 1)) (C := RX6) (T := TX6) (N := 19) hx hb hts hiX6 hown hK.1 hP 0 rfl rfl 2 (by decide) (hts (.fieldLink RX6 7 "CellDaysModel" "rules" "[I") (by decide +kernel)) (fun _ h9 => h9) rfl dX6_empties_39 ?_
  refine lv_iconst (v := 0) hx hb dX6_empties_42 (by decide) ?_
  refine va_iald hx hb hK.1 hP 1 0 rfl rfl (vp_in_nI (n := 0) (N := 3) (by decide) (by decide)) dX6_empties_43 ?_
  refine W.eq (g2 := F0 m 44 ls [.int (ru 0), .int 1000]) (rfl) ?_
  refine lv_imul hx hb dX6_empties_44 ?_
  refine lv_istore (lv' := [(4, .int (1000 * (ru 0))), (3, .int ((sX6_drains ru dn kd ld tm pk ts (sX6_bits dn io) (((nu / 5) - (nu / 5) / 5 * 5) + 1)) + (20 * (nu - nu / 5 * 5)))), (2, .int ((ru 1) + (nu / 25))), (0, .ref (ad 0)), (1, .int nu)]) hx hb dX6_empties_45 hl (by decide) rfl (fun ls hl => ?_)
  refine lv_iload hx hb dX6_empties_47 (lv_at hl 0 rfl) ?_
  refine lv_istore (lv' := [(5, .int (1000 * (ru 0))), (4, .int (1000 * (ru 0))), (3, .int ((sX6_drains ru dn kd ld tm pk ts (sX6_bits dn io) (((nu / 5) - (nu / 5) / 5 * 5) + 1)) + (20 * (nu - nu / 5 * 5)))), (2, .int ((ru 1) + (nu / 25))), (0, .ref (ad 0)), (1, .int nu)]) hx hb dX6_empties_49 hl (by decide) rfl (fun ls hl => ?_)
  refine lv_iconst (v := 0) hx hb dX6_empties_51 (by decide) ?_
  refine lv_istore (lv' := [(6, .int 0), (5, .int (1000 * (ru 0))), (4, .int (1000 * (ru 0))), (3, .int ((sX6_drains ru dn kd ld tm pk ts (sX6_bits dn io) (((nu / 5) - (nu / 5) / 5 * 5) + 1)) + (20 * (nu - nu / 5 * 5)))), (2, .int ((ru 1) + (nu / 25))), (0, .ref (ad 0)), (1, .int nu)]) hx hb dX6_empties_52 hl (by decide) rfl (fun ls hl => ?_)
  have L54 : ∀ (n : Nat) (le : Int32) (sm : Int32) (fi : Int32) (cg : Int32) (k : Nat) (lvv : Nat → Int32), (k ≤ 400) → 400 - k < n → sX6_empties_L54 ru sh sn se n le sm fi cg k lvv = ex → ∀ (ls : Array Slot) (H : Heap) (locs : List Loc), lv_has ls 8 [(6, .int (nI k)), (5, .int cg), (4, .int fi), (3, .int sm), (2, .int le), (0, .ref (ad 0)), (1, .int nu)] → va_P (dC, dI) vwCl (wMd cI cZ ad th tr ru sh sn se dn kd ld tm pk ts wo io sg sd sl lvv mt) H → va_D A (wMd cI cZ ad th tr ru sh sn se dn kd ld tm pk ts wo io sg sd sl lvv mt) → va_S A s.heap H locs → W p l e rX6_empties s m args below meth c H locs 0 0 Q (F0 m 54 ls []) := by
    intro n
    induction n with
    | zero => intro le sm fi cg k lvv hk hm; exact absurd hm (Nat.not_lt_zero _)
    | succ n ih =>
      intro le sm fi cg k lvv hk hm hex ls H locs hl hP hD hS
      rw [sX6_empties_L54] at hex
      refine lv_iload hx hb dX6_empties_54 (lv_at hl 0 rfl) ?_
      refine lv_sipush (v := 400) hx hb dX6_empties_56 (by decide) ?_
      refine lv_icmp_ge (tgt := 134) hx hb dX6_empties_59 (by decide) (fun c_1 => ?_) (fun c_1 => ?_)
      · rw [if_pos c_1] at hex
        try have n_1 : 400 ≤ k := (nI_leI (a := 400) (b := k) (by omega) (by omega)).mp c_1
        subst hex
        exact hret _ _ _ _ dX6_empties_134 hP hD hS
      · rw [if_neg c_1] at hex
        try have n_1 : ¬ 400 ≤ k := fun h9 => c_1 ((nI_leI (a := 400) (b := k) (by omega) (by omega)).mpr h9)
        refine lv_iload hx hb dX6_empties_62 (lv_at hl 1 rfl) ?_
        have J_2 : W p l e rX6_empties s m args below meth c H locs 0 0 Q (F0 m 83 ls [.int (if 0 ≤ cg then (cg / 100) / (ru 0) else (0 : Int32))]) := by
          refine lv_istore (lv' := [(7, .int (if 0 ≤ cg then (cg / 100) / (ru 0) else (0 : Int32))), (6, .int (nI k)), (5, .int cg), (4, .int fi), (3, .int sm), (2, .int le), (0, .ref (ad 0)), (1, .int nu)]) hx hb dX6_empties_83 hl (by decide) rfl (fun ls hl => ?_)
          refine lv_aload_n hx hb dX6_empties_85 rfl (lv_at hl 6 rfl) ?_
          refine va_get (D := (dC, dI)) (ci := 6) (v := .ref (ad 13)) (C := RX6) (T := TX6) (N := 19) hx hb hts hiX6 hown hK.1 hP 0 rfl rfl 17 (by decide) (hts (.fieldLink RX6 51 "CellDaysModel" "levels" "[I") (by decide +kernel)) (fun _ h9 => h9) rfl dX6_empties_86 ?_
          refine lv_iload hx hb dX6_empties_89 (lv_at hl 1 rfl) ?_
          refine lv_iload hx hb dX6_empties_91 (lv_at hl 0 rfl) ?_
          refine lv_bipush (v := 9) hx hb dX6_empties_93 (by decide) ?_
          have J_3 : W p l e rX6_empties s m args below meth c H locs 0 0 Q (F0 m 105 ls [.int (if (if 0 ≤ cg then (cg / 100) / (ru 0) else (0 : Int32)) ≤ 9 then if 0 ≤ cg then (cg / 100) / (ru 0) else (0 : Int32) else (9 : Int32)), .int (nI k), .ref (ad 13)]) := by
            refine va_iast hx hb hK.1 hP hD hS 13 0 rfl rfl (vp_in_nI (n := k) (N := 400) (by omega) (by omega)) dX6_empties_105 (fun H locs hP hD hS => ?_)
            rw [nI_clamp (show k < 2 ^ 31 by omega)] at hP hD
            have hP : va_P (dC, dI) vwCl (wMd cI cZ ad th tr ru sh sn se dn kd ld tm pk ts wo io sg sd sl (upd lvv k (if (if 0 ≤ cg then (cg / 100) / (ru 0) else (0 : Int32)) ≤ 9 then if 0 ≤ cg then (cg / 100) / (ru 0) else (0 : Int32) else (9 : Int32))) mt) H := hP
            have hD : va_D A (wMd cI cZ ad th tr ru sh sn se dn kd ld tm pk ts wo io sg sd sl (upd lvv k (if (if 0 ≤ cg then (cg / 100) / (ru 0) else (0 : Int32)) ≤ 9 then if 0 ≤ cg then (cg / 100) / (ru 0) else (0 : Int32) else (9 : Int32))) mt) := hD
            refine lv_iload hx hb dX6_empties_106 (lv_at hl 2 rfl) ?_
            have J_4 : W p l e rX6_empties s m args below meth c H locs 0 0 Q (F0 m 126 ls [.int (if 0 ≤ cg then sX6_behind sh sn se cg (nI k) le sm else cg)]) := by
              refine lv_istore (lv' := [(5, .int (if 0 ≤ cg then sX6_behind sh sn se cg (nI k) le sm else cg)), (7, .int (if 0 ≤ cg then (cg / 100) / (ru 0) else (0 : Int32))), (6, .int (nI k)), (4, .int fi), (3, .int sm), (2, .int le), (0, .ref (ad 0)), (1, .int nu)]) hx hb dX6_empties_126 hl (by decide) rfl (fun ls hl => ?_)
              refine lv_iinc (v := nI (k + 1)) (lv' := [(6, .int (nI (k + 1))), (5, .int (if 0 ≤ cg then sX6_behind sh sn se cg (nI k) le sm else cg)), (7, .int (if 0 ≤ cg then (cg / 100) / (ru 0) else (0 : Int32))), (4, .int fi), (3, .int sm), (2, .int le), (0, .ref (ad 0)), (1, .int nu)]) hx hb dX6_empties_128 hl (k := 2) rfl (nI_1 k) (by decide) rfl (fun ls hl => ?_)
              refine lv_goto (tgt := 54) hx hb dX6_empties_131 (by decide) ?_
              exact ih le sm fi (if 0 ≤ cg then sX6_behind sh sn se cg (nI k) le sm else cg) (k + 1) (upd lvv k (if (if 0 ≤ cg then (cg / 100) / (ru 0) else (0 : Int32)) ≤ 9 then if 0 ≤ cg then (cg / 100) / (ru 0) else (0 : Int32) else (9 : Int32))) (by omega) (by omega) hex _ _ _ (lv_sub hl [0, 1, 3, 4, 5, 6, 7] rfl) hP hD hS
            refine lv_if_ge (tgt := 116) hx hb dX6_empties_108 (by decide) (fun c_5 => ?_) (fun c_5 => ?_)
            · skip
              refine lv_aload_n hx hb dX6_empties_116 rfl (lv_at hl 6 rfl) ?_
              refine lv_iload hx hb dX6_empties_117 (lv_at hl 2 rfl) ?_
              refine lv_iload hx hb dX6_empties_119 (lv_at hl 1 rfl) ?_
              refine lv_iload_n hx hb dX6_empties_121 rfl (lv_at hl 5 rfl) ?_
              refine lv_iload_n hx hb dX6_empties_122 rfl (lv_at hl 4 rfl) ?_
              refine cd_rV (As := [.int cg, .int (nI k), .int le, .int sm]) (b := (ad 0)) (ci := 6) (q := (RX6, TX6, 19)) (rest := []) ⟨hx, hb, hml, hown, hts⟩ (kX6_behind l dC dI cI cQ cZ ad th tr ru sh sn se dn kd ld tm pk ts wo io sg sd sl (upd lvv k (if (if 0 ≤ cg then (cg / 100) / (ru 0) else (0 : Int32)) ≤ 9 then if 0 ≤ cg then (cg / 100) / (ru 0) else (0 : Int32) else (9 : Int32))) mt cg (nI k) le sm hI (nI_nn _ (by omega))) (cwV 4 hts gX6_empties_X6_behind rfl rfl rfl (by decide +kernel) ⟨by decide, by decide⟩) hK hP rfl rfl rfl hl.1 rfl (Nat.le_of_ble_eq_true rfl) dX6_empties_123 ⟨by decide, by decide⟩ ?_
              rw [if_pos c_5] at J_4
              exact J_4
            · skip
              refine lv_iload hx hb dX6_empties_111 (lv_at hl 2 rfl) ?_
              refine lv_goto (tgt := 126) hx hb dX6_empties_113 (by decide) ?_
              rw [if_neg c_5] at J_4
              exact J_4
          refine lv_icmp_le (tgt := 103) hx hb dX6_empties_95 (by decide) (fun c_6 => ?_) (fun c_6 => ?_)
          · skip
            refine lv_iload hx hb dX6_empties_103 (lv_at hl 0 rfl) ?_
            rw [if_pos c_6] at J_3
            exact J_3
          · skip
            refine lv_bipush (v := 9) hx hb dX6_empties_98 (by decide) ?_
            refine lv_goto (tgt := 105) hx hb dX6_empties_100 (by decide) ?_
            rw [if_neg c_6] at J_3
            exact J_3
        refine lv_if_ge (tgt := 71) hx hb dX6_empties_64 (by decide) (fun c_7 => ?_) (fun c_7 => ?_)
        · skip
          refine lv_iload hx hb dX6_empties_71 (lv_at hl 1 rfl) ?_
          refine lv_bipush (v := 100) hx hb dX6_empties_73 (by decide) ?_
          refine lv_idiv hx hb dX6_empties_75 (by decide) ?_
          refine lv_aload_n hx hb dX6_empties_76 rfl (lv_at hl 5 rfl) ?_
          refine va_get (D := (dC, dI)) (ci := 6) (v := .ref (ad 1)) (C := RX6) (T := TX6) (N := 19) hx hb hts hiX6 hown hK.1 hP 0 rfl rfl 2 (by decide) (hts (.fieldLink RX6 7 "CellDaysModel" "rules" "[I") (by decide +kernel)) (fun _ h9 => h9) rfl dX6_empties_77 ?_
          refine lv_iconst (v := 0) hx hb dX6_empties_80 (by decide) ?_
          refine va_iald hx hb hK.1 hP 1 0 rfl rfl (vp_in_nI (n := 0) (N := 3) (by decide) (by decide)) dX6_empties_81 ?_
          refine W.eq (g2 := F0 m 82 ls [.int (ru 0), .int (cg / 100)]) (rfl) ?_
          refine lv_idiv hx hb dX6_empties_82 (ne_pos hI.2.2.2.2.2.1) ?_
          rw [if_pos c_7] at J_2
          exact J_2
        · skip
          refine lv_iconst (v := 0) hx hb dX6_empties_67 (by decide) ?_
          refine lv_goto (tgt := 83) hx hb dX6_empties_68 (by decide) ?_
          rw [if_neg c_7] at J_2
          exact J_2
  exact L54 401 ((ru 1) + (nu / 25)) ((sX6_drains ru dn kd ld tm pk ts (sX6_bits dn io) (((nu / 5) - (nu / 5) / 5 * 5) + 1)) + (20 * (nu - nu / 5 * 5))) (1000 * (ru 0)) (1000 * (ru 0)) 0 lv (by decide) (by decide) hex _ _ _ (lv_sub hl [0, 1, 2, 3, 4, 5, 6] rfl) hP hD hS

def rX6_level : Room := { frames := 3, cells := 0, slots := 0, locals := 74 }
def sX6_level (ru : Nat → Int32) (sh : Nat → Int32) (sn : Int32) (se : Nat → Int32) (dn : Nat) (kd : Nat → Int32) (ld : Nat → Int32) (tm : Nat → Int32) (pk : Nat → Int32) (ts : Nat → Int32) (io : Nat → Int32) (lv : Nat → Int32) (nu : Int32) (dd : Int32) : Int32 × (Int32) × (Nat → Int32) := (if (sX6_isCase nu) = 0 then ((-1), 0, lv) else (if (sX6_isDay dd) = 0 then ((-1), 0, lv) else ((sX6_empties ru sh sn se dn kd ld tm pk ts io lv nu) dd.toNatClampNeg, 0, sX6_empties ru sh sn se dn kd ld tm pk ts io lv nu)))
set_option maxHeartbeats 4000000 in
set_option maxRecDepth 100000 in
theorem kX6_level (l : Launch) (dC : Nat → ClassId) (dI : Nat → Nat → Nat) (cI cQ cZ : ClassId) (ad : Nat → Nat) (th : Int32) (tr : Int64) (ru : Nat → Int32) (sh : Nat → Int32) (sn : Int32) (se : Nat → Int32) (dn : Nat) (kd : Nat → Int32) (ld : Nat → Int32) (tm : Nat → Int32) (pk : Nat → Int32) (ts : Nat → Int32) (wo : Nat → Int32) (io : Nat → Int32) (sg : Nat) (sd : Nat → Int32) (sl : Nat → Int32) (lv : Nat → Int32) (mt : Nat → Int32) (nu : Int32) (dd : Int32) (sz : Nat) (hI : mOk ru sh sn se dn sg sd) : Met l yX6_level wsX6_level rX6_level (va_Pc [.ref (ad 0), .int nu, .int dd] (cd_pre dC dI cI cQ cZ (wMd cI cZ ad th tr ru sh sn se dn kd ld tm pk ts wo io sg sd sl lv mt) sz)) (va_Qi (fun r _ => r = (sX6_level ru sh sn se dn kd ld tm pk ts io lv nu dd).1) (cd_post dC dI (wMd cI cZ ad th tr ru sh sn se dn kd ld tm pk ts wo io sg sd sl lv mt) (wMd cI cZ ad ((sX6_level ru sh sn se dn kd ld tm pk ts io lv nu dd).2.1) tr ru sh sn se dn kd ld tm pk ts wo io sg sd sl ((sX6_level ru sh sn se dn kd ld tm pk ts io lv nu dd).2.2) mt) sz) (va_A (wMd cI cZ ad th tr ru sh sn se dn kd ld tm pk ts wo io sg sd sl lv mt) sz)) 0 0 (va_A (wMd cI cZ ad th tr ru sh sn se dn kd ld tm pk ts wo io sg sd sl lv mt) sz) := by
  have hiX6 : ∀ w ∈ u_ws RX6 TX6 19, w ∈ wsX6_level := by decide +kernel
  generalize hex : sX6_level ru sh sn se dn kd ld tm pk ts io lv nu dd = ex
  unfold sX6_level at hex
  refine cd_mMi [.ref (ad 0), .int nu, .int dd] (by decide) rfl (Nat.le_of_ble_eq_true rfl) ?_
  intro Q A p e s m args below meth c ls hx hb hml hown hts hA hret hK hP hD hS hl
  have hl : lv_has ls 3 [(0, .ref (ad 0)), (1, .int nu), (2, .int dd)] := hl
  have hdn : dn ≤ 8 := hI.2.2.2.1
  have hsg : sg ≤ 12 := hI.2.2.2.2.1
  refine lv_aload_n hx hb dX6_level_0 rfl (lv_at hl 0 rfl) ?_
  refine lv_iconst (v := 0) hx hb dX6_level_1 (by decide) ?_
  refine va_put (D := (dC, dI)) (ci := 6) (v := .int 0) (ty := .int) (C := RX6) (T := TX6) (N := 19) hx hb hts hiX6 tyX6 tyX6_ok nmX6 hown hK.1 hP hD hS 0 rfl rfl 0 (by decide) (hts (.fieldLink RX6 57 "CellDaysModel" "thrown" "I") (by decide +kernel)) (fun _ h9 => h9) rfl (by decide +kernel) (rfl) (rfl) (Nat.le_of_ble_eq_true rfl) dX6_level_2 (fun H locs hP hD hS => ?_)
  have hP : va_P (dC, dI) vwCl (wMd cI cZ ad 0 tr ru sh sn se dn kd ld tm pk ts wo io sg sd sl lv mt) H := hP
  have hD : va_D A (wMd cI cZ ad 0 tr ru sh sn se dn kd ld tm pk ts wo io sg sd sl lv mt) := hD
  refine lv_iload_n hx hb dX6_level_5 rfl (lv_at hl 1 rfl) ?_
  refine cd_rS (As := [.int nu]) (rest := []) ⟨hx, hb, hml, hown, hts⟩ (kX6_isCase l dC dI cI cQ cZ nu) (va_cwS 1 hts gX6_level_X6_isCase rfl rfl rfl (by decide +kernel) ⟨by decide, by decide⟩) hK cd_P0 rfl hl.1 rfl (Nat.le_of_ble_eq_true rfl) dX6_level_6 ⟨by decide, by decide⟩ ?_
  refine lv_if_eq (tgt := 19) hx hb dX6_level_9 (by decide) (fun c_1 => ?_) (fun c_1 => ?_)
  · rw [if_pos c_1] at hex
    refine lv_iconst (v := (-1)) hx hb dX6_level_19 (by decide) ?_
    subst hex
    exact hret _ _ _ _ dX6_level_20 hP hD hS
  · rw [if_neg c_1] at hex
    refine lv_iload_n hx hb dX6_level_12 rfl (lv_at hl 2 rfl) ?_
    refine cd_rS (As := [.int dd]) (rest := []) ⟨hx, hb, hml, hown, hts⟩ (kX6_isDay l dC dI cI cQ cZ dd) (va_cwS 1 hts gX6_level_X6_isDay rfl rfl rfl (by decide +kernel) ⟨by decide, by decide⟩) hK cd_P0 rfl hl.1 rfl (Nat.le_of_ble_eq_true rfl) dX6_level_13 ⟨by decide, by decide⟩ ?_
    refine lv_if_ne (tgt := 21) hx hb dX6_level_16 (by decide) (fun c_2 => ?_) (fun c_2 => ?_)
    · rw [if_neg c_2] at hex
      refine lv_aload_n hx hb dX6_level_21 rfl (lv_at hl 0 rfl) ?_
      refine lv_iload_n hx hb dX6_level_22 rfl (lv_at hl 1 rfl) ?_
      have hDc : va_D A (wMd cI cZ ad 0 tr ru sh sn se dn kd ld tm pk ts wo io sg sd sl lv mt) := hD
      have hFc := cd_F hDc hS hA
      refine cd_wVv (As := [.int nu]) (b := (ad 0)) (ci := 6) (q := (RX6, TX6, 19)) (rest := []) ⟨hx, hb, hml, hown, hts⟩ (kX6_empties l dC dI cI cQ cZ ad 0 tr ru sh sn se dn kd ld tm pk ts wo io sg sd sl lv mt nu H.size hI) (cwV 1 hts gX6_level_X6_empties rfl rfl rfl (by decide +kernel) ⟨by decide, by decide⟩) hK hP hDc hFc hS rfl rfl rfl hl.1 rfl (Nat.le_of_ble_eq_true rfl) dX6_level_23 ⟨by decide, by decide⟩ (fun H1 locs hP1 hD1 hk1 hS => ?_)
      have hP := hP1
      have hD := cd_DA hD1 hFc
      generalize H1 = H at hP hS ⊢
      have hP : va_P (dC, dI) vwCl (wMd cI cZ ad 0 tr ru sh sn se dn kd ld tm pk ts wo io sg sd sl (sX6_empties ru sh sn se dn kd ld tm pk ts io lv nu) mt) H := hP
      have hD : va_D A (wMd cI cZ ad 0 tr ru sh sn se dn kd ld tm pk ts wo io sg sd sl (sX6_empties ru sh sn se dn kd ld tm pk ts io lv nu) mt) := hD
      refine lv_aload_n hx hb dX6_level_26 rfl (lv_at hl 0 rfl) ?_
      refine va_get (D := (dC, dI)) (ci := 6) (v := .ref (ad 13)) (C := RX6) (T := TX6) (N := 19) hx hb hts hiX6 hown hK.1 hP 0 rfl rfl 17 (by decide) (hts (.fieldLink RX6 51 "CellDaysModel" "levels" "[I") (by decide +kernel)) (fun _ h9 => h9) rfl dX6_level_27 ?_
      refine lv_iload_n hx hb dX6_level_30 rfl (lv_at hl 2 rfl) ?_
      refine va_iald hx hb hK.1 hP 13 0 rfl rfl ((vp_of (isDay6_b c_2).1 (by have := (isDay6_b c_2).2; omega))) dX6_level_31 ?_
      subst hex
      exact hret _ _ _ _ dX6_level_32 hP hD hS
    · rw [if_pos c_2] at hex
      refine lv_iconst (v := (-1)) hx hb dX6_level_19 (by decide) ?_
      subst hex
      exact hret _ _ _ _ dX6_level_20 hP hD hS

def rX6_isAgreeing : Room := { frames := 3, cells := 0, slots := 0, locals := 74 }
def sX6_isAgreeing_L9 (sg : Nat) (sd : Nat → Int32) (sl : Nat → Int32) : Nat → Int32 → Nat → (Nat → Int32) → Int32 × (Nat → Int32)
  | 0, bz, k, lvv => (0, (fun _ => 0))
  | n + 1, bz, k, lvv => (if (nI sg) ≤ (nI k) then (bz, lvv) else sX6_isAgreeing_L9 sg sd sl n (bz &&& (if (lvv ((sd k).toNatClampNeg)) = (sl k) then (1 : Int32) else (0 : Int32))) (k + 1) lvv)
def sX6_isAgreeing (ru : Nat → Int32) (sh : Nat → Int32) (sn : Int32) (se : Nat → Int32) (dn : Nat) (kd : Nat → Int32) (ld : Nat → Int32) (tm : Nat → Int32) (pk : Nat → Int32) (ts : Nat → Int32) (io : Nat → Int32) (sg : Nat) (sd : Nat → Int32) (sl : Nat → Int32) (lv : Nat → Int32) (nu : Int32) : Int32 × (Nat → Int32) := sX6_isAgreeing_L9 sg sd sl 13 1 0 (sX6_empties ru sh sn se dn kd ld tm pk ts io lv nu)
set_option maxHeartbeats 4000000 in
set_option maxRecDepth 100000 in
theorem kX6_isAgreeing (l : Launch) (dC : Nat → ClassId) (dI : Nat → Nat → Nat) (cI cQ cZ : ClassId) (ad : Nat → Nat) (th : Int32) (tr : Int64) (ru : Nat → Int32) (sh : Nat → Int32) (sn : Int32) (se : Nat → Int32) (dn : Nat) (kd : Nat → Int32) (ld : Nat → Int32) (tm : Nat → Int32) (pk : Nat → Int32) (ts : Nat → Int32) (wo : Nat → Int32) (io : Nat → Int32) (sg : Nat) (sd : Nat → Int32) (sl : Nat → Int32) (lv : Nat → Int32) (mt : Nat → Int32) (nu : Int32) (sz : Nat) (hI : mOk ru sh sn se dn sg sd) : Met l yX6_isAgreeing wsX6_isAgreeing rX6_isAgreeing (va_Pc [.ref (ad 0), .int nu] (cd_pre dC dI cI cQ cZ (wMd cI cZ ad th tr ru sh sn se dn kd ld tm pk ts wo io sg sd sl lv mt) sz)) (va_Qi (fun r _ => r = (sX6_isAgreeing ru sh sn se dn kd ld tm pk ts io sg sd sl lv nu).1) (cd_post dC dI (wMd cI cZ ad th tr ru sh sn se dn kd ld tm pk ts wo io sg sd sl lv mt) (wMd cI cZ ad th tr ru sh sn se dn kd ld tm pk ts wo io sg sd sl ((sX6_isAgreeing ru sh sn se dn kd ld tm pk ts io sg sd sl lv nu).2) mt) sz) (va_A (wMd cI cZ ad th tr ru sh sn se dn kd ld tm pk ts wo io sg sd sl lv mt) sz)) 0 0 (va_A (wMd cI cZ ad th tr ru sh sn se dn kd ld tm pk ts wo io sg sd sl lv mt) sz) := by
  have hiX6 : ∀ w ∈ u_ws RX6 TX6 19, w ∈ wsX6_isAgreeing := by decide +kernel
  generalize hex : sX6_isAgreeing ru sh sn se dn kd ld tm pk ts io sg sd sl lv nu = ex
  unfold sX6_isAgreeing at hex
  refine cd_mMz [.ref (ad 0), .int nu] (by decide) rfl (Nat.le_of_ble_eq_true rfl) ?_
  intro Q A p e s m args below meth c ls hx hb hml hown hts hA hret hK hP hD hS hl
  have hl : lv_has ls 4 [(0, .ref (ad 0)), (1, .int nu)] := hl
  have hdn : dn ≤ 8 := hI.2.2.2.1
  have hsg : sg ≤ 12 := hI.2.2.2.2.1
  refine lv_aload_n hx hb dX6_isAgreeing_0 rfl (lv_at hl 0 rfl) ?_
  refine lv_iload_n hx hb dX6_isAgreeing_1 rfl (lv_at hl 1 rfl) ?_
  have hDc : va_D A (wMd cI cZ ad th tr ru sh sn se dn kd ld tm pk ts wo io sg sd sl lv mt) := hD
  have hFc := cd_F hDc hS hA
  refine cd_wVv (As := [.int nu]) (b := (ad 0)) (ci := 6) (q := (RX6, TX6, 19)) (rest := []) ⟨hx, hb, hml, hown, hts⟩ (kX6_empties l dC dI cI cQ cZ ad th tr ru sh sn se dn kd ld tm pk ts wo io sg sd sl lv mt nu s.heap.size hI) (cwV 1 hts gX6_isAgreeing_X6_empties rfl rfl rfl (by decide +kernel) ⟨by decide, by decide⟩) hK hP hDc hFc hS rfl rfl rfl hl.1 rfl (Nat.le_of_ble_eq_true rfl) dX6_isAgreeing_2 ⟨by decide, by decide⟩ (fun H1 locs hP1 hD1 hk1 hS => ?_)
  have hP := hP1
  have hD := cd_DA hD1 hFc
  generalize H1 = H at hP hS ⊢
  have hP : va_P (dC, dI) vwCl (wMd cI cZ ad th tr ru sh sn se dn kd ld tm pk ts wo io sg sd sl (sX6_empties ru sh sn se dn kd ld tm pk ts io lv nu) mt) H := hP
  have hD : va_D A (wMd cI cZ ad th tr ru sh sn se dn kd ld tm pk ts wo io sg sd sl (sX6_empties ru sh sn se dn kd ld tm pk ts io lv nu) mt) := hD
  refine lv_iconst (v := 1) hx hb dX6_isAgreeing_5 (by decide) ?_
  refine lv_istore_n (lv' := [(2, .int 1), (0, .ref (ad 0)), (1, .int nu)]) hx hb dX6_isAgreeing_6 rfl hl (by decide) rfl (fun ls hl => ?_)
  refine lv_iconst (v := 0) hx hb dX6_isAgreeing_7 (by decide) ?_
  refine lv_istore_n (lv' := [(3, .int 0), (2, .int 1), (0, .ref (ad 0)), (1, .int nu)]) hx hb dX6_isAgreeing_8 rfl hl (by decide) rfl (fun ls hl => ?_)
  have L9 : ∀ (n : Nat) (bz : Int32) (k : Nat) (lvv : Nat → Int32), (k ≤ 12) → (bz = 0 ∨ bz = 1) → 12 - k < n → sX6_isAgreeing_L9 sg sd sl n bz k lvv = ex → ∀ (ls : Array Slot) (H : Heap) (locs : List Loc), lv_has ls 4 [(3, .int (nI k)), (2, .int bz), (0, .ref (ad 0)), (1, .int nu)] → va_P (dC, dI) vwCl (wMd cI cZ ad th tr ru sh sn se dn kd ld tm pk ts wo io sg sd sl lvv mt) H → va_D A (wMd cI cZ ad th tr ru sh sn se dn kd ld tm pk ts wo io sg sd sl lvv mt) → va_S A s.heap H locs → W p l e rX6_isAgreeing s m args below meth c H locs 0 0 Q (F0 m 9 ls []) := by
    intro n
    induction n with
    | zero => intro bz k lvv hk hbz hm; exact absurd hm (Nat.not_lt_zero _)
    | succ n ih =>
      intro bz k lvv hk hbz hm hex ls H locs hl hP hD hS
      rw [sX6_isAgreeing_L9] at hex
      refine lv_iload_n hx hb dX6_isAgreeing_9 rfl (lv_at hl 0 rfl) ?_
      refine lv_aload_n hx hb dX6_isAgreeing_10 rfl (lv_at hl 2 rfl) ?_
      refine va_get (D := (dC, dI)) (ci := 6) (v := .int (nI sg)) (C := RX6) (T := TX6) (N := 19) hx hb hts hiX6 hown hK.1 hP 0 rfl rfl 14 (by decide) (hts (.fieldLink RX6 114 "CellDaysModel" "signs" "I") (by decide +kernel)) (fun _ h9 => h9) rfl dX6_isAgreeing_11 ?_
      refine lv_icmp_ge (tgt := 51) hx hb dX6_isAgreeing_14 (by decide) (fun c_1 => ?_) (fun c_1 => ?_)
      · rw [if_pos c_1] at hex
        try have n_1 : sg ≤ k := (nI_leI (a := sg) (b := k) (by omega) (by omega)).mp c_1
        refine lv_iload_n hx hb dX6_isAgreeing_51 rfl (lv_at hl 1 rfl) ?_
        subst hex
        exact hret _ _ _ _ (nar_n hbz) dX6_isAgreeing_52 hP hD hS
      · rw [if_neg c_1] at hex
        try have n_1 : ¬ sg ≤ k := fun h9 => c_1 ((nI_leI (a := sg) (b := k) (by omega) (by omega)).mpr h9)
        refine lv_iload_n hx hb dX6_isAgreeing_17 rfl (lv_at hl 1 rfl) ?_
        refine lv_aload_n hx hb dX6_isAgreeing_18 rfl (lv_at hl 2 rfl) ?_
        refine va_get (D := (dC, dI)) (ci := 6) (v := .ref (ad 13)) (C := RX6) (T := TX6) (N := 19) hx hb hts hiX6 hown hK.1 hP 0 rfl rfl 17 (by decide) (hts (.fieldLink RX6 51 "CellDaysModel" "levels" "[I") (by decide +kernel)) (fun _ h9 => h9) rfl dX6_isAgreeing_19 ?_
        refine lv_aload_n hx hb dX6_isAgreeing_22 rfl (lv_at hl 2 rfl) ?_
        refine va_get (D := (dC, dI)) (ci := 6) (v := .ref (ad 11)) (C := RX6) (T := TX6) (N := 19) hx hb hts hiX6 hown hK.1 hP 0 rfl rfl 15 (by decide) (hts (.fieldLink RX6 45 "CellDaysModel" "signDay" "[I") (by decide +kernel)) (fun _ h9 => h9) rfl dX6_isAgreeing_23 ?_
        refine lv_iload_n hx hb dX6_isAgreeing_26 rfl (lv_at hl 0 rfl) ?_
        refine va_iald hx hb hK.1 hP 11 0 rfl rfl (vp_in_nI (n := k) (N := 12) (by omega) (by omega)) dX6_isAgreeing_27 ?_
        refine W.eq (g2 := F0 m 28 ls [.int (sd k), .ref (ad 13), .int bz]) (by rw [nI_clamp (show k < 2 ^ 31 by omega)]) ?_
        refine va_iald hx hb hK.1 hP 13 0 rfl rfl ((vp_of (hI.2.2.2.2.2.2 _).1 (by have := (hI.2.2.2.2.2.2 k).2; omega))) dX6_isAgreeing_28 ?_
        refine lv_aload_n hx hb dX6_isAgreeing_29 rfl (lv_at hl 2 rfl) ?_
        refine va_get (D := (dC, dI)) (ci := 6) (v := .ref (ad 12)) (C := RX6) (T := TX6) (N := 19) hx hb hts hiX6 hown hK.1 hP 0 rfl rfl 16 (by decide) (hts (.fieldLink RX6 48 "CellDaysModel" "signLevel" "[I") (by decide +kernel)) (fun _ h9 => h9) rfl dX6_isAgreeing_30 ?_
        refine lv_iload_n hx hb dX6_isAgreeing_33 rfl (lv_at hl 0 rfl) ?_
        refine va_iald hx hb hK.1 hP 12 0 rfl rfl (vp_in_nI (n := k) (N := 12) (by omega) (by omega)) dX6_isAgreeing_34 ?_
        refine W.eq (g2 := F0 m 35 ls [.int (sl k), .int (lvv ((sd k).toNatClampNeg)), .int bz]) (by rw [nI_clamp (show k < 2 ^ 31 by omega)]) ?_
        have J_2 : W p l e rX6_isAgreeing s m args below meth c H locs 0 0 Q (F0 m 43 ls [.int (if (lvv ((sd k).toNatClampNeg)) = (sl k) then (1 : Int32) else (0 : Int32)), .int bz]) := by
          refine lv_iand hx hb dX6_isAgreeing_43 ?_
          refine lv_istore_n (lv' := [(2, .int (bz &&& (if (lvv ((sd k).toNatClampNeg)) = (sl k) then (1 : Int32) else (0 : Int32)))), (3, .int (nI k)), (0, .ref (ad 0)), (1, .int nu)]) hx hb dX6_isAgreeing_44 rfl hl (by decide) rfl (fun ls hl => ?_)
          refine lv_iinc (v := nI (k + 1)) (lv' := [(3, .int (nI (k + 1))), (2, .int (bz &&& (if (lvv ((sd k).toNatClampNeg)) = (sl k) then (1 : Int32) else (0 : Int32)))), (0, .ref (ad 0)), (1, .int nu)]) hx hb dX6_isAgreeing_45 hl (k := 1) rfl (nI_1 k) (by decide) rfl (fun ls hl => ?_)
          refine lv_goto (tgt := 9) hx hb dX6_isAgreeing_48 (by decide) ?_
          exact ih (bz &&& (if (lvv ((sd k).toNatClampNeg)) = (sl k) then (1 : Int32) else (0 : Int32))) (k + 1) lvv (by omega) (by first | exact and01 hbz | exact and01' hbz) (by omega) hex _ _ _ (lv_sub hl [0, 1, 2, 3] rfl) hP hD hS
        refine lv_icmp_ne (tgt := 42) hx hb dX6_isAgreeing_35 (by decide) (fun c_3 => ?_) (fun c_3 => ?_)
        · skip
          refine lv_iconst (v := 0) hx hb dX6_isAgreeing_42 (by decide) ?_
          rw [if_neg c_3] at J_2
          exact J_2
        · skip
          refine lv_iconst (v := 1) hx hb dX6_isAgreeing_38 (by decide) ?_
          refine lv_goto (tgt := 43) hx hb dX6_isAgreeing_39 (by decide) ?_
          rw [if_pos c_3] at J_2
          exact J_2
  exact L9 13 1 0 (sX6_empties ru sh sn se dn kd ld tm pk ts io lv nu) (by decide) (by decide) (by decide) hex _ _ _ (lv_sub hl [0, 1, 2, 3] rfl) hP hD hS

def rX6_agrees : Room := { frames := 4, cells := 0, slots := 0, locals := 97 }
def sX6_agrees (ru : Nat → Int32) (sh : Nat → Int32) (sn : Int32) (se : Nat → Int32) (dn : Nat) (kd : Nat → Int32) (ld : Nat → Int32) (tm : Nat → Int32) (pk : Nat → Int32) (ts : Nat → Int32) (io : Nat → Int32) (sg : Nat) (sd : Nat → Int32) (sl : Nat → Int32) (lv : Nat → Int32) (nu : Int32) : Int32 × (Int32) × (Nat → Int32) := (if (sX6_isCase nu) = 0 then ((-1), 0, lv) else (if ((sX6_isAgreeing ru sh sn se dn kd ld tm pk ts io sg sd sl lv nu).1) = 0 then (0, 0, (sX6_isAgreeing ru sh sn se dn kd ld tm pk ts io sg sd sl lv nu).2) else (1, 0, (sX6_isAgreeing ru sh sn se dn kd ld tm pk ts io sg sd sl lv nu).2)))
set_option maxHeartbeats 4000000 in
set_option maxRecDepth 100000 in
theorem kX6_agrees (l : Launch) (dC : Nat → ClassId) (dI : Nat → Nat → Nat) (cI cQ cZ : ClassId) (ad : Nat → Nat) (th : Int32) (tr : Int64) (ru : Nat → Int32) (sh : Nat → Int32) (sn : Int32) (se : Nat → Int32) (dn : Nat) (kd : Nat → Int32) (ld : Nat → Int32) (tm : Nat → Int32) (pk : Nat → Int32) (ts : Nat → Int32) (wo : Nat → Int32) (io : Nat → Int32) (sg : Nat) (sd : Nat → Int32) (sl : Nat → Int32) (lv : Nat → Int32) (mt : Nat → Int32) (nu : Int32) (sz : Nat) (hI : mOk ru sh sn se dn sg sd) : Met l yX6_agrees wsX6_agrees rX6_agrees (va_Pc [.ref (ad 0), .int nu] (cd_pre dC dI cI cQ cZ (wMd cI cZ ad th tr ru sh sn se dn kd ld tm pk ts wo io sg sd sl lv mt) sz)) (va_Qi (fun r _ => r = (sX6_agrees ru sh sn se dn kd ld tm pk ts io sg sd sl lv nu).1) (cd_post dC dI (wMd cI cZ ad th tr ru sh sn se dn kd ld tm pk ts wo io sg sd sl lv mt) (wMd cI cZ ad ((sX6_agrees ru sh sn se dn kd ld tm pk ts io sg sd sl lv nu).2.1) tr ru sh sn se dn kd ld tm pk ts wo io sg sd sl ((sX6_agrees ru sh sn se dn kd ld tm pk ts io sg sd sl lv nu).2.2) mt) sz) (va_A (wMd cI cZ ad th tr ru sh sn se dn kd ld tm pk ts wo io sg sd sl lv mt) sz)) 0 0 (va_A (wMd cI cZ ad th tr ru sh sn se dn kd ld tm pk ts wo io sg sd sl lv mt) sz) := by
  have hiX6 : ∀ w ∈ u_ws RX6 TX6 19, w ∈ wsX6_agrees := by decide +kernel
  generalize hex : sX6_agrees ru sh sn se dn kd ld tm pk ts io sg sd sl lv nu = ex
  unfold sX6_agrees at hex
  refine cd_mMi [.ref (ad 0), .int nu] (by decide) rfl (Nat.le_of_ble_eq_true rfl) ?_
  intro Q A p e s m args below meth c ls hx hb hml hown hts hA hret hK hP hD hS hl
  have hl : lv_has ls 2 [(0, .ref (ad 0)), (1, .int nu)] := hl
  have hdn : dn ≤ 8 := hI.2.2.2.1
  have hsg : sg ≤ 12 := hI.2.2.2.2.1
  refine lv_aload_n hx hb dX6_agrees_0 rfl (lv_at hl 0 rfl) ?_
  refine lv_iconst (v := 0) hx hb dX6_agrees_1 (by decide) ?_
  refine va_put (D := (dC, dI)) (ci := 6) (v := .int 0) (ty := .int) (C := RX6) (T := TX6) (N := 19) hx hb hts hiX6 tyX6 tyX6_ok nmX6 hown hK.1 hP hD hS 0 rfl rfl 0 (by decide) (hts (.fieldLink RX6 57 "CellDaysModel" "thrown" "I") (by decide +kernel)) (fun _ h9 => h9) rfl (by decide +kernel) (rfl) (rfl) (Nat.le_of_ble_eq_true rfl) dX6_agrees_2 (fun H locs hP hD hS => ?_)
  have hP : va_P (dC, dI) vwCl (wMd cI cZ ad 0 tr ru sh sn se dn kd ld tm pk ts wo io sg sd sl lv mt) H := hP
  have hD : va_D A (wMd cI cZ ad 0 tr ru sh sn se dn kd ld tm pk ts wo io sg sd sl lv mt) := hD
  refine lv_iload_n hx hb dX6_agrees_5 rfl (lv_at hl 1 rfl) ?_
  refine cd_rS (As := [.int nu]) (rest := []) ⟨hx, hb, hml, hown, hts⟩ (kX6_isCase l dC dI cI cQ cZ nu) (va_cwS 1 hts gX6_agrees_X6_isCase rfl rfl rfl (by decide +kernel) ⟨by decide, by decide⟩) hK cd_P0 rfl hl.1 rfl (Nat.le_of_ble_eq_true rfl) dX6_agrees_6 ⟨by decide, by decide⟩ ?_
  refine lv_if_ne (tgt := 16) hx hb dX6_agrees_9 (by decide) (fun c_1 => ?_) (fun c_1 => ?_)
  · rw [if_neg c_1] at hex
    refine lv_aload_n hx hb dX6_agrees_16 rfl (lv_at hl 0 rfl) ?_
    refine lv_iload_n hx hb dX6_agrees_17 rfl (lv_at hl 1 rfl) ?_
    have hDc : va_D A (wMd cI cZ ad 0 tr ru sh sn se dn kd ld tm pk ts wo io sg sd sl lv mt) := hD
    have hFc := cd_F hDc hS hA
    refine cd_wV (As := [.int nu]) (b := (ad 0)) (ci := 6) (q := (RX6, TX6, 19)) (rest := []) ⟨hx, hb, hml, hown, hts⟩ (kX6_isAgreeing l dC dI cI cQ cZ ad 0 tr ru sh sn se dn kd ld tm pk ts wo io sg sd sl lv mt nu H.size hI) (cwV 1 hts gX6_agrees_X6_isAgreeing rfl rfl rfl (by decide +kernel) ⟨by decide, by decide⟩) hK hP hDc hFc hS rfl rfl rfl hl.1 rfl (Nat.le_of_ble_eq_true rfl) dX6_agrees_18 ⟨by decide, by decide⟩ (fun H1 locs hP1 hD1 hk1 hS => ?_)
    have hP := hP1
    have hD := cd_DA hD1 hFc
    generalize H1 = H at hP hS ⊢
    have hP : va_P (dC, dI) vwCl (wMd cI cZ ad 0 tr ru sh sn se dn kd ld tm pk ts wo io sg sd sl ((sX6_isAgreeing ru sh sn se dn kd ld tm pk ts io sg sd sl lv nu).2) mt) H := hP
    have hD : va_D A (wMd cI cZ ad 0 tr ru sh sn se dn kd ld tm pk ts wo io sg sd sl ((sX6_isAgreeing ru sh sn se dn kd ld tm pk ts io sg sd sl lv nu).2) mt) := hD
    refine lv_if_eq (tgt := 28) hx hb dX6_agrees_21 (by decide) (fun c_2 => ?_) (fun c_2 => ?_)
    · rw [if_pos c_2] at hex
      refine lv_iconst (v := 0) hx hb dX6_agrees_28 (by decide) ?_
      subst hex
      exact hret _ _ _ _ dX6_agrees_29 hP hD hS
    · rw [if_neg c_2] at hex
      refine lv_iconst (v := 1) hx hb dX6_agrees_24 (by decide) ?_
      refine lv_goto (tgt := 29) hx hb dX6_agrees_25 (by decide) ?_
      subst hex
      exact hret _ _ _ _ dX6_agrees_29 hP hD hS
  · rw [if_pos c_1] at hex
    refine lv_iconst (v := (-1)) hx hb dX6_agrees_12 (by decide) ?_
    refine lv_goto (tgt := 29) hx hb dX6_agrees_13 (by decide) ?_
    subst hex
    exact hret _ _ _ _ dX6_agrees_29 hP hD hS

def rX6_count : Room := { frames := 1, cells := 0, slots := 0, locals := 22 }
def sX6_count_L9 (ru : Nat → Int32) (dn : Nat) (io : Nat → Int32) (sg : Nat) (wh : Int32) : Nat → Int32 → Nat → Int32 × (Int32)
  | 0, cn, k => (0, 0)
  | n + 1, cn, k => (if (nI dn) ≤ (nI k) then (if wh = 0 then (nI dn, 0) else (if wh = 1 then (cn, 0) else (if wh = 2 then (nI sg, 0) else (if (sX6_in wh 3 5) = 0 then ((-1), 0) else (ru ((wh - 3).toNatClampNeg), 0))))) else sX6_count_L9 ru dn io sg wh n (cn + (if (io k) = 0 then (0 : Int32) else (1 : Int32))) (k + 1))
def sX6_count (ru : Nat → Int32) (dn : Nat) (io : Nat → Int32) (sg : Nat) (wh : Int32) : Int32 × (Int32) := sX6_count_L9 ru dn io sg wh 9 0 0
set_option maxHeartbeats 4000000 in
set_option maxRecDepth 100000 in
theorem kX6_count (l : Launch) (dC : Nat → ClassId) (dI : Nat → Nat → Nat) (cI cQ cZ : ClassId) (ad : Nat → Nat) (th : Int32) (tr : Int64) (ru : Nat → Int32) (sh : Nat → Int32) (sn : Int32) (se : Nat → Int32) (dn : Nat) (kd : Nat → Int32) (ld : Nat → Int32) (tm : Nat → Int32) (pk : Nat → Int32) (ts : Nat → Int32) (wo : Nat → Int32) (io : Nat → Int32) (sg : Nat) (sd : Nat → Int32) (sl : Nat → Int32) (lv : Nat → Int32) (mt : Nat → Int32) (wh : Int32) (sz : Nat) (hI : mOk ru sh sn se dn sg sd) : Met l yX6_count wsX6_count rX6_count (va_Pc [.ref (ad 0), .int wh] (cd_pre dC dI cI cQ cZ (wMd cI cZ ad th tr ru sh sn se dn kd ld tm pk ts wo io sg sd sl lv mt) sz)) (va_Qi (fun r _ => r = (sX6_count ru dn io sg wh).1) (cd_post dC dI (wMd cI cZ ad th tr ru sh sn se dn kd ld tm pk ts wo io sg sd sl lv mt) (wMd cI cZ ad ((sX6_count ru dn io sg wh).2) tr ru sh sn se dn kd ld tm pk ts wo io sg sd sl lv mt) sz) (va_A (wMd cI cZ ad th tr ru sh sn se dn kd ld tm pk ts wo io sg sd sl lv mt) sz)) 0 0 (va_A (wMd cI cZ ad th tr ru sh sn se dn kd ld tm pk ts wo io sg sd sl lv mt) sz) := by
  have hiX6 : ∀ w ∈ u_ws RX6 TX6 19, w ∈ wsX6_count := by decide +kernel
  generalize hex : sX6_count ru dn io sg wh = ex
  unfold sX6_count at hex
  refine cd_mMi [.ref (ad 0), .int wh] (by decide) rfl (Nat.le_of_ble_eq_true rfl) ?_
  intro Q A p e s m args below meth c ls hx hb hml hown hts hA hret hK hP hD hS hl
  have hl : lv_has ls 4 [(0, .ref (ad 0)), (1, .int wh)] := hl
  have hdn : dn ≤ 8 := hI.2.2.2.1
  have hsg : sg ≤ 12 := hI.2.2.2.2.1
  refine lv_aload_n hx hb dX6_count_0 rfl (lv_at hl 0 rfl) ?_
  refine lv_iconst (v := 0) hx hb dX6_count_1 (by decide) ?_
  refine va_put (D := (dC, dI)) (ci := 6) (v := .int 0) (ty := .int) (C := RX6) (T := TX6) (N := 19) hx hb hts hiX6 tyX6 tyX6_ok nmX6 hown hK.1 hP hD hS 0 rfl rfl 0 (by decide) (hts (.fieldLink RX6 57 "CellDaysModel" "thrown" "I") (by decide +kernel)) (fun _ h9 => h9) rfl (by decide +kernel) (rfl) (rfl) (Nat.le_of_ble_eq_true rfl) dX6_count_2 (fun H locs hP hD hS => ?_)
  have hP : va_P (dC, dI) vwCl (wMd cI cZ ad 0 tr ru sh sn se dn kd ld tm pk ts wo io sg sd sl lv mt) H := hP
  have hD : va_D A (wMd cI cZ ad 0 tr ru sh sn se dn kd ld tm pk ts wo io sg sd sl lv mt) := hD
  refine lv_iconst (v := 0) hx hb dX6_count_5 (by decide) ?_
  refine lv_istore_n (lv' := [(2, .int 0), (0, .ref (ad 0)), (1, .int wh)]) hx hb dX6_count_6 rfl hl (by decide) rfl (fun ls hl => ?_)
  refine lv_iconst (v := 0) hx hb dX6_count_7 (by decide) ?_
  refine lv_istore_n (lv' := [(3, .int 0), (2, .int 0), (0, .ref (ad 0)), (1, .int wh)]) hx hb dX6_count_8 rfl hl (by decide) rfl (fun ls hl => ?_)
  have L9 : ∀ (n : Nat) (cn : Int32) (k : Nat), (k ≤ 8) → 8 - k < n → sX6_count_L9 ru dn io sg wh n cn k = ex → ∀ (ls : Array Slot), lv_has ls 4 [(3, .int (nI k)), (2, .int cn), (0, .ref (ad 0)), (1, .int wh)] → W p l e rX6_count s m args below meth c H locs 0 0 Q (F0 m 9 ls []) := by
    intro n
    induction n with
    | zero => intro cn k hk hm; exact absurd hm (Nat.not_lt_zero _)
    | succ n ih =>
      intro cn k hk hm hex ls hl
      rw [sX6_count_L9] at hex
      refine lv_iload_n hx hb dX6_count_9 rfl (lv_at hl 0 rfl) ?_
      refine lv_aload_n hx hb dX6_count_10 rfl (lv_at hl 2 rfl) ?_
      refine va_get (D := (dC, dI)) (ci := 6) (v := .int (nI dn)) (C := RX6) (T := TX6) (N := 19) hx hb hts hiX6 hown hK.1 hP 0 rfl rfl 6 (by decide) (hts (.fieldLink RX6 72 "CellDaysModel" "duties" "I") (by decide +kernel)) (fun _ h9 => h9) rfl dX6_count_11 ?_
      refine lv_icmp_ge (tgt := 40) hx hb dX6_count_14 (by decide) (fun c_1 => ?_) (fun c_1 => ?_)
      · rw [if_pos c_1] at hex
        try have n_1 : dn ≤ k := (nI_leI (a := dn) (b := k) (by omega) (by omega)).mp c_1
        refine lv_iload_n hx hb dX6_count_40 rfl (lv_at hl 3 rfl) ?_
        refine lv_if_ne (tgt := 51) hx hb dX6_count_41 (by decide) (fun c_2 => ?_) (fun c_2 => ?_)
        · rw [if_neg c_2] at hex
          refine lv_iload_n hx hb dX6_count_51 rfl (lv_at hl 3 rfl) ?_
          refine lv_iconst (v := 1) hx hb dX6_count_52 (by decide) ?_
          refine lv_icmp_ne (tgt := 60) hx hb dX6_count_53 (by decide) (fun c_3 => ?_) (fun c_3 => ?_)
          · rw [if_neg c_3] at hex
            refine lv_iload_n hx hb dX6_count_60 rfl (lv_at hl 3 rfl) ?_
            refine lv_iconst (v := 2) hx hb dX6_count_61 (by decide) ?_
            refine lv_icmp_ne (tgt := 72) hx hb dX6_count_62 (by decide) (fun c_4 => ?_) (fun c_4 => ?_)
            · rw [if_neg c_4] at hex
              refine lv_iload_n hx hb dX6_count_72 rfl (lv_at hl 3 rfl) ?_
              refine lv_iconst (v := 3) hx hb dX6_count_73 (by decide) ?_
              refine lv_iconst (v := 5) hx hb dX6_count_74 (by decide) ?_
              refine cd_rS (As := [.int wh, .int 3, .int 5]) (rest := []) ⟨hx, hb, hml, hown, hts⟩ (kX6_in l dC dI cI cQ cZ wh 3 5) (va_cwS 3 hts gX6_count_X6_in rfl rfl rfl (by decide +kernel) ⟨by decide, by decide⟩) hK cd_P0 rfl hl.1 rfl (Nat.le_of_ble_eq_true rfl) dX6_count_75 ⟨by decide, by decide⟩ ?_
              refine lv_if_eq (tgt := 92) hx hb dX6_count_78 (by decide) (fun c_5 => ?_) (fun c_5 => ?_)
              · rw [if_pos c_5] at hex
                refine lv_iconst (v := (-1)) hx hb dX6_count_92 (by decide) ?_
                subst hex
                exact hret _ _ _ _ dX6_count_93 hP hD hS
              · rw [if_neg c_5] at hex
                refine lv_aload_n hx hb dX6_count_81 rfl (lv_at hl 2 rfl) ?_
                refine va_get (D := (dC, dI)) (ci := 6) (v := .ref (ad 1)) (C := RX6) (T := TX6) (N := 19) hx hb hts hiX6 hown hK.1 hP 0 rfl rfl 2 (by decide) (hts (.fieldLink RX6 7 "CellDaysModel" "rules" "[I") (by decide +kernel)) (fun _ h9 => h9) rfl dX6_count_82 ?_
                refine lv_iload_n hx hb dX6_count_85 rfl (lv_at hl 3 rfl) ?_
                refine lv_iconst (v := 3) hx hb dX6_count_86 (by decide) ?_
                refine lv_isub hx hb dX6_count_87 ?_
                refine va_iald hx hb hK.1 hP 1 0 rfl rfl ((cnt_in (by assumption))) dX6_count_88 ?_
                refine lv_goto (tgt := 93) hx hb dX6_count_89 (by decide) ?_
                subst hex
                exact hret _ _ _ _ dX6_count_93 hP hD hS
            · rw [if_pos c_4] at hex
              refine lv_aload_n hx hb dX6_count_65 rfl (lv_at hl 2 rfl) ?_
              refine va_get (D := (dC, dI)) (ci := 6) (v := .int (nI sg)) (C := RX6) (T := TX6) (N := 19) hx hb hts hiX6 hown hK.1 hP 0 rfl rfl 14 (by decide) (hts (.fieldLink RX6 114 "CellDaysModel" "signs" "I") (by decide +kernel)) (fun _ h9 => h9) rfl dX6_count_66 ?_
              refine lv_goto (tgt := 93) hx hb dX6_count_69 (by decide) ?_
              subst hex
              exact hret _ _ _ _ dX6_count_93 hP hD hS
          · rw [if_pos c_3] at hex
            refine lv_iload_n hx hb dX6_count_56 rfl (lv_at hl 1 rfl) ?_
            refine lv_goto (tgt := 93) hx hb dX6_count_57 (by decide) ?_
            subst hex
            exact hret _ _ _ _ dX6_count_93 hP hD hS
        · rw [if_pos c_2] at hex
          refine lv_aload_n hx hb dX6_count_44 rfl (lv_at hl 2 rfl) ?_
          refine va_get (D := (dC, dI)) (ci := 6) (v := .int (nI dn)) (C := RX6) (T := TX6) (N := 19) hx hb hts hiX6 hown hK.1 hP 0 rfl rfl 6 (by decide) (hts (.fieldLink RX6 72 "CellDaysModel" "duties" "I") (by decide +kernel)) (fun _ h9 => h9) rfl dX6_count_45 ?_
          refine lv_goto (tgt := 93) hx hb dX6_count_48 (by decide) ?_
          subst hex
          exact hret _ _ _ _ dX6_count_93 hP hD hS
      · rw [if_neg c_1] at hex
        try have n_1 : ¬ dn ≤ k := fun h9 => c_1 ((nI_leI (a := dn) (b := k) (by omega) (by omega)).mpr h9)
        refine lv_iload_n hx hb dX6_count_17 rfl (lv_at hl 1 rfl) ?_
        refine lv_aload_n hx hb dX6_count_18 rfl (lv_at hl 2 rfl) ?_
        refine va_get (D := (dC, dI)) (ci := 6) (v := .ref (ad 10)) (C := RX6) (T := TX6) (N := 19) hx hb hts hiX6 hown hK.1 hP 0 rfl rfl 13 (by decide) (hts (.fieldLink RX6 41 "CellDaysModel" "isOn" "[Z") (by decide +kernel)) (fun _ h9 => h9) rfl dX6_count_19 ?_
        refine lv_iload_n hx hb dX6_count_22 rfl (lv_at hl 0 rfl) ?_
        refine va_zald hx hb hK.1 hP 10 2 rfl rfl (vp_in_nI (n := k) (N := 8) (by omega) (by omega)) dX6_count_23 ?_
        refine W.eq (g2 := F0 m 24 ls [.int (io k), .int cn]) (by rw [nI_clamp (show k < 2 ^ 31 by omega)]) ?_
        have J_6 : W p l e rX6_count s m args below meth c H locs 0 0 Q (F0 m 32 ls [.int (if (io k) = 0 then (0 : Int32) else (1 : Int32)), .int cn]) := by
          refine lv_iadd hx hb dX6_count_32 ?_
          refine lv_istore_n (lv' := [(2, .int (cn + (if (io k) = 0 then (0 : Int32) else (1 : Int32)))), (3, .int (nI k)), (0, .ref (ad 0)), (1, .int wh)]) hx hb dX6_count_33 rfl hl (by decide) rfl (fun ls hl => ?_)
          refine lv_iinc (v := nI (k + 1)) (lv' := [(3, .int (nI (k + 1))), (2, .int (cn + (if (io k) = 0 then (0 : Int32) else (1 : Int32)))), (0, .ref (ad 0)), (1, .int wh)]) hx hb dX6_count_34 hl (k := 1) rfl (nI_1 k) (by decide) rfl (fun ls hl => ?_)
          refine lv_goto (tgt := 9) hx hb dX6_count_37 (by decide) ?_
          exact ih (cn + (if (io k) = 0 then (0 : Int32) else (1 : Int32))) (k + 1) (by omega) (by omega) hex _ (lv_sub hl [0, 1, 2, 3] rfl)
        refine lv_if_eq (tgt := 31) hx hb dX6_count_24 (by decide) (fun c_7 => ?_) (fun c_7 => ?_)
        · skip
          refine lv_iconst (v := 0) hx hb dX6_count_31 (by decide) ?_
          rw [if_pos c_7] at J_6
          exact J_6
        · skip
          refine lv_iconst (v := 1) hx hb dX6_count_27 (by decide) ?_
          refine lv_goto (tgt := 32) hx hb dX6_count_28 (by decide) ?_
          rw [if_neg c_7] at J_6
          exact J_6
  exact L9 9 0 0 (by decide) (by decide) hex _ (lv_sub hl [0, 1, 2, 3] rfl)

def rX6_trace : Room := { frames := 0, cells := 0, slots := 0, locals := 0 }
def sX6_trace (tr : Int64) : Int64 × (Int32) := (tr, 0)
set_option maxHeartbeats 4000000 in
set_option maxRecDepth 100000 in
theorem kX6_trace (l : Launch) (dC : Nat → ClassId) (dI : Nat → Nat → Nat) (cI cQ cZ : ClassId) (ad : Nat → Nat) (th : Int32) (tr : Int64) (ru : Nat → Int32) (sh : Nat → Int32) (sn : Int32) (se : Nat → Int32) (dn : Nat) (kd : Nat → Int32) (ld : Nat → Int32) (tm : Nat → Int32) (pk : Nat → Int32) (ts : Nat → Int32) (wo : Nat → Int32) (io : Nat → Int32) (sg : Nat) (sd : Nat → Int32) (sl : Nat → Int32) (lv : Nat → Int32) (mt : Nat → Int32) (sz : Nat) : Met l yX6_trace wsX6_trace rX6_trace (va_Pc [.ref (ad 0)] (cd_pre dC dI cI cQ cZ (wMd cI cZ ad th tr ru sh sn se dn kd ld tm pk ts wo io sg sd sl lv mt) sz)) (va_Ql (fun r _ => r = (sX6_trace tr).1) (cd_post dC dI (wMd cI cZ ad th tr ru sh sn se dn kd ld tm pk ts wo io sg sd sl lv mt) (wMd cI cZ ad ((sX6_trace tr).2) tr ru sh sn se dn kd ld tm pk ts wo io sg sd sl lv mt) sz) (va_A (wMd cI cZ ad th tr ru sh sn se dn kd ld tm pk ts wo io sg sd sl lv mt) sz)) 0 0 (va_A (wMd cI cZ ad th tr ru sh sn se dn kd ld tm pk ts wo io sg sd sl lv mt) sz) := by
  have hiX6 : ∀ w ∈ u_ws RX6 TX6 19, w ∈ wsX6_trace := by decide +kernel
  generalize hex : sX6_trace tr = ex
  unfold sX6_trace at hex
  refine cd_mMl [.ref (ad 0)] (by decide) rfl (Nat.le_of_ble_eq_true rfl) ?_
  intro Q A p e s m args below meth c ls hx hb hml hown hts hA hret hK hP hD hS hl
  have hl : lv_has ls 1 [(0, .ref (ad 0))] := hl
  refine lv_aload_n hx hb dX6_trace_0 rfl (lv_at hl 0 rfl) ?_
  refine lv_iconst (v := 0) hx hb dX6_trace_1 (by decide) ?_
  refine va_put (D := (dC, dI)) (ci := 6) (v := .int 0) (ty := .int) (C := RX6) (T := TX6) (N := 19) hx hb hts hiX6 tyX6 tyX6_ok nmX6 hown hK.1 hP hD hS 0 rfl rfl 0 (by decide) (hts (.fieldLink RX6 57 "CellDaysModel" "thrown" "I") (by decide +kernel)) (fun _ h9 => h9) rfl (by decide +kernel) (rfl) (rfl) (Nat.le_of_ble_eq_true rfl) dX6_trace_2 (fun H locs hP hD hS => ?_)
  have hP : va_P (dC, dI) vwCl (wMd cI cZ ad 0 tr ru sh sn se dn kd ld tm pk ts wo io sg sd sl lv mt) H := hP
  have hD : va_D A (wMd cI cZ ad 0 tr ru sh sn se dn kd ld tm pk ts wo io sg sd sl lv mt) := hD
  refine lv_aload_n hx hb dX6_trace_5 rfl (lv_at hl 0 rfl) ?_
  refine va_get (D := (dC, dI)) (ci := 6) (v := .long tr) (C := RX6) (T := TX6) (N := 19) hx hb hts hiX6 hown hK.1 hP 0 rfl rfl 1 (by decide) (hts (.fieldLink RX6 78 "CellDaysModel" "trace" "J") (by decide +kernel)) (fun _ h9 => h9) rfl dX6_trace_6 ?_
  subst hex
  exact hret _ _ _ _ dX6_trace_9 hP hD hS
