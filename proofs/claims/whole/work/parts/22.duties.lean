def rX3_drainBy : Room := { frames := 1, cells := 0, slots := 0, locals := 21 }
def sX3_drainBy (d : DT) (t : Int32) (br : Int32) : Int32 := (if d.1 = 0 then (if d.1 = 2 then ((d.2.1 * d.2.2.1) * (if d.2.2.2.2.1 < t then d.2.2.2.2.1 else t)) else (d.2.1 * d.2.2.1)) else (if d.1 = 2 then (((d.2.1 * d.2.2.1) + (d.2.2.2.1 + (if 0 < (d.2.2.2.1 - br) then (d.2.2.2.1 - br) else 0))) * (if d.2.2.2.2.1 < t then d.2.2.2.2.1 else t)) else ((d.2.1 * d.2.2.1) + (d.2.2.2.1 + (if 0 < (d.2.2.2.1 - br) then (d.2.2.2.1 - br) else 0)))))
set_option maxHeartbeats 4000000 in
set_option maxRecDepth 100000 in
theorem kX3_drainBy (l : Launch) (dC : Nat → ClassId) (dI : Nat → Nat → Nat) (cI cQ cZ : ClassId) (a : Nat) (d : DT) (t : Int32) (br : Int32) : Met l yX3_drainBy wsX3_drainBy rX3_drainBy (va_Pc [.ref a, .int t, .int br] (cd_rp dC dI cI cQ cZ (wDu a d))) (vp_Si (fun r => r = sX3_drainBy d t br)) 0 0 (fun _ => False) := by
  have hiX3 : ∀ w ∈ u_ws RX3 TX3 7, w ∈ wsX3_drainBy := by decide +kernel
  generalize hex : sX3_drainBy d t br = ex
  unfold sX3_drainBy at hex
  refine cd_mRi [.ref a, .int t, .int br] (by decide) rfl (Nat.le_of_ble_eq_true rfl) ?_
  intro Q p e s m args below meth c ls hx hb hml hown hts hret ⟨hK, hP⟩ hl
  have hl : lv_has ls 4 [(0, .ref a), (1, .int t), (2, .int br)] := hl
  refine lv_aload_n hx hb dX3_drainBy_0 rfl (lv_at hl 0 rfl) ?_
  refine va_get (D := (dC, dI)) (ci := 3) (v := .int d.2.1) (C := RX3) (T := TX3) (N := 7) hx hb hts hiX3 hown hK.1 hP 0 rfl rfl 1 (by decide) (hts (.fieldLink RX3 15 "CellDays$Duty" "load" "I") (by decide +kernel)) (fun _ h9 => h9) rfl dX3_drainBy_1 ?_
  refine lv_aload_n hx hb dX3_drainBy_4 rfl (lv_at hl 0 rfl) ?_
  refine va_get (D := (dC, dI)) (ci := 3) (v := .int d.2.2.1) (C := RX3) (T := TX3) (N := 7) hx hb hts hiX3 hown hK.1 hP 0 rfl rfl 2 (by decide) (hts (.fieldLink RX3 18 "CellDays$Duty" "times" "I") (by decide +kernel)) (fun _ h9 => h9) rfl dX3_drainBy_5 ?_
  refine lv_imul hx hb dX3_drainBy_8 ?_
  refine lv_istore_n (lv' := [(3, .int (d.2.1 * d.2.2.1)), (0, .ref a), (1, .int t), (2, .int br)]) hx hb dX3_drainBy_9 rfl hl (by decide) rfl (fun ls hl => ?_)
  refine lv_aload_n hx hb dX3_drainBy_10 rfl (lv_at hl 1 rfl) ?_
  refine va_get (D := (dC, dI)) (ci := 3) (v := .int d.1) (C := RX3) (T := TX3) (N := 7) hx hb hts hiX3 hown hK.1 hP 0 rfl rfl 0 (by decide) (hts (.fieldLink RX3 9 "CellDays$Duty" "kind" "I") (by decide +kernel)) (fun _ h9 => h9) rfl dX3_drainBy_11 ?_
  refine lv_if_eq (tgt := 35) hx hb dX3_drainBy_14 (by decide) (fun c_1 => ?_) (fun c_1 => ?_)
  · rw [if_pos c_1] at hex
    refine lv_aload_n hx hb dX3_drainBy_35 rfl (lv_at hl 1 rfl) ?_
    refine va_get (D := (dC, dI)) (ci := 3) (v := .int d.1) (C := RX3) (T := TX3) (N := 7) hx hb hts hiX3 hown hK.1 hP 0 rfl rfl 0 (by decide) (hts (.fieldLink RX3 9 "CellDays$Duty" "kind" "I") (by decide +kernel)) (fun _ h9 => h9) rfl dX3_drainBy_36 ?_
    refine lv_iconst (v := 2) hx hb dX3_drainBy_39 (by decide) ?_
    refine lv_icmp_ne (tgt := 56) hx hb dX3_drainBy_40 (by decide) (fun c_2 => ?_) (fun c_2 => ?_)
    · rw [if_neg c_2] at hex
      refine lv_iload_n hx hb dX3_drainBy_56 rfl (lv_at hl 0 rfl) ?_
      subst hex
      exact hret _ _ dX3_drainBy_57
    · rw [if_pos c_2] at hex
      refine lv_iload_n hx hb dX3_drainBy_43 rfl (lv_at hl 0 rfl) ?_
      refine lv_iload_n hx hb dX3_drainBy_44 rfl (lv_at hl 2 rfl) ?_
      refine lv_aload_n hx hb dX3_drainBy_45 rfl (lv_at hl 1 rfl) ?_
      refine va_get (D := (dC, dI)) (ci := 3) (v := .int d.2.2.2.2.1) (C := RX3) (T := TX3) (N := 7) hx hb hts hiX3 hown hK.1 hP 0 rfl rfl 4 (by decide) (hts (.fieldLink RX3 24 "CellDays$Duty" "tries" "I") (by decide +kernel)) (fun _ h9 => h9) rfl dX3_drainBy_46 ?_
      refine va_mmin hx hb (by rw [hml]; exact hl.1.symm) hown (hts (.methodLink RX3 40 Lib.Math.min.name) (by decide +kernel)) (hts (.static Lib.Math.min.name) (by decide +kernel)) (hts (.initialized "java/lang/Math") (by decide +kernel)) (hts (.code Lib.Math.min.name Lib.Math.min.code 2 (some .int)) (by decide +kernel)) (by decide) (Nat.le_of_ble_eq_true rfl) (by decide) (by decide) dX3_drainBy_49 ?_
      refine lv_imul hx hb dX3_drainBy_52 ?_
      refine lv_goto (tgt := 57) hx hb dX3_drainBy_53 (by decide) ?_
      subst hex
      exact hret _ _ dX3_drainBy_57
  · rw [if_neg c_1] at hex
    refine lv_iload_n hx hb dX3_drainBy_17 rfl (lv_at hl 0 rfl) ?_
    refine lv_aload_n hx hb dX3_drainBy_18 rfl (lv_at hl 1 rfl) ?_
    refine va_get (D := (dC, dI)) (ci := 3) (v := .int d.2.2.2.1) (C := RX3) (T := TX3) (N := 7) hx hb hts hiX3 hown hK.1 hP 0 rfl rfl 3 (by decide) (hts (.fieldLink RX3 21 "CellDays$Duty" "peak" "I") (by decide +kernel)) (fun _ h9 => h9) rfl dX3_drainBy_19 ?_
    refine lv_iconst (v := 0) hx hb dX3_drainBy_22 (by decide) ?_
    refine lv_aload_n hx hb dX3_drainBy_23 rfl (lv_at hl 1 rfl) ?_
    refine va_get (D := (dC, dI)) (ci := 3) (v := .int d.2.2.2.1) (C := RX3) (T := TX3) (N := 7) hx hb hts hiX3 hown hK.1 hP 0 rfl rfl 3 (by decide) (hts (.fieldLink RX3 21 "CellDays$Duty" "peak" "I") (by decide +kernel)) (fun _ h9 => h9) rfl dX3_drainBy_24 ?_
    refine lv_iload_n hx hb dX3_drainBy_27 rfl (lv_at hl 3 rfl) ?_
    refine lv_isub hx hb dX3_drainBy_28 ?_
    refine va_mmax hx hb (by rw [hml]; exact hl.1.symm) hown (hts (.methodLink RX3 34 Lib.Math.max.name) (by decide +kernel)) (hts (.static Lib.Math.max.name) (by decide +kernel)) (hts (.initialized "java/lang/Math") (by decide +kernel)) (hts (.code Lib.Math.max.name Lib.Math.max.code 2 (some .int)) (by decide +kernel)) (by decide) (Nat.le_of_ble_eq_true rfl) (by decide) (by decide) dX3_drainBy_29 ?_
    refine lv_iadd hx hb dX3_drainBy_32 ?_
    refine lv_iadd hx hb dX3_drainBy_33 ?_
    refine lv_istore_n (lv' := [(3, .int ((d.2.1 * d.2.2.1) + (d.2.2.2.1 + (if 0 < (d.2.2.2.1 - br) then (d.2.2.2.1 - br) else 0)))), (0, .ref a), (1, .int t), (2, .int br)]) hx hb dX3_drainBy_34 rfl hl (by decide) rfl (fun ls hl => ?_)
    refine lv_aload_n hx hb dX3_drainBy_35 rfl (lv_at hl 1 rfl) ?_
    refine va_get (D := (dC, dI)) (ci := 3) (v := .int d.1) (C := RX3) (T := TX3) (N := 7) hx hb hts hiX3 hown hK.1 hP 0 rfl rfl 0 (by decide) (hts (.fieldLink RX3 9 "CellDays$Duty" "kind" "I") (by decide +kernel)) (fun _ h9 => h9) rfl dX3_drainBy_36 ?_
    refine lv_iconst (v := 2) hx hb dX3_drainBy_39 (by decide) ?_
    refine lv_icmp_ne (tgt := 56) hx hb dX3_drainBy_40 (by decide) (fun c_3 => ?_) (fun c_3 => ?_)
    · rw [if_neg c_3] at hex
      refine lv_iload_n hx hb dX3_drainBy_56 rfl (lv_at hl 0 rfl) ?_
      subst hex
      exact hret _ _ dX3_drainBy_57
    · rw [if_pos c_3] at hex
      refine lv_iload_n hx hb dX3_drainBy_43 rfl (lv_at hl 0 rfl) ?_
      refine lv_iload_n hx hb dX3_drainBy_44 rfl (lv_at hl 2 rfl) ?_
      refine lv_aload_n hx hb dX3_drainBy_45 rfl (lv_at hl 1 rfl) ?_
      refine va_get (D := (dC, dI)) (ci := 3) (v := .int d.2.2.2.2.1) (C := RX3) (T := TX3) (N := 7) hx hb hts hiX3 hown hK.1 hP 0 rfl rfl 4 (by decide) (hts (.fieldLink RX3 24 "CellDays$Duty" "tries" "I") (by decide +kernel)) (fun _ h9 => h9) rfl dX3_drainBy_46 ?_
      refine va_mmin hx hb (by rw [hml]; exact hl.1.symm) hown (hts (.methodLink RX3 40 Lib.Math.min.name) (by decide +kernel)) (hts (.static Lib.Math.min.name) (by decide +kernel)) (hts (.initialized "java/lang/Math") (by decide +kernel)) (hts (.code Lib.Math.min.name Lib.Math.min.code 2 (some .int)) (by decide +kernel)) (by decide) (Nat.le_of_ble_eq_true rfl) (by decide) (by decide) dX3_drainBy_49 ?_
      refine lv_imul hx hb dX3_drainBy_52 ?_
      refine lv_goto (tgt := 57) hx hb dX3_drainBy_53 (by decide) ?_
      subst hex
      exact hret _ _ dX3_drainBy_57

def rX3_traceOfOneAsk : Room := { frames := 0, cells := 0, slots := 0, locals := 0 }
def sX3_traceOfOneAsk (d : DT) : Int32 := (if d.1 = 0 then 1 else (if d.1 = 1 then 11 else 111))
set_option maxHeartbeats 4000000 in
set_option maxRecDepth 100000 in
theorem kX3_traceOfOneAsk (l : Launch) (dC : Nat → ClassId) (dI : Nat → Nat → Nat) (cI cQ cZ : ClassId) (a : Nat) (d : DT) : Met l yX3_traceOfOneAsk wsX3_traceOfOneAsk rX3_traceOfOneAsk (va_Pc [.ref a] (cd_rp dC dI cI cQ cZ (wDu a d))) (vp_Si (fun r => r = sX3_traceOfOneAsk d)) 0 0 (fun _ => False) := by
  have hiX3 : ∀ w ∈ u_ws RX3 TX3 7, w ∈ wsX3_traceOfOneAsk := by decide +kernel
  generalize hex : sX3_traceOfOneAsk d = ex
  unfold sX3_traceOfOneAsk at hex
  refine cd_mRi [.ref a] (by decide) rfl (Nat.le_of_ble_eq_true rfl) ?_
  intro Q p e s m args below meth c ls hx hb hml hown hts hret ⟨hK, hP⟩ hl
  have hl : lv_has ls 1 [(0, .ref a)] := hl
  refine lv_aload_n hx hb dX3_traceOfOneAsk_0 rfl (lv_at hl 0 rfl) ?_
  refine va_get (D := (dC, dI)) (ci := 3) (v := .int d.1) (C := RX3) (T := TX3) (N := 7) hx hb hts hiX3 hown hK.1 hP 0 rfl rfl 0 (by decide) (hts (.fieldLink RX3 9 "CellDays$Duty" "kind" "I") (by decide +kernel)) (fun _ h9 => h9) rfl dX3_traceOfOneAsk_1 ?_
  by_cases c_1 : d.1 = 0
  · rw [if_pos c_1] at hex
    refine lv_lookup (tgt := 32) hx hb dX3_traceOfOneAsk_4 (by decide) (off := 28) (by rw [c_1] <;> decide +kernel) (by decide) ?_
    refine lv_iconst (v := 1) hx hb dX3_traceOfOneAsk_32 (by decide) ?_
    subst hex
    exact hret _ _ dX3_traceOfOneAsk_33
  · rw [if_neg c_1] at hex
    by_cases c_2 : d.1 = 1
    · rw [if_pos c_2] at hex
      refine lv_lookup (tgt := 34) hx hb dX3_traceOfOneAsk_4 (by decide) (off := 30) (by rw [c_2] <;> decide +kernel) (by decide) ?_
      refine lv_bipush (v := 11) hx hb dX3_traceOfOneAsk_34 (by decide) ?_
      subst hex
      exact hret _ _ dX3_traceOfOneAsk_36
    · rw [if_neg c_2] at hex
      refine lv_lookup (tgt := 37) hx hb dX3_traceOfOneAsk_4 (by decide) (off := 33) (by rw [lv_osw c_1 (a := 0) (by decide)]; rw [lv_osw c_2 (a := 1) (by decide)]; rfl) (by decide) ?_
      refine lv_bipush (v := 111) hx hb dX3_traceOfOneAsk_37 (by decide) ?_
      subst hex
      exact hret _ _ dX3_traceOfOneAsk_39

def rX2_isFull : Room := { frames := 0, cells := 0, slots := 0, locals := 0 }
def sX2_isFull (dn : Nat) : Int32 := (if (nI dn) < 8 then 0 else 1)
set_option maxHeartbeats 4000000 in
set_option maxRecDepth 100000 in
theorem kX2_isFull (l : Launch) (dC : Nat → ClassId) (dI : Nat → Nat → Nat) (cI cQ cZ : ClassId) (b0 : Nat) (b1 : Nat) (row : Nat → Option Nat) (dn : Nat) : Met l yX2_isFull wsX2_isFull rX2_isFull (va_Pc [.ref b0] (cd_rp dC dI cI cQ cZ (wDs cQ b0 b1 row dn))) (vp_Si (fun r => r = sX2_isFull dn)) 0 0 (fun _ => False) := by
  have hiX2 : ∀ w ∈ u_ws RX2 TX2 2, w ∈ wsX2_isFull := by decide +kernel
  generalize hex : sX2_isFull dn = ex
  unfold sX2_isFull at hex
  refine cd_mRz [.ref b0] (by decide) rfl (Nat.le_of_ble_eq_true rfl) ?_
  intro Q p e s m args below meth c ls hx hb hml hown hts hret ⟨hK, hP⟩ hl
  have hl : lv_has ls 1 [(0, .ref b0)] := hl
  refine lv_aload_n hx hb dX2_isFull_0 rfl (lv_at hl 0 rfl) ?_
  refine va_get (D := (dC, dI)) (ci := 2) (v := .int (nI dn)) (C := RX2) (T := TX2) (N := 2) hx hb hts hiX2 hown hK.1 hP 0 rfl rfl 1 (by decide) (hts (.fieldLink RX2 15 "CellDays$Duties" "size" "I") (by decide +kernel)) (fun _ h9 => h9) rfl dX2_isFull_1 ?_
  refine lv_aload_n hx hb dX2_isFull_4 rfl (lv_at hl 0 rfl) ?_
  refine va_get (D := (dC, dI)) (ci := 2) (v := .ref b1) (C := RX2) (T := TX2) (N := 2) hx hb hts hiX2 hown hK.1 hP 0 rfl rfl 0 (by decide) (hts (.fieldLink RX2 9 "CellDays$Duties" "row" "[LCellDays$Duty;") (by decide +kernel)) (fun _ h9 => h9) rfl dX2_isFull_5 ?_
  refine va_alen (v := 8) hx hb hK.1 hP 1 1 rfl rfl rfl dX2_isFull_8 ?_
  refine lv_icmp_lt (tgt := 16) hx hb dX2_isFull_9 (by decide) (fun c_1 => ?_) (fun c_1 => ?_)
  · rw [if_pos c_1] at hex
    try have n_1 : dn < 8 := (nI_ltI (a := dn) (b := 8) (by omega) (by omega)).mp c_1
    refine lv_iconst (v := 0) hx hb dX2_isFull_16 (by decide) ?_
    subst hex
    exact hret _ _ rfl dX2_isFull_17
  · rw [if_neg c_1] at hex
    try have n_1 : ¬ dn < 8 := fun h9 => c_1 ((nI_ltI (a := dn) (b := 8) (by omega) (by omega)).mpr h9)
    refine lv_iconst (v := 1) hx hb dX2_isFull_12 (by decide) ?_
    refine lv_goto (tgt := 17) hx hb dX2_isFull_13 (by decide) ?_
    subst hex
    exact hret _ _ rfl dX2_isFull_17

def rX2_numbered : Room := { frames := 0, cells := 0, slots := 0, locals := 0 }
def sX2_numbered (row : Nat → Option Nat) (dn : Nat) (i : Int32) : Option Nat := (if i < 0 then none else (if (nI dn) ≤ i then none else (if 8 ≤ i then none else (row i.toNatClampNeg))))
set_option maxHeartbeats 4000000 in
set_option maxRecDepth 100000 in
theorem kX2_numbered (l : Launch) (dC : Nat → ClassId) (dI : Nat → Nat → Nat) (cI cQ cZ : ClassId) (b0 : Nat) (b1 : Nat) (row : Nat → Option Nat) (dn : Nat) (i : Int32) : Met l yX2_numbered wsX2_numbered rX2_numbered (va_Pc [.ref b0, .int i] (cd_rp dC dI cI cQ cZ (wDs cQ b0 b1 row dn))) (va_Sq (fun r => r = sX2_numbered row dn i)) 0 0 (fun _ => False) := by
  have hiX2 : ∀ w ∈ u_ws RX2 TX2 2, w ∈ wsX2_numbered := by decide +kernel
  generalize hex : sX2_numbered row dn i = ex
  unfold sX2_numbered at hex
  refine cd_mRq [.ref b0, .int i] (by decide) rfl (Nat.le_of_ble_eq_true rfl) ?_
  intro Q p e s m args below meth c ls hx hb hml hown hts hret ⟨hK, hP⟩ hl
  have hl : lv_has ls 2 [(0, .ref b0), (1, .int i)] := hl
  refine lv_iload_n hx hb dX2_numbered_0 rfl (lv_at hl 1 rfl) ?_
  refine lv_if_lt (tgt := 30) hx hb dX2_numbered_1 (by decide) (fun c_1 => ?_) (fun c_1 => ?_)
  · rw [if_pos c_1] at hex
    refine lv_null hx hb dX2_numbered_30 ?_
    subst hex
    exact hret _ _ dX2_numbered_31
  · rw [if_neg c_1] at hex
    refine lv_iload_n hx hb dX2_numbered_4 rfl (lv_at hl 1 rfl) ?_
    refine lv_aload_n hx hb dX2_numbered_5 rfl (lv_at hl 0 rfl) ?_
    refine va_get (D := (dC, dI)) (ci := 2) (v := .int (nI dn)) (C := RX2) (T := TX2) (N := 2) hx hb hts hiX2 hown hK.1 hP 0 rfl rfl 1 (by decide) (hts (.fieldLink RX2 15 "CellDays$Duties" "size" "I") (by decide +kernel)) (fun _ h9 => h9) rfl dX2_numbered_6 ?_
    refine lv_icmp_ge (tgt := 30) hx hb dX2_numbered_9 (by decide) (fun c_2 => ?_) (fun c_2 => ?_)
    · rw [if_pos c_2] at hex
      refine lv_null hx hb dX2_numbered_30 ?_
      subst hex
      exact hret _ _ dX2_numbered_31
    · rw [if_neg c_2] at hex
      refine lv_iload_n hx hb dX2_numbered_12 rfl (lv_at hl 1 rfl) ?_
      refine lv_aload_n hx hb dX2_numbered_13 rfl (lv_at hl 0 rfl) ?_
      refine va_get (D := (dC, dI)) (ci := 2) (v := .ref b1) (C := RX2) (T := TX2) (N := 2) hx hb hts hiX2 hown hK.1 hP 0 rfl rfl 0 (by decide) (hts (.fieldLink RX2 9 "CellDays$Duties" "row" "[LCellDays$Duty;") (by decide +kernel)) (fun _ h9 => h9) rfl dX2_numbered_14 ?_
      refine va_alen (v := 8) hx hb hK.1 hP 1 1 rfl rfl rfl dX2_numbered_17 ?_
      refine lv_icmp_ge (tgt := 30) hx hb dX2_numbered_18 (by decide) (fun c_3 => ?_) (fun c_3 => ?_)
      · rw [if_pos c_3] at hex
        refine lv_null hx hb dX2_numbered_30 ?_
        subst hex
        exact hret _ _ dX2_numbered_31
      · rw [if_neg c_3] at hex
        refine lv_aload_n hx hb dX2_numbered_21 rfl (lv_at hl 0 rfl) ?_
        refine va_get (D := (dC, dI)) (ci := 2) (v := .ref b1) (C := RX2) (T := TX2) (N := 2) hx hb hts hiX2 hown hK.1 hP 0 rfl rfl 0 (by decide) (hts (.fieldLink RX2 9 "CellDays$Duties" "row" "[LCellDays$Duty;") (by decide +kernel)) (fun _ h9 => h9) rfl dX2_numbered_22 ?_
        refine lv_iload_n hx hb dX2_numbered_25 rfl (lv_at hl 1 rfl) ?_
        refine va_aldq hx hb hK.1 hP 1 1 rfl rfl ((cd_in (n := 8) (by decide) c_1 c_3)) dX2_numbered_26 ?_
        refine lv_goto (tgt := 31) hx hb dX2_numbered_27 (by decide) ?_
        subst hex
        exact hret _ _ dX2_numbered_31

def rX2_numberedIn : Room := { frames := 1, cells := 0, slots := 0, locals := 21 }
def sX2_numberedIn (row : Nat → Option Nat) (dn : Nat) (st : Int32) (i : Int32) : Option Nat := (if ((st >>> (i &&& 31)) &&& 1) = 1 then (sX2_numbered row dn i) else none)
set_option maxHeartbeats 4000000 in
set_option maxRecDepth 100000 in
theorem kX2_numberedIn (l : Launch) (dC : Nat → ClassId) (dI : Nat → Nat → Nat) (cI cQ cZ : ClassId) (b0 : Nat) (b1 : Nat) (row : Nat → Option Nat) (dn : Nat) (st : Int32) (i : Int32) : Met l yX2_numberedIn wsX2_numberedIn rX2_numberedIn (va_Pc [.ref b0, .int st, .int i] (cd_rp dC dI cI cQ cZ (wDs cQ b0 b1 row dn))) (va_Sq (fun r => r = sX2_numberedIn row dn st i)) 0 0 (fun _ => False) := by
  generalize hex : sX2_numberedIn row dn st i = ex
  unfold sX2_numberedIn at hex
  refine cd_mRq [.ref b0, .int st, .int i] (by decide) rfl (Nat.le_of_ble_eq_true rfl) ?_
  intro Q p e s m args below meth c ls hx hb hml hown hts hret ⟨hK, hP⟩ hl
  have hl : lv_has ls 3 [(0, .ref b0), (1, .int st), (2, .int i)] := hl
  refine lv_iload_n hx hb dX2_numberedIn_0 rfl (lv_at hl 1 rfl) ?_
  refine lv_iload_n hx hb dX2_numberedIn_1 rfl (lv_at hl 2 rfl) ?_
  refine lv_ishr hx hb dX2_numberedIn_2 ?_
  refine lv_iconst (v := 1) hx hb dX2_numberedIn_3 (by decide) ?_
  refine lv_iand hx hb dX2_numberedIn_4 ?_
  refine lv_iconst (v := 1) hx hb dX2_numberedIn_5 (by decide) ?_
  refine lv_icmp_ne (tgt := 17) hx hb dX2_numberedIn_6 (by decide) (fun c_1 => ?_) (fun c_1 => ?_)
  · rw [if_neg c_1] at hex
    refine lv_null hx hb dX2_numberedIn_17 ?_
    subst hex
    exact hret _ _ dX2_numberedIn_18
  · rw [if_pos c_1] at hex
    refine lv_aload_n hx hb dX2_numberedIn_9 rfl (lv_at hl 0 rfl) ?_
    refine lv_iload_n hx hb dX2_numberedIn_10 rfl (lv_at hl 2 rfl) ?_
    refine cd_rVq (As := [.int i]) (b := b0) (ci := 2) (q := (RX2, TX2, 2)) (rest := []) ⟨hx, hb, hml, hown, hts⟩ (kX2_numbered l dC dI cI cQ cZ b0 b1 row dn i) (cwV 1 hts gX2_numberedIn_X2_numbered rfl rfl rfl (by decide +kernel) ⟨by decide, by decide⟩) hK hP rfl rfl rfl hl.1 rfl (Nat.le_of_ble_eq_true rfl) dX2_numberedIn_11 ⟨by decide, by decide⟩ ?_
    refine lv_goto (tgt := 18) hx hb dX2_numberedIn_14 (by decide) ?_
    subst hex
    exact hret _ _ dX2_numberedIn_18

theorem mem_numbered {row : Nat → Option Nat} {dn : Nat} {i : Int32} {y : Nat} {L : List Nat} (h : ∀ j y, row j = some y → y ∈ L) (hq : sX2_numbered row dn i = some y) : y ∈ L := by
  unfold sX2_numbered at hq
  split at hq
  · cases hq
  · split at hq
    · cases hq
    · split at hq
      · cases hq
      · exact h _ _ hq
theorem mem_numberedIn {row : Nat → Option Nat} {dn : Nat} {st i : Int32} {y : Nat} {L : List Nat} (h : ∀ j y, row j = some y → y ∈ L) (hq : sX2_numberedIn row dn st i = some y) : y ∈ L := by
  unfold sX2_numberedIn at hq
  split at hq
  · exact mem_numbered h hq
  · cases hq

def rX2_add : Room := { frames := 0, cells := 0, slots := 0, locals := 0 }
def sX2_add (row : Nat → Option Nat) (dn : Nat) (x : Nat) : Int32 × (Nat → Option Nat) × (Nat) := (if (nI dn) < 0 then (nI dn, row, dn) else (if 8 ≤ (nI dn) then (nI dn, row, dn) else (nI dn, va_up row dn (some x), dn + 1)))
set_option maxHeartbeats 4000000 in
set_option maxRecDepth 100000 in
theorem kX2_add (l : Launch) (dC : Nat → ClassId) (dI : Nat → Nat → Nat) (cI cQ cZ : ClassId) (b0 : Nat) (b1 : Nat) (row : Nat → Option Nat) (dn : Nat) (L : List Nat) (pd : Nat → DT) (x : Nat) (sz : Nat) (hdn : dn ≤ 8) (hxm : x ∈ L) : Met l yX2_add wsX2_add rX2_add (va_Pc [.ref b0, .ref x] (cd_pre dC dI cI cQ cZ (wDs cQ b0 b1 row dn ++ dpl L pd) sz)) (va_Qi (fun r _ => r = (sX2_add row dn x).1) (cd_post dC dI (wDs cQ b0 b1 row dn ++ dpl L pd) (wDs cQ b0 b1 ((sX2_add row dn x).2.1) ((sX2_add row dn x).2.2) ++ dpl L pd) sz) (va_A (wDs cQ b0 b1 row dn ++ dpl L pd) sz)) 0 0 (va_A (wDs cQ b0 b1 row dn ++ dpl L pd) sz) := by
  have hiX2 : ∀ w ∈ u_ws RX2 TX2 2, w ∈ wsX2_add := by decide +kernel
  generalize hex : sX2_add row dn x = ex
  unfold sX2_add at hex
  refine cd_mMi [.ref b0, .ref x] (by decide) rfl (Nat.le_of_ble_eq_true rfl) ?_
  intro Q A p e s m args below meth c ls hx hb hml hown hts hA hret hK hP hD hS hl
  have hl : lv_has ls 3 [(0, .ref b0), (1, .ref x)] := hl
  refine lv_aload_n hx hb dX2_add_0 rfl (lv_at hl 0 rfl) ?_
  refine va_get (D := (dC, dI)) (ci := 2) (v := .int (nI dn)) (C := RX2) (T := TX2) (N := 2) hx hb hts hiX2 hown hK.1 hP 0 rfl rfl 1 (by decide) (hts (.fieldLink RX2 15 "CellDays$Duties" "size" "I") (by decide +kernel)) (fun _ h9 => h9) rfl dX2_add_1 ?_
  refine lv_istore_n (lv' := [(2, .int (nI dn)), (0, .ref b0), (1, .ref x)]) hx hb dX2_add_4 rfl hl (by decide) rfl (fun ls hl => ?_)
  refine lv_iload_n hx hb dX2_add_5 rfl (lv_at hl 0 rfl) ?_
  refine lv_if_lt (tgt := 32) hx hb dX2_add_6 (by decide) (fun c_1 => ?_) (fun c_1 => ?_)
  · rw [if_pos c_1] at hex
    try have n_1 : dn < 0 := (nI_ltI (a := dn) (b := 0) (by omega) (by omega)).mp c_1
    refine lv_iload_n hx hb dX2_add_32 rfl (lv_at hl 0 rfl) ?_
    subst hex
    exact hret _ _ _ _ dX2_add_33 hP hD hS
  · rw [if_neg c_1] at hex
    try have n_1 : ¬ dn < 0 := fun h9 => c_1 ((nI_ltI (a := dn) (b := 0) (by omega) (by omega)).mpr h9)
    refine lv_iload_n hx hb dX2_add_9 rfl (lv_at hl 0 rfl) ?_
    refine lv_aload_n hx hb dX2_add_10 rfl (lv_at hl 1 rfl) ?_
    refine va_get (D := (dC, dI)) (ci := 2) (v := .ref b1) (C := RX2) (T := TX2) (N := 2) hx hb hts hiX2 hown hK.1 hP 0 rfl rfl 0 (by decide) (hts (.fieldLink RX2 9 "CellDays$Duties" "row" "[LCellDays$Duty;") (by decide +kernel)) (fun _ h9 => h9) rfl dX2_add_11 ?_
    refine va_alen (v := 8) hx hb hK.1 hP 1 1 rfl rfl rfl dX2_add_14 ?_
    refine lv_icmp_ge (tgt := 32) hx hb dX2_add_15 (by decide) (fun c_2 => ?_) (fun c_2 => ?_)
    · rw [if_pos c_2] at hex
      try have n_2 : 8 ≤ dn := (nI_leI (a := 8) (b := dn) (by omega) (by omega)).mp c_2
      refine lv_iload_n hx hb dX2_add_32 rfl (lv_at hl 0 rfl) ?_
      subst hex
      exact hret _ _ _ _ dX2_add_33 hP hD hS
    · rw [if_neg c_2] at hex
      try have n_2 : ¬ 8 ≤ dn := fun h9 => c_2 ((nI_leI (a := 8) (b := dn) (by omega) (by omega)).mpr h9)
      refine lv_aload_n hx hb dX2_add_18 rfl (lv_at hl 1 rfl) ?_
      refine va_get (D := (dC, dI)) (ci := 2) (v := .ref b1) (C := RX2) (T := TX2) (N := 2) hx hb hts hiX2 hown hK.1 hP 0 rfl rfl 0 (by decide) (hts (.fieldLink RX2 9 "CellDays$Duties" "row" "[LCellDays$Duty;") (by decide +kernel)) (fun _ h9 => h9) rfl dX2_add_19 ?_
      refine lv_iload_n hx hb dX2_add_22 rfl (lv_at hl 0 rfl) ?_
      refine lv_aload_n hx hb dX2_add_23 rfl (lv_at hl 2 rfl) ?_
      obtain ⟨k9, hk9⟩ := va_pl_get (X := wDs cQ b0 b1 row dn) (f := fun a => .inr (3, dvl (pd a))) hxm
      refine va_astq (r := (RX3, TX3, 7)) hx hb hK.1 hP hD hS 1 1 k9 3 rfl rfl hk9 rfl (vp_in_nI (n := dn) (N := 8) (by omega) (by omega)) dX2_add_24 (fun H locs hP hD hS => ?_)
      rw [nI_clamp (show dn < 2 ^ 31 by omega)] at hP hD
      have hP : va_P (dC, dI) vwCl (wDs cQ b0 b1 (va_up row dn (some x)) dn ++ dpl L pd) H := hP
      have hD : va_D A (wDs cQ b0 b1 (va_up row dn (some x)) dn ++ dpl L pd) := hD
      refine lv_aload_n hx hb dX2_add_25 rfl (lv_at hl 1 rfl) ?_
      refine lv_iload_n hx hb dX2_add_26 rfl (lv_at hl 0 rfl) ?_
      refine lv_iconst (v := 1) hx hb dX2_add_27 (by decide) ?_
      refine lv_iadd hx hb dX2_add_28 ?_
      refine W.eq (g2 := F0 m 29 ls [.int (nI (dn + 1)), .ref b0]) (by rw [nI_1]) ?_
      refine va_put (D := (dC, dI)) (ci := 2) (v := .int (nI (dn + 1))) (ty := .int) (C := RX2) (T := TX2) (N := 2) hx hb hts hiX2 tyX2 tyX2_ok nmX2 hown hK.1 hP hD hS 0 rfl rfl 1 (by decide) (hts (.fieldLink RX2 15 "CellDays$Duties" "size" "I") (by decide +kernel)) (fun _ h9 => h9) rfl (by decide +kernel) (rfl) (rfl) (Nat.le_of_ble_eq_true rfl) dX2_add_29 (fun H locs hP hD hS => ?_)
      have hP : va_P (dC, dI) vwCl (wDs cQ b0 b1 (va_up row dn (some x)) (dn + 1) ++ dpl L pd) H := hP
      have hD : va_D A (wDs cQ b0 b1 (va_up row dn (some x)) (dn + 1) ++ dpl L pd) := hD
      refine lv_iload_n hx hb dX2_add_32 rfl (lv_at hl 0 rfl) ?_
      subst hex
      exact hret _ _ _ _ dX2_add_33 hP hD hS

def rX2_removeLatest : Room := { frames := 0, cells := 0, slots := 0, locals := 0 }
def sX2_removeLatest (row : Nat → Option Nat) (dn : Nat) : Int32 × (Nat → Option Nat) × (Nat) := (if (nI (dn - 1)) < 0 then (nI dn, row, dn) else (if 8 ≤ (nI (dn - 1)) then (nI dn, row, dn) else (nI (dn - 1), va_up row (dn - 1) none, dn - 1)))
set_option maxHeartbeats 4000000 in
set_option maxRecDepth 100000 in
theorem kX2_removeLatest (l : Launch) (dC : Nat → ClassId) (dI : Nat → Nat → Nat) (cI cQ cZ : ClassId) (b0 : Nat) (b1 : Nat) (row : Nat → Option Nat) (dn : Nat) (sz : Nat) (hdn : dn ≤ 8) (hd0 : 0 < dn) : Met l yX2_removeLatest wsX2_removeLatest rX2_removeLatest (va_Pc [.ref b0] (cd_pre dC dI cI cQ cZ (wDs cQ b0 b1 row dn) sz)) (va_Qi (fun r _ => r = (sX2_removeLatest row dn).1) (cd_post dC dI (wDs cQ b0 b1 row dn) (wDs cQ b0 b1 ((sX2_removeLatest row dn).2.1) ((sX2_removeLatest row dn).2.2)) sz) (va_A (wDs cQ b0 b1 row dn) sz)) 0 0 (va_A (wDs cQ b0 b1 row dn) sz) := by
  have hiX2 : ∀ w ∈ u_ws RX2 TX2 2, w ∈ wsX2_removeLatest := by decide +kernel
  generalize hex : sX2_removeLatest row dn = ex
  unfold sX2_removeLatest at hex
  refine cd_mMi [.ref b0] (by decide) rfl (Nat.le_of_ble_eq_true rfl) ?_
  intro Q A p e s m args below meth c ls hx hb hml hown hts hA hret hK hP hD hS hl
  have hl : lv_has ls 2 [(0, .ref b0)] := hl
  refine lv_aload_n hx hb dX2_removeLatest_0 rfl (lv_at hl 0 rfl) ?_
  refine va_get (D := (dC, dI)) (ci := 2) (v := .int (nI dn)) (C := RX2) (T := TX2) (N := 2) hx hb hts hiX2 hown hK.1 hP 0 rfl rfl 1 (by decide) (hts (.fieldLink RX2 15 "CellDays$Duties" "size" "I") (by decide +kernel)) (fun _ h9 => h9) rfl dX2_removeLatest_1 ?_
  refine lv_iconst (v := 1) hx hb dX2_removeLatest_4 (by decide) ?_
  refine lv_isub hx hb dX2_removeLatest_5 ?_
  refine W.eq (g2 := F0 m 6 ls [.int (nI (dn - 1))]) (by rw [cd_s1 hd0]) ?_
  refine lv_istore_n (lv' := [(1, .int (nI (dn - 1))), (0, .ref b0)]) hx hb dX2_removeLatest_6 rfl hl (by decide) rfl (fun ls hl => ?_)
  refine lv_iload_n hx hb dX2_removeLatest_7 rfl (lv_at hl 0 rfl) ?_
  refine lv_if_lt (tgt := 32) hx hb dX2_removeLatest_8 (by decide) (fun c_1 => ?_) (fun c_1 => ?_)
  · rw [if_pos c_1] at hex
    try have n_1 : (dn - 1) < 0 := (nI_ltI (a := (dn - 1)) (b := 0) (by omega) (by omega)).mp c_1
    refine lv_aload_n hx hb dX2_removeLatest_32 rfl (lv_at hl 1 rfl) ?_
    refine va_get (D := (dC, dI)) (ci := 2) (v := .int (nI dn)) (C := RX2) (T := TX2) (N := 2) hx hb hts hiX2 hown hK.1 hP 0 rfl rfl 1 (by decide) (hts (.fieldLink RX2 15 "CellDays$Duties" "size" "I") (by decide +kernel)) (fun _ h9 => h9) rfl dX2_removeLatest_33 ?_
    subst hex
    exact hret _ _ _ _ dX2_removeLatest_36 hP hD hS
  · rw [if_neg c_1] at hex
    try have n_1 : ¬ (dn - 1) < 0 := fun h9 => c_1 ((nI_ltI (a := (dn - 1)) (b := 0) (by omega) (by omega)).mpr h9)
    refine lv_iload_n hx hb dX2_removeLatest_11 rfl (lv_at hl 0 rfl) ?_
    refine lv_aload_n hx hb dX2_removeLatest_12 rfl (lv_at hl 1 rfl) ?_
    refine va_get (D := (dC, dI)) (ci := 2) (v := .ref b1) (C := RX2) (T := TX2) (N := 2) hx hb hts hiX2 hown hK.1 hP 0 rfl rfl 0 (by decide) (hts (.fieldLink RX2 9 "CellDays$Duties" "row" "[LCellDays$Duty;") (by decide +kernel)) (fun _ h9 => h9) rfl dX2_removeLatest_13 ?_
    refine va_alen (v := 8) hx hb hK.1 hP 1 1 rfl rfl rfl dX2_removeLatest_16 ?_
    refine lv_icmp_ge (tgt := 32) hx hb dX2_removeLatest_17 (by decide) (fun c_2 => ?_) (fun c_2 => ?_)
    · rw [if_pos c_2] at hex
      try have n_2 : 8 ≤ (dn - 1) := (nI_leI (a := 8) (b := (dn - 1)) (by omega) (by omega)).mp c_2
      refine lv_aload_n hx hb dX2_removeLatest_32 rfl (lv_at hl 1 rfl) ?_
      refine va_get (D := (dC, dI)) (ci := 2) (v := .int (nI dn)) (C := RX2) (T := TX2) (N := 2) hx hb hts hiX2 hown hK.1 hP 0 rfl rfl 1 (by decide) (hts (.fieldLink RX2 15 "CellDays$Duties" "size" "I") (by decide +kernel)) (fun _ h9 => h9) rfl dX2_removeLatest_33 ?_
      subst hex
      exact hret _ _ _ _ dX2_removeLatest_36 hP hD hS
    · rw [if_neg c_2] at hex
      try have n_2 : ¬ 8 ≤ (dn - 1) := fun h9 => c_2 ((nI_leI (a := 8) (b := (dn - 1)) (by omega) (by omega)).mpr h9)
      refine lv_aload_n hx hb dX2_removeLatest_20 rfl (lv_at hl 1 rfl) ?_
      refine va_get (D := (dC, dI)) (ci := 2) (v := .ref b1) (C := RX2) (T := TX2) (N := 2) hx hb hts hiX2 hown hK.1 hP 0 rfl rfl 0 (by decide) (hts (.fieldLink RX2 9 "CellDays$Duties" "row" "[LCellDays$Duty;") (by decide +kernel)) (fun _ h9 => h9) rfl dX2_removeLatest_21 ?_
      refine lv_iload_n hx hb dX2_removeLatest_24 rfl (lv_at hl 0 rfl) ?_
      refine lv_null hx hb dX2_removeLatest_25 ?_
      refine va_astqN hx hb hK.1 hP hD hS 1 1 rfl rfl (vp_in_nI (n := dn - 1) (N := 8) (by omega) (by omega)) dX2_removeLatest_26 (fun H locs hP hD hS => ?_)
      rw [nI_clamp (show dn - 1 < 2 ^ 31 by omega)] at hP hD
      have hP : va_P (dC, dI) vwCl (wDs cQ b0 b1 (va_up row (dn - 1) none) dn) H := hP
      have hD : va_D A (wDs cQ b0 b1 (va_up row (dn - 1) none) dn) := hD
      refine lv_aload_n hx hb dX2_removeLatest_27 rfl (lv_at hl 1 rfl) ?_
      refine lv_iload_n hx hb dX2_removeLatest_28 rfl (lv_at hl 0 rfl) ?_
      refine va_put (D := (dC, dI)) (ci := 2) (v := .int (nI (dn - 1))) (ty := .int) (C := RX2) (T := TX2) (N := 2) hx hb hts hiX2 tyX2 tyX2_ok nmX2 hown hK.1 hP hD hS 0 rfl rfl 1 (by decide) (hts (.fieldLink RX2 15 "CellDays$Duties" "size" "I") (by decide +kernel)) (fun _ h9 => h9) rfl (by decide +kernel) (rfl) (rfl) (Nat.le_of_ble_eq_true rfl) dX2_removeLatest_29 (fun H locs hP hD hS => ?_)
      have hP : va_P (dC, dI) vwCl (wDs cQ b0 b1 (va_up row (dn - 1) none) (dn - 1)) H := hP
      have hD : va_D A (wDs cQ b0 b1 (va_up row (dn - 1) none) (dn - 1)) := hD
      refine lv_aload_n hx hb dX2_removeLatest_32 rfl (lv_at hl 1 rfl) ?_
      refine va_get (D := (dC, dI)) (ci := 2) (v := .int (nI (dn - 1))) (C := RX2) (T := TX2) (N := 2) hx hb hts hiX2 hown hK.1 hP 0 rfl rfl 1 (by decide) (hts (.fieldLink RX2 15 "CellDays$Duties" "size" "I") (by decide +kernel)) (fun _ h9 => h9) rfl dX2_removeLatest_33 ?_
      subst hex
      exact hret _ _ _ _ dX2_removeLatest_36 hP hD hS

def rX2_setOfOn : Room := { frames := 1, cells := 0, slots := 0, locals := 21 }
def sX2_setOfOn_L4 (row : Nat → Option Nat) (dn : Nat) (pd : Nat → DT) : Nat → Int32 → Nat → Int32
  | 0, vv, k => 0
  | n + 1, vv, k => (if (nI dn) ≤ (nI k) then vv else (match sX2_numbered row dn (nI k) with | none => sX2_setOfOn_L4 row dn pd n vv (k + 1) | some y_2 => (if ((pd y_2).2.2.2.2.2.2) = 0 then sX2_setOfOn_L4 row dn pd n vv (k + 1) else sX2_setOfOn_L4 row dn pd n (vv ||| (1 <<< ((nI k) &&& 31))) (k + 1))))
def sX2_setOfOn (row : Nat → Option Nat) (dn : Nat) (pd : Nat → DT) : Int32 := sX2_setOfOn_L4 row dn pd 9 0 0
set_option maxHeartbeats 4000000 in
set_option maxRecDepth 100000 in
theorem kX2_setOfOn (l : Launch) (dC : Nat → ClassId) (dI : Nat → Nat → Nat) (cI cQ cZ : ClassId) (b0 : Nat) (b1 : Nat) (row : Nat → Option Nat) (dn : Nat) (L : List Nat) (pd : Nat → DT) (hdn : dn ≤ 8) (hrw : ∀ j y, row j = some y → y ∈ L) : Met l yX2_setOfOn wsX2_setOfOn rX2_setOfOn (va_Pc [.ref b0] (cd_rp dC dI cI cQ cZ (wDs cQ b0 b1 row dn ++ dpl L pd))) (vp_Si (fun r => r = sX2_setOfOn row dn pd)) 0 0 (fun _ => False) := by
  have hiX2 : ∀ w ∈ u_ws RX2 TX2 2, w ∈ wsX2_setOfOn := by decide +kernel
  have hiX3 : ∀ w ∈ u_ws RX3 TX3 7, w ∈ wsX2_setOfOn := by decide +kernel
  generalize hex : sX2_setOfOn row dn pd = ex
  unfold sX2_setOfOn at hex
  refine cd_mRi [.ref b0] (by decide) rfl (Nat.le_of_ble_eq_true rfl) ?_
  intro Q p e s m args below meth c ls hx hb hml hown hts hret ⟨hK, hP⟩ hl
  have hl : lv_has ls 4 [(0, .ref b0)] := hl
  refine lv_iconst (v := 0) hx hb dX2_setOfOn_0 (by decide) ?_
  refine lv_istore_n (lv' := [(1, .int 0), (0, .ref b0)]) hx hb dX2_setOfOn_1 rfl hl (by decide) rfl (fun ls hl => ?_)
  refine lv_iconst (v := 0) hx hb dX2_setOfOn_2 (by decide) ?_
  refine lv_istore_n (lv' := [(2, .int 0), (1, .int 0), (0, .ref b0)]) hx hb dX2_setOfOn_3 rfl hl (by decide) rfl (fun ls hl => ?_)
  have L4 : ∀ (n : Nat) (vv : Int32) (k : Nat), (k ≤ 8) → 8 - k < n → sX2_setOfOn_L4 row dn pd n vv k = ex → ∀ (ls : Array Slot), lv_has ls 4 [(2, .int (nI k)), (1, .int vv), (0, .ref b0)] → W p l e rX2_setOfOn s m args below meth c s.heap [] 0 0 Q (F0 m 4 ls []) := by
    intro n
    induction n with
    | zero => intro vv k hk hm; exact absurd hm (Nat.not_lt_zero _)
    | succ n ih =>
      intro vv k hk hm hex ls hl
      rw [sX2_setOfOn_L4] at hex
      refine lv_iload_n hx hb dX2_setOfOn_4 rfl (lv_at hl 0 rfl) ?_
      refine lv_aload_n hx hb dX2_setOfOn_5 rfl (lv_at hl 2 rfl) ?_
      refine va_get (D := (dC, dI)) (ci := 2) (v := .int (nI dn)) (C := RX2) (T := TX2) (N := 2) hx hb hts hiX2 hown hK.1 hP 0 rfl rfl 1 (by decide) (hts (.fieldLink RX2 15 "CellDays$Duties" "size" "I") (by decide +kernel)) (fun _ h9 => h9) rfl dX2_setOfOn_6 ?_
      refine lv_icmp_ge (tgt := 41) hx hb dX2_setOfOn_9 (by decide) (fun c_1 => ?_) (fun c_1 => ?_)
      · rw [if_pos c_1] at hex
        try have n_1 : dn ≤ k := (nI_leI (a := dn) (b := k) (by omega) (by omega)).mp c_1
        refine lv_iload_n hx hb dX2_setOfOn_41 rfl (lv_at hl 1 rfl) ?_
        subst hex
        exact hret _ _ dX2_setOfOn_42
      · rw [if_neg c_1] at hex
        try have n_1 : ¬ dn ≤ k := fun h9 => c_1 ((nI_leI (a := dn) (b := k) (by omega) (by omega)).mpr h9)
        refine lv_aload_n hx hb dX2_setOfOn_12 rfl (lv_at hl 2 rfl) ?_
        refine lv_iload_n hx hb dX2_setOfOn_13 rfl (lv_at hl 0 rfl) ?_
        refine cd_rVq (As := [.int (nI k)]) (b := b0) (ci := 2) (q := (RX2, TX2, 2)) (rest := []) ⟨hx, hb, hml, hown, hts⟩ (kX2_numbered l dC dI cI cQ cZ b0 b1 row dn (nI k)) (cwV 1 hts gX2_setOfOn_X2_numbered rfl rfl rfl (by decide +kernel) ⟨by decide, by decide⟩) hK (hP.sub (ws' := (wDs cQ b0 b1 row dn)) [0, 1] rfl) rfl rfl rfl hl.1 rfl (Nat.le_of_ble_eq_true rfl) dX2_setOfOn_14 ⟨by decide, by decide⟩ ?_
        rcases hq_3 : sX2_numbered row dn (nI k) with _ | y_2
        · rw [hq_3] at hex
          dsimp only at hex
          show W p l e rX2_setOfOn s m args below meth c s.heap [] 0 0 Q (F0 m 17 ls [.null])
          refine lv_astore_nN (lv' := [(3, .null), (2, .int (nI k)), (1, .int vv), (0, .ref b0)]) hx hb dX2_setOfOn_17 rfl hl (by decide) rfl (fun ls hl => ?_)
          refine lv_aload_nN hx hb dX2_setOfOn_18 rfl (lv_at hl 0 rfl) ?_
          refine lv_ifnullN (tgt := 35) hx hb dX2_setOfOn_19 (by decide) ?_
          refine lv_iinc (v := nI (k + 1)) (lv' := [(2, .int (nI (k + 1))), (3, .null), (1, .int vv), (0, .ref b0)]) hx hb dX2_setOfOn_35 hl (k := 1) rfl (nI_1 k) (by decide) rfl (fun ls hl => ?_)
          refine lv_goto (tgt := 4) hx hb dX2_setOfOn_38 (by decide) ?_
          exact ih vv (k + 1) (by omega) (by omega) hex _ (lv_sub hl [0, 2, 3] rfl)
        · rw [hq_3] at hex
          dsimp only at hex
          show W p l e rX2_setOfOn s m args below meth c s.heap [] 0 0 Q (F0 m 17 ls [.ref y_2])
          have hm_4 : y_2 ∈ L := mem_numbered hrw hq_3
          refine lv_astore_n (lv' := [(3, .ref y_2), (2, .int (nI k)), (1, .int vv), (0, .ref b0)]) hx hb dX2_setOfOn_17 rfl hl (by decide) rfl (fun ls hl => ?_)
          refine lv_aload_n hx hb dX2_setOfOn_18 rfl (lv_at hl 0 rfl) ?_
          refine lv_ifnull hx hb dX2_setOfOn_19 ?_
          refine lv_aload_n hx hb dX2_setOfOn_22 rfl (lv_at hl 0 rfl) ?_
          refine va_getN (D := (dC, dI)) (ci := 3) (v := .int ((pd y_2).2.2.2.2.2.2)) (C := RX3) (T := TX3) (N := 7) hx hb hts hiX3 hown hK.1 (cd_one hP hm_4) 0 rfl rfl 6 (by decide) (va_Nw.use rfl (hK.2.1 (.fieldLinkNest RX2 23 RX3 "isOn" "Z" RX5) (by decide +kernel))) (fun _ h9 => h9) rfl dX2_setOfOn_23 ?_
          refine lv_if_eq (tgt := 35) hx hb dX2_setOfOn_26 (by decide) (fun c_5 => ?_) (fun c_5 => ?_)
          · rw [if_pos c_5] at hex
            refine lv_iinc (v := nI (k + 1)) (lv' := [(2, .int (nI (k + 1))), (3, .ref y_2), (1, .int vv), (0, .ref b0)]) hx hb dX2_setOfOn_35 hl (k := 1) rfl (nI_1 k) (by decide) rfl (fun ls hl => ?_)
            refine lv_goto (tgt := 4) hx hb dX2_setOfOn_38 (by decide) ?_
            exact ih vv (k + 1) (by omega) (by omega) hex _ (lv_sub hl [0, 2, 3] rfl)
          · rw [if_neg c_5] at hex
            refine lv_iload_n hx hb dX2_setOfOn_29 rfl (lv_at hl 2 rfl) ?_
            refine lv_iconst (v := 1) hx hb dX2_setOfOn_30 (by decide) ?_
            refine lv_iload_n hx hb dX2_setOfOn_31 rfl (lv_at hl 1 rfl) ?_
            refine lv_ishl hx hb dX2_setOfOn_32 ?_
            refine lv_ior hx hb dX2_setOfOn_33 ?_
            refine lv_istore_n (lv' := [(1, .int (vv ||| (1 <<< ((nI k) &&& 31)))), (3, .ref y_2), (2, .int (nI k)), (0, .ref b0)]) hx hb dX2_setOfOn_34 rfl hl (by decide) rfl (fun ls hl => ?_)
            refine lv_iinc (v := nI (k + 1)) (lv' := [(2, .int (nI (k + 1))), (1, .int (vv ||| (1 <<< ((nI k) &&& 31)))), (3, .ref y_2), (0, .ref b0)]) hx hb dX2_setOfOn_35 hl (k := 2) rfl (nI_1 k) (by decide) rfl (fun ls hl => ?_)
            refine lv_goto (tgt := 4) hx hb dX2_setOfOn_38 (by decide) ?_
            exact ih (vv ||| (1 <<< ((nI k) &&& 31))) (k + 1) (by omega) (by omega) hex _ (lv_sub hl [0, 1, 3] rfl)
  exact L4 9 0 0 (by decide) (by decide) hex _ (lv_sub hl [0, 1, 2] rfl)

def rX2_loadOf : Room := { frames := 2, cells := 0, slots := 0, locals := 44 }
def sX2_loadOf_L6 (row : Nat → Option Nat) (dn : Nat) (pd : Nat → DT) (st : Int32) (t : Int32) (br : Int32) : Nat → Int32 → Nat → Int32
  | 0, vv, k => 0
  | n + 1, vv, k => (if (nI dn) ≤ (nI k) then vv else (match sX2_numberedIn row dn st (nI k) with | none => sX2_loadOf_L6 row dn pd st t br n vv (k + 1) | some y_2 => sX2_loadOf_L6 row dn pd st t br n (vv + (sX3_drainBy (pd y_2) t br)) (k + 1)))
def sX2_loadOf (row : Nat → Option Nat) (dn : Nat) (pd : Nat → DT) (st : Int32) (t : Int32) (br : Int32) : Int32 := sX2_loadOf_L6 row dn pd st t br 9 0 0
set_option maxHeartbeats 4000000 in
set_option maxRecDepth 100000 in
theorem kX2_loadOf (l : Launch) (dC : Nat → ClassId) (dI : Nat → Nat → Nat) (cI cQ cZ : ClassId) (b0 : Nat) (b1 : Nat) (row : Nat → Option Nat) (dn : Nat) (L : List Nat) (pd : Nat → DT) (st : Int32) (t : Int32) (br : Int32) (hdn : dn ≤ 8) (hrw : ∀ j y, row j = some y → y ∈ L) : Met l yX2_loadOf wsX2_loadOf rX2_loadOf (va_Pc [.ref b0, .int st, .int t, .int br] (cd_rp dC dI cI cQ cZ (wDs cQ b0 b1 row dn ++ dpl L pd))) (vp_Si (fun r => r = sX2_loadOf row dn pd st t br)) 0 0 (fun _ => False) := by
  have hiX2 : ∀ w ∈ u_ws RX2 TX2 2, w ∈ wsX2_loadOf := by decide +kernel
  generalize hex : sX2_loadOf row dn pd st t br = ex
  unfold sX2_loadOf at hex
  refine cd_mRi [.ref b0, .int st, .int t, .int br] (by decide) rfl (Nat.le_of_ble_eq_true rfl) ?_
  intro Q p e s m args below meth c ls hx hb hml hown hts hret ⟨hK, hP⟩ hl
  have hl : lv_has ls 7 [(0, .ref b0), (1, .int st), (2, .int t), (3, .int br)] := hl
  refine lv_iconst (v := 0) hx hb dX2_loadOf_0 (by decide) ?_
  refine lv_istore (lv' := [(4, .int 0), (0, .ref b0), (1, .int st), (2, .int t), (3, .int br)]) hx hb dX2_loadOf_1 hl (by decide) rfl (fun ls hl => ?_)
  refine lv_iconst (v := 0) hx hb dX2_loadOf_3 (by decide) ?_
  refine lv_istore (lv' := [(5, .int 0), (4, .int 0), (0, .ref b0), (1, .int st), (2, .int t), (3, .int br)]) hx hb dX2_loadOf_4 hl (by decide) rfl (fun ls hl => ?_)
  have L6 : ∀ (n : Nat) (vv : Int32) (k : Nat), (k ≤ 8) → 8 - k < n → sX2_loadOf_L6 row dn pd st t br n vv k = ex → ∀ (ls : Array Slot), lv_has ls 7 [(5, .int (nI k)), (4, .int vv), (0, .ref b0), (1, .int st), (2, .int t), (3, .int br)] → W p l e rX2_loadOf s m args below meth c s.heap [] 0 0 Q (F0 m 6 ls []) := by
    intro n
    induction n with
    | zero => intro vv k hk hm; exact absurd hm (Nat.not_lt_zero _)
    | succ n ih =>
      intro vv k hk hm hex ls hl
      rw [sX2_loadOf_L6] at hex
      refine lv_iload hx hb dX2_loadOf_6 (lv_at hl 0 rfl) ?_
      refine lv_aload_n hx hb dX2_loadOf_8 rfl (lv_at hl 2 rfl) ?_
      refine va_get (D := (dC, dI)) (ci := 2) (v := .int (nI dn)) (C := RX2) (T := TX2) (N := 2) hx hb hts hiX2 hown hK.1 hP 0 rfl rfl 1 (by decide) (hts (.fieldLink RX2 15 "CellDays$Duties" "size" "I") (by decide +kernel)) (fun _ h9 => h9) rfl dX2_loadOf_9 ?_
      refine lv_icmp_ge (tgt := 47) hx hb dX2_loadOf_12 (by decide) (fun c_1 => ?_) (fun c_1 => ?_)
      · rw [if_pos c_1] at hex
        try have n_1 : dn ≤ k := (nI_leI (a := dn) (b := k) (by omega) (by omega)).mp c_1
        refine lv_iload hx hb dX2_loadOf_47 (lv_at hl 1 rfl) ?_
        subst hex
        exact hret _ _ dX2_loadOf_49
      · rw [if_neg c_1] at hex
        try have n_1 : ¬ dn ≤ k := fun h9 => c_1 ((nI_leI (a := dn) (b := k) (by omega) (by omega)).mpr h9)
        refine lv_aload_n hx hb dX2_loadOf_15 rfl (lv_at hl 2 rfl) ?_
        refine lv_iload_n hx hb dX2_loadOf_16 rfl (lv_at hl 3 rfl) ?_
        refine lv_iload hx hb dX2_loadOf_17 (lv_at hl 0 rfl) ?_
        refine cd_rVq (As := [.int st, .int (nI k)]) (b := b0) (ci := 2) (q := (RX2, TX2, 2)) (rest := []) ⟨hx, hb, hml, hown, hts⟩ (kX2_numberedIn l dC dI cI cQ cZ b0 b1 row dn st (nI k)) (cwV 2 hts gX2_loadOf_X2_numberedIn rfl rfl rfl (by decide +kernel) ⟨by decide, by decide⟩) hK (hP.sub (ws' := (wDs cQ b0 b1 row dn)) [0, 1] rfl) rfl rfl rfl hl.1 rfl (Nat.le_of_ble_eq_true rfl) dX2_loadOf_19 ⟨by decide, by decide⟩ ?_
        rcases hq_3 : sX2_numberedIn row dn st (nI k) with _ | y_2
        · rw [hq_3] at hex
          dsimp only at hex
          show W p l e rX2_loadOf s m args below meth c s.heap [] 0 0 Q (F0 m 22 ls [.null])
          refine lv_astoreN (lv' := [(6, .null), (5, .int (nI k)), (4, .int vv), (0, .ref b0), (1, .int st), (2, .int t), (3, .int br)]) hx hb dX2_loadOf_22 hl (by decide) rfl (fun ls hl => ?_)
          refine lv_aloadN hx hb dX2_loadOf_24 (lv_at hl 0 rfl) ?_
          refine lv_ifnullN (tgt := 41) hx hb dX2_loadOf_26 (by decide) ?_
          refine lv_iinc (v := nI (k + 1)) (lv' := [(5, .int (nI (k + 1))), (6, .null), (4, .int vv), (0, .ref b0), (1, .int st), (2, .int t), (3, .int br)]) hx hb dX2_loadOf_41 hl (k := 1) rfl (nI_1 k) (by decide) rfl (fun ls hl => ?_)
          refine lv_goto (tgt := 6) hx hb dX2_loadOf_44 (by decide) ?_
          exact ih vv (k + 1) (by omega) (by omega) hex _ (lv_sub hl [0, 2, 3, 4, 5, 6] rfl)
        · rw [hq_3] at hex
          dsimp only at hex
          show W p l e rX2_loadOf s m args below meth c s.heap [] 0 0 Q (F0 m 22 ls [.ref y_2])
          have hm_4 : y_2 ∈ L := mem_numberedIn hrw hq_3
          refine lv_astore (lv' := [(6, .ref y_2), (5, .int (nI k)), (4, .int vv), (0, .ref b0), (1, .int st), (2, .int t), (3, .int br)]) hx hb dX2_loadOf_22 hl (by decide) rfl (fun ls hl => ?_)
          refine lv_aload hx hb dX2_loadOf_24 (lv_at hl 0 rfl) ?_
          refine lv_ifnull hx hb dX2_loadOf_26 ?_
          refine lv_iload hx hb dX2_loadOf_29 (lv_at hl 2 rfl) ?_
          refine lv_aload hx hb dX2_loadOf_31 (lv_at hl 0 rfl) ?_
          refine lv_iload_n hx hb dX2_loadOf_33 rfl (lv_at hl 5 rfl) ?_
          refine lv_iload_n hx hb dX2_loadOf_34 rfl (lv_at hl 6 rfl) ?_
          refine cd_rV (As := [.int t, .int br]) (b := y_2) (ci := 3) (q := (RX3, TX3, 7)) (rest := [.int vv]) ⟨hx, hb, hml, hown, hts⟩ (kX3_drainBy l dC dI cI cQ cZ y_2 (pd y_2) t br) (cwV 2 hts gX2_loadOf_X3_drainBy rfl rfl rfl (by decide +kernel) ⟨by decide, by decide⟩) hK (cd_one hP hm_4) rfl rfl rfl hl.1 rfl (Nat.le_of_ble_eq_true rfl) dX2_loadOf_35 ⟨by decide, by decide⟩ ?_
          refine lv_iadd hx hb dX2_loadOf_38 ?_
          refine lv_istore (lv' := [(4, .int (vv + (sX3_drainBy (pd y_2) t br))), (6, .ref y_2), (5, .int (nI k)), (0, .ref b0), (1, .int st), (2, .int t), (3, .int br)]) hx hb dX2_loadOf_39 hl (by decide) rfl (fun ls hl => ?_)
          refine lv_iinc (v := nI (k + 1)) (lv' := [(5, .int (nI (k + 1))), (4, .int (vv + (sX3_drainBy (pd y_2) t br))), (6, .ref y_2), (0, .ref b0), (1, .int st), (2, .int t), (3, .int br)]) hx hb dX2_loadOf_41 hl (k := 2) rfl (nI_1 k) (by decide) rfl (fun ls hl => ?_)
          refine lv_goto (tgt := 6) hx hb dX2_loadOf_44 (by decide) ?_
          exact ih (vv + (sX3_drainBy (pd y_2) t br)) (k + 1) (by omega) (by omega) hex _ (lv_sub hl [0, 1, 3, 4, 5, 6] rfl)
  exact L6 9 0 0 (by decide) (by decide) hex _ (lv_sub hl [0, 1, 2, 3, 4, 5] rfl)

def rX2_worthOf : Room := { frames := 2, cells := 0, slots := 0, locals := 43 }
def sX2_worthOf_L4 (row : Nat → Option Nat) (dn : Nat) (pd : Nat → DT) (st : Int32) : Nat → Int32 → Nat → Int32
  | 0, vv, k => 0
  | n + 1, vv, k => (if (nI dn) ≤ (nI k) then vv else (match sX2_numberedIn row dn st (nI k) with | none => sX2_worthOf_L4 row dn pd st n vv (k + 1) | some y_2 => sX2_worthOf_L4 row dn pd st n (vv + ((pd y_2).2.2.2.2.2.1)) (k + 1)))
def sX2_worthOf (row : Nat → Option Nat) (dn : Nat) (pd : Nat → DT) (st : Int32) : Int32 := sX2_worthOf_L4 row dn pd st 9 0 0
set_option maxHeartbeats 4000000 in
set_option maxRecDepth 100000 in
theorem kX2_worthOf (l : Launch) (dC : Nat → ClassId) (dI : Nat → Nat → Nat) (cI cQ cZ : ClassId) (b0 : Nat) (b1 : Nat) (row : Nat → Option Nat) (dn : Nat) (L : List Nat) (pd : Nat → DT) (st : Int32) (hdn : dn ≤ 8) (hrw : ∀ j y, row j = some y → y ∈ L) : Met l yX2_worthOf wsX2_worthOf rX2_worthOf (va_Pc [.ref b0, .int st] (cd_rp dC dI cI cQ cZ (wDs cQ b0 b1 row dn ++ dpl L pd))) (vp_Si (fun r => r = sX2_worthOf row dn pd st)) 0 0 (fun _ => False) := by
  have hiX2 : ∀ w ∈ u_ws RX2 TX2 2, w ∈ wsX2_worthOf := by decide +kernel
  have hiX3 : ∀ w ∈ u_ws RX3 TX3 7, w ∈ wsX2_worthOf := by decide +kernel
  generalize hex : sX2_worthOf row dn pd st = ex
  unfold sX2_worthOf at hex
  refine cd_mRi [.ref b0, .int st] (by decide) rfl (Nat.le_of_ble_eq_true rfl) ?_
  intro Q p e s m args below meth c ls hx hb hml hown hts hret ⟨hK, hP⟩ hl
  have hl : lv_has ls 5 [(0, .ref b0), (1, .int st)] := hl
  refine lv_iconst (v := 0) hx hb dX2_worthOf_0 (by decide) ?_
  refine lv_istore_n (lv' := [(2, .int 0), (0, .ref b0), (1, .int st)]) hx hb dX2_worthOf_1 rfl hl (by decide) rfl (fun ls hl => ?_)
  refine lv_iconst (v := 0) hx hb dX2_worthOf_2 (by decide) ?_
  refine lv_istore_n (lv' := [(3, .int 0), (2, .int 0), (0, .ref b0), (1, .int st)]) hx hb dX2_worthOf_3 rfl hl (by decide) rfl (fun ls hl => ?_)
  have L4 : ∀ (n : Nat) (vv : Int32) (k : Nat), (k ≤ 8) → 8 - k < n → sX2_worthOf_L4 row dn pd st n vv k = ex → ∀ (ls : Array Slot), lv_has ls 5 [(3, .int (nI k)), (2, .int vv), (0, .ref b0), (1, .int st)] → W p l e rX2_worthOf s m args below meth c s.heap [] 0 0 Q (F0 m 4 ls []) := by
    intro n
    induction n with
    | zero => intro vv k hk hm; exact absurd hm (Nat.not_lt_zero _)
    | succ n ih =>
      intro vv k hk hm hex ls hl
      rw [sX2_worthOf_L4] at hex
      refine lv_iload_n hx hb dX2_worthOf_4 rfl (lv_at hl 0 rfl) ?_
      refine lv_aload_n hx hb dX2_worthOf_5 rfl (lv_at hl 2 rfl) ?_
      refine va_get (D := (dC, dI)) (ci := 2) (v := .int (nI dn)) (C := RX2) (T := TX2) (N := 2) hx hb hts hiX2 hown hK.1 hP 0 rfl rfl 1 (by decide) (hts (.fieldLink RX2 15 "CellDays$Duties" "size" "I") (by decide +kernel)) (fun _ h9 => h9) rfl dX2_worthOf_6 ?_
      refine lv_icmp_ge (tgt := 39) hx hb dX2_worthOf_9 (by decide) (fun c_1 => ?_) (fun c_1 => ?_)
      · rw [if_pos c_1] at hex
        try have n_1 : dn ≤ k := (nI_leI (a := dn) (b := k) (by omega) (by omega)).mp c_1
        refine lv_iload_n hx hb dX2_worthOf_39 rfl (lv_at hl 1 rfl) ?_
        subst hex
        exact hret _ _ dX2_worthOf_40
      · rw [if_neg c_1] at hex
        try have n_1 : ¬ dn ≤ k := fun h9 => c_1 ((nI_leI (a := dn) (b := k) (by omega) (by omega)).mpr h9)
        refine lv_aload_n hx hb dX2_worthOf_12 rfl (lv_at hl 2 rfl) ?_
        refine lv_iload_n hx hb dX2_worthOf_13 rfl (lv_at hl 3 rfl) ?_
        refine lv_iload_n hx hb dX2_worthOf_14 rfl (lv_at hl 0 rfl) ?_
        refine cd_rVq (As := [.int st, .int (nI k)]) (b := b0) (ci := 2) (q := (RX2, TX2, 2)) (rest := []) ⟨hx, hb, hml, hown, hts⟩ (kX2_numberedIn l dC dI cI cQ cZ b0 b1 row dn st (nI k)) (cwV 2 hts gX2_worthOf_X2_numberedIn rfl rfl rfl (by decide +kernel) ⟨by decide, by decide⟩) hK (hP.sub (ws' := (wDs cQ b0 b1 row dn)) [0, 1] rfl) rfl rfl rfl hl.1 rfl (Nat.le_of_ble_eq_true rfl) dX2_worthOf_15 ⟨by decide, by decide⟩ ?_
        rcases hq_3 : sX2_numberedIn row dn st (nI k) with _ | y_2
        · rw [hq_3] at hex
          dsimp only at hex
          show W p l e rX2_worthOf s m args below meth c s.heap [] 0 0 Q (F0 m 18 ls [.null])
          refine lv_astoreN (lv' := [(4, .null), (3, .int (nI k)), (2, .int vv), (0, .ref b0), (1, .int st)]) hx hb dX2_worthOf_18 hl (by decide) rfl (fun ls hl => ?_)
          refine lv_aloadN hx hb dX2_worthOf_20 (lv_at hl 0 rfl) ?_
          refine lv_ifnullN (tgt := 33) hx hb dX2_worthOf_22 (by decide) ?_
          refine lv_iinc (v := nI (k + 1)) (lv' := [(3, .int (nI (k + 1))), (4, .null), (2, .int vv), (0, .ref b0), (1, .int st)]) hx hb dX2_worthOf_33 hl (k := 1) rfl (nI_1 k) (by decide) rfl (fun ls hl => ?_)
          refine lv_goto (tgt := 4) hx hb dX2_worthOf_36 (by decide) ?_
          exact ih vv (k + 1) (by omega) (by omega) hex _ (lv_sub hl [0, 2, 3, 4] rfl)
        · rw [hq_3] at hex
          dsimp only at hex
          show W p l e rX2_worthOf s m args below meth c s.heap [] 0 0 Q (F0 m 18 ls [.ref y_2])
          have hm_4 : y_2 ∈ L := mem_numberedIn hrw hq_3
          refine lv_astore (lv' := [(4, .ref y_2), (3, .int (nI k)), (2, .int vv), (0, .ref b0), (1, .int st)]) hx hb dX2_worthOf_18 hl (by decide) rfl (fun ls hl => ?_)
          refine lv_aload hx hb dX2_worthOf_20 (lv_at hl 0 rfl) ?_
          refine lv_ifnull hx hb dX2_worthOf_22 ?_
          refine lv_iload_n hx hb dX2_worthOf_25 rfl (lv_at hl 2 rfl) ?_
          refine lv_aload hx hb dX2_worthOf_26 (lv_at hl 0 rfl) ?_
          refine va_getN (D := (dC, dI)) (ci := 3) (v := .int ((pd y_2).2.2.2.2.2.1)) (C := RX3) (T := TX3) (N := 7) hx hb hts hiX3 hown hK.1 (cd_one hP hm_4) 0 rfl rfl 5 (by decide) (va_Nw.use rfl (hK.2.1 (.fieldLinkNest RX2 35 RX3 "worth" "I" RX5) (by decide +kernel))) (fun _ h9 => h9) rfl dX2_worthOf_28 ?_
          refine lv_iadd hx hb dX2_worthOf_31 ?_
          refine lv_istore_n (lv' := [(2, .int (vv + ((pd y_2).2.2.2.2.2.1))), (4, .ref y_2), (3, .int (nI k)), (0, .ref b0), (1, .int st)]) hx hb dX2_worthOf_32 rfl hl (by decide) rfl (fun ls hl => ?_)
          refine lv_iinc (v := nI (k + 1)) (lv' := [(3, .int (nI (k + 1))), (2, .int (vv + ((pd y_2).2.2.2.2.2.1))), (4, .ref y_2), (0, .ref b0), (1, .int st)]) hx hb dX2_worthOf_33 hl (k := 2) rfl (nI_1 k) (by decide) rfl (fun ls hl => ?_)
          refine lv_goto (tgt := 4) hx hb dX2_worthOf_36 (by decide) ?_
          exact ih (vv + ((pd y_2).2.2.2.2.2.1)) (k + 1) (by omega) (by omega) hex _ (lv_sub hl [0, 1, 3, 4] rfl)
  exact L4 9 0 0 (by decide) (by decide) hex _ (lv_sub hl [0, 1, 2, 3] rfl)
