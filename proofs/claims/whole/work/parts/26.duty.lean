def rX3_init : Room := { frames := 1, cells := 0, slots := 0, locals := 20 }
def sX3_init (k1 : Int32) (k2 : Int32) (k3 : Int32) (k4 : Int32) (k5 : Int32) (k6 : Int32) : (DT) := (k1, k2, k3, if k1 = 0 then (0 : Int32) else k4, if k1 = 2 then k5 else (5 : Int32), k6, 1)
set_option maxHeartbeats 4000000 in
set_option maxRecDepth 100000 in
theorem kX3_init (l : Launch) (dC : Nat → ClassId) (dI : Nat → Nat → Nat) (cI cQ cZ : ClassId) (a : Nat) (d : DT) (k1 : Int32) (k2 : Int32) (k3 : Int32) (k4 : Int32) (k5 : Int32) (k6 : Int32) (sz : Nat) : Met l yX3_init wsX3_init rX3_init (va_Pc [.ref a, .int k1, .int k2, .int k3, .int k4, .int k5, .int k6] (cd_pre dC dI cI cQ cZ (wDu a d) sz)) (va_Qv (fun _ => True) (cd_post dC dI (wDu a d) (wDu a (sX3_init k1 k2 k3 k4 k5 k6)) sz) (va_A (wDu a d) sz)) 0 0 (va_A (wDu a d) sz) := by
  have hiX3 : ∀ w ∈ u_ws RX3 TX3 7, w ∈ wsX3_init := by decide +kernel
  generalize hex : sX3_init k1 k2 k3 k4 k5 k6 = ex
  unfold sX3_init at hex
  refine cd_mMv [.ref a, .int k1, .int k2, .int k3, .int k4, .int k5, .int k6] (by decide) rfl (Nat.le_of_ble_eq_true rfl) ?_
  intro Q A p e s m args below meth c ls hx hb hml hown hts hA hinit hret hK hP hD hS hl
  have hl : lv_has ls 7 [(0, .ref a), (1, .int k1), (2, .int k2), (3, .int k3), (4, .int k4), (5, .int k5), (6, .int k6)] := hl
  refine lv_aload_n hx hb dX3_init_0 rfl (lv_at hl 0 rfl) ?_
  refine W.objInit hx hb hown (hts (.methodLink RX3 3 objectInit) (by decide +kernel)) (hts (.instanceMethod objectInit) (by decide +kernel)) (hts (.code objectInit ⟨#[0xb1]⟩ 1 none) (by decide +kernel)) rfl (by rw [hml]; exact hl.1) rfl dX3_init_1 (by decide) (Nat.le_of_ble_eq_true rfl) ?_
  refine W.eq (g2 := F0 m 4 ls []) (rfl) ?_
  refine lv_aload_n hx hb dX3_init_4 rfl (lv_at hl 0 rfl) ?_
  refine lv_iload_n hx hb dX3_init_5 rfl (lv_at hl 1 rfl) ?_
  refine va_putF (D := (dC, dI)) (ci := 3) (v := .int k1) (ty := .int) (C := RX3) (T := TX3) (N := 7) hx hb hts hiX3 tyX3 tyX3_ok nmX3 hown hK.1 hP hD hS 0 rfl rfl 0 (by decide) (hts (.fieldLink RX3 9 "CellDays$Duty" "kind" "I") (by decide +kernel)) (fun _ h9 => h9) rfl hinit rfl (by decide +kernel) (rfl) (rfl) (Nat.le_of_ble_eq_true rfl) dX3_init_6 (fun H locs hP hD hS => ?_)
  have hP : va_P (dC, dI) vwCl (wDu a (k1, d.2.1, d.2.2.1, d.2.2.2.1, d.2.2.2.2.1, d.2.2.2.2.2.1, d.2.2.2.2.2.2)) H := hP
  have hD : va_D A (wDu a (k1, d.2.1, d.2.2.1, d.2.2.2.1, d.2.2.2.2.1, d.2.2.2.2.2.1, d.2.2.2.2.2.2)) := hD
  refine lv_aload_n hx hb dX3_init_9 rfl (lv_at hl 0 rfl) ?_
  refine lv_iload_n hx hb dX3_init_10 rfl (lv_at hl 2 rfl) ?_
  refine va_putF (D := (dC, dI)) (ci := 3) (v := .int k2) (ty := .int) (C := RX3) (T := TX3) (N := 7) hx hb hts hiX3 tyX3 tyX3_ok nmX3 hown hK.1 hP hD hS 0 rfl rfl 1 (by decide) (hts (.fieldLink RX3 15 "CellDays$Duty" "load" "I") (by decide +kernel)) (fun _ h9 => h9) rfl hinit rfl (by decide +kernel) (rfl) (rfl) (Nat.le_of_ble_eq_true rfl) dX3_init_11 (fun H locs hP hD hS => ?_)
  have hP : va_P (dC, dI) vwCl (wDu a (k1, k2, d.2.2.1, d.2.2.2.1, d.2.2.2.2.1, d.2.2.2.2.2.1, d.2.2.2.2.2.2)) H := hP
  have hD : va_D A (wDu a (k1, k2, d.2.2.1, d.2.2.2.1, d.2.2.2.2.1, d.2.2.2.2.2.1, d.2.2.2.2.2.2)) := hD
  refine lv_aload_n hx hb dX3_init_14 rfl (lv_at hl 0 rfl) ?_
  refine lv_iload_n hx hb dX3_init_15 rfl (lv_at hl 3 rfl) ?_
  refine va_putF (D := (dC, dI)) (ci := 3) (v := .int k3) (ty := .int) (C := RX3) (T := TX3) (N := 7) hx hb hts hiX3 tyX3 tyX3_ok nmX3 hown hK.1 hP hD hS 0 rfl rfl 2 (by decide) (hts (.fieldLink RX3 18 "CellDays$Duty" "times" "I") (by decide +kernel)) (fun _ h9 => h9) rfl hinit rfl (by decide +kernel) (rfl) (rfl) (Nat.le_of_ble_eq_true rfl) dX3_init_16 (fun H locs hP hD hS => ?_)
  have hP : va_P (dC, dI) vwCl (wDu a (k1, k2, k3, d.2.2.2.1, d.2.2.2.2.1, d.2.2.2.2.2.1, d.2.2.2.2.2.2)) H := hP
  have hD : va_D A (wDu a (k1, k2, k3, d.2.2.2.1, d.2.2.2.2.1, d.2.2.2.2.2.1, d.2.2.2.2.2.2)) := hD
  refine lv_aload_n hx hb dX3_init_19 rfl (lv_at hl 0 rfl) ?_
  refine lv_iload_n hx hb dX3_init_20 rfl (lv_at hl 1 rfl) ?_
  have J_1 : W p l e rX3_init s m args below meth c H locs 0 0 Q (F0 m 30 ls [.int (if k1 = 0 then (0 : Int32) else k4), .ref a]) := by
    refine va_putF (D := (dC, dI)) (ci := 3) (v := .int (if k1 = 0 then (0 : Int32) else k4)) (ty := .int) (C := RX3) (T := TX3) (N := 7) hx hb hts hiX3 tyX3 tyX3_ok nmX3 hown hK.1 hP hD hS 0 rfl rfl 3 (by decide) (hts (.fieldLink RX3 21 "CellDays$Duty" "peak" "I") (by decide +kernel)) (fun _ h9 => h9) rfl hinit rfl (by decide +kernel) (rfl) (rfl) (Nat.le_of_ble_eq_true rfl) dX3_init_30 (fun H locs hP hD hS => ?_)
    have hP : va_P (dC, dI) vwCl (wDu a (k1, k2, k3, if k1 = 0 then (0 : Int32) else k4, d.2.2.2.2.1, d.2.2.2.2.2.1, d.2.2.2.2.2.2)) H := hP
    have hD : va_D A (wDu a (k1, k2, k3, if k1 = 0 then (0 : Int32) else k4, d.2.2.2.2.1, d.2.2.2.2.2.1, d.2.2.2.2.2.2)) := hD
    refine lv_aload_n hx hb dX3_init_33 rfl (lv_at hl 0 rfl) ?_
    refine lv_iload_n hx hb dX3_init_34 rfl (lv_at hl 1 rfl) ?_
    refine lv_iconst (v := 2) hx hb dX3_init_35 (by decide) ?_
    have J_2 : W p l e rX3_init s m args below meth c H locs 0 0 Q (F0 m 45 ls [.int (if k1 = 2 then k5 else (5 : Int32)), .ref a]) := by
      refine va_putF (D := (dC, dI)) (ci := 3) (v := .int (if k1 = 2 then k5 else (5 : Int32))) (ty := .int) (C := RX3) (T := TX3) (N := 7) hx hb hts hiX3 tyX3 tyX3_ok nmX3 hown hK.1 hP hD hS 0 rfl rfl 4 (by decide) (hts (.fieldLink RX3 24 "CellDays$Duty" "tries" "I") (by decide +kernel)) (fun _ h9 => h9) rfl hinit rfl (by decide +kernel) (rfl) (rfl) (Nat.le_of_ble_eq_true rfl) dX3_init_45 (fun H locs hP hD hS => ?_)
      have hP : va_P (dC, dI) vwCl (wDu a (k1, k2, k3, if k1 = 0 then (0 : Int32) else k4, if k1 = 2 then k5 else (5 : Int32), d.2.2.2.2.2.1, d.2.2.2.2.2.2)) H := hP
      have hD : va_D A (wDu a (k1, k2, k3, if k1 = 0 then (0 : Int32) else k4, if k1 = 2 then k5 else (5 : Int32), d.2.2.2.2.2.1, d.2.2.2.2.2.2)) := hD
      refine lv_aload_n hx hb dX3_init_48 rfl (lv_at hl 0 rfl) ?_
      refine lv_iload hx hb dX3_init_49 (lv_at hl 6 rfl) ?_
      refine va_putF (D := (dC, dI)) (ci := 3) (v := .int k6) (ty := .int) (C := RX3) (T := TX3) (N := 7) hx hb hts hiX3 tyX3 tyX3_ok nmX3 hown hK.1 hP hD hS 0 rfl rfl 5 (by decide) (hts (.fieldLink RX3 27 "CellDays$Duty" "worth" "I") (by decide +kernel)) (fun _ h9 => h9) rfl hinit rfl (by decide +kernel) (rfl) (rfl) (Nat.le_of_ble_eq_true rfl) dX3_init_51 (fun H locs hP hD hS => ?_)
      have hP : va_P (dC, dI) vwCl (wDu a (k1, k2, k3, if k1 = 0 then (0 : Int32) else k4, if k1 = 2 then k5 else (5 : Int32), k6, d.2.2.2.2.2.2)) H := hP
      have hD : va_D A (wDu a (k1, k2, k3, if k1 = 0 then (0 : Int32) else k4, if k1 = 2 then k5 else (5 : Int32), k6, d.2.2.2.2.2.2)) := hD
      refine lv_aload_n hx hb dX3_init_54 rfl (lv_at hl 0 rfl) ?_
      refine lv_iconst (v := 1) hx hb dX3_init_55 (by decide) ?_
      refine va_put (D := (dC, dI)) (ci := 3) (v := .int 1) (ty := .boolean) (C := RX3) (T := TX3) (N := 7) hx hb hts hiX3 tyX3 tyX3_ok nmX3 hown hK.1 hP hD hS 0 rfl rfl 6 (by decide) (hts (.fieldLink RX3 30 "CellDays$Duty" "isOn" "Z") (by decide +kernel)) (fun _ h9 => h9) rfl (by decide +kernel) (rfl) (rfl) (Nat.le_of_ble_eq_true rfl) dX3_init_56 (fun H locs hP hD hS => ?_)
      have hP : va_P (dC, dI) vwCl (wDu a (k1, k2, k3, if k1 = 0 then (0 : Int32) else k4, if k1 = 2 then k5 else (5 : Int32), k6, 1)) H := hP
      have hD : va_D A (wDu a (k1, k2, k3, if k1 = 0 then (0 : Int32) else k4, if k1 = 2 then k5 else (5 : Int32), k6, 1)) := hD
      subst hex
      exact hret _ _ _ _ dX3_init_59 hP hD hS
    refine lv_icmp_ne (tgt := 44) hx hb dX3_init_36 (by decide) (fun c_3 => ?_) (fun c_3 => ?_)
    · skip
      refine lv_iconst (v := 5) hx hb dX3_init_44 (by decide) ?_
      rw [if_neg c_3] at J_2
      exact J_2
    · skip
      refine lv_iload hx hb dX3_init_39 (lv_at hl 5 rfl) ?_
      refine lv_goto (tgt := 45) hx hb dX3_init_41 (by decide) ?_
      rw [if_pos c_3] at J_2
      exact J_2
  refine lv_if_ne (tgt := 28) hx hb dX3_init_21 (by decide) (fun c_4 => ?_) (fun c_4 => ?_)
  · skip
    refine lv_iload hx hb dX3_init_28 (lv_at hl 4 rfl) ?_
    rw [if_neg c_4] at J_1
    exact J_1
  · skip
    refine lv_iconst (v := 0) hx hb dX3_init_24 (by decide) ?_
    refine lv_goto (tgt := 30) hx hb dX3_init_25 (by decide) ?_
    rw [if_pos c_4] at J_1
    exact J_1

def rX5_duty : Room := { frames := 2, cells := 1, slots := 7, locals := 46 }
def sX5_duty (row : Nat → Option Nat) (dn : Nat) (L : List Nat) (pd : Nat → DT) (k1 : Int32) (k2 : Int32) (k3 : Int32) (k4 : Int32) (k5 : Int32) (k6 : Int32) (q9 : Nat) : Int32 × (Nat → Option Nat) × (Nat) × (List Nat) × (Nat → DT) := (if (if (sX5_within k1 0 2) = 0 then (0 : Int32) else (if (sX5_within k2 1 100) = 0 then (0 : Int32) else (if (sX5_within k3 1 20) = 0 then (0 : Int32) else (if (sX5_within k6 0 100) = 0 then (0 : Int32) else (1 : Int32))))) = 0 then ((-1), row, dn, L, pd) else (if (if k1 = 0 then (1 : Int32) else (if (sX5_within k4 0 100) = 0 then (0 : Int32) else (1 : Int32))) = 0 then ((-1), row, dn, L, pd) else (if (if k1 = 2 then (if (sX5_isTries k5) = 0 then (0 : Int32) else (1 : Int32)) else (1 : Int32)) = 0 then ((-1), row, dn, L, pd) else (if (sX2_isFull dn) = 0 then ((sX2_add row dn q9).1, (sX2_add row dn q9).2.1, (sX2_add row dn q9).2.2, L ++ [q9], va_up (va_up pd q9 (0, 0, 0, 0, 0, 0, 0)) q9 (sX3_init k1 k2 k3 k4 k5 k6)) else ((-3), row, dn, L, pd)))))
set_option maxHeartbeats 4000000 in
set_option maxRecDepth 100000 in
theorem kX5_duty (l : Launch) (dC : Nat → ClassId) (dI : Nat → Nat → Nat) (cI cQ cZ : ClassId) (ad : Nat → Nat) (tq : Int64) (ag : Nat → Int32) (lo : Nat → Int32) (ch : Nat → Int32) (al : Nat → Int32) (an : Nat) (sh : Nat → Int32) (wa : Nat → Int32) (pl : Int32) (rm : Int32) (lk : Int32) (br : Int32) (row : Nat → Option Nat) (dn : Nat) (dy : Nat → Int32) (lv : Nat → Int32) (od : Nat → Int32) (sn : Nat) (L : List Nat) (pd : Nat → DT) (k1 : Int32) (k2 : Int32) (k3 : Int32) (k4 : Int32) (k5 : Int32) (k6 : Int32) (sz : Nat) (hdn : dn ≤ 8) : Met l yX5_duty wsX5_duty rX5_duty (va_Pc [.ref (ad 0), .int k1, .int k2, .int k3, .int k4, .int k5, .int k6] (cd_pre dC dI cI cQ cZ (wCx cI cQ ad tq ag lo ch al an sh wa pl rm lk br row dn dy lv od sn ++ dpl L pd) sz)) (va_Qi (fun r q9 => r = (sX5_duty row dn L pd k1 k2 k3 k4 k5 k6 q9).1) (fun (q9 : Nat) t => va_P (dC, dI) vwCl (wCx cI cQ ad tq ag lo ch al an sh wa pl rm lk br ((sX5_duty row dn L pd k1 k2 k3 k4 k5 k6 q9).2.1) ((sX5_duty row dn L pd k1 k2 k3 k4 k5 k6 q9).2.2.1) dy lv od sn ++ dpl ((sX5_duty row dn L pd k1 k2 k3 k4 k5 k6 q9).2.2.2.1) ((sX5_duty row dn L pd k1 k2 k3 k4 k5 k6 q9).2.2.2.2)) t.heap ∧ va_D (va_A (wCx cI cQ ad tq ag lo ch al an sh wa pl rm lk br row dn dy lv od sn ++ dpl L pd) sz) (wCx cI cQ ad tq ag lo ch al an sh wa pl rm lk br ((sX5_duty row dn L pd k1 k2 k3 k4 k5 k6 q9).2.1) ((sX5_duty row dn L pd k1 k2 k3 k4 k5 k6 q9).2.2.1) dy lv od sn ++ dpl ((sX5_duty row dn L pd k1 k2 k3 k4 k5 k6 q9).2.2.2.1) ((sX5_duty row dn L pd k1 k2 k3 k4 k5 k6 q9).2.2.2.2))) (va_A (wCx cI cQ ad tq ag lo ch al an sh wa pl rm lk br row dn dy lv od sn ++ dpl L pd) sz)) 1 7 (va_A (wCx cI cQ ad tq ag lo ch al an sh wa pl rm lk br row dn dy lv od sn ++ dpl L pd) sz) := by
  have hiX3 : ∀ w ∈ u_ws RX3 TX3 7, w ∈ wsX5_duty := by decide +kernel
  have hiX5 : ∀ w ∈ u_ws RX5 TX5 5, w ∈ wsX5_duty := by decide +kernel
  refine cd_mMiQ (r0 := fun q9 => (sX5_duty row dn L pd k1 k2 k3 k4 k5 k6 q9).1) (W1 := fun q9 => (wCx cI cQ ad tq ag lo ch al an sh wa pl rm lk br ((sX5_duty row dn L pd k1 k2 k3 k4 k5 k6 q9).2.1) ((sX5_duty row dn L pd k1 k2 k3 k4 k5 k6 q9).2.2.1) dy lv od sn ++ dpl ((sX5_duty row dn L pd k1 k2 k3 k4 k5 k6 q9).2.2.2.1) ((sX5_duty row dn L pd k1 k2 k3 k4 k5 k6 q9).2.2.2.2))) [.ref (ad 0), .int k1, .int k2, .int k3, .int k4, .int k5, .int k6] (by decide) rfl (Nat.le_of_ble_eq_true rfl) ?_
  intro Q A p e s m args below meth c ls hx hb hml hown hts hA hret hK hP hD hS hl
  have hl : lv_has ls 10 [(0, .ref (ad 0)), (1, .int k1), (2, .int k2), (3, .int k3), (4, .int k4), (5, .int k5), (6, .int k6)] := hl
  refine lv_iload_n hx hb dX5_duty_0 rfl (lv_at hl 1 rfl) ?_
  refine lv_iconst (v := 0) hx hb dX5_duty_1 (by decide) ?_
  refine lv_iconst (v := 2) hx hb dX5_duty_2 (by decide) ?_
  refine cd_rS (As := [.int k1, .int 0, .int 2]) (rest := []) ⟨hx, hb, hml, hown, hts⟩ (kX5_within l dC dI cI cQ cZ k1 0 2) (va_cwS 3 hts gX5_duty_X5_within rfl rfl rfl (by decide +kernel) ⟨by decide, by decide⟩) hK cd_P0 rfl hl.1 rfl (Nat.le_of_ble_eq_true rfl) dX5_duty_3 ⟨by decide, by decide⟩ ?_
  have J_1 : W p l e rX5_duty s m args below meth c s.heap [] 0 0 Q (F0 m 45 ls [.int (if (sX5_within k1 0 2) = 0 then (0 : Int32) else (if (sX5_within k2 1 100) = 0 then (0 : Int32) else (if (sX5_within k3 1 20) = 0 then (0 : Int32) else (if (sX5_within k6 0 100) = 0 then (0 : Int32) else (1 : Int32)))))]) := by
    refine lv_istore (lv' := [(7, .int (if (sX5_within k1 0 2) = 0 then (0 : Int32) else (if (sX5_within k2 1 100) = 0 then (0 : Int32) else (if (sX5_within k3 1 20) = 0 then (0 : Int32) else (if (sX5_within k6 0 100) = 0 then (0 : Int32) else (1 : Int32)))))), (0, .ref (ad 0)), (1, .int k1), (2, .int k2), (3, .int k3), (4, .int k4), (5, .int k5), (6, .int k6)]) hx hb dX5_duty_45 hl (by decide) rfl (fun ls hl => ?_)
    refine lv_iload_n hx hb dX5_duty_47 rfl (lv_at hl 2 rfl) ?_
    have J_2 : W p l e rX5_duty s m args below meth c s.heap [] 0 0 Q (F0 m 67 ls [.int (if k1 = 0 then (1 : Int32) else (if (sX5_within k4 0 100) = 0 then (0 : Int32) else (1 : Int32)))]) := by
      refine lv_istore (lv' := [(8, .int (if k1 = 0 then (1 : Int32) else (if (sX5_within k4 0 100) = 0 then (0 : Int32) else (1 : Int32)))), (7, .int (if (sX5_within k1 0 2) = 0 then (0 : Int32) else (if (sX5_within k2 1 100) = 0 then (0 : Int32) else (if (sX5_within k3 1 20) = 0 then (0 : Int32) else (if (sX5_within k6 0 100) = 0 then (0 : Int32) else (1 : Int32)))))), (0, .ref (ad 0)), (1, .int k1), (2, .int k2), (3, .int k3), (4, .int k4), (5, .int k5), (6, .int k6)]) hx hb dX5_duty_67 hl (by decide) rfl (fun ls hl => ?_)
      refine lv_iload_n hx hb dX5_duty_69 rfl (lv_at hl 3 rfl) ?_
      refine lv_iconst (v := 2) hx hb dX5_duty_70 (by decide) ?_
      have J_3 : W p l e rX5_duty s m args below meth c s.heap [] 0 0 Q (F0 m 87 ls [.int (if k1 = 2 then (if (sX5_isTries k5) = 0 then (0 : Int32) else (1 : Int32)) else (1 : Int32))]) := by
        refine lv_istore (lv' := [(9, .int (if k1 = 2 then (if (sX5_isTries k5) = 0 then (0 : Int32) else (1 : Int32)) else (1 : Int32))), (8, .int (if k1 = 0 then (1 : Int32) else (if (sX5_within k4 0 100) = 0 then (0 : Int32) else (1 : Int32)))), (7, .int (if (sX5_within k1 0 2) = 0 then (0 : Int32) else (if (sX5_within k2 1 100) = 0 then (0 : Int32) else (if (sX5_within k3 1 20) = 0 then (0 : Int32) else (if (sX5_within k6 0 100) = 0 then (0 : Int32) else (1 : Int32)))))), (0, .ref (ad 0)), (1, .int k1), (2, .int k2), (3, .int k3), (4, .int k4), (5, .int k5), (6, .int k6)]) hx hb dX5_duty_87 hl (by decide) rfl (fun ls hl => ?_)
        refine lv_iload hx hb dX5_duty_89 (lv_at hl 2 rfl) ?_
        refine lv_if_eq (tgt := 104) hx hb dX5_duty_91 (by decide) (fun c_4 => ?_) (fun c_4 => ?_)
        · skip
          refine lv_iconst (v := (-1)) hx hb dX5_duty_104 (by decide) ?_
          have he : sX5_duty row dn L pd k1 k2 k3 k4 k5 k6 0 = ((-1), row, dn, L, pd) := by unfold sX5_duty; rw [if_pos c_4]
          refine W.widen (k := 1) (n := 7) (by omega) (by omega) ?_
          exact hret 0 _ _ _ _ _ dX5_duty_105 (by rw [he]; exact hP) (by rw [he]; exact hD) hS (by rw [he])
        · skip
          refine lv_iload hx hb dX5_duty_94 (lv_at hl 1 rfl) ?_
          refine lv_if_eq (tgt := 104) hx hb dX5_duty_96 (by decide) (fun c_5 => ?_) (fun c_5 => ?_)
          · skip
            refine lv_iconst (v := (-1)) hx hb dX5_duty_104 (by decide) ?_
            have he : sX5_duty row dn L pd k1 k2 k3 k4 k5 k6 0 = ((-1), row, dn, L, pd) := by unfold sX5_duty; rw [if_neg c_4, if_pos c_5]
            refine W.widen (k := 1) (n := 7) (by omega) (by omega) ?_
            exact hret 0 _ _ _ _ _ dX5_duty_105 (by rw [he]; exact hP) (by rw [he]; exact hD) hS (by rw [he])
          · skip
            refine lv_iload hx hb dX5_duty_99 (lv_at hl 0 rfl) ?_
            refine lv_if_ne (tgt := 106) hx hb dX5_duty_101 (by decide) (fun c_6 => ?_) (fun c_6 => ?_)
            · skip
              refine lv_aload_n hx hb dX5_duty_106 rfl (lv_at hl 3 rfl) ?_
              refine va_get (D := (dC, dI)) (ci := 5) (v := .ref (ad 9)) (C := RX5) (T := TX5) (N := 5) hx hb hts hiX5 hown hK.1 hP 0 rfl rfl 1 (by decide) (hts (.fieldLink RX5 19 "CellDays" "duties" "LCellDays$Duties;") (by decide +kernel)) (fun _ h9 => h9) rfl dX5_duty_107 ?_
              refine cd_rV (As := []) (b := (ad 9)) (ci := 2) (q := (RX2, TX2, 2)) (rest := []) ⟨hx, hb, hml, hown, hts⟩ (kX2_isFull l dC dI cI cQ cZ (ad 9) (ad 10) row dn) (cwV 0 hts gX5_duty_X2_isFull rfl rfl rfl (by decide +kernel) ⟨by decide, by decide⟩) hK (hP.sub (ws' := (wDs cQ (ad 9) (ad 10) row dn)) [9, 10] rfl) rfl rfl rfl hl.1 rfl (Nat.le_of_ble_eq_true rfl) dX5_duty_110 ⟨by decide, by decide⟩ ?_
              refine lv_if_eq (tgt := 119) hx hb dX5_duty_113 (by decide) (fun c_7 => ?_) (fun c_7 => ?_)
              · skip
                refine lv_aload_n hx hb dX5_duty_119 rfl (lv_at hl 3 rfl) ?_
                refine va_get (D := (dC, dI)) (ci := 5) (v := .ref (ad 9)) (C := RX5) (T := TX5) (N := 5) hx hb hts hiX5 hown hK.1 hP 0 rfl rfl 1 (by decide) (hts (.fieldLink RX5 19 "CellDays" "duties" "LCellDays$Duties;") (by decide +kernel)) (fun _ h9 => h9) rfl dX5_duty_120 ?_
                refine va_new (ci := 3) (fs := dvl (0, 0, 0, 0, 0, 0, 0)) (C := RX3) (T := TX3) (N := 7) hx hb hts hiX3 tyX3 tyX3_ok hown (hts (.classLink RX5 82 RX3) (by decide +kernel)) (hts (.instantiable RX3 7) (by decide +kernel)) (hts (.initialized RX3) (by decide +kernel)) hK.1 hP hD hS hA rfl (fun j hj => by rcases (show j = 0 ∨ j = 1 ∨ j = 2 ∨ j = 3 ∨ j = 4 ∨ j = 5 ∨ j = 6 by omega) with rfl | rfl | rfl | rfl | rfl | rfl | rfl <;> rfl) (by decide) (by decide) dX5_duty_123 (fun q9 H hP hD hS => ?_)
                have hq8 := va_pl_fresh2 hD
                rw [cd_plpush hq8] at hP hD
                have hq9 : q9 ∈ L ++ [q9] := by simp
                have hP : va_P (dC, dI) vwCl (wCx cI cQ ad tq ag lo ch al an sh wa pl rm lk br row dn dy lv od sn ++ dpl (L ++ [q9]) (va_up pd q9 (0, 0, 0, 0, 0, 0, 0))) H := hP
                have hD : va_D A (wCx cI cQ ad tq ag lo ch al an sh wa pl rm lk br row dn dy lv od sn ++ dpl (L ++ [q9]) (va_up pd q9 (0, 0, 0, 0, 0, 0, 0))) := hD
                show W p l e rX5_duty s m args below meth c H [] 1 7 Q (F0 m 126 ls [.ref q9, .ref (ad 9)])
                refine lv_dup hx hb dX5_duty_126 rfl ?_
                refine lv_iload_n hx hb dX5_duty_127 rfl (lv_at hl 4 rfl) ?_
                refine lv_iload_n hx hb dX5_duty_128 rfl (lv_at hl 5 rfl) ?_
                refine lv_iload_n hx hb dX5_duty_129 rfl (lv_at hl 6 rfl) ?_
                refine lv_iload hx hb dX5_duty_130 (lv_at hl 7 rfl) ?_
                refine lv_iload hx hb dX5_duty_132 (lv_at hl 8 rfl) ?_
                refine lv_iload hx hb dX5_duty_134 (lv_at hl 9 rfl) ?_
                have hDc : va_D A (wDu q9 ((va_up pd q9 (0, 0, 0, 0, 0, 0, 0)) q9)) := (cd_oneD hD hq9)
                have hFc := cd_F hDc hS hA
                refine cd_wI (As := [.int k1, .int k2, .int k3, .int k4, .int k5, .int k6]) (b := q9) (rest := [.ref q9, .ref (ad 9)]) ⟨hx, hb, hml, hown, hts⟩ (kX3_init l dC dI cI cQ cZ q9 ((va_up pd q9 (0, 0, 0, 0, 0, 0, 0)) q9) k1 k2 k3 k4 k5 k6 H.size) (cwI 6 hts gX5_duty_X3_init rfl rfl rfl (hts (.initialized RX3) (by decide +kernel)) (hts (.methodLink RX5 84 yX3_init) (by decide +kernel)) (hts (.instanceMethod yX3_init) (by decide +kernel)) rfl (by decide +kernel) ⟨by decide, by decide⟩) hK (cd_one hP hq9) hDc hFc hS rfl hl.1 rfl (Nat.le_of_ble_eq_true rfl) dX5_duty_136 ⟨by decide, by decide⟩ (fun H1 locs hP1 hD1 hk1 hS => ?_)
                obtain ⟨hP, hD⟩ := cd_upd1 hP hD hq9 hk1 hP1
                generalize H1 = H at hP hS ⊢
                have hP : va_P (dC, dI) vwCl (wCx cI cQ ad tq ag lo ch al an sh wa pl rm lk br row dn dy lv od sn ++ dpl (L ++ [q9]) (va_up (va_up pd q9 (0, 0, 0, 0, 0, 0, 0)) q9 (sX3_init k1 k2 k3 k4 k5 k6))) H := hP
                have hD : va_D A (wCx cI cQ ad tq ag lo ch al an sh wa pl rm lk br row dn dy lv od sn ++ dpl (L ++ [q9]) (va_up (va_up pd q9 (0, 0, 0, 0, 0, 0, 0)) q9 (sX3_init k1 k2 k3 k4 k5 k6))) := hD
                have hDc : va_D A (wDs cQ (ad 9) (ad 10) row dn ++ dpl (L ++ [q9]) (va_up (va_up pd q9 (0, 0, 0, 0, 0, 0, 0)) q9 (sX3_init k1 k2 k3 k4 k5 k6))) := (hD.part (cx := wDs cQ (ad 9) (ad 10) row dn) [9, 10] (by decide) rfl)
                have hFc := cd_F hDc hS hA
                refine cd_wV (As := [.ref q9]) (b := (ad 9)) (ci := 2) (q := (RX2, TX2, 2)) (rest := []) ⟨hx, hb, hml, hown, hts⟩ (kX2_add l dC dI cI cQ cZ (ad 9) (ad 10) row dn (L ++ [q9]) (va_up (va_up pd q9 (0, 0, 0, 0, 0, 0, 0)) q9 (sX3_init k1 k2 k3 k4 k5 k6)) q9 H.size hdn hq9) (cwV 1 hts gX5_duty_X2_add rfl rfl rfl (by decide +kernel) ⟨by decide, by decide⟩) hK (hP.part (cx := wDs cQ (ad 9) (ad 10) row dn) [9, 10] rfl) hDc hFc hS rfl rfl rfl hl.1 rfl (Nat.le_of_ble_eq_true rfl) dX5_duty_139 ⟨by decide, by decide⟩ (fun H1 locs hP1 hD1 hk1 hS => ?_)
                obtain ⟨hP, hD⟩ := va_joinP (X := wCx cI cQ ad tq ag lo ch al an sh wa pl rm lk br row dn dy lv od sn) (cx := wDs cQ (ad 9) (ad 10) row dn) (wr := [(ad 0, .inr (5, [.ref (ad 6), .ref (ad 9), .ref (ad 11), .ref (ad 1), .long tq])), (ad 1, .inr (0, [.ref (ad 6), .ref (ad 9), .ref (ad 11), .ref (ad 2), .ref (ad 3), .ref (ad 4), .ref (ad 5), .int (nI an)])), (ad 2, .inl (cI, 150, .inl ag)), (ad 3, .inl (cI, 150, .inl lo)), (ad 4, .inl (cI, 150, .inl ch)), (ad 5, .inl (cI, 10, .inl al)), (ad 6, .inr (1, [.ref (ad 7), .ref (ad 8), .int pl, .int rm, .int lk, .int br])), (ad 7, .inl (cI, 3, .inl sh)), (ad 8, .inl (cI, 12, .inl wa)), (ad 11, .inr (4, [.ref (ad 12), .ref (ad 13), .ref (ad 14), .int (nI sn)])), (ad 12, .inl (cI, 12, .inl dy)), (ad 13, .inl (cI, 12, .inl lv)), (ad 14, .inl (cI, 12, .inl od))]) (rx := wDs cQ (ad 9) (ad 10) ((sX2_add row dn q9).2.1) ((sX2_add row dn q9).2.2)) hP hD [9, 10] [0, 1, 2, 3, 4, 5, 6, 7, 8, 11, 12, 13, 14] rfl rfl (by decide) (by decide) hk1 hFc hP1 hD1
                have hP := hP.part (cx := wCx cI cQ ad tq ag lo ch al an sh wa pl rm lk br ((sX2_add row dn q9).2.1) ((sX2_add row dn q9).2.2) dy lv od sn) [0, 1, 2, 3, 4, 5, 6, 7, 8, 13, 14, 9, 10, 11, 12] rfl
                have hD := hD.part (cx := wCx cI cQ ad tq ag lo ch al an sh wa pl rm lk br ((sX2_add row dn q9).2.1) ((sX2_add row dn q9).2.2) dy lv od sn) [0, 1, 2, 3, 4, 5, 6, 7, 8, 13, 14, 9, 10, 11, 12] (by decide) rfl
                generalize H1 = H at hP hS ⊢
                have hP : va_P (dC, dI) vwCl (wCx cI cQ ad tq ag lo ch al an sh wa pl rm lk br ((sX2_add row dn q9).2.1) ((sX2_add row dn q9).2.2) dy lv od sn ++ dpl (L ++ [q9]) (va_up (va_up pd q9 (0, 0, 0, 0, 0, 0, 0)) q9 (sX3_init k1 k2 k3 k4 k5 k6))) H := hP
                have hD : va_D A (wCx cI cQ ad tq ag lo ch al an sh wa pl rm lk br ((sX2_add row dn q9).2.1) ((sX2_add row dn q9).2.2) dy lv od sn ++ dpl (L ++ [q9]) (va_up (va_up pd q9 (0, 0, 0, 0, 0, 0, 0)) q9 (sX3_init k1 k2 k3 k4 k5 k6))) := hD
                have he : sX5_duty row dn L pd k1 k2 k3 k4 k5 k6 q9 = ((sX2_add row dn q9).1, (sX2_add row dn q9).2.1, (sX2_add row dn q9).2.2, L ++ [q9], va_up (va_up pd q9 (0, 0, 0, 0, 0, 0, 0)) q9 (sX3_init k1 k2 k3 k4 k5 k6)) := by unfold sX5_duty; rw [if_neg c_4, if_neg c_5, if_neg c_6, if_pos c_7]
                exact hret q9 _ _ _ _ _ dX5_duty_142 (by rw [he]; exact hP) (by rw [he]; exact hD) hS (by rw [he])
              · skip
                refine lv_bipush (v := (-3)) hx hb dX5_duty_116 (by decide) ?_
                have he : sX5_duty row dn L pd k1 k2 k3 k4 k5 k6 0 = ((-3), row, dn, L, pd) := by unfold sX5_duty; rw [if_neg c_4, if_neg c_5, if_neg c_6, if_neg c_7]
                refine W.widen (k := 1) (n := 7) (by omega) (by omega) ?_
                exact hret 0 _ _ _ _ _ dX5_duty_118 (by rw [he]; exact hP) (by rw [he]; exact hD) hS (by rw [he])
            · skip
              refine lv_iconst (v := (-1)) hx hb dX5_duty_104 (by decide) ?_
              have he : sX5_duty row dn L pd k1 k2 k3 k4 k5 k6 0 = ((-1), row, dn, L, pd) := by unfold sX5_duty; rw [if_neg c_4, if_neg c_5, if_pos c_6]
              refine W.widen (k := 1) (n := 7) (by omega) (by omega) ?_
              exact hret 0 _ _ _ _ _ dX5_duty_105 (by rw [he]; exact hP) (by rw [he]; exact hD) hS (by rw [he])
      refine lv_icmp_ne (tgt := 82) hx hb dX5_duty_71 (by decide) (fun c_8 => ?_) (fun c_8 => ?_)
      · skip
        refine lv_iconst (v := 1) hx hb dX5_duty_82 (by decide) ?_
        refine lv_goto (tgt := 87) hx hb dX5_duty_83 (by decide) ?_
        rw [if_neg c_8] at J_3
        exact J_3
      · skip
        refine lv_iload hx hb dX5_duty_74 (lv_at hl 7 rfl) ?_
        refine cd_rS (As := [.int k5]) (rest := []) ⟨hx, hb, hml, hown, hts⟩ (kX5_isTries l dC dI cI cQ cZ k5) (va_cwS 1 hts gX5_duty_X5_isTries rfl rfl rfl (by decide +kernel) ⟨by decide, by decide⟩) hK cd_P0 rfl hl.1 rfl (Nat.le_of_ble_eq_true rfl) dX5_duty_76 ⟨by decide, by decide⟩ ?_
        refine lv_if_eq (tgt := 86) hx hb dX5_duty_79 (by decide) (fun c_9 => ?_) (fun c_9 => ?_)
        · skip
          refine lv_iconst (v := 0) hx hb dX5_duty_86 (by decide) ?_
          rw [if_pos c_8, if_pos c_9] at J_3
          exact J_3
        · skip
          refine lv_iconst (v := 1) hx hb dX5_duty_82 (by decide) ?_
          refine lv_goto (tgt := 87) hx hb dX5_duty_83 (by decide) ?_
          rw [if_pos c_8, if_neg c_9] at J_3
          exact J_3
    refine lv_if_eq (tgt := 62) hx hb dX5_duty_48 (by decide) (fun c_10 => ?_) (fun c_10 => ?_)
    · skip
      refine lv_iconst (v := 1) hx hb dX5_duty_62 (by decide) ?_
      refine lv_goto (tgt := 67) hx hb dX5_duty_63 (by decide) ?_
      rw [if_pos c_10] at J_2
      exact J_2
    · skip
      refine lv_iload hx hb dX5_duty_51 (lv_at hl 5 rfl) ?_
      refine lv_iconst (v := 0) hx hb dX5_duty_53 (by decide) ?_
      refine lv_bipush (v := 100) hx hb dX5_duty_54 (by decide) ?_
      refine cd_rS (As := [.int k4, .int 0, .int 100]) (rest := []) ⟨hx, hb, hml, hown, hts⟩ (kX5_within l dC dI cI cQ cZ k4 0 100) (va_cwS 3 hts gX5_duty_X5_within rfl rfl rfl (by decide +kernel) ⟨by decide, by decide⟩) hK cd_P0 rfl hl.1 rfl (Nat.le_of_ble_eq_true rfl) dX5_duty_56 ⟨by decide, by decide⟩ ?_
      refine lv_if_eq (tgt := 66) hx hb dX5_duty_59 (by decide) (fun c_11 => ?_) (fun c_11 => ?_)
      · skip
        refine lv_iconst (v := 0) hx hb dX5_duty_66 (by decide) ?_
        rw [if_neg c_10, if_pos c_11] at J_2
        exact J_2
      · skip
        refine lv_iconst (v := 1) hx hb dX5_duty_62 (by decide) ?_
        refine lv_goto (tgt := 67) hx hb dX5_duty_63 (by decide) ?_
        rw [if_neg c_10, if_neg c_11] at J_2
        exact J_2
  refine lv_if_eq (tgt := 44) hx hb dX5_duty_6 (by decide) (fun c_12 => ?_) (fun c_12 => ?_)
  · skip
    refine lv_iconst (v := 0) hx hb dX5_duty_44 (by decide) ?_
    rw [if_pos c_12] at J_1
    exact J_1
  · skip
    refine lv_iload_n hx hb dX5_duty_9 rfl (lv_at hl 2 rfl) ?_
    refine lv_iconst (v := 1) hx hb dX5_duty_10 (by decide) ?_
    refine lv_bipush (v := 100) hx hb dX5_duty_11 (by decide) ?_
    refine cd_rS (As := [.int k2, .int 1, .int 100]) (rest := []) ⟨hx, hb, hml, hown, hts⟩ (kX5_within l dC dI cI cQ cZ k2 1 100) (va_cwS 3 hts gX5_duty_X5_within rfl rfl rfl (by decide +kernel) ⟨by decide, by decide⟩) hK cd_P0 rfl hl.1 rfl (Nat.le_of_ble_eq_true rfl) dX5_duty_13 ⟨by decide, by decide⟩ ?_
    refine lv_if_eq (tgt := 44) hx hb dX5_duty_16 (by decide) (fun c_13 => ?_) (fun c_13 => ?_)
    · skip
      refine lv_iconst (v := 0) hx hb dX5_duty_44 (by decide) ?_
      rw [if_neg c_12, if_pos c_13] at J_1
      exact J_1
    · skip
      refine lv_iload_n hx hb dX5_duty_19 rfl (lv_at hl 3 rfl) ?_
      refine lv_iconst (v := 1) hx hb dX5_duty_20 (by decide) ?_
      refine lv_bipush (v := 20) hx hb dX5_duty_21 (by decide) ?_
      refine cd_rS (As := [.int k3, .int 1, .int 20]) (rest := []) ⟨hx, hb, hml, hown, hts⟩ (kX5_within l dC dI cI cQ cZ k3 1 20) (va_cwS 3 hts gX5_duty_X5_within rfl rfl rfl (by decide +kernel) ⟨by decide, by decide⟩) hK cd_P0 rfl hl.1 rfl (Nat.le_of_ble_eq_true rfl) dX5_duty_23 ⟨by decide, by decide⟩ ?_
      refine lv_if_eq (tgt := 44) hx hb dX5_duty_26 (by decide) (fun c_14 => ?_) (fun c_14 => ?_)
      · skip
        refine lv_iconst (v := 0) hx hb dX5_duty_44 (by decide) ?_
        rw [if_neg c_12, if_neg c_13, if_pos c_14] at J_1
        exact J_1
      · skip
        refine lv_iload hx hb dX5_duty_29 (lv_at hl 6 rfl) ?_
        refine lv_iconst (v := 0) hx hb dX5_duty_31 (by decide) ?_
        refine lv_bipush (v := 100) hx hb dX5_duty_32 (by decide) ?_
        refine cd_rS (As := [.int k6, .int 0, .int 100]) (rest := []) ⟨hx, hb, hml, hown, hts⟩ (kX5_within l dC dI cI cQ cZ k6 0 100) (va_cwS 3 hts gX5_duty_X5_within rfl rfl rfl (by decide +kernel) ⟨by decide, by decide⟩) hK cd_P0 rfl hl.1 rfl (Nat.le_of_ble_eq_true rfl) dX5_duty_34 ⟨by decide, by decide⟩ ?_
        refine lv_if_eq (tgt := 44) hx hb dX5_duty_37 (by decide) (fun c_15 => ?_) (fun c_15 => ?_)
        · skip
          refine lv_iconst (v := 0) hx hb dX5_duty_44 (by decide) ?_
          rw [if_neg c_12, if_neg c_13, if_neg c_14, if_pos c_15] at J_1
          exact J_1
        · skip
          refine lv_iconst (v := 1) hx hb dX5_duty_40 (by decide) ?_
          refine lv_goto (tgt := 45) hx hb dX5_duty_41 (by decide) ?_
          rw [if_neg c_12, if_neg c_13, if_neg c_14, if_neg c_15] at J_1
          exact J_1
