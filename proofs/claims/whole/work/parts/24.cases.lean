def rX0_isNumber : Room := { frames := 1, cells := 0, slots := 0, locals := 22 }
def sX0_isNumber (nu : Int32) : Int32 := (sX5_within nu 0 149)
set_option maxHeartbeats 4000000 in
set_option maxRecDepth 100000 in
theorem kX0_isNumber (l : Launch) (dC : Nat → ClassId) (dI : Nat → Nat → Nat) (cI cQ cZ : ClassId) (nu : Int32) : Met l yX0_isNumber wsX0_isNumber rX0_isNumber (va_Pc [.int nu] (cd_rp dC dI cI cQ cZ [])) (vp_Si (fun r => r = sX0_isNumber nu)) 0 0 (fun _ => False) := by
  generalize hex : sX0_isNumber nu = ex
  unfold sX0_isNumber at hex
  refine cd_mRz [.int nu] (by decide) rfl (Nat.le_of_ble_eq_true rfl) ?_
  intro Q p e s m args below meth c ls hx hb hml hown hts hret ⟨hK, hP⟩ hl
  have hl : lv_has ls 1 [(0, .int nu)] := hl
  refine lv_iload_n hx hb dX0_isNumber_0 rfl (lv_at hl 0 rfl) ?_
  refine lv_iconst (v := 0) hx hb dX0_isNumber_1 (by decide) ?_
  refine lv_sipush (v := 149) hx hb dX0_isNumber_2 (by decide) ?_
  refine cd_rSN (As := [.int nu, .int 0, .int 149]) (rest := []) ⟨hx, hb, hml, hown, hts⟩ (kX5_within l dC dI cI cQ cZ nu 0 149) ⟨va_cnB 3 hts gX0_isNumber_X5_within_n42 rfl rfl rfl (hK.2.1 (.methodLinkNest RX0 42 yX5_within RX5) (by decide +kernel)) (hts (.initialized RX5) (by decide +kernel)) (by decide +kernel) ⟨by decide, by decide⟩, hts (.static yX5_within) (by decide +kernel), trivial⟩ hK cd_P0 rfl hl.1 rfl (Nat.le_of_ble_eq_true rfl) dX0_isNumber_5 ⟨by decide, by decide⟩ ?_
  subst hex
  exact hret _ _ (nb_within _ _ _) dX0_isNumber_8

def rX0_oddOf : Room := { frames := 0, cells := 0, slots := 0, locals := 0 }
def sX0_oddOf (nu : Int32) : Int32 := (nu - nu / 5 * 5)
set_option maxHeartbeats 4000000 in
set_option maxRecDepth 100000 in
theorem kX0_oddOf (l : Launch) (dC : Nat → ClassId) (dI : Nat → Nat → Nat) (cI cQ cZ : ClassId) (nu : Int32) : Met l yX0_oddOf wsX0_oddOf rX0_oddOf (va_Pc [.int nu] (cd_rp dC dI cI cQ cZ [])) (vp_Si (fun r => r = sX0_oddOf nu)) 0 0 (fun _ => False) := by
  generalize hex : sX0_oddOf nu = ex
  unfold sX0_oddOf at hex
  refine cd_mRi [.int nu] (by decide) rfl (Nat.le_of_ble_eq_true rfl) ?_
  intro Q p e s m args below meth c ls hx hb hml hown hts hret ⟨hK, hP⟩ hl
  have hl : lv_has ls 1 [(0, .int nu)] := hl
  refine lv_iload_n hx hb dX0_oddOf_0 rfl (lv_at hl 0 rfl) ?_
  refine lv_iconst (v := 5) hx hb dX0_oddOf_1 (by decide) ?_
  refine lv_irem hx hb dX0_oddOf_2 (by decide) ?_
  subst hex
  exact hret _ _ dX0_oddOf_3

def rX0_leakOf : Room := { frames := 0, cells := 0, slots := 0, locals := 0 }
def sX0_leakOf (lk : Int32) (nu : Int32) : Int32 := (lk + (nu / 25))
set_option maxHeartbeats 4000000 in
set_option maxRecDepth 100000 in
theorem kX0_leakOf (l : Launch) (dC : Nat → ClassId) (dI : Nat → Nat → Nat) (cI cQ cZ : ClassId) (ad : Nat → Nat) (ag : Nat → Int32) (lo : Nat → Int32) (ch : Nat → Int32) (al : Nat → Int32) (an : Nat) (sh : Nat → Int32) (wa : Nat → Int32) (pl : Int32) (rm : Int32) (lk : Int32) (br : Int32) (row : Nat → Option Nat) (dn : Nat) (dy : Nat → Int32) (lv : Nat → Int32) (od : Nat → Int32) (sn : Nat) (L : List Nat) (pd : Nat → DT) (nu : Int32) : Met l yX0_leakOf wsX0_leakOf rX0_leakOf (va_Pc [.ref (ad 1), .int nu] (cd_rp dC dI cI cQ cZ (wKx cI cQ ad ag lo ch al an sh wa pl rm lk br row dn dy lv od sn ++ dpl L pd))) (vp_Si (fun r => r = sX0_leakOf lk nu)) 0 0 (fun _ => False) := by
  have hiX0 : ∀ w ∈ u_ws RX0 TX0 8, w ∈ wsX0_leakOf := by decide +kernel
  have hiX1 : ∀ w ∈ u_ws RX1 TX1 6, w ∈ wsX0_leakOf := by decide +kernel
  generalize hex : sX0_leakOf lk nu = ex
  unfold sX0_leakOf at hex
  refine cd_mRi [.ref (ad 1), .int nu] (by decide) rfl (Nat.le_of_ble_eq_true rfl) ?_
  intro Q p e s m args below meth c ls hx hb hml hown hts hret ⟨hK, hP⟩ hl
  have hl : lv_has ls 2 [(0, .ref (ad 1)), (1, .int nu)] := hl
  refine lv_aload_n hx hb dX0_leakOf_0 rfl (lv_at hl 0 rfl) ?_
  refine va_get (D := (dC, dI)) (ci := 0) (v := .ref (ad 6)) (C := RX0) (T := TX0) (N := 8) hx hb hts hiX0 hown hK.1 hP 0 rfl rfl 0 (by decide) (hts (.fieldLink RX0 30 "CellDays$Cases" "cell" "LCellDays$Cell;") (by decide +kernel)) (fun _ h9 => h9) rfl dX0_leakOf_1 ?_
  refine va_getN (D := (dC, dI)) (ci := 1) (v := .int lk) (C := RX1) (T := TX1) (N := 6) hx hb hts hiX1 hown hK.1 hP 5 rfl rfl 4 (by decide) (va_Nw.use rfl (hK.2.1 (.fieldLinkNest RX0 46 RX1 "leak" "I" RX5) (by decide +kernel))) (fun _ h9 => h9) rfl dX0_leakOf_4 ?_
  refine lv_iload_n hx hb dX0_leakOf_7 rfl (lv_at hl 1 rfl) ?_
  refine lv_bipush (v := 25) hx hb dX0_leakOf_8 (by decide) ?_
  refine lv_idiv hx hb dX0_leakOf_10 (by decide) ?_
  refine lv_iadd hx hb dX0_leakOf_11 ?_
  subst hex
  exact hret _ _ dX0_leakOf_12

def rX0_loadOfCase : Room := { frames := 3, cells := 0, slots := 0, locals := 70 }
def sX0_loadOfCase (br : Int32) (row : Nat → Option Nat) (dn : Nat) (pd : Nat → DT) (nu : Int32) : Int32 := ((sX2_loadOf row dn pd (sX2_setOfOn row dn pd) (((nu / 5) - (nu / 5) / 5 * 5) + 1) br) + (20 * (sX0_oddOf nu)))
set_option maxHeartbeats 4000000 in
set_option maxRecDepth 100000 in
theorem kX0_loadOfCase (l : Launch) (dC : Nat → ClassId) (dI : Nat → Nat → Nat) (cI cQ cZ : ClassId) (ad : Nat → Nat) (ag : Nat → Int32) (lo : Nat → Int32) (ch : Nat → Int32) (al : Nat → Int32) (an : Nat) (sh : Nat → Int32) (wa : Nat → Int32) (pl : Int32) (rm : Int32) (lk : Int32) (br : Int32) (row : Nat → Option Nat) (dn : Nat) (dy : Nat → Int32) (lv : Nat → Int32) (od : Nat → Int32) (sn : Nat) (L : List Nat) (pd : Nat → DT) (nu : Int32) (hdn : dn ≤ 8) (hrw : ∀ j y, row j = some y → y ∈ L) : Met l yX0_loadOfCase wsX0_loadOfCase rX0_loadOfCase (va_Pc [.ref (ad 1), .int nu] (cd_rp dC dI cI cQ cZ (wKx cI cQ ad ag lo ch al an sh wa pl rm lk br row dn dy lv od sn ++ dpl L pd))) (vp_Si (fun r => r = sX0_loadOfCase br row dn pd nu)) 0 0 (fun _ => False) := by
  have hiX0 : ∀ w ∈ u_ws RX0 TX0 8, w ∈ wsX0_loadOfCase := by decide +kernel
  have hiX1 : ∀ w ∈ u_ws RX1 TX1 6, w ∈ wsX0_loadOfCase := by decide +kernel
  generalize hex : sX0_loadOfCase br row dn pd nu = ex
  unfold sX0_loadOfCase at hex
  refine cd_mRi [.ref (ad 1), .int nu] (by decide) rfl (Nat.le_of_ble_eq_true rfl) ?_
  intro Q p e s m args below meth c ls hx hb hml hown hts hret ⟨hK, hP⟩ hl
  have hl : lv_has ls 3 [(0, .ref (ad 1)), (1, .int nu)] := hl
  refine lv_iload_n hx hb dX0_loadOfCase_0 rfl (lv_at hl 1 rfl) ?_
  refine lv_iconst (v := 5) hx hb dX0_loadOfCase_1 (by decide) ?_
  refine lv_idiv hx hb dX0_loadOfCase_2 (by decide) ?_
  refine lv_iconst (v := 5) hx hb dX0_loadOfCase_3 (by decide) ?_
  refine lv_irem hx hb dX0_loadOfCase_4 (by decide) ?_
  refine lv_iconst (v := 1) hx hb dX0_loadOfCase_5 (by decide) ?_
  refine lv_iadd hx hb dX0_loadOfCase_6 ?_
  refine lv_istore_n (lv' := [(2, .int (((nu / 5) - (nu / 5) / 5 * 5) + 1)), (0, .ref (ad 1)), (1, .int nu)]) hx hb dX0_loadOfCase_7 rfl hl (by decide) rfl (fun ls hl => ?_)
  refine lv_aload_n hx hb dX0_loadOfCase_8 rfl (lv_at hl 1 rfl) ?_
  refine va_get (D := (dC, dI)) (ci := 0) (v := .ref (ad 9)) (C := RX0) (T := TX0) (N := 8) hx hb hts hiX0 hown hK.1 hP 0 rfl rfl 1 (by decide) (hts (.fieldLink RX0 34 "CellDays$Cases" "duties" "LCellDays$Duties;") (by decide +kernel)) (fun _ h9 => h9) rfl dX0_loadOfCase_9 ?_
  refine lv_aload_n hx hb dX0_loadOfCase_12 rfl (lv_at hl 1 rfl) ?_
  refine va_get (D := (dC, dI)) (ci := 0) (v := .ref (ad 9)) (C := RX0) (T := TX0) (N := 8) hx hb hts hiX0 hown hK.1 hP 0 rfl rfl 1 (by decide) (hts (.fieldLink RX0 34 "CellDays$Cases" "duties" "LCellDays$Duties;") (by decide +kernel)) (fun _ h9 => h9) rfl dX0_loadOfCase_13 ?_
  refine cd_rV (As := []) (b := (ad 9)) (ci := 2) (q := (RX2, TX2, 2)) (rest := [.ref (ad 9)]) ⟨hx, hb, hml, hown, hts⟩ (kX2_setOfOn l dC dI cI cQ cZ (ad 9) (ad 10) row dn L pd hdn hrw) (cwV 0 hts gX0_loadOfCase_X2_setOfOn rfl rfl rfl (by decide +kernel) ⟨by decide, by decide⟩) hK (hP.part (cx := wDs cQ (ad 9) (ad 10) row dn) [8, 9] rfl) rfl rfl rfl hl.1 rfl (Nat.le_of_ble_eq_true rfl) dX0_loadOfCase_16 ⟨by decide, by decide⟩ ?_
  refine lv_iload_n hx hb dX0_loadOfCase_19 rfl (lv_at hl 0 rfl) ?_
  refine lv_aload_n hx hb dX0_loadOfCase_20 rfl (lv_at hl 1 rfl) ?_
  refine va_get (D := (dC, dI)) (ci := 0) (v := .ref (ad 6)) (C := RX0) (T := TX0) (N := 8) hx hb hts hiX0 hown hK.1 hP 0 rfl rfl 0 (by decide) (hts (.fieldLink RX0 30 "CellDays$Cases" "cell" "LCellDays$Cell;") (by decide +kernel)) (fun _ h9 => h9) rfl dX0_loadOfCase_21 ?_
  refine va_getN (D := (dC, dI)) (ci := 1) (v := .int br) (C := RX1) (T := TX1) (N := 6) hx hb hts hiX1 hown hK.1 hP 5 rfl rfl 5 (by decide) (va_Nw.use rfl (hK.2.1 (.fieldLinkNest RX0 55 RX1 "bar" "I" RX5) (by decide +kernel))) (fun _ h9 => h9) rfl dX0_loadOfCase_24 ?_
  refine cd_rV (As := [.int (sX2_setOfOn row dn pd), .int (((nu / 5) - (nu / 5) / 5 * 5) + 1), .int br]) (b := (ad 9)) (ci := 2) (q := (RX2, TX2, 2)) (rest := []) ⟨hx, hb, hml, hown, hts⟩ (kX2_loadOf l dC dI cI cQ cZ (ad 9) (ad 10) row dn L pd (sX2_setOfOn row dn pd) (((nu / 5) - (nu / 5) / 5 * 5) + 1) br hdn hrw) (cwV 3 hts gX0_loadOfCase_X2_loadOf rfl rfl rfl (by decide +kernel) ⟨by decide, by decide⟩) hK (hP.part (cx := wDs cQ (ad 9) (ad 10) row dn) [8, 9] rfl) rfl rfl rfl hl.1 rfl (Nat.le_of_ble_eq_true rfl) dX0_loadOfCase_27 ⟨by decide, by decide⟩ ?_
  refine lv_bipush (v := 20) hx hb dX0_loadOfCase_30 (by decide) ?_
  refine lv_iload_n hx hb dX0_loadOfCase_32 rfl (lv_at hl 2 rfl) ?_
  refine cd_rS (As := [.int nu]) (rest := [.int 20, .int (sX2_loadOf row dn pd (sX2_setOfOn row dn pd) (((nu / 5) - (nu / 5) / 5 * 5) + 1) br)]) ⟨hx, hb, hml, hown, hts⟩ (kX0_oddOf l dC dI cI cQ cZ nu) (va_cwS 1 hts gX0_loadOfCase_X0_oddOf rfl rfl rfl (by decide +kernel) ⟨by decide, by decide⟩) hK cd_P0 rfl hl.1 rfl (Nat.le_of_ble_eq_true rfl) dX0_loadOfCase_33 ⟨by decide, by decide⟩ ?_
  refine lv_imul hx hb dX0_loadOfCase_36 ?_
  refine lv_iadd hx hb dX0_loadOfCase_37 ?_
  subst hex
  exact hret _ _ dX0_loadOfCase_38

def rX0_levelAhead : Room := { frames := 4, cells := 0, slots := 0, locals := 93 }
def sX0_levelAhead (sh : Nat → Int32) (wa : Nat → Int32) (pl : Int32) (rm : Int32) (lk : Int32) (br : Int32) (row : Nat → Option Nat) (dn : Nat) (pd : Nat → DT) (nu : Int32) (dd : Int32) : Int32 := (sX1_levelOf rm (sX1_chargeAhead sh wa pl rm dd (sX0_leakOf lk nu) (sX0_loadOfCase br row dn pd nu)))
set_option maxHeartbeats 4000000 in
set_option maxRecDepth 100000 in
theorem kX0_levelAhead (l : Launch) (dC : Nat → ClassId) (dI : Nat → Nat → Nat) (cI cQ cZ : ClassId) (ad : Nat → Nat) (ag : Nat → Int32) (lo : Nat → Int32) (ch : Nat → Int32) (al : Nat → Int32) (an : Nat) (sh : Nat → Int32) (wa : Nat → Int32) (pl : Int32) (rm : Int32) (lk : Int32) (br : Int32) (row : Nat → Option Nat) (dn : Nat) (dy : Nat → Int32) (lv : Nat → Int32) (od : Nat → Int32) (sn : Nat) (L : List Nat) (pd : Nat → DT) (nu : Int32) (dd : Int32) (hdn : dn ≤ 8) (hrw : ∀ j y, row j = some y → y ∈ L) (ht : dd.toInt ≤ 400) : Met l yX0_levelAhead wsX0_levelAhead rX0_levelAhead (va_Pc [.ref (ad 1), .int nu, .int dd] (cd_rp dC dI cI cQ cZ (wKx cI cQ ad ag lo ch al an sh wa pl rm lk br row dn dy lv od sn ++ dpl L pd))) (vp_Si (fun r => r = sX0_levelAhead sh wa pl rm lk br row dn pd nu dd)) 0 0 (fun _ => False) := by
  have hiX0 : ∀ w ∈ u_ws RX0 TX0 8, w ∈ wsX0_levelAhead := by decide +kernel
  generalize hex : sX0_levelAhead sh wa pl rm lk br row dn pd nu dd = ex
  unfold sX0_levelAhead at hex
  refine cd_mRi [.ref (ad 1), .int nu, .int dd] (by decide) rfl (Nat.le_of_ble_eq_true rfl) ?_
  intro Q p e s m args below meth c ls hx hb hml hown hts hret ⟨hK, hP⟩ hl
  have hl : lv_has ls 3 [(0, .ref (ad 1)), (1, .int nu), (2, .int dd)] := hl
  refine lv_aload_n hx hb dX0_levelAhead_0 rfl (lv_at hl 0 rfl) ?_
  refine va_get (D := (dC, dI)) (ci := 0) (v := .ref (ad 6)) (C := RX0) (T := TX0) (N := 8) hx hb hts hiX0 hown hK.1 hP 0 rfl rfl 0 (by decide) (hts (.fieldLink RX0 30 "CellDays$Cases" "cell" "LCellDays$Cell;") (by decide +kernel)) (fun _ h9 => h9) rfl dX0_levelAhead_1 ?_
  refine lv_aload_n hx hb dX0_levelAhead_4 rfl (lv_at hl 0 rfl) ?_
  refine va_get (D := (dC, dI)) (ci := 0) (v := .ref (ad 6)) (C := RX0) (T := TX0) (N := 8) hx hb hts hiX0 hown hK.1 hP 0 rfl rfl 0 (by decide) (hts (.fieldLink RX0 30 "CellDays$Cases" "cell" "LCellDays$Cell;") (by decide +kernel)) (fun _ h9 => h9) rfl dX0_levelAhead_5 ?_
  refine lv_iload_n hx hb dX0_levelAhead_8 rfl (lv_at hl 2 rfl) ?_
  refine lv_aload_n hx hb dX0_levelAhead_9 rfl (lv_at hl 0 rfl) ?_
  refine lv_iload_n hx hb dX0_levelAhead_10 rfl (lv_at hl 1 rfl) ?_
  refine cd_rV (As := [.int nu]) (b := (ad 1)) (ci := 0) (q := (RX0, TX0, 8)) (rest := [.int dd, .ref (ad 6), .ref (ad 6)]) ⟨hx, hb, hml, hown, hts⟩ (kX0_leakOf l dC dI cI cQ cZ ad ag lo ch al an sh wa pl rm lk br row dn dy lv od sn L pd nu) (cwV 1 hts gX0_levelAhead_X0_leakOf rfl rfl rfl (by decide +kernel) ⟨by decide, by decide⟩) hK hP rfl rfl rfl hl.1 rfl (Nat.le_of_ble_eq_true rfl) dX0_levelAhead_11 ⟨by decide, by decide⟩ ?_
  refine lv_aload_n hx hb dX0_levelAhead_14 rfl (lv_at hl 0 rfl) ?_
  refine lv_iload_n hx hb dX0_levelAhead_15 rfl (lv_at hl 1 rfl) ?_
  refine cd_rV (As := [.int nu]) (b := (ad 1)) (ci := 0) (q := (RX0, TX0, 8)) (rest := [.int (sX0_leakOf lk nu), .int dd, .ref (ad 6), .ref (ad 6)]) ⟨hx, hb, hml, hown, hts⟩ (kX0_loadOfCase l dC dI cI cQ cZ ad ag lo ch al an sh wa pl rm lk br row dn dy lv od sn L pd nu hdn hrw) (cwV 1 hts gX0_levelAhead_X0_loadOfCase rfl rfl rfl (by decide +kernel) ⟨by decide, by decide⟩) hK hP rfl rfl rfl hl.1 rfl (Nat.le_of_ble_eq_true rfl) dX0_levelAhead_16 ⟨by decide, by decide⟩ ?_
  refine cd_rV (As := [.int dd, .int (sX0_leakOf lk nu), .int (sX0_loadOfCase br row dn pd nu)]) (b := (ad 6)) (ci := 1) (q := (RX1, TX1, 6)) (rest := [.ref (ad 6)]) ⟨hx, hb, hml, hown, hts⟩ (kX1_chargeAhead l dC dI cI cQ cZ (ad 6) (ad 7) (ad 8) sh wa pl rm lk br dd (sX0_leakOf lk nu) (sX0_loadOfCase br row dn pd nu) ht) (cwV 3 hts gX0_levelAhead_X1_chargeAhead rfl rfl rfl (by decide +kernel) ⟨by decide, by decide⟩) hK (hP.sub (ws' := (wCl cI (ad 6) (ad 7) (ad 8) sh wa pl rm lk br)) [5, 6, 7] rfl) rfl rfl rfl hl.1 rfl (Nat.le_of_ble_eq_true rfl) dX0_levelAhead_19 ⟨by decide, by decide⟩ ?_
  refine cd_rV (As := [.int (sX1_chargeAhead sh wa pl rm dd (sX0_leakOf lk nu) (sX0_loadOfCase br row dn pd nu))]) (b := (ad 6)) (ci := 1) (q := (RX1, TX1, 6)) (rest := []) ⟨hx, hb, hml, hown, hts⟩ (kX1_levelOf l dC dI cI cQ cZ (ad 6) (ad 7) (ad 8) sh wa pl rm lk br (sX1_chargeAhead sh wa pl rm dd (sX0_leakOf lk nu) (sX0_loadOfCase br row dn pd nu))) (cwV 1 hts gX0_levelAhead_X1_levelOf rfl rfl rfl (by decide +kernel) ⟨by decide, by decide⟩) hK (hP.sub (ws' := (wCl cI (ad 6) (ad 7) (ad 8) sh wa pl rm lk br)) [5, 6, 7] rfl) rfl rfl rfl hl.1 rfl (Nat.le_of_ble_eq_true rfl) dX0_levelAhead_22 ⟨by decide, by decide⟩ ?_
  subst hex
  exact hret _ _ dX0_levelAhead_25

theorem at_b {n : Nat} {f : Nat → Int32} {i : Int32} (h : ∀ j, 0 ≤ (f j).toInt ∧ (f j).toInt ≤ 399) : 0 ≤ (sX5_at n f i).toInt ∧ (sX5_at n f i).toInt ≤ 399 := by
  unfold sX5_at
  split
  · decide
  · split
    · decide
    · exact h _
theorem dio_b {dy od : Nat → Int32} {i : Int32} (h : ∀ j, 0 ≤ (dy j).toInt ∧ (dy j).toInt ≤ 399) : 0 ≤ (sX4_dayInOrder dy od i).toInt ∧ (sX4_dayInOrder dy od i).toInt ≤ 399 := at_b h

def rX0_fitsSigns : Room := { frames := 4, cells := 0, slots := 0, locals := 92 }
def sX0_fitsSigns_L27 (sh : Nat → Int32) (wa : Nat → Int32) (pl : Int32) (rm : Int32) (dy : Nat → Int32) (lv : Nat → Int32) (od : Nat → Int32) (sn : Nat) : Nat → Int32 → Int32 → Int32 → Int32 → Nat → Int32
  | 0, le, ldd, lf, dd, k => 0
  | n + 1, le, ldd, lf, dd, k => (if (nI sn) ≤ (nI k) then 1 else (if (sX1_levelOf rm (sX1_chargeFrom sh wa pl lf dd (sX4_dayInOrder dy od (nI k)) le ldd)) = (sX4_levelInOrder lv od (nI k)) then sX0_fitsSigns_L27 sh wa pl rm dy lv od sn n le ldd (sX1_chargeFrom sh wa pl lf dd (sX4_dayInOrder dy od (nI k)) le ldd) (sX4_dayInOrder dy od (nI k)) (k + 1) else 0))
def sX0_fitsSigns (sh : Nat → Int32) (wa : Nat → Int32) (pl : Int32) (rm : Int32) (lk : Int32) (br : Int32) (row : Nat → Option Nat) (dn : Nat) (dy : Nat → Int32) (lv : Nat → Int32) (od : Nat → Int32) (sn : Nat) (pd : Nat → DT) (nu : Int32) : Int32 := sX0_fitsSigns_L27 sh wa pl rm dy lv od sn 13 (sX0_leakOf lk nu) (sX0_loadOfCase br row dn pd nu) (sX1_chargeAtFirst rm) 0 0
set_option maxHeartbeats 4000000 in
set_option maxRecDepth 100000 in
theorem kX0_fitsSigns (l : Launch) (dC : Nat → ClassId) (dI : Nat → Nat → Nat) (cI cQ cZ : ClassId) (ad : Nat → Nat) (ag : Nat → Int32) (lo : Nat → Int32) (ch : Nat → Int32) (al : Nat → Int32) (an : Nat) (sh : Nat → Int32) (wa : Nat → Int32) (pl : Int32) (rm : Int32) (lk : Int32) (br : Int32) (row : Nat → Option Nat) (dn : Nat) (dy : Nat → Int32) (lv : Nat → Int32) (od : Nat → Int32) (sn : Nat) (L : List Nat) (pd : Nat → DT) (nu : Int32) (hdn : dn ≤ 8) (hrw : ∀ j y, row j = some y → y ∈ L) (hsn : sn ≤ 12) (hdy : ∀ j, 0 ≤ (dy j).toInt ∧ (dy j).toInt ≤ 399) : Met l yX0_fitsSigns wsX0_fitsSigns rX0_fitsSigns (va_Pc [.ref (ad 1), .int nu] (cd_rp dC dI cI cQ cZ (wKx cI cQ ad ag lo ch al an sh wa pl rm lk br row dn dy lv od sn ++ dpl L pd))) (vp_Si (fun r => r = sX0_fitsSigns sh wa pl rm lk br row dn dy lv od sn pd nu)) 0 0 (fun _ => False) := by
  have hiX0 : ∀ w ∈ u_ws RX0 TX0 8, w ∈ wsX0_fitsSigns := by decide +kernel
  have hiX4 : ∀ w ∈ u_ws RX4 TX4 4, w ∈ wsX0_fitsSigns := by decide +kernel
  generalize hex : sX0_fitsSigns sh wa pl rm lk br row dn dy lv od sn pd nu = ex
  unfold sX0_fitsSigns at hex
  refine cd_mRz [.ref (ad 1), .int nu] (by decide) rfl (Nat.le_of_ble_eq_true rfl) ?_
  intro Q p e s m args below meth c ls hx hb hml hown hts hret ⟨hK, hP⟩ hl
  have hl : lv_has ls 8 [(0, .ref (ad 1)), (1, .int nu)] := hl
  refine lv_aload_n hx hb dX0_fitsSigns_0 rfl (lv_at hl 0 rfl) ?_
  refine lv_iload_n hx hb dX0_fitsSigns_1 rfl (lv_at hl 1 rfl) ?_
  refine cd_rV (As := [.int nu]) (b := (ad 1)) (ci := 0) (q := (RX0, TX0, 8)) (rest := []) ⟨hx, hb, hml, hown, hts⟩ (kX0_leakOf l dC dI cI cQ cZ ad ag lo ch al an sh wa pl rm lk br row dn dy lv od sn L pd nu) (cwV 1 hts gX0_fitsSigns_X0_leakOf rfl rfl rfl (by decide +kernel) ⟨by decide, by decide⟩) hK hP rfl rfl rfl hl.1 rfl (Nat.le_of_ble_eq_true rfl) dX0_fitsSigns_2 ⟨by decide, by decide⟩ ?_
  refine lv_istore_n (lv' := [(2, .int (sX0_leakOf lk nu)), (0, .ref (ad 1)), (1, .int nu)]) hx hb dX0_fitsSigns_5 rfl hl (by decide) rfl (fun ls hl => ?_)
  refine lv_aload_n hx hb dX0_fitsSigns_6 rfl (lv_at hl 1 rfl) ?_
  refine lv_iload_n hx hb dX0_fitsSigns_7 rfl (lv_at hl 2 rfl) ?_
  refine cd_rV (As := [.int nu]) (b := (ad 1)) (ci := 0) (q := (RX0, TX0, 8)) (rest := []) ⟨hx, hb, hml, hown, hts⟩ (kX0_loadOfCase l dC dI cI cQ cZ ad ag lo ch al an sh wa pl rm lk br row dn dy lv od sn L pd nu hdn hrw) (cwV 1 hts gX0_fitsSigns_X0_loadOfCase rfl rfl rfl (by decide +kernel) ⟨by decide, by decide⟩) hK hP rfl rfl rfl hl.1 rfl (Nat.le_of_ble_eq_true rfl) dX0_fitsSigns_8 ⟨by decide, by decide⟩ ?_
  refine lv_istore_n (lv' := [(3, .int (sX0_loadOfCase br row dn pd nu)), (2, .int (sX0_leakOf lk nu)), (0, .ref (ad 1)), (1, .int nu)]) hx hb dX0_fitsSigns_11 rfl hl (by decide) rfl (fun ls hl => ?_)
  refine lv_aload_n hx hb dX0_fitsSigns_12 rfl (lv_at hl 2 rfl) ?_
  refine va_get (D := (dC, dI)) (ci := 0) (v := .ref (ad 6)) (C := RX0) (T := TX0) (N := 8) hx hb hts hiX0 hown hK.1 hP 0 rfl rfl 0 (by decide) (hts (.fieldLink RX0 30 "CellDays$Cases" "cell" "LCellDays$Cell;") (by decide +kernel)) (fun _ h9 => h9) rfl dX0_fitsSigns_13 ?_
  refine cd_rV (As := []) (b := (ad 6)) (ci := 1) (q := (RX1, TX1, 6)) (rest := []) ⟨hx, hb, hml, hown, hts⟩ (kX1_chargeAtFirst l dC dI cI cQ cZ (ad 6) (ad 7) (ad 8) sh wa pl rm lk br) (cwV 0 hts gX0_fitsSigns_X1_chargeAtFirst rfl rfl rfl (by decide +kernel) ⟨by decide, by decide⟩) hK (hP.sub (ws' := (wCl cI (ad 6) (ad 7) (ad 8) sh wa pl rm lk br)) [5, 6, 7] rfl) rfl rfl rfl hl.1 rfl (Nat.le_of_ble_eq_true rfl) dX0_fitsSigns_16 ⟨by decide, by decide⟩ ?_
  refine lv_istore (lv' := [(4, .int (sX1_chargeAtFirst rm)), (3, .int (sX0_loadOfCase br row dn pd nu)), (2, .int (sX0_leakOf lk nu)), (0, .ref (ad 1)), (1, .int nu)]) hx hb dX0_fitsSigns_19 hl (by decide) rfl (fun ls hl => ?_)
  refine lv_iconst (v := 0) hx hb dX0_fitsSigns_21 (by decide) ?_
  refine lv_istore (lv' := [(5, .int 0), (4, .int (sX1_chargeAtFirst rm)), (3, .int (sX0_loadOfCase br row dn pd nu)), (2, .int (sX0_leakOf lk nu)), (0, .ref (ad 1)), (1, .int nu)]) hx hb dX0_fitsSigns_22 hl (by decide) rfl (fun ls hl => ?_)
  refine lv_iconst (v := 0) hx hb dX0_fitsSigns_24 (by decide) ?_
  refine lv_istore (lv' := [(6, .int 0), (5, .int 0), (4, .int (sX1_chargeAtFirst rm)), (3, .int (sX0_loadOfCase br row dn pd nu)), (2, .int (sX0_leakOf lk nu)), (0, .ref (ad 1)), (1, .int nu)]) hx hb dX0_fitsSigns_25 hl (by decide) rfl (fun ls hl => ?_)
  have L27 : ∀ (n : Nat) (le : Int32) (ldd : Int32) (lf : Int32) (dd : Int32) (k : Nat), (k ≤ 12) → (0 ≤ dd.toInt) → (dd.toInt ≤ 400) → 12 - k < n → sX0_fitsSigns_L27 sh wa pl rm dy lv od sn n le ldd lf dd k = ex → ∀ (ls : Array Slot), lv_has ls 8 [(6, .int (nI k)), (5, .int dd), (4, .int lf), (3, .int ldd), (2, .int le), (0, .ref (ad 1)), (1, .int nu)] → W p l e rX0_fitsSigns s m args below meth c s.heap [] 0 0 Q (F0 m 27 ls []) := by
    intro n
    induction n with
    | zero => intro le ldd lf dd k hk hd0 hd1 hm; exact absurd hm (Nat.not_lt_zero _)
    | succ n ih =>
      intro le ldd lf dd k hk hd0 hd1 hm hex ls hl
      rw [sX0_fitsSigns_L27] at hex
      refine lv_iload hx hb dX0_fitsSigns_27 (lv_at hl 0 rfl) ?_
      refine lv_aload_n hx hb dX0_fitsSigns_29 rfl (lv_at hl 5 rfl) ?_
      refine va_get (D := (dC, dI)) (ci := 0) (v := .ref (ad 11)) (C := RX0) (T := TX0) (N := 8) hx hb hts hiX0 hown hK.1 hP 0 rfl rfl 2 (by decide) (hts (.fieldLink RX0 38 "CellDays$Cases" "signs" "LCellDays$Signs;") (by decide +kernel)) (fun _ h9 => h9) rfl dX0_fitsSigns_30 ?_
      refine va_getN (D := (dC, dI)) (ci := 4) (v := .int (nI sn)) (C := RX4) (T := TX4) (N := 4) hx hb hts hiX4 hown hK.1 hP 10 rfl rfl 3 (by decide) (va_Nw.use rfl (hK.2.1 (.fieldLinkNest RX0 81 RX4 "size" "I" RX5) (by decide +kernel))) (fun _ h9 => h9) rfl dX0_fitsSigns_33 ?_
      refine lv_icmp_ge (tgt := 100) hx hb dX0_fitsSigns_36 (by decide) (fun c_1 => ?_) (fun c_1 => ?_)
      · rw [if_pos c_1] at hex
        try have n_1 : sn ≤ k := (nI_leI (a := sn) (b := k) (by omega) (by omega)).mp c_1
        refine lv_iconst (v := 1) hx hb dX0_fitsSigns_100 (by decide) ?_
        subst hex
        exact hret _ _ rfl dX0_fitsSigns_101
      · rw [if_neg c_1] at hex
        try have n_1 : ¬ sn ≤ k := fun h9 => c_1 ((nI_leI (a := sn) (b := k) (by omega) (by omega)).mpr h9)
        refine lv_aload_n hx hb dX0_fitsSigns_39 rfl (lv_at hl 5 rfl) ?_
        refine va_get (D := (dC, dI)) (ci := 0) (v := .ref (ad 11)) (C := RX0) (T := TX0) (N := 8) hx hb hts hiX0 hown hK.1 hP 0 rfl rfl 2 (by decide) (hts (.fieldLink RX0 38 "CellDays$Cases" "signs" "LCellDays$Signs;") (by decide +kernel)) (fun _ h9 => h9) rfl dX0_fitsSigns_40 ?_
        refine lv_iload hx hb dX0_fitsSigns_43 (lv_at hl 0 rfl) ?_
        refine cd_rV (As := [.int (nI k)]) (b := (ad 11)) (ci := 4) (q := (RX4, TX4, 4)) (rest := []) ⟨hx, hb, hml, hown, hts⟩ (kX4_dayInOrder l dC dI cI cQ cZ (ad 11) (ad 12) (ad 13) (ad 14) dy lv od sn (nI k)) (cwV 1 hts gX0_fitsSigns_X4_dayInOrder rfl rfl rfl (by decide +kernel) ⟨by decide, by decide⟩) hK (hP.sub (ws' := (wSg cI (ad 11) (ad 12) (ad 13) (ad 14) dy lv od sn)) [10, 11, 12, 13] rfl) rfl rfl rfl hl.1 rfl (Nat.le_of_ble_eq_true rfl) dX0_fitsSigns_45 ⟨by decide, by decide⟩ ?_
        refine lv_istore (lv' := [(7, .int (sX4_dayInOrder dy od (nI k))), (6, .int (nI k)), (5, .int dd), (4, .int lf), (3, .int ldd), (2, .int le), (0, .ref (ad 1)), (1, .int nu)]) hx hb dX0_fitsSigns_48 hl (by decide) rfl (fun ls hl => ?_)
        refine lv_aload_n hx hb dX0_fitsSigns_50 rfl (lv_at hl 6 rfl) ?_
        refine va_get (D := (dC, dI)) (ci := 0) (v := .ref (ad 6)) (C := RX0) (T := TX0) (N := 8) hx hb hts hiX0 hown hK.1 hP 0 rfl rfl 0 (by decide) (hts (.fieldLink RX0 30 "CellDays$Cases" "cell" "LCellDays$Cell;") (by decide +kernel)) (fun _ h9 => h9) rfl dX0_fitsSigns_51 ?_
        refine lv_iload hx hb dX0_fitsSigns_54 (lv_at hl 3 rfl) ?_
        refine lv_iload hx hb dX0_fitsSigns_56 (lv_at hl 2 rfl) ?_
        refine lv_iload hx hb dX0_fitsSigns_58 (lv_at hl 0 rfl) ?_
        refine lv_iload_n hx hb dX0_fitsSigns_60 rfl (lv_at hl 5 rfl) ?_
        refine lv_iload_n hx hb dX0_fitsSigns_61 rfl (lv_at hl 4 rfl) ?_
        refine cd_rV (As := [.int lf, .int dd, .int (sX4_dayInOrder dy od (nI k)), .int le, .int ldd]) (b := (ad 6)) (ci := 1) (q := (RX1, TX1, 6)) (rest := []) ⟨hx, hb, hml, hown, hts⟩ (kX1_chargeFrom l dC dI cI cQ cZ (ad 6) (ad 7) (ad 8) sh wa pl rm lk br lf dd (sX4_dayInOrder dy od (nI k)) le ldd hd0 hd1 (by have := (dio_b (od := od) (i := nI k) hdy).2; omega)) (cwV 5 hts gX0_fitsSigns_X1_chargeFrom rfl rfl rfl (by decide +kernel) ⟨by decide, by decide⟩) hK (hP.sub (ws' := (wCl cI (ad 6) (ad 7) (ad 8) sh wa pl rm lk br)) [5, 6, 7] rfl) rfl rfl rfl hl.1 rfl (Nat.le_of_ble_eq_true rfl) dX0_fitsSigns_62 ⟨by decide, by decide⟩ ?_
        refine lv_istore (lv' := [(4, .int (sX1_chargeFrom sh wa pl lf dd (sX4_dayInOrder dy od (nI k)) le ldd)), (7, .int (sX4_dayInOrder dy od (nI k))), (6, .int (nI k)), (5, .int dd), (3, .int ldd), (2, .int le), (0, .ref (ad 1)), (1, .int nu)]) hx hb dX0_fitsSigns_65 hl (by decide) rfl (fun ls hl => ?_)
        refine lv_iload hx hb dX0_fitsSigns_67 (lv_at hl 1 rfl) ?_
        refine lv_istore (lv' := [(5, .int (sX4_dayInOrder dy od (nI k))), (4, .int (sX1_chargeFrom sh wa pl lf dd (sX4_dayInOrder dy od (nI k)) le ldd)), (7, .int (sX4_dayInOrder dy od (nI k))), (6, .int (nI k)), (3, .int ldd), (2, .int le), (0, .ref (ad 1)), (1, .int nu)]) hx hb dX0_fitsSigns_69 hl (by decide) rfl (fun ls hl => ?_)
        refine lv_aload_n hx hb dX0_fitsSigns_71 rfl (lv_at hl 6 rfl) ?_
        refine va_get (D := (dC, dI)) (ci := 0) (v := .ref (ad 6)) (C := RX0) (T := TX0) (N := 8) hx hb hts hiX0 hown hK.1 hP 0 rfl rfl 0 (by decide) (hts (.fieldLink RX0 30 "CellDays$Cases" "cell" "LCellDays$Cell;") (by decide +kernel)) (fun _ h9 => h9) rfl dX0_fitsSigns_72 ?_
        refine lv_iload hx hb dX0_fitsSigns_75 (lv_at hl 1 rfl) ?_
        refine cd_rV (As := [.int (sX1_chargeFrom sh wa pl lf dd (sX4_dayInOrder dy od (nI k)) le ldd)]) (b := (ad 6)) (ci := 1) (q := (RX1, TX1, 6)) (rest := []) ⟨hx, hb, hml, hown, hts⟩ (kX1_levelOf l dC dI cI cQ cZ (ad 6) (ad 7) (ad 8) sh wa pl rm lk br (sX1_chargeFrom sh wa pl lf dd (sX4_dayInOrder dy od (nI k)) le ldd)) (cwV 1 hts gX0_fitsSigns_X1_levelOf rfl rfl rfl (by decide +kernel) ⟨by decide, by decide⟩) hK (hP.sub (ws' := (wCl cI (ad 6) (ad 7) (ad 8) sh wa pl rm lk br)) [5, 6, 7] rfl) rfl rfl rfl hl.1 rfl (Nat.le_of_ble_eq_true rfl) dX0_fitsSigns_77 ⟨by decide, by decide⟩ ?_
        refine lv_aload_n hx hb dX0_fitsSigns_80 rfl (lv_at hl 6 rfl) ?_
        refine va_get (D := (dC, dI)) (ci := 0) (v := .ref (ad 11)) (C := RX0) (T := TX0) (N := 8) hx hb hts hiX0 hown hK.1 hP 0 rfl rfl 2 (by decide) (hts (.fieldLink RX0 38 "CellDays$Cases" "signs" "LCellDays$Signs;") (by decide +kernel)) (fun _ h9 => h9) rfl dX0_fitsSigns_81 ?_
        refine lv_iload hx hb dX0_fitsSigns_84 (lv_at hl 3 rfl) ?_
        refine cd_rV (As := [.int (nI k)]) (b := (ad 11)) (ci := 4) (q := (RX4, TX4, 4)) (rest := [.int (sX1_levelOf rm (sX1_chargeFrom sh wa pl lf dd (sX4_dayInOrder dy od (nI k)) le ldd))]) ⟨hx, hb, hml, hown, hts⟩ (kX4_levelInOrder l dC dI cI cQ cZ (ad 11) (ad 12) (ad 13) (ad 14) dy lv od sn (nI k)) (cwV 1 hts gX0_fitsSigns_X4_levelInOrder rfl rfl rfl (by decide +kernel) ⟨by decide, by decide⟩) hK (hP.sub (ws' := (wSg cI (ad 11) (ad 12) (ad 13) (ad 14) dy lv od sn)) [10, 11, 12, 13] rfl) rfl rfl rfl hl.1 rfl (Nat.le_of_ble_eq_true rfl) dX0_fitsSigns_86 ⟨by decide, by decide⟩ ?_
        refine lv_icmp_eq (tgt := 94) hx hb dX0_fitsSigns_89 (by decide) (fun c_2 => ?_) (fun c_2 => ?_)
        · rw [if_pos c_2] at hex
          refine lv_iinc (v := nI (k + 1)) (lv' := [(6, .int (nI (k + 1))), (5, .int (sX4_dayInOrder dy od (nI k))), (4, .int (sX1_chargeFrom sh wa pl lf dd (sX4_dayInOrder dy od (nI k)) le ldd)), (7, .int (sX4_dayInOrder dy od (nI k))), (3, .int ldd), (2, .int le), (0, .ref (ad 1)), (1, .int nu)]) hx hb dX0_fitsSigns_94 hl (k := 3) rfl (nI_1 k) (by decide) rfl (fun ls hl => ?_)
          refine lv_goto (tgt := 27) hx hb dX0_fitsSigns_97 (by decide) ?_
          exact ih le ldd (sX1_chargeFrom sh wa pl lf dd (sX4_dayInOrder dy od (nI k)) le ldd) (sX4_dayInOrder dy od (nI k)) (k + 1) (by omega) ((dio_b hdy).1) (by have := (dio_b (od := od) (i := nI k) hdy).2; omega) (by omega) hex _ (lv_sub hl [0, 1, 2, 4, 5, 6, 7] rfl)
        · rw [if_neg c_2] at hex
          refine lv_iconst (v := 0) hx hb dX0_fitsSigns_92 (by decide) ?_
          subst hex
          exact hret _ _ rfl dX0_fitsSigns_93
  exact L27 13 (sX0_leakOf lk nu) (sX0_loadOfCase br row dn pd nu) (sX1_chargeAtFirst rm) 0 0 (by decide) (by decide) (by decide) (by decide) hex _ (lv_sub hl [0, 1, 2, 3, 4, 5, 6] rfl)

def rX0_gatherAgreeing : Room := { frames := 5, cells := 0, slots := 0, locals := 119 }
def sX0_gatherAgreeing_L7 (sh : Nat → Int32) (wa : Nat → Int32) (pl : Int32) (rm : Int32) (lk : Int32) (br : Int32) (row : Nat → Option Nat) (dn : Nat) (dy : Nat → Int32) (lv : Nat → Int32) (od : Nat → Int32) (sn : Nat) (pd : Nat → DT) : Nat → Nat → (Nat → Int32) → Nat → (Nat → Int32) × (Nat)
  | 0, k, agv, anv => ((fun _ => 0), 0)
  | n + 1, k, agv, anv => (if 150 ≤ (nI k) then (agv, anv) else (if (sX0_fitsSigns sh wa pl rm lk br row dn dy lv od sn pd (nI k)) = 0 then sX0_gatherAgreeing_L7 sh wa pl rm lk br row dn dy lv od sn pd n (k + 1) agv anv else sX0_gatherAgreeing_L7 sh wa pl rm lk br row dn dy lv od sn pd n (k + 1) (sX5_put 150 agv (nI anv) (nI k)) (anv + 1)))
def sX0_gatherAgreeing (ag : Nat → Int32) (sh : Nat → Int32) (wa : Nat → Int32) (pl : Int32) (rm : Int32) (lk : Int32) (br : Int32) (row : Nat → Option Nat) (dn : Nat) (dy : Nat → Int32) (lv : Nat → Int32) (od : Nat → Int32) (sn : Nat) (pd : Nat → DT) : (Nat → Int32) × (Nat) := sX0_gatherAgreeing_L7 sh wa pl rm lk br row dn dy lv od sn pd 151 0 ag 0
set_option maxHeartbeats 4000000 in
set_option maxRecDepth 100000 in
theorem kX0_gatherAgreeing (l : Launch) (dC : Nat → ClassId) (dI : Nat → Nat → Nat) (cI cQ cZ : ClassId) (ad : Nat → Nat) (ag : Nat → Int32) (lo : Nat → Int32) (ch : Nat → Int32) (al : Nat → Int32) (an : Nat) (sh : Nat → Int32) (wa : Nat → Int32) (pl : Int32) (rm : Int32) (lk : Int32) (br : Int32) (row : Nat → Option Nat) (dn : Nat) (dy : Nat → Int32) (lv : Nat → Int32) (od : Nat → Int32) (sn : Nat) (L : List Nat) (pd : Nat → DT) (sz : Nat) (hdn : dn ≤ 8) (hrw : ∀ j y, row j = some y → y ∈ L) (hsn : sn ≤ 12) (hdy : ∀ j, 0 ≤ (dy j).toInt ∧ (dy j).toInt ≤ 399) : Met l yX0_gatherAgreeing wsX0_gatherAgreeing rX0_gatherAgreeing (va_Pc [.ref (ad 1)] (cd_pre dC dI cI cQ cZ (wKx cI cQ ad ag lo ch al an sh wa pl rm lk br row dn dy lv od sn ++ dpl L pd) sz)) (va_Qv (fun _ => True) (cd_post dC dI (wKx cI cQ ad ag lo ch al an sh wa pl rm lk br row dn dy lv od sn ++ dpl L pd) (wKx cI cQ ad ((sX0_gatherAgreeing ag sh wa pl rm lk br row dn dy lv od sn pd).1) lo ch al ((sX0_gatherAgreeing ag sh wa pl rm lk br row dn dy lv od sn pd).2) sh wa pl rm lk br row dn dy lv od sn ++ dpl L pd) sz) (va_A (wKx cI cQ ad ag lo ch al an sh wa pl rm lk br row dn dy lv od sn ++ dpl L pd) sz)) 0 0 (va_A (wKx cI cQ ad ag lo ch al an sh wa pl rm lk br row dn dy lv od sn ++ dpl L pd) sz) := by
  have hiX0 : ∀ w ∈ u_ws RX0 TX0 8, w ∈ wsX0_gatherAgreeing := by decide +kernel
  generalize hex : sX0_gatherAgreeing ag sh wa pl rm lk br row dn dy lv od sn pd = ex
  unfold sX0_gatherAgreeing at hex
  refine cd_mMv [.ref (ad 1)] (by decide) rfl (Nat.le_of_ble_eq_true rfl) ?_
  intro Q A p e s m args below meth c ls hx hb hml hown hts hA hinit hret hK hP hD hS hl
  have hl : lv_has ls 2 [(0, .ref (ad 1))] := hl
  refine lv_aload_n hx hb dX0_gatherAgreeing_0 rfl (lv_at hl 0 rfl) ?_
  refine lv_iconst (v := 0) hx hb dX0_gatherAgreeing_1 (by decide) ?_
  refine va_put (D := (dC, dI)) (ci := 0) (v := .int 0) (ty := .int) (C := RX0) (T := TX0) (N := 8) hx hb hts hiX0 tyX0 tyX0_ok nmX0 hown hK.1 hP hD hS 0 rfl rfl 7 (by decide) (hts (.fieldLink RX0 26 "CellDays$Cases" "agreed" "I") (by decide +kernel)) (fun _ h9 => h9) rfl (by decide +kernel) (rfl) (rfl) (Nat.le_of_ble_eq_true rfl) dX0_gatherAgreeing_2 (fun H locs hP hD hS => ?_)
  have hP : va_P (dC, dI) vwCl (wKx cI cQ ad ag lo ch al 0 sh wa pl rm lk br row dn dy lv od sn ++ dpl L pd) H := hP
  have hD : va_D A (wKx cI cQ ad ag lo ch al 0 sh wa pl rm lk br row dn dy lv od sn ++ dpl L pd) := hD
  refine lv_iconst (v := 0) hx hb dX0_gatherAgreeing_5 (by decide) ?_
  refine lv_istore_n (lv' := [(1, .int 0), (0, .ref (ad 1))]) hx hb dX0_gatherAgreeing_6 rfl hl (by decide) rfl (fun ls hl => ?_)
  have L7 : ∀ (n : Nat) (k : Nat) (agv : Nat → Int32) (anv : Nat), (k ≤ 150) → 150 - k < n → sX0_gatherAgreeing_L7 sh wa pl rm lk br row dn dy lv od sn pd n k agv anv = ex → ∀ (ls : Array Slot) (H : Heap) (locs : List Loc), lv_has ls 2 [(1, .int (nI k)), (0, .ref (ad 1))] → va_P (dC, dI) vwCl (wKx cI cQ ad agv lo ch al anv sh wa pl rm lk br row dn dy lv od sn ++ dpl L pd) H → va_D A (wKx cI cQ ad agv lo ch al anv sh wa pl rm lk br row dn dy lv od sn ++ dpl L pd) → va_S A s.heap H locs → W p l e rX0_gatherAgreeing s m args below meth c H locs 0 0 Q (F0 m 7 ls []) := by
    intro n
    induction n with
    | zero => intro k agv anv hk hm; exact absurd hm (Nat.not_lt_zero _)
    | succ n ih =>
      intro k agv anv hk hm hex ls H locs hl hP hD hS
      rw [sX0_gatherAgreeing_L7] at hex
      refine lv_iload_n hx hb dX0_gatherAgreeing_7 rfl (lv_at hl 0 rfl) ?_
      refine lv_sipush (v := 150) hx hb dX0_gatherAgreeing_8 (by decide) ?_
      refine lv_icmp_ge (tgt := 50) hx hb dX0_gatherAgreeing_11 (by decide) (fun c_1 => ?_) (fun c_1 => ?_)
      · rw [if_pos c_1] at hex
        try have n_1 : 150 ≤ k := (nI_leI (a := 150) (b := k) (by omega) (by omega)).mp c_1
        subst hex
        exact hret _ _ _ _ dX0_gatherAgreeing_50 hP hD hS
      · rw [if_neg c_1] at hex
        try have n_1 : ¬ 150 ≤ k := fun h9 => c_1 ((nI_leI (a := 150) (b := k) (by omega) (by omega)).mpr h9)
        refine lv_aload_n hx hb dX0_gatherAgreeing_14 rfl (lv_at hl 1 rfl) ?_
        refine lv_iload_n hx hb dX0_gatherAgreeing_15 rfl (lv_at hl 0 rfl) ?_
        refine cd_rV (As := [.int (nI k)]) (b := (ad 1)) (ci := 0) (q := (RX0, TX0, 8)) (rest := []) ⟨hx, hb, hml, hown, hts⟩ (kX0_fitsSigns l dC dI cI cQ cZ ad agv lo ch al anv sh wa pl rm lk br row dn dy lv od sn L pd (nI k) hdn hrw hsn hdy) (cwV 1 hts gX0_gatherAgreeing_X0_fitsSigns rfl rfl rfl (by decide +kernel) ⟨by decide, by decide⟩) hK hP rfl rfl rfl hl.1 rfl (Nat.le_of_ble_eq_true rfl) dX0_gatherAgreeing_16 ⟨by decide, by decide⟩ ?_
        refine lv_if_eq (tgt := 44) hx hb dX0_gatherAgreeing_19 (by decide) (fun c_2 => ?_) (fun c_2 => ?_)
        · rw [if_pos c_2] at hex
          refine lv_iinc (v := nI (k + 1)) (lv' := [(1, .int (nI (k + 1))), (0, .ref (ad 1))]) hx hb dX0_gatherAgreeing_44 hl (k := 0) rfl (nI_1 k) (by decide) rfl (fun ls hl => ?_)
          refine lv_goto (tgt := 7) hx hb dX0_gatherAgreeing_47 (by decide) ?_
          exact ih (k + 1) agv anv (by omega) (by omega) hex _ _ _ (lv_sub hl [0, 1] rfl) hP hD hS
        · rw [if_neg c_2] at hex
          refine lv_aload_n hx hb dX0_gatherAgreeing_22 rfl (lv_at hl 1 rfl) ?_
          refine va_get (D := (dC, dI)) (ci := 0) (v := .ref (ad 2)) (C := RX0) (T := TX0) (N := 8) hx hb hts hiX0 hown hK.1 hP 0 rfl rfl 3 (by decide) (hts (.fieldLink RX0 11 "CellDays$Cases" "agreeing" "[I") (by decide +kernel)) (fun _ h9 => h9) rfl dX0_gatherAgreeing_23 ?_
          refine lv_aload_n hx hb dX0_gatherAgreeing_26 rfl (lv_at hl 1 rfl) ?_
          refine va_get (D := (dC, dI)) (ci := 0) (v := .int (nI anv)) (C := RX0) (T := TX0) (N := 8) hx hb hts hiX0 hown hK.1 hP 0 rfl rfl 7 (by decide) (hts (.fieldLink RX0 26 "CellDays$Cases" "agreed" "I") (by decide +kernel)) (fun _ h9 => h9) rfl dX0_gatherAgreeing_27 ?_
          refine lv_iload_n hx hb dX0_gatherAgreeing_30 rfl (lv_at hl 0 rfl) ?_
          have hDc : va_D A (wAr cI (ad 2) 150 agv) := (hD.sub (ws' := (wAr cI (ad 2) 150 agv)) [1] (by decide) rfl)
          have hFc := cd_F hDc hS hA
          refine cd_wSv (As := [.ref (ad 2), .int (nI anv), .int (nI k)]) (rest := []) ⟨hx, hb, hml, hown, hts⟩ (kX5_put l dC dI cI cQ cZ (ad 2) 150 agv (nI anv) (nI k) H.size (by decide)) ⟨va_cnB 3 hts gX0_gatherAgreeing_X5_put_n100 rfl rfl rfl (hK.2.1 (.methodLinkNest RX0 100 yX5_put RX5) (by decide +kernel)) (hts (.initialized RX5) (by decide +kernel)) (by decide +kernel) ⟨by decide, by decide⟩, hts (.static yX5_put) (by decide +kernel), trivial⟩ hK (hP.sub (ws' := (wAr cI (ad 2) 150 agv)) [1] rfl) hDc hFc hS rfl hl.1 rfl (Nat.le_of_ble_eq_true rfl) dX0_gatherAgreeing_31 ⟨by decide, by decide⟩ (fun H1 locs hP1 hD1 hk1 hS => ?_)
          obtain ⟨hP, hD⟩ := va_joinQ (X := wKx cI cQ ad agv lo ch al anv sh wa pl rm lk br row dn dy lv od sn) (cx := (wAr cI (ad 2) 150 agv)) (wr := [(ad 1, .inr (0, [.ref (ad 6), .ref (ad 9), .ref (ad 11), .ref (ad 2), .ref (ad 3), .ref (ad 4), .ref (ad 5), .int (nI anv)])), (ad 3, .inl (cI, 150, .inl lo)), (ad 4, .inl (cI, 150, .inl ch)), (ad 5, .inl (cI, 10, .inl al)), (ad 6, .inr (1, [.ref (ad 7), .ref (ad 8), .int pl, .int rm, .int lk, .int br])), (ad 7, .inl (cI, 3, .inl sh)), (ad 8, .inl (cI, 12, .inl wa)), (ad 9, .inr (2, [.ref (ad 10), .int (nI dn)])), (ad 10, .inl (cQ, 8, .inr (.inr (.inr (.inr row))))), (ad 11, .inr (4, [.ref (ad 12), .ref (ad 13), .ref (ad 14), .int (nI sn)])), (ad 12, .inl (cI, 12, .inl dy)), (ad 13, .inl (cI, 12, .inl lv)), (ad 14, .inl (cI, 12, .inl od))]) (w1 := (wAr cI (ad 2) 150 (sX5_put 150 agv (nI anv) (nI k)))) hP hD [1] [0, 2, 3, 4, 5, 6, 7, 8, 9, 10, 11, 12, 13] rfl rfl (by decide) (by decide) hk1 hFc hP1 hD1
          have hP := hP.part (cx := wKx cI cQ ad (sX5_put 150 agv (nI anv) (nI k)) lo ch al anv sh wa pl rm lk br row dn dy lv od sn) [0, 13, 1, 2, 3, 4, 5, 6, 7, 8, 9, 10, 11, 12] rfl
          have hD := hD.part (cx := wKx cI cQ ad (sX5_put 150 agv (nI anv) (nI k)) lo ch al anv sh wa pl rm lk br row dn dy lv od sn) [0, 13, 1, 2, 3, 4, 5, 6, 7, 8, 9, 10, 11, 12] (by decide) rfl
          generalize H1 = H at hP hS ⊢
          have hP : va_P (dC, dI) vwCl (wKx cI cQ ad (sX5_put 150 agv (nI anv) (nI k)) lo ch al anv sh wa pl rm lk br row dn dy lv od sn ++ dpl L pd) H := hP
          have hD : va_D A (wKx cI cQ ad (sX5_put 150 agv (nI anv) (nI k)) lo ch al anv sh wa pl rm lk br row dn dy lv od sn ++ dpl L pd) := hD
          refine lv_aload_n hx hb dX0_gatherAgreeing_34 rfl (lv_at hl 1 rfl) ?_
          refine lv_dup hx hb dX0_gatherAgreeing_35 rfl ?_
          refine va_get (D := (dC, dI)) (ci := 0) (v := .int (nI anv)) (C := RX0) (T := TX0) (N := 8) hx hb hts hiX0 hown hK.1 hP 0 rfl rfl 7 (by decide) (hts (.fieldLink RX0 26 "CellDays$Cases" "agreed" "I") (by decide +kernel)) (fun _ h9 => h9) rfl dX0_gatherAgreeing_36 ?_
          refine lv_iconst (v := 1) hx hb dX0_gatherAgreeing_39 (by decide) ?_
          refine lv_iadd hx hb dX0_gatherAgreeing_40 ?_
          refine W.eq (g2 := F0 m 41 ls [.int (nI (anv + 1)), .ref (ad 1)]) (by rw [nI_1]) ?_
          refine va_put (D := (dC, dI)) (ci := 0) (v := .int (nI (anv + 1))) (ty := .int) (C := RX0) (T := TX0) (N := 8) hx hb hts hiX0 tyX0 tyX0_ok nmX0 hown hK.1 hP hD hS 0 rfl rfl 7 (by decide) (hts (.fieldLink RX0 26 "CellDays$Cases" "agreed" "I") (by decide +kernel)) (fun _ h9 => h9) rfl (by decide +kernel) (rfl) (rfl) (Nat.le_of_ble_eq_true rfl) dX0_gatherAgreeing_41 (fun H locs hP hD hS => ?_)
          have hP : va_P (dC, dI) vwCl (wKx cI cQ ad (sX5_put 150 agv (nI anv) (nI k)) lo ch al (anv + 1) sh wa pl rm lk br row dn dy lv od sn ++ dpl L pd) H := hP
          have hD : va_D A (wKx cI cQ ad (sX5_put 150 agv (nI anv) (nI k)) lo ch al (anv + 1) sh wa pl rm lk br row dn dy lv od sn ++ dpl L pd) := hD
          refine lv_iinc (v := nI (k + 1)) (lv' := [(1, .int (nI (k + 1))), (0, .ref (ad 1))]) hx hb dX0_gatherAgreeing_44 hl (k := 0) rfl (nI_1 k) (by decide) rfl (fun ls hl => ?_)
          refine lv_goto (tgt := 7) hx hb dX0_gatherAgreeing_47 (by decide) ?_
          exact ih (k + 1) (sX5_put 150 agv (nI anv) (nI k)) (anv + 1) (by omega) (by omega) hex _ _ _ (lv_sub hl [0, 1] rfl) hP hD hS
  exact L7 151 0 ag 0 (by decide) (by decide) hex _ _ _ (lv_sub hl [0, 1] rfl) hP hD hS

def rX0_leastAgreeing : Room := { frames := 1, cells := 0, slots := 0, locals := 21 }
def sX0_leastAgreeing (ag : Nat → Int32) (an : Nat) : Int32 := (if (nI an) ≤ 0 then (-9) else (sX5_at 150 ag 0))
set_option maxHeartbeats 4000000 in
set_option maxRecDepth 100000 in
theorem kX0_leastAgreeing (l : Launch) (dC : Nat → ClassId) (dI : Nat → Nat → Nat) (cI cQ cZ : ClassId) (ad : Nat → Nat) (ag : Nat → Int32) (lo : Nat → Int32) (ch : Nat → Int32) (al : Nat → Int32) (an : Nat) (sh : Nat → Int32) (wa : Nat → Int32) (pl : Int32) (rm : Int32) (lk : Int32) (br : Int32) (row : Nat → Option Nat) (dn : Nat) (dy : Nat → Int32) (lv : Nat → Int32) (od : Nat → Int32) (sn : Nat) (L : List Nat) (pd : Nat → DT) : Met l yX0_leastAgreeing wsX0_leastAgreeing rX0_leastAgreeing (va_Pc [.ref (ad 1)] (cd_rp dC dI cI cQ cZ (wKx cI cQ ad ag lo ch al an sh wa pl rm lk br row dn dy lv od sn ++ dpl L pd))) (vp_Si (fun r => r = sX0_leastAgreeing ag an)) 0 0 (fun _ => False) := by
  have hiX0 : ∀ w ∈ u_ws RX0 TX0 8, w ∈ wsX0_leastAgreeing := by decide +kernel
  generalize hex : sX0_leastAgreeing ag an = ex
  unfold sX0_leastAgreeing at hex
  refine cd_mRi [.ref (ad 1)] (by decide) rfl (Nat.le_of_ble_eq_true rfl) ?_
  intro Q p e s m args below meth c ls hx hb hml hown hts hret ⟨hK, hP⟩ hl
  have hl : lv_has ls 1 [(0, .ref (ad 1))] := hl
  refine lv_aload_n hx hb dX0_leastAgreeing_0 rfl (lv_at hl 0 rfl) ?_
  refine va_get (D := (dC, dI)) (ci := 0) (v := .int (nI an)) (C := RX0) (T := TX0) (N := 8) hx hb hts hiX0 hown hK.1 hP 0 rfl rfl 7 (by decide) (hts (.fieldLink RX0 26 "CellDays$Cases" "agreed" "I") (by decide +kernel)) (fun _ h9 => h9) rfl dX0_leastAgreeing_1 ?_
  refine lv_if_le (tgt := 18) hx hb dX0_leastAgreeing_4 (by decide) (fun c_1 => ?_) (fun c_1 => ?_)
  · rw [if_pos c_1] at hex
    try have n_1 : an ≤ 0 := (nI_leI (a := an) (b := 0) (by omega) (by omega)).mp c_1
    refine lv_bipush (v := (-9)) hx hb dX0_leastAgreeing_18 (by decide) ?_
    subst hex
    exact hret _ _ dX0_leastAgreeing_20
  · rw [if_neg c_1] at hex
    try have n_1 : ¬ an ≤ 0 := fun h9 => c_1 ((nI_leI (a := an) (b := 0) (by omega) (by omega)).mpr h9)
    refine lv_aload_n hx hb dX0_leastAgreeing_7 rfl (lv_at hl 0 rfl) ?_
    refine va_get (D := (dC, dI)) (ci := 0) (v := .ref (ad 2)) (C := RX0) (T := TX0) (N := 8) hx hb hts hiX0 hown hK.1 hP 0 rfl rfl 3 (by decide) (hts (.fieldLink RX0 11 "CellDays$Cases" "agreeing" "[I") (by decide +kernel)) (fun _ h9 => h9) rfl dX0_leastAgreeing_8 ?_
    refine lv_iconst (v := 0) hx hb dX0_leastAgreeing_11 (by decide) ?_
    refine cd_rSN (As := [.ref (ad 2), .int 0]) (rest := []) ⟨hx, hb, hml, hown, hts⟩ (kX5_at l dC dI cI cQ cZ (ad 2) 150 ag 0 (by decide)) ⟨va_cnB 2 hts gX0_leastAgreeing_X5_at_n104 rfl rfl rfl (hK.2.1 (.methodLinkNest RX0 104 yX5_at RX5) (by decide +kernel)) (hts (.initialized RX5) (by decide +kernel)) (by decide +kernel) ⟨by decide, by decide⟩, hts (.static yX5_at) (by decide +kernel), trivial⟩ hK (hP.sub (ws' := (wAr cI (ad 2) 150 ag)) [1] rfl) rfl hl.1 rfl (Nat.le_of_ble_eq_true rfl) dX0_leastAgreeing_12 ⟨by decide, by decide⟩ ?_
    refine lv_goto (tgt := 20) hx hb dX0_leastAgreeing_15 (by decide) ?_
    subst hex
    exact hret _ _ dX0_leastAgreeing_20

def rX0_isOdd : Room := { frames := 1, cells := 0, slots := 0, locals := 21 }
def sX0_isOdd_L2 (ag : Nat → Int32) (an : Nat) : Nat → Nat → Int32
  | 0, k => 0
  | n + 1, k => (if (nI an) ≤ (nI k) then (if (nI an) ≤ 0 then 0 else 1) else (if (sX0_oddOf (sX5_at 150 ag (nI k))) = 0 then 0 else sX0_isOdd_L2 ag an n (k + 1)))
def sX0_isOdd (ag : Nat → Int32) (an : Nat) : Int32 := sX0_isOdd_L2 ag an 151 0
set_option maxHeartbeats 4000000 in
set_option maxRecDepth 100000 in
theorem kX0_isOdd (l : Launch) (dC : Nat → ClassId) (dI : Nat → Nat → Nat) (cI cQ cZ : ClassId) (ad : Nat → Nat) (ag : Nat → Int32) (lo : Nat → Int32) (ch : Nat → Int32) (al : Nat → Int32) (an : Nat) (sh : Nat → Int32) (wa : Nat → Int32) (pl : Int32) (rm : Int32) (lk : Int32) (br : Int32) (row : Nat → Option Nat) (dn : Nat) (dy : Nat → Int32) (lv : Nat → Int32) (od : Nat → Int32) (sn : Nat) (L : List Nat) (pd : Nat → DT) (han : an ≤ 150) : Met l yX0_isOdd wsX0_isOdd rX0_isOdd (va_Pc [.ref (ad 1)] (cd_rp dC dI cI cQ cZ (wKx cI cQ ad ag lo ch al an sh wa pl rm lk br row dn dy lv od sn ++ dpl L pd))) (vp_Si (fun r => r = sX0_isOdd ag an)) 0 0 (fun _ => False) := by
  have hiX0 : ∀ w ∈ u_ws RX0 TX0 8, w ∈ wsX0_isOdd := by decide +kernel
  generalize hex : sX0_isOdd ag an = ex
  unfold sX0_isOdd at hex
  refine cd_mRz [.ref (ad 1)] (by decide) rfl (Nat.le_of_ble_eq_true rfl) ?_
  intro Q p e s m args below meth c ls hx hb hml hown hts hret ⟨hK, hP⟩ hl
  have hl : lv_has ls 2 [(0, .ref (ad 1))] := hl
  refine lv_iconst (v := 0) hx hb dX0_isOdd_0 (by decide) ?_
  refine lv_istore_n (lv' := [(1, .int 0), (0, .ref (ad 1))]) hx hb dX0_isOdd_1 rfl hl (by decide) rfl (fun ls hl => ?_)
  have L2 : ∀ (n : Nat) (k : Nat), (k ≤ 150) → 150 - k < n → sX0_isOdd_L2 ag an n k = ex → ∀ (ls : Array Slot), lv_has ls 2 [(1, .int (nI k)), (0, .ref (ad 1))] → W p l e rX0_isOdd s m args below meth c s.heap [] 0 0 Q (F0 m 2 ls []) := by
    intro n
    induction n with
    | zero => intro k hk hm; exact absurd hm (Nat.not_lt_zero _)
    | succ n ih =>
      intro k hk hm hex ls hl
      rw [sX0_isOdd_L2] at hex
      refine lv_iload_n hx hb dX0_isOdd_2 rfl (lv_at hl 0 rfl) ?_
      refine lv_aload_n hx hb dX0_isOdd_3 rfl (lv_at hl 1 rfl) ?_
      refine va_get (D := (dC, dI)) (ci := 0) (v := .int (nI an)) (C := RX0) (T := TX0) (N := 8) hx hb hts hiX0 hown hK.1 hP 0 rfl rfl 7 (by decide) (hts (.fieldLink RX0 26 "CellDays$Cases" "agreed" "I") (by decide +kernel)) (fun _ h9 => h9) rfl dX0_isOdd_4 ?_
      refine lv_icmp_ge (tgt := 32) hx hb dX0_isOdd_7 (by decide) (fun c_1 => ?_) (fun c_1 => ?_)
      · rw [if_pos c_1] at hex
        try have n_1 : an ≤ k := (nI_leI (a := an) (b := k) (by omega) (by omega)).mp c_1
        refine lv_aload_n hx hb dX0_isOdd_32 rfl (lv_at hl 1 rfl) ?_
        refine va_get (D := (dC, dI)) (ci := 0) (v := .int (nI an)) (C := RX0) (T := TX0) (N := 8) hx hb hts hiX0 hown hK.1 hP 0 rfl rfl 7 (by decide) (hts (.fieldLink RX0 26 "CellDays$Cases" "agreed" "I") (by decide +kernel)) (fun _ h9 => h9) rfl dX0_isOdd_33 ?_
        refine lv_if_le (tgt := 43) hx hb dX0_isOdd_36 (by decide) (fun c_2 => ?_) (fun c_2 => ?_)
        · rw [if_pos c_2] at hex
          try have n_2 : an ≤ 0 := (nI_leI (a := an) (b := 0) (by omega) (by omega)).mp c_2
          refine lv_iconst (v := 0) hx hb dX0_isOdd_43 (by decide) ?_
          subst hex
          exact hret _ _ rfl dX0_isOdd_44
        · rw [if_neg c_2] at hex
          try have n_2 : ¬ an ≤ 0 := fun h9 => c_2 ((nI_leI (a := an) (b := 0) (by omega) (by omega)).mpr h9)
          refine lv_iconst (v := 1) hx hb dX0_isOdd_39 (by decide) ?_
          refine lv_goto (tgt := 44) hx hb dX0_isOdd_40 (by decide) ?_
          subst hex
          exact hret _ _ rfl dX0_isOdd_44
      · rw [if_neg c_1] at hex
        try have n_1 : ¬ an ≤ k := fun h9 => c_1 ((nI_leI (a := an) (b := k) (by omega) (by omega)).mpr h9)
        refine lv_aload_n hx hb dX0_isOdd_10 rfl (lv_at hl 1 rfl) ?_
        refine va_get (D := (dC, dI)) (ci := 0) (v := .ref (ad 2)) (C := RX0) (T := TX0) (N := 8) hx hb hts hiX0 hown hK.1 hP 0 rfl rfl 3 (by decide) (hts (.fieldLink RX0 11 "CellDays$Cases" "agreeing" "[I") (by decide +kernel)) (fun _ h9 => h9) rfl dX0_isOdd_11 ?_
        refine lv_iload_n hx hb dX0_isOdd_14 rfl (lv_at hl 0 rfl) ?_
        refine cd_rSN (As := [.ref (ad 2), .int (nI k)]) (rest := []) ⟨hx, hb, hml, hown, hts⟩ (kX5_at l dC dI cI cQ cZ (ad 2) 150 ag (nI k) (by decide)) ⟨va_cnB 2 hts gX0_isOdd_X5_at_n104 rfl rfl rfl (hK.2.1 (.methodLinkNest RX0 104 yX5_at RX5) (by decide +kernel)) (hts (.initialized RX5) (by decide +kernel)) (by decide +kernel) ⟨by decide, by decide⟩, hts (.static yX5_at) (by decide +kernel), trivial⟩ hK (hP.sub (ws' := (wAr cI (ad 2) 150 ag)) [1] rfl) rfl hl.1 rfl (Nat.le_of_ble_eq_true rfl) dX0_isOdd_15 ⟨by decide, by decide⟩ ?_
        refine cd_rS (As := [.int (sX5_at 150 ag (nI k))]) (rest := []) ⟨hx, hb, hml, hown, hts⟩ (kX0_oddOf l dC dI cI cQ cZ (sX5_at 150 ag (nI k))) (va_cwS 1 hts gX0_isOdd_X0_oddOf rfl rfl rfl (by decide +kernel) ⟨by decide, by decide⟩) hK cd_P0 rfl hl.1 rfl (Nat.le_of_ble_eq_true rfl) dX0_isOdd_18 ⟨by decide, by decide⟩ ?_
        refine lv_if_ne (tgt := 26) hx hb dX0_isOdd_21 (by decide) (fun c_3 => ?_) (fun c_3 => ?_)
        · rw [if_neg c_3] at hex
          refine lv_iinc (v := nI (k + 1)) (lv' := [(1, .int (nI (k + 1))), (0, .ref (ad 1))]) hx hb dX0_isOdd_26 hl (k := 0) rfl (nI_1 k) (by decide) rfl (fun ls hl => ?_)
          refine lv_goto (tgt := 2) hx hb dX0_isOdd_29 (by decide) ?_
          exact ih (k + 1) (by omega) (by omega) hex _ (lv_sub hl [0, 1] rfl)
        · rw [if_pos c_3] at hex
          refine lv_iconst (v := 0) hx hb dX0_isOdd_24 (by decide) ?_
          subst hex
          exact hret _ _ rfl dX0_isOdd_25
  exact L2 151 0 (by decide) (by decide) hex _ (lv_sub hl [0, 1] rfl)

def rX0_startAgreeing : Room := { frames := 4, cells := 0, slots := 0, locals := 92 }
def sX0_startAgreeing_L2 (ag : Nat → Int32) (an : Nat) (rm : Int32) (br : Int32) (row : Nat → Option Nat) (dn : Nat) (pd : Nat → DT) : Nat → Nat → (Nat → Int32) → (Nat → Int32) → (Nat → Int32) × (Nat → Int32)
  | 0, k, lov, chv => ((fun _ => 0), (fun _ => 0))
  | n + 1, k, lov, chv => (if (nI an) ≤ (nI k) then (lov, chv) else sX0_startAgreeing_L2 ag an rm br row dn pd n (k + 1) (sX5_put 150 lov (nI k) (sX0_loadOfCase br row dn pd (sX5_at 150 ag (nI k)))) (sX5_put 150 chv (nI k) (sX1_chargeAtFirst rm)))
def sX0_startAgreeing (ag : Nat → Int32) (lo : Nat → Int32) (ch : Nat → Int32) (an : Nat) (rm : Int32) (br : Int32) (row : Nat → Option Nat) (dn : Nat) (pd : Nat → DT) : (Nat → Int32) × (Nat → Int32) := sX0_startAgreeing_L2 ag an rm br row dn pd 151 0 lo ch
set_option maxHeartbeats 4000000 in
set_option maxRecDepth 100000 in
theorem kX0_startAgreeing (l : Launch) (dC : Nat → ClassId) (dI : Nat → Nat → Nat) (cI cQ cZ : ClassId) (ad : Nat → Nat) (ag : Nat → Int32) (lo : Nat → Int32) (ch : Nat → Int32) (al : Nat → Int32) (an : Nat) (sh : Nat → Int32) (wa : Nat → Int32) (pl : Int32) (rm : Int32) (lk : Int32) (br : Int32) (row : Nat → Option Nat) (dn : Nat) (dy : Nat → Int32) (lv : Nat → Int32) (od : Nat → Int32) (sn : Nat) (L : List Nat) (pd : Nat → DT) (sz : Nat) (hdn : dn ≤ 8) (hrw : ∀ j y, row j = some y → y ∈ L) (han : an ≤ 150) : Met l yX0_startAgreeing wsX0_startAgreeing rX0_startAgreeing (va_Pc [.ref (ad 1)] (cd_pre dC dI cI cQ cZ (wKx cI cQ ad ag lo ch al an sh wa pl rm lk br row dn dy lv od sn ++ dpl L pd) sz)) (va_Qv (fun _ => True) (cd_post dC dI (wKx cI cQ ad ag lo ch al an sh wa pl rm lk br row dn dy lv od sn ++ dpl L pd) (wKx cI cQ ad ag ((sX0_startAgreeing ag lo ch an rm br row dn pd).1) ((sX0_startAgreeing ag lo ch an rm br row dn pd).2) al an sh wa pl rm lk br row dn dy lv od sn ++ dpl L pd) sz) (va_A (wKx cI cQ ad ag lo ch al an sh wa pl rm lk br row dn dy lv od sn ++ dpl L pd) sz)) 0 0 (va_A (wKx cI cQ ad ag lo ch al an sh wa pl rm lk br row dn dy lv od sn ++ dpl L pd) sz) := by
  have hiX0 : ∀ w ∈ u_ws RX0 TX0 8, w ∈ wsX0_startAgreeing := by decide +kernel
  generalize hex : sX0_startAgreeing ag lo ch an rm br row dn pd = ex
  unfold sX0_startAgreeing at hex
  refine cd_mMv [.ref (ad 1)] (by decide) rfl (Nat.le_of_ble_eq_true rfl) ?_
  intro Q A p e s m args below meth c ls hx hb hml hown hts hA hinit hret hK hP hD hS hl
  have hl : lv_has ls 2 [(0, .ref (ad 1))] := hl
  refine lv_iconst (v := 0) hx hb dX0_startAgreeing_0 (by decide) ?_
  refine lv_istore_n (lv' := [(1, .int 0), (0, .ref (ad 1))]) hx hb dX0_startAgreeing_1 rfl hl (by decide) rfl (fun ls hl => ?_)
  have L2 : ∀ (n : Nat) (k : Nat) (lov : Nat → Int32) (chv : Nat → Int32), (k ≤ 150) → 150 - k < n → sX0_startAgreeing_L2 ag an rm br row dn pd n k lov chv = ex → ∀ (ls : Array Slot) (H : Heap) (locs : List Loc), lv_has ls 2 [(1, .int (nI k)), (0, .ref (ad 1))] → va_P (dC, dI) vwCl (wKx cI cQ ad ag lov chv al an sh wa pl rm lk br row dn dy lv od sn ++ dpl L pd) H → va_D A (wKx cI cQ ad ag lov chv al an sh wa pl rm lk br row dn dy lv od sn ++ dpl L pd) → va_S A s.heap H locs → W p l e rX0_startAgreeing s m args below meth c H locs 0 0 Q (F0 m 2 ls []) := by
    intro n
    induction n with
    | zero => intro k lov chv hk hm; exact absurd hm (Nat.not_lt_zero _)
    | succ n ih =>
      intro k lov chv hk hm hex ls H locs hl hP hD hS
      rw [sX0_startAgreeing_L2] at hex
      refine lv_iload_n hx hb dX0_startAgreeing_2 rfl (lv_at hl 0 rfl) ?_
      refine lv_aload_n hx hb dX0_startAgreeing_3 rfl (lv_at hl 1 rfl) ?_
      refine va_get (D := (dC, dI)) (ci := 0) (v := .int (nI an)) (C := RX0) (T := TX0) (N := 8) hx hb hts hiX0 hown hK.1 hP 0 rfl rfl 7 (by decide) (hts (.fieldLink RX0 26 "CellDays$Cases" "agreed" "I") (by decide +kernel)) (fun _ h9 => h9) rfl dX0_startAgreeing_4 ?_
      refine lv_icmp_ge (tgt := 51) hx hb dX0_startAgreeing_7 (by decide) (fun c_1 => ?_) (fun c_1 => ?_)
      · rw [if_pos c_1] at hex
        try have n_1 : an ≤ k := (nI_leI (a := an) (b := k) (by omega) (by omega)).mp c_1
        subst hex
        exact hret _ _ _ _ dX0_startAgreeing_51 hP hD hS
      · rw [if_neg c_1] at hex
        try have n_1 : ¬ an ≤ k := fun h9 => c_1 ((nI_leI (a := an) (b := k) (by omega) (by omega)).mpr h9)
        refine lv_aload_n hx hb dX0_startAgreeing_10 rfl (lv_at hl 1 rfl) ?_
        refine va_get (D := (dC, dI)) (ci := 0) (v := .ref (ad 3)) (C := RX0) (T := TX0) (N := 8) hx hb hts hiX0 hown hK.1 hP 0 rfl rfl 4 (by decide) (hts (.fieldLink RX0 15 "CellDays$Cases" "loads" "[I") (by decide +kernel)) (fun _ h9 => h9) rfl dX0_startAgreeing_11 ?_
        refine lv_iload_n hx hb dX0_startAgreeing_14 rfl (lv_at hl 0 rfl) ?_
        refine lv_aload_n hx hb dX0_startAgreeing_15 rfl (lv_at hl 1 rfl) ?_
        refine lv_aload_n hx hb dX0_startAgreeing_16 rfl (lv_at hl 1 rfl) ?_
        refine va_get (D := (dC, dI)) (ci := 0) (v := .ref (ad 2)) (C := RX0) (T := TX0) (N := 8) hx hb hts hiX0 hown hK.1 hP 0 rfl rfl 3 (by decide) (hts (.fieldLink RX0 11 "CellDays$Cases" "agreeing" "[I") (by decide +kernel)) (fun _ h9 => h9) rfl dX0_startAgreeing_17 ?_
        refine lv_iload_n hx hb dX0_startAgreeing_20 rfl (lv_at hl 0 rfl) ?_
        refine cd_rSN (As := [.ref (ad 2), .int (nI k)]) (rest := [.ref (ad 1), .int (nI k), .ref (ad 3)]) ⟨hx, hb, hml, hown, hts⟩ (kX5_at l dC dI cI cQ cZ (ad 2) 150 ag (nI k) (by decide)) ⟨va_cnB 2 hts gX0_startAgreeing_X5_at_n104 rfl rfl rfl (hK.2.1 (.methodLinkNest RX0 104 yX5_at RX5) (by decide +kernel)) (hts (.initialized RX5) (by decide +kernel)) (by decide +kernel) ⟨by decide, by decide⟩, hts (.static yX5_at) (by decide +kernel), trivial⟩ hK (hP.sub (ws' := (wAr cI (ad 2) 150 ag)) [1] rfl) rfl hl.1 rfl (Nat.le_of_ble_eq_true rfl) dX0_startAgreeing_21 ⟨by decide, by decide⟩ ?_
        refine cd_rV (As := [.int (sX5_at 150 ag (nI k))]) (b := (ad 1)) (ci := 0) (q := (RX0, TX0, 8)) (rest := [.int (nI k), .ref (ad 3)]) ⟨hx, hb, hml, hown, hts⟩ (kX0_loadOfCase l dC dI cI cQ cZ ad ag lov chv al an sh wa pl rm lk br row dn dy lv od sn L pd (sX5_at 150 ag (nI k)) hdn hrw) (cwV 1 hts gX0_startAgreeing_X0_loadOfCase rfl rfl rfl (by decide +kernel) ⟨by decide, by decide⟩) hK hP rfl rfl rfl hl.1 rfl (Nat.le_of_ble_eq_true rfl) dX0_startAgreeing_24 ⟨by decide, by decide⟩ ?_
        have hDc : va_D A (wAr cI (ad 3) 150 lov) := (hD.sub (ws' := (wAr cI (ad 3) 150 lov)) [2] (by decide) rfl)
        have hFc := cd_F hDc hS hA
        refine cd_wSv (As := [.ref (ad 3), .int (nI k), .int (sX0_loadOfCase br row dn pd (sX5_at 150 ag (nI k)))]) (rest := []) ⟨hx, hb, hml, hown, hts⟩ (kX5_put l dC dI cI cQ cZ (ad 3) 150 lov (nI k) (sX0_loadOfCase br row dn pd (sX5_at 150 ag (nI k))) H.size (by decide)) ⟨va_cnB 3 hts gX0_startAgreeing_X5_put_n100 rfl rfl rfl (hK.2.1 (.methodLinkNest RX0 100 yX5_put RX5) (by decide +kernel)) (hts (.initialized RX5) (by decide +kernel)) (by decide +kernel) ⟨by decide, by decide⟩, hts (.static yX5_put) (by decide +kernel), trivial⟩ hK (hP.sub (ws' := (wAr cI (ad 3) 150 lov)) [2] rfl) hDc hFc hS rfl hl.1 rfl (Nat.le_of_ble_eq_true rfl) dX0_startAgreeing_27 ⟨by decide, by decide⟩ (fun H1 locs hP1 hD1 hk1 hS => ?_)
        obtain ⟨hP, hD⟩ := va_joinQ (X := wKx cI cQ ad ag lov chv al an sh wa pl rm lk br row dn dy lv od sn) (cx := (wAr cI (ad 3) 150 lov)) (wr := [(ad 1, .inr (0, [.ref (ad 6), .ref (ad 9), .ref (ad 11), .ref (ad 2), .ref (ad 3), .ref (ad 4), .ref (ad 5), .int (nI an)])), (ad 2, .inl (cI, 150, .inl ag)), (ad 4, .inl (cI, 150, .inl chv)), (ad 5, .inl (cI, 10, .inl al)), (ad 6, .inr (1, [.ref (ad 7), .ref (ad 8), .int pl, .int rm, .int lk, .int br])), (ad 7, .inl (cI, 3, .inl sh)), (ad 8, .inl (cI, 12, .inl wa)), (ad 9, .inr (2, [.ref (ad 10), .int (nI dn)])), (ad 10, .inl (cQ, 8, .inr (.inr (.inr (.inr row))))), (ad 11, .inr (4, [.ref (ad 12), .ref (ad 13), .ref (ad 14), .int (nI sn)])), (ad 12, .inl (cI, 12, .inl dy)), (ad 13, .inl (cI, 12, .inl lv)), (ad 14, .inl (cI, 12, .inl od))]) (w1 := (wAr cI (ad 3) 150 (sX5_put 150 lov (nI k) (sX0_loadOfCase br row dn pd (sX5_at 150 ag (nI k)))))) hP hD [2] [0, 1, 3, 4, 5, 6, 7, 8, 9, 10, 11, 12, 13] rfl rfl (by decide) (by decide) hk1 hFc hP1 hD1
        have hP := hP.part (cx := wKx cI cQ ad ag (sX5_put 150 lov (nI k) (sX0_loadOfCase br row dn pd (sX5_at 150 ag (nI k)))) chv al an sh wa pl rm lk br row dn dy lv od sn) [0, 1, 13, 2, 3, 4, 5, 6, 7, 8, 9, 10, 11, 12] rfl
        have hD := hD.part (cx := wKx cI cQ ad ag (sX5_put 150 lov (nI k) (sX0_loadOfCase br row dn pd (sX5_at 150 ag (nI k)))) chv al an sh wa pl rm lk br row dn dy lv od sn) [0, 1, 13, 2, 3, 4, 5, 6, 7, 8, 9, 10, 11, 12] (by decide) rfl
        generalize H1 = H at hP hS ⊢
        have hP : va_P (dC, dI) vwCl (wKx cI cQ ad ag (sX5_put 150 lov (nI k) (sX0_loadOfCase br row dn pd (sX5_at 150 ag (nI k)))) chv al an sh wa pl rm lk br row dn dy lv od sn ++ dpl L pd) H := hP
        have hD : va_D A (wKx cI cQ ad ag (sX5_put 150 lov (nI k) (sX0_loadOfCase br row dn pd (sX5_at 150 ag (nI k)))) chv al an sh wa pl rm lk br row dn dy lv od sn ++ dpl L pd) := hD
        refine lv_aload_n hx hb dX0_startAgreeing_30 rfl (lv_at hl 1 rfl) ?_
        refine va_get (D := (dC, dI)) (ci := 0) (v := .ref (ad 4)) (C := RX0) (T := TX0) (N := 8) hx hb hts hiX0 hown hK.1 hP 0 rfl rfl 5 (by decide) (hts (.fieldLink RX0 18 "CellDays$Cases" "charges" "[I") (by decide +kernel)) (fun _ h9 => h9) rfl dX0_startAgreeing_31 ?_
        refine lv_iload_n hx hb dX0_startAgreeing_34 rfl (lv_at hl 0 rfl) ?_
        refine lv_aload_n hx hb dX0_startAgreeing_35 rfl (lv_at hl 1 rfl) ?_
        refine va_get (D := (dC, dI)) (ci := 0) (v := .ref (ad 6)) (C := RX0) (T := TX0) (N := 8) hx hb hts hiX0 hown hK.1 hP 0 rfl rfl 0 (by decide) (hts (.fieldLink RX0 30 "CellDays$Cases" "cell" "LCellDays$Cell;") (by decide +kernel)) (fun _ h9 => h9) rfl dX0_startAgreeing_36 ?_
        refine cd_rV (As := []) (b := (ad 6)) (ci := 1) (q := (RX1, TX1, 6)) (rest := [.int (nI k), .ref (ad 4)]) ⟨hx, hb, hml, hown, hts⟩ (kX1_chargeAtFirst l dC dI cI cQ cZ (ad 6) (ad 7) (ad 8) sh wa pl rm lk br) (cwV 0 hts gX0_startAgreeing_X1_chargeAtFirst rfl rfl rfl (by decide +kernel) ⟨by decide, by decide⟩) hK (hP.sub (ws' := (wCl cI (ad 6) (ad 7) (ad 8) sh wa pl rm lk br)) [5, 6, 7] rfl) rfl rfl rfl hl.1 rfl (Nat.le_of_ble_eq_true rfl) dX0_startAgreeing_39 ⟨by decide, by decide⟩ ?_
        have hDc : va_D A (wAr cI (ad 4) 150 chv) := (hD.sub (ws' := (wAr cI (ad 4) 150 chv)) [3] (by decide) rfl)
        have hFc := cd_F hDc hS hA
        refine cd_wSv (As := [.ref (ad 4), .int (nI k), .int (sX1_chargeAtFirst rm)]) (rest := []) ⟨hx, hb, hml, hown, hts⟩ (kX5_put l dC dI cI cQ cZ (ad 4) 150 chv (nI k) (sX1_chargeAtFirst rm) H.size (by decide)) ⟨va_cnB 3 hts gX0_startAgreeing_X5_put_n100 rfl rfl rfl (hK.2.1 (.methodLinkNest RX0 100 yX5_put RX5) (by decide +kernel)) (hts (.initialized RX5) (by decide +kernel)) (by decide +kernel) ⟨by decide, by decide⟩, hts (.static yX5_put) (by decide +kernel), trivial⟩ hK (hP.sub (ws' := (wAr cI (ad 4) 150 chv)) [3] rfl) hDc hFc hS rfl hl.1 rfl (Nat.le_of_ble_eq_true rfl) dX0_startAgreeing_42 ⟨by decide, by decide⟩ (fun H1 locs hP1 hD1 hk1 hS => ?_)
        obtain ⟨hP, hD⟩ := va_joinQ (X := wKx cI cQ ad ag (sX5_put 150 lov (nI k) (sX0_loadOfCase br row dn pd (sX5_at 150 ag (nI k)))) chv al an sh wa pl rm lk br row dn dy lv od sn) (cx := (wAr cI (ad 4) 150 chv)) (wr := [(ad 1, .inr (0, [.ref (ad 6), .ref (ad 9), .ref (ad 11), .ref (ad 2), .ref (ad 3), .ref (ad 4), .ref (ad 5), .int (nI an)])), (ad 2, .inl (cI, 150, .inl ag)), (ad 3, .inl (cI, 150, .inl (sX5_put 150 lov (nI k) (sX0_loadOfCase br row dn pd (sX5_at 150 ag (nI k)))))), (ad 5, .inl (cI, 10, .inl al)), (ad 6, .inr (1, [.ref (ad 7), .ref (ad 8), .int pl, .int rm, .int lk, .int br])), (ad 7, .inl (cI, 3, .inl sh)), (ad 8, .inl (cI, 12, .inl wa)), (ad 9, .inr (2, [.ref (ad 10), .int (nI dn)])), (ad 10, .inl (cQ, 8, .inr (.inr (.inr (.inr row))))), (ad 11, .inr (4, [.ref (ad 12), .ref (ad 13), .ref (ad 14), .int (nI sn)])), (ad 12, .inl (cI, 12, .inl dy)), (ad 13, .inl (cI, 12, .inl lv)), (ad 14, .inl (cI, 12, .inl od))]) (w1 := (wAr cI (ad 4) 150 (sX5_put 150 chv (nI k) (sX1_chargeAtFirst rm)))) hP hD [3] [0, 1, 2, 4, 5, 6, 7, 8, 9, 10, 11, 12, 13] rfl rfl (by decide) (by decide) hk1 hFc hP1 hD1
        have hP := hP.part (cx := wKx cI cQ ad ag (sX5_put 150 lov (nI k) (sX0_loadOfCase br row dn pd (sX5_at 150 ag (nI k)))) (sX5_put 150 chv (nI k) (sX1_chargeAtFirst rm)) al an sh wa pl rm lk br row dn dy lv od sn) [0, 1, 2, 13, 3, 4, 5, 6, 7, 8, 9, 10, 11, 12] rfl
        have hD := hD.part (cx := wKx cI cQ ad ag (sX5_put 150 lov (nI k) (sX0_loadOfCase br row dn pd (sX5_at 150 ag (nI k)))) (sX5_put 150 chv (nI k) (sX1_chargeAtFirst rm)) al an sh wa pl rm lk br row dn dy lv od sn) [0, 1, 2, 13, 3, 4, 5, 6, 7, 8, 9, 10, 11, 12] (by decide) rfl
        generalize H1 = H at hP hS ⊢
        have hP : va_P (dC, dI) vwCl (wKx cI cQ ad ag (sX5_put 150 lov (nI k) (sX0_loadOfCase br row dn pd (sX5_at 150 ag (nI k)))) (sX5_put 150 chv (nI k) (sX1_chargeAtFirst rm)) al an sh wa pl rm lk br row dn dy lv od sn ++ dpl L pd) H := hP
        have hD : va_D A (wKx cI cQ ad ag (sX5_put 150 lov (nI k) (sX0_loadOfCase br row dn pd (sX5_at 150 ag (nI k)))) (sX5_put 150 chv (nI k) (sX1_chargeAtFirst rm)) al an sh wa pl rm lk br row dn dy lv od sn ++ dpl L pd) := hD
        refine lv_iinc (v := nI (k + 1)) (lv' := [(1, .int (nI (k + 1))), (0, .ref (ad 1))]) hx hb dX0_startAgreeing_45 hl (k := 0) rfl (nI_1 k) (by decide) rfl (fun ls hl => ?_)
        refine lv_goto (tgt := 2) hx hb dX0_startAgreeing_48 (by decide) ?_
        exact ih (k + 1) (sX5_put 150 lov (nI k) (sX0_loadOfCase br row dn pd (sX5_at 150 ag (nI k)))) (sX5_put 150 chv (nI k) (sX1_chargeAtFirst rm)) (by omega) (by omega) hex _ _ _ (lv_sub hl [0, 1] rfl) hP hD hS
  exact L2 151 0 lo ch (by decide) (by decide) hex _ _ _ (lv_sub hl [0, 1] rfl) hP hD hS

def rX0_greatestAtOneLevel : Room := { frames := 2, cells := 0, slots := 0, locals := 43 }
def sX0_greatestAtOneLevel_L28 (ch : Nat → Int32) (rm : Int32) (an : Nat) : Nat → Int32 → Nat → (Nat → Int32) → Int32 × (Nat → Int32)
  | 0, gr, j, alw => (0, (fun _ => 0))
  | n + 1, gr, j, alw => (if (nI an) ≤ (nI j) then (gr, alw) else sX0_greatestAtOneLevel_L28 ch rm an n (if gr < ((sX5_at 10 alw (sX1_levelOf rm (sX5_at 150 ch (nI j)))) + 1) then ((sX5_at 10 alw (sX1_levelOf rm (sX5_at 150 ch (nI j)))) + 1) else gr) (j + 1) (sX5_put 10 alw (sX1_levelOf rm (sX5_at 150 ch (nI j))) ((sX5_at 10 alw (sX1_levelOf rm (sX5_at 150 ch (nI j)))) + 1)))
def sX0_greatestAtOneLevel_L2 (ch : Nat → Int32) (rm : Int32) (an : Nat) : Nat → Nat → (Nat → Int32) → Int32 × (Nat → Int32)
  | 0, k, alv => (0, (fun _ => 0))
  | n + 1, k, alv => (if 10 ≤ (nI k) then sX0_greatestAtOneLevel_L28 ch rm an 151 0 0 alv else sX0_greatestAtOneLevel_L2 ch rm an n (k + 1) (upd alv k 0))
def sX0_greatestAtOneLevel (ch : Nat → Int32) (al : Nat → Int32) (an : Nat) (rm : Int32) : Int32 × (Nat → Int32) := sX0_greatestAtOneLevel_L2 ch rm an 11 0 al
set_option maxHeartbeats 4000000 in
set_option maxRecDepth 100000 in
theorem kX0_greatestAtOneLevel (l : Launch) (dC : Nat → ClassId) (dI : Nat → Nat → Nat) (cI cQ cZ : ClassId) (ad : Nat → Nat) (ag : Nat → Int32) (lo : Nat → Int32) (ch : Nat → Int32) (al : Nat → Int32) (an : Nat) (sh : Nat → Int32) (wa : Nat → Int32) (pl : Int32) (rm : Int32) (lk : Int32) (br : Int32) (row : Nat → Option Nat) (dn : Nat) (dy : Nat → Int32) (lv : Nat → Int32) (od : Nat → Int32) (sn : Nat) (L : List Nat) (pd : Nat → DT) (sz : Nat) (han : an ≤ 150) : Met l yX0_greatestAtOneLevel wsX0_greatestAtOneLevel rX0_greatestAtOneLevel (va_Pc [.ref (ad 1)] (cd_pre dC dI cI cQ cZ (wKx cI cQ ad ag lo ch al an sh wa pl rm lk br row dn dy lv od sn ++ dpl L pd) sz)) (va_Qi (fun r _ => r = (sX0_greatestAtOneLevel ch al an rm).1) (cd_post dC dI (wKx cI cQ ad ag lo ch al an sh wa pl rm lk br row dn dy lv od sn ++ dpl L pd) (wKx cI cQ ad ag lo ch ((sX0_greatestAtOneLevel ch al an rm).2) an sh wa pl rm lk br row dn dy lv od sn ++ dpl L pd) sz) (va_A (wKx cI cQ ad ag lo ch al an sh wa pl rm lk br row dn dy lv od sn ++ dpl L pd) sz)) 0 0 (va_A (wKx cI cQ ad ag lo ch al an sh wa pl rm lk br row dn dy lv od sn ++ dpl L pd) sz) := by
  have hiX0 : ∀ w ∈ u_ws RX0 TX0 8, w ∈ wsX0_greatestAtOneLevel := by decide +kernel
  generalize hex : sX0_greatestAtOneLevel ch al an rm = ex
  unfold sX0_greatestAtOneLevel at hex
  refine cd_mMi [.ref (ad 1)] (by decide) rfl (Nat.le_of_ble_eq_true rfl) ?_
  intro Q A p e s m args below meth c ls hx hb hml hown hts hA hret hK hP hD hS hl
  have hl : lv_has ls 5 [(0, .ref (ad 1))] := hl
  refine lv_iconst (v := 0) hx hb dX0_greatestAtOneLevel_0 (by decide) ?_
  refine lv_istore_n (lv' := [(1, .int 0), (0, .ref (ad 1))]) hx hb dX0_greatestAtOneLevel_1 rfl hl (by decide) rfl (fun ls hl => ?_)
  have L2 : ∀ (n : Nat) (k : Nat) (alv : Nat → Int32), (k ≤ 10) → 10 - k < n → sX0_greatestAtOneLevel_L2 ch rm an n k alv = ex → ∀ (ls : Array Slot) (H : Heap) (locs : List Loc), lv_has ls 5 [(1, .int (nI k)), (0, .ref (ad 1))] → va_P (dC, dI) vwCl (wKx cI cQ ad ag lo ch alv an sh wa pl rm lk br row dn dy lv od sn ++ dpl L pd) H → va_D A (wKx cI cQ ad ag lo ch alv an sh wa pl rm lk br row dn dy lv od sn ++ dpl L pd) → va_S A s.heap H locs → W p l e rX0_greatestAtOneLevel s m args below meth c H locs 0 0 Q (F0 m 2 ls []) := by
    intro n
    induction n with
    | zero => intro k alv hk hm; exact absurd hm (Nat.not_lt_zero _)
    | succ n ih =>
      intro k alv hk hm hex ls H locs hl hP hD hS
      rw [sX0_greatestAtOneLevel_L2] at hex
      refine lv_iload_n hx hb dX0_greatestAtOneLevel_2 rfl (lv_at hl 0 rfl) ?_
      refine lv_aload_n hx hb dX0_greatestAtOneLevel_3 rfl (lv_at hl 1 rfl) ?_
      refine va_get (D := (dC, dI)) (ci := 0) (v := .ref (ad 5)) (C := RX0) (T := TX0) (N := 8) hx hb hts hiX0 hown hK.1 hP 0 rfl rfl 6 (by decide) (hts (.fieldLink RX0 23 "CellDays$Cases" "atLevel" "[I") (by decide +kernel)) (fun _ h9 => h9) rfl dX0_greatestAtOneLevel_4 ?_
      refine va_alen (v := 10) hx hb hK.1 hP 4 0 rfl rfl rfl dX0_greatestAtOneLevel_7 ?_
      refine lv_icmp_ge (tgt := 24) hx hb dX0_greatestAtOneLevel_8 (by decide) (fun c_1 => ?_) (fun c_1 => ?_)
      · rw [if_pos c_1] at hex
        try have n_1 : 10 ≤ k := (nI_leI (a := 10) (b := k) (by omega) (by omega)).mp c_1
        refine lv_iconst (v := 0) hx hb dX0_greatestAtOneLevel_24 (by decide) ?_
        refine lv_istore_n (lv' := [(1, .int 0), (0, .ref (ad 1))]) hx hb dX0_greatestAtOneLevel_25 rfl hl (by decide) rfl (fun ls hl => ?_)
        refine lv_iconst (v := 0) hx hb dX0_greatestAtOneLevel_26 (by decide) ?_
        refine lv_istore_n (lv' := [(2, .int 0), (1, .int 0), (0, .ref (ad 1))]) hx hb dX0_greatestAtOneLevel_27 rfl hl (by decide) rfl (fun ls hl => ?_)
        have L28 : ∀ (n : Nat) (gr : Int32) (j : Nat) (alw : Nat → Int32), (j ≤ 150) → 150 - j < n → sX0_greatestAtOneLevel_L28 ch rm an n gr j alw = ex → ∀ (ls : Array Slot) (H : Heap) (locs : List Loc), lv_has ls 5 [(2, .int (nI j)), (1, .int gr), (0, .ref (ad 1))] → va_P (dC, dI) vwCl (wKx cI cQ ad ag lo ch alw an sh wa pl rm lk br row dn dy lv od sn ++ dpl L pd) H → va_D A (wKx cI cQ ad ag lo ch alw an sh wa pl rm lk br row dn dy lv od sn ++ dpl L pd) → va_S A s.heap H locs → W p l e rX0_greatestAtOneLevel s m args below meth c H locs 0 0 Q (F0 m 28 ls []) := by
          intro n
          induction n with
          | zero => intro gr j alw hj hm; exact absurd hm (Nat.not_lt_zero _)
          | succ n ih =>
            intro gr j alw hj hm hex ls H locs hl hP hD hS
            rw [sX0_greatestAtOneLevel_L28] at hex
            refine lv_iload_n hx hb dX0_greatestAtOneLevel_28 rfl (lv_at hl 0 rfl) ?_
            refine lv_aload_n hx hb dX0_greatestAtOneLevel_29 rfl (lv_at hl 2 rfl) ?_
            refine va_get (D := (dC, dI)) (ci := 0) (v := .int (nI an)) (C := RX0) (T := TX0) (N := 8) hx hb hts hiX0 hown hK.1 hP 0 rfl rfl 7 (by decide) (hts (.fieldLink RX0 26 "CellDays$Cases" "agreed" "I") (by decide +kernel)) (fun _ h9 => h9) rfl dX0_greatestAtOneLevel_30 ?_
            refine lv_icmp_ge (tgt := 87) hx hb dX0_greatestAtOneLevel_33 (by decide) (fun c_2 => ?_) (fun c_2 => ?_)
            · rw [if_pos c_2] at hex
              try have n_2 : an ≤ j := (nI_leI (a := an) (b := j) (by omega) (by omega)).mp c_2
              refine lv_iload_n hx hb dX0_greatestAtOneLevel_87 rfl (lv_at hl 1 rfl) ?_
              subst hex
              exact hret _ _ _ _ dX0_greatestAtOneLevel_88 hP hD hS
            · rw [if_neg c_2] at hex
              try have n_2 : ¬ an ≤ j := fun h9 => c_2 ((nI_leI (a := an) (b := j) (by omega) (by omega)).mpr h9)
              refine lv_aload_n hx hb dX0_greatestAtOneLevel_36 rfl (lv_at hl 2 rfl) ?_
              refine va_get (D := (dC, dI)) (ci := 0) (v := .ref (ad 6)) (C := RX0) (T := TX0) (N := 8) hx hb hts hiX0 hown hK.1 hP 0 rfl rfl 0 (by decide) (hts (.fieldLink RX0 30 "CellDays$Cases" "cell" "LCellDays$Cell;") (by decide +kernel)) (fun _ h9 => h9) rfl dX0_greatestAtOneLevel_37 ?_
              refine lv_aload_n hx hb dX0_greatestAtOneLevel_40 rfl (lv_at hl 2 rfl) ?_
              refine va_get (D := (dC, dI)) (ci := 0) (v := .ref (ad 4)) (C := RX0) (T := TX0) (N := 8) hx hb hts hiX0 hown hK.1 hP 0 rfl rfl 5 (by decide) (hts (.fieldLink RX0 18 "CellDays$Cases" "charges" "[I") (by decide +kernel)) (fun _ h9 => h9) rfl dX0_greatestAtOneLevel_41 ?_
              refine lv_iload_n hx hb dX0_greatestAtOneLevel_44 rfl (lv_at hl 0 rfl) ?_
              refine cd_rSN (As := [.ref (ad 4), .int (nI j)]) (rest := [.ref (ad 6)]) ⟨hx, hb, hml, hown, hts⟩ (kX5_at l dC dI cI cQ cZ (ad 4) 150 ch (nI j) (by decide)) ⟨va_cnB 2 hts gX0_greatestAtOneLevel_X5_at_n104 rfl rfl rfl (hK.2.1 (.methodLinkNest RX0 104 yX5_at RX5) (by decide +kernel)) (hts (.initialized RX5) (by decide +kernel)) (by decide +kernel) ⟨by decide, by decide⟩, hts (.static yX5_at) (by decide +kernel), trivial⟩ hK (hP.sub (ws' := (wAr cI (ad 4) 150 ch)) [3] rfl) rfl hl.1 rfl (Nat.le_of_ble_eq_true rfl) dX0_greatestAtOneLevel_45 ⟨by decide, by decide⟩ ?_
              refine cd_rV (As := [.int (sX5_at 150 ch (nI j))]) (b := (ad 6)) (ci := 1) (q := (RX1, TX1, 6)) (rest := []) ⟨hx, hb, hml, hown, hts⟩ (kX1_levelOf l dC dI cI cQ cZ (ad 6) (ad 7) (ad 8) sh wa pl rm lk br (sX5_at 150 ch (nI j))) (cwV 1 hts gX0_greatestAtOneLevel_X1_levelOf rfl rfl rfl (by decide +kernel) ⟨by decide, by decide⟩) hK (hP.sub (ws' := (wCl cI (ad 6) (ad 7) (ad 8) sh wa pl rm lk br)) [5, 6, 7] rfl) rfl rfl rfl hl.1 rfl (Nat.le_of_ble_eq_true rfl) dX0_greatestAtOneLevel_48 ⟨by decide, by decide⟩ ?_
              refine lv_istore_n (lv' := [(3, .int (sX1_levelOf rm (sX5_at 150 ch (nI j)))), (2, .int (nI j)), (1, .int gr), (0, .ref (ad 1))]) hx hb dX0_greatestAtOneLevel_51 rfl hl (by decide) rfl (fun ls hl => ?_)
              refine lv_aload_n hx hb dX0_greatestAtOneLevel_52 rfl (lv_at hl 3 rfl) ?_
              refine va_get (D := (dC, dI)) (ci := 0) (v := .ref (ad 5)) (C := RX0) (T := TX0) (N := 8) hx hb hts hiX0 hown hK.1 hP 0 rfl rfl 6 (by decide) (hts (.fieldLink RX0 23 "CellDays$Cases" "atLevel" "[I") (by decide +kernel)) (fun _ h9 => h9) rfl dX0_greatestAtOneLevel_53 ?_
              refine lv_iload_n hx hb dX0_greatestAtOneLevel_56 rfl (lv_at hl 0 rfl) ?_
              refine cd_rSN (As := [.ref (ad 5), .int (sX1_levelOf rm (sX5_at 150 ch (nI j)))]) (rest := []) ⟨hx, hb, hml, hown, hts⟩ (kX5_at l dC dI cI cQ cZ (ad 5) 10 alw (sX1_levelOf rm (sX5_at 150 ch (nI j))) (by decide)) ⟨va_cnB 2 hts gX0_greatestAtOneLevel_X5_at_n104 rfl rfl rfl (hK.2.1 (.methodLinkNest RX0 104 yX5_at RX5) (by decide +kernel)) (hts (.initialized RX5) (by decide +kernel)) (by decide +kernel) ⟨by decide, by decide⟩, hts (.static yX5_at) (by decide +kernel), trivial⟩ hK (hP.sub (ws' := (wAr cI (ad 5) 10 alw)) [4] rfl) rfl hl.1 rfl (Nat.le_of_ble_eq_true rfl) dX0_greatestAtOneLevel_57 ⟨by decide, by decide⟩ ?_
              refine lv_iconst (v := 1) hx hb dX0_greatestAtOneLevel_60 (by decide) ?_
              refine lv_iadd hx hb dX0_greatestAtOneLevel_61 ?_
              refine lv_istore (lv' := [(4, .int ((sX5_at 10 alw (sX1_levelOf rm (sX5_at 150 ch (nI j)))) + 1)), (3, .int (sX1_levelOf rm (sX5_at 150 ch (nI j)))), (2, .int (nI j)), (1, .int gr), (0, .ref (ad 1))]) hx hb dX0_greatestAtOneLevel_62 hl (by decide) rfl (fun ls hl => ?_)
              refine lv_aload_n hx hb dX0_greatestAtOneLevel_64 rfl (lv_at hl 4 rfl) ?_
              refine va_get (D := (dC, dI)) (ci := 0) (v := .ref (ad 5)) (C := RX0) (T := TX0) (N := 8) hx hb hts hiX0 hown hK.1 hP 0 rfl rfl 6 (by decide) (hts (.fieldLink RX0 23 "CellDays$Cases" "atLevel" "[I") (by decide +kernel)) (fun _ h9 => h9) rfl dX0_greatestAtOneLevel_65 ?_
              refine lv_iload_n hx hb dX0_greatestAtOneLevel_68 rfl (lv_at hl 1 rfl) ?_
              refine lv_iload hx hb dX0_greatestAtOneLevel_69 (lv_at hl 0 rfl) ?_
              have hDc : va_D A (wAr cI (ad 5) 10 alw) := (hD.sub (ws' := (wAr cI (ad 5) 10 alw)) [4] (by decide) rfl)
              have hFc := cd_F hDc hS hA
              refine cd_wSv (As := [.ref (ad 5), .int (sX1_levelOf rm (sX5_at 150 ch (nI j))), .int ((sX5_at 10 alw (sX1_levelOf rm (sX5_at 150 ch (nI j)))) + 1)]) (rest := []) ⟨hx, hb, hml, hown, hts⟩ (kX5_put l dC dI cI cQ cZ (ad 5) 10 alw (sX1_levelOf rm (sX5_at 150 ch (nI j))) ((sX5_at 10 alw (sX1_levelOf rm (sX5_at 150 ch (nI j)))) + 1) H.size (by decide)) ⟨va_cnB 3 hts gX0_greatestAtOneLevel_X5_put_n100 rfl rfl rfl (hK.2.1 (.methodLinkNest RX0 100 yX5_put RX5) (by decide +kernel)) (hts (.initialized RX5) (by decide +kernel)) (by decide +kernel) ⟨by decide, by decide⟩, hts (.static yX5_put) (by decide +kernel), trivial⟩ hK (hP.sub (ws' := (wAr cI (ad 5) 10 alw)) [4] rfl) hDc hFc hS rfl hl.1 rfl (Nat.le_of_ble_eq_true rfl) dX0_greatestAtOneLevel_71 ⟨by decide, by decide⟩ (fun H1 locs hP1 hD1 hk1 hS => ?_)
              obtain ⟨hP, hD⟩ := va_joinQ (X := wKx cI cQ ad ag lo ch alw an sh wa pl rm lk br row dn dy lv od sn) (cx := (wAr cI (ad 5) 10 alw)) (wr := [(ad 1, .inr (0, [.ref (ad 6), .ref (ad 9), .ref (ad 11), .ref (ad 2), .ref (ad 3), .ref (ad 4), .ref (ad 5), .int (nI an)])), (ad 2, .inl (cI, 150, .inl ag)), (ad 3, .inl (cI, 150, .inl lo)), (ad 4, .inl (cI, 150, .inl ch)), (ad 6, .inr (1, [.ref (ad 7), .ref (ad 8), .int pl, .int rm, .int lk, .int br])), (ad 7, .inl (cI, 3, .inl sh)), (ad 8, .inl (cI, 12, .inl wa)), (ad 9, .inr (2, [.ref (ad 10), .int (nI dn)])), (ad 10, .inl (cQ, 8, .inr (.inr (.inr (.inr row))))), (ad 11, .inr (4, [.ref (ad 12), .ref (ad 13), .ref (ad 14), .int (nI sn)])), (ad 12, .inl (cI, 12, .inl dy)), (ad 13, .inl (cI, 12, .inl lv)), (ad 14, .inl (cI, 12, .inl od))]) (w1 := (wAr cI (ad 5) 10 (sX5_put 10 alw (sX1_levelOf rm (sX5_at 150 ch (nI j))) ((sX5_at 10 alw (sX1_levelOf rm (sX5_at 150 ch (nI j)))) + 1)))) hP hD [4] [0, 1, 2, 3, 5, 6, 7, 8, 9, 10, 11, 12, 13] rfl rfl (by decide) (by decide) hk1 hFc hP1 hD1
              have hP := hP.part (cx := wKx cI cQ ad ag lo ch (sX5_put 10 alw (sX1_levelOf rm (sX5_at 150 ch (nI j))) ((sX5_at 10 alw (sX1_levelOf rm (sX5_at 150 ch (nI j)))) + 1)) an sh wa pl rm lk br row dn dy lv od sn) [0, 1, 2, 3, 13, 4, 5, 6, 7, 8, 9, 10, 11, 12] rfl
              have hD := hD.part (cx := wKx cI cQ ad ag lo ch (sX5_put 10 alw (sX1_levelOf rm (sX5_at 150 ch (nI j))) ((sX5_at 10 alw (sX1_levelOf rm (sX5_at 150 ch (nI j)))) + 1)) an sh wa pl rm lk br row dn dy lv od sn) [0, 1, 2, 3, 13, 4, 5, 6, 7, 8, 9, 10, 11, 12] (by decide) rfl
              generalize H1 = H at hP hS ⊢
              have hP : va_P (dC, dI) vwCl (wKx cI cQ ad ag lo ch (sX5_put 10 alw (sX1_levelOf rm (sX5_at 150 ch (nI j))) ((sX5_at 10 alw (sX1_levelOf rm (sX5_at 150 ch (nI j)))) + 1)) an sh wa pl rm lk br row dn dy lv od sn ++ dpl L pd) H := hP
              have hD : va_D A (wKx cI cQ ad ag lo ch (sX5_put 10 alw (sX1_levelOf rm (sX5_at 150 ch (nI j))) ((sX5_at 10 alw (sX1_levelOf rm (sX5_at 150 ch (nI j)))) + 1)) an sh wa pl rm lk br row dn dy lv od sn ++ dpl L pd) := hD
              refine lv_iload_n hx hb dX0_greatestAtOneLevel_74 rfl (lv_at hl 3 rfl) ?_
              refine lv_iload hx hb dX0_greatestAtOneLevel_75 (lv_at hl 0 rfl) ?_
              refine va_mmax hx hb (by rw [hml]; exact hl.1.symm) hown (hts (.methodLink RX0 118 Lib.Math.max.name) (by decide +kernel)) (hts (.static Lib.Math.max.name) (by decide +kernel)) (hts (.initialized "java/lang/Math") (by decide +kernel)) (hts (.code Lib.Math.max.name Lib.Math.max.code 2 (some .int)) (by decide +kernel)) (by decide) (Nat.le_of_ble_eq_true rfl) (by decide) (by decide) dX0_greatestAtOneLevel_77 ?_
              refine lv_istore_n (lv' := [(1, .int (if gr < ((sX5_at 10 alw (sX1_levelOf rm (sX5_at 150 ch (nI j)))) + 1) then ((sX5_at 10 alw (sX1_levelOf rm (sX5_at 150 ch (nI j)))) + 1) else gr)), (4, .int ((sX5_at 10 alw (sX1_levelOf rm (sX5_at 150 ch (nI j)))) + 1)), (3, .int (sX1_levelOf rm (sX5_at 150 ch (nI j)))), (2, .int (nI j)), (0, .ref (ad 1))]) hx hb dX0_greatestAtOneLevel_80 rfl hl (by decide) rfl (fun ls hl => ?_)
              refine lv_iinc (v := nI (j + 1)) (lv' := [(2, .int (nI (j + 1))), (1, .int (if gr < ((sX5_at 10 alw (sX1_levelOf rm (sX5_at 150 ch (nI j)))) + 1) then ((sX5_at 10 alw (sX1_levelOf rm (sX5_at 150 ch (nI j)))) + 1) else gr)), (4, .int ((sX5_at 10 alw (sX1_levelOf rm (sX5_at 150 ch (nI j)))) + 1)), (3, .int (sX1_levelOf rm (sX5_at 150 ch (nI j)))), (0, .ref (ad 1))]) hx hb dX0_greatestAtOneLevel_81 hl (k := 3) rfl (nI_1 j) (by decide) rfl (fun ls hl => ?_)
              refine lv_goto (tgt := 28) hx hb dX0_greatestAtOneLevel_84 (by decide) ?_
              exact ih (if gr < ((sX5_at 10 alw (sX1_levelOf rm (sX5_at 150 ch (nI j)))) + 1) then ((sX5_at 10 alw (sX1_levelOf rm (sX5_at 150 ch (nI j)))) + 1) else gr) (j + 1) (sX5_put 10 alw (sX1_levelOf rm (sX5_at 150 ch (nI j))) ((sX5_at 10 alw (sX1_levelOf rm (sX5_at 150 ch (nI j)))) + 1)) (by omega) (by omega) hex _ _ _ (lv_sub hl [0, 1, 4] rfl) hP hD hS
        exact L28 151 0 0 alv (by decide) (by decide) hex _ _ _ (lv_sub hl [0, 1, 2] rfl) hP hD hS
      · rw [if_neg c_1] at hex
        try have n_1 : ¬ 10 ≤ k := fun h9 => c_1 ((nI_leI (a := 10) (b := k) (by omega) (by omega)).mpr h9)
        refine lv_aload_n hx hb dX0_greatestAtOneLevel_11 rfl (lv_at hl 1 rfl) ?_
        refine va_get (D := (dC, dI)) (ci := 0) (v := .ref (ad 5)) (C := RX0) (T := TX0) (N := 8) hx hb hts hiX0 hown hK.1 hP 0 rfl rfl 6 (by decide) (hts (.fieldLink RX0 23 "CellDays$Cases" "atLevel" "[I") (by decide +kernel)) (fun _ h9 => h9) rfl dX0_greatestAtOneLevel_12 ?_
        refine lv_iload_n hx hb dX0_greatestAtOneLevel_15 rfl (lv_at hl 0 rfl) ?_
        refine lv_iconst (v := 0) hx hb dX0_greatestAtOneLevel_16 (by decide) ?_
        refine va_iast hx hb hK.1 hP hD hS 4 0 rfl rfl (vp_in_nI (n := k) (N := 10) (by omega) (by omega)) dX0_greatestAtOneLevel_17 (fun H locs hP hD hS => ?_)
        rw [nI_clamp (show k < 2 ^ 31 by omega)] at hP hD
        have hP : va_P (dC, dI) vwCl (wKx cI cQ ad ag lo ch (upd alv k 0) an sh wa pl rm lk br row dn dy lv od sn ++ dpl L pd) H := hP
        have hD : va_D A (wKx cI cQ ad ag lo ch (upd alv k 0) an sh wa pl rm lk br row dn dy lv od sn ++ dpl L pd) := hD
        refine lv_iinc (v := nI (k + 1)) (lv' := [(1, .int (nI (k + 1))), (0, .ref (ad 1))]) hx hb dX0_greatestAtOneLevel_18 hl (k := 0) rfl (nI_1 k) (by decide) rfl (fun ls hl => ?_)
        refine lv_goto (tgt := 2) hx hb dX0_greatestAtOneLevel_21 (by decide) ?_
        exact ih (k + 1) (upd alv k 0) (by omega) (by omega) hex _ _ _ (lv_sub hl [0, 1] rfl) hP hD hS
  exact L2 11 0 al (by decide) (by decide) hex _ _ _ (lv_sub hl [0, 1] rfl) hP hD hS

def rX0_passDay : Room := { frames := 2, cells := 0, slots := 0, locals := 43 }
def sX0_passDay_L11 (ag : Nat → Int32) (lo : Nat → Int32) (an : Nat) (lk : Int32) : Nat → Int32 → Nat → (Nat → Int32) → (Nat → Int32)
  | 0, sr, k, chv => (fun _ => 0)
  | n + 1, sr, k, chv => (if (nI an) ≤ (nI k) then chv else sX0_passDay_L11 ag lo an lk n sr (k + 1) (sX5_put 150 chv (nI k) (sX1_chargeBehind (sX5_at 150 chv (nI k)) sr (sX0_leakOf lk (sX5_at 150 ag (nI k))) (sX5_at 150 lo (nI k)))))
def sX0_passDay (ag : Nat → Int32) (lo : Nat → Int32) (ch : Nat → Int32) (an : Nat) (sh : Nat → Int32) (wa : Nat → Int32) (pl : Int32) (lk : Int32) (dd : Int32) : (Nat → Int32) := sX0_passDay_L11 ag lo an lk 151 (sX1_shareOn sh wa pl dd) 0 ch
set_option maxHeartbeats 4000000 in
set_option maxRecDepth 100000 in
theorem kX0_passDay (l : Launch) (dC : Nat → ClassId) (dI : Nat → Nat → Nat) (cI cQ cZ : ClassId) (ad : Nat → Nat) (ag : Nat → Int32) (lo : Nat → Int32) (ch : Nat → Int32) (al : Nat → Int32) (an : Nat) (sh : Nat → Int32) (wa : Nat → Int32) (pl : Int32) (rm : Int32) (lk : Int32) (br : Int32) (row : Nat → Option Nat) (dn : Nat) (dy : Nat → Int32) (lv : Nat → Int32) (od : Nat → Int32) (sn : Nat) (L : List Nat) (pd : Nat → DT) (dd : Int32) (sz : Nat) (han : an ≤ 150) : Met l yX0_passDay wsX0_passDay rX0_passDay (va_Pc [.ref (ad 1), .int dd] (cd_pre dC dI cI cQ cZ (wKx cI cQ ad ag lo ch al an sh wa pl rm lk br row dn dy lv od sn ++ dpl L pd) sz)) (va_Qv (fun _ => True) (cd_post dC dI (wKx cI cQ ad ag lo ch al an sh wa pl rm lk br row dn dy lv od sn ++ dpl L pd) (wKx cI cQ ad ag lo (sX0_passDay ag lo ch an sh wa pl lk dd) al an sh wa pl rm lk br row dn dy lv od sn ++ dpl L pd) sz) (va_A (wKx cI cQ ad ag lo ch al an sh wa pl rm lk br row dn dy lv od sn ++ dpl L pd) sz)) 0 0 (va_A (wKx cI cQ ad ag lo ch al an sh wa pl rm lk br row dn dy lv od sn ++ dpl L pd) sz) := by
  have hiX0 : ∀ w ∈ u_ws RX0 TX0 8, w ∈ wsX0_passDay := by decide +kernel
  generalize hex : sX0_passDay ag lo ch an sh wa pl lk dd = ex
  unfold sX0_passDay at hex
  refine cd_mMv [.ref (ad 1), .int dd] (by decide) rfl (Nat.le_of_ble_eq_true rfl) ?_
  intro Q A p e s m args below meth c ls hx hb hml hown hts hA hinit hret hK hP hD hS hl
  have hl : lv_has ls 5 [(0, .ref (ad 1)), (1, .int dd)] := hl
  refine lv_aload_n hx hb dX0_passDay_0 rfl (lv_at hl 0 rfl) ?_
  refine va_get (D := (dC, dI)) (ci := 0) (v := .ref (ad 6)) (C := RX0) (T := TX0) (N := 8) hx hb hts hiX0 hown hK.1 hP 0 rfl rfl 0 (by decide) (hts (.fieldLink RX0 30 "CellDays$Cases" "cell" "LCellDays$Cell;") (by decide +kernel)) (fun _ h9 => h9) rfl dX0_passDay_1 ?_
  refine lv_iload_n hx hb dX0_passDay_4 rfl (lv_at hl 1 rfl) ?_
  refine cd_rV (As := [.int dd]) (b := (ad 6)) (ci := 1) (q := (RX1, TX1, 6)) (rest := []) ⟨hx, hb, hml, hown, hts⟩ (kX1_shareOn l dC dI cI cQ cZ (ad 6) (ad 7) (ad 8) sh wa pl rm lk br dd) (cwV 1 hts gX0_passDay_X1_shareOn rfl rfl rfl (by decide +kernel) ⟨by decide, by decide⟩) hK (hP.sub (ws' := (wCl cI (ad 6) (ad 7) (ad 8) sh wa pl rm lk br)) [5, 6, 7] rfl) rfl rfl rfl hl.1 rfl (Nat.le_of_ble_eq_true rfl) dX0_passDay_5 ⟨by decide, by decide⟩ ?_
  refine lv_istore_n (lv' := [(2, .int (sX1_shareOn sh wa pl dd)), (0, .ref (ad 1)), (1, .int dd)]) hx hb dX0_passDay_8 rfl hl (by decide) rfl (fun ls hl => ?_)
  refine lv_iconst (v := 0) hx hb dX0_passDay_9 (by decide) ?_
  refine lv_istore_n (lv' := [(3, .int 0), (2, .int (sX1_shareOn sh wa pl dd)), (0, .ref (ad 1)), (1, .int dd)]) hx hb dX0_passDay_10 rfl hl (by decide) rfl (fun ls hl => ?_)
  have L11 : ∀ (n : Nat) (sr : Int32) (k : Nat) (chv : Nat → Int32), (k ≤ 150) → 150 - k < n → sX0_passDay_L11 ag lo an lk n sr k chv = ex → ∀ (ls : Array Slot) (H : Heap) (locs : List Loc), lv_has ls 5 [(3, .int (nI k)), (2, .int sr), (0, .ref (ad 1)), (1, .int dd)] → va_P (dC, dI) vwCl (wKx cI cQ ad ag lo chv al an sh wa pl rm lk br row dn dy lv od sn ++ dpl L pd) H → va_D A (wKx cI cQ ad ag lo chv al an sh wa pl rm lk br row dn dy lv od sn ++ dpl L pd) → va_S A s.heap H locs → W p l e rX0_passDay s m args below meth c H locs 0 0 Q (F0 m 11 ls []) := by
    intro n
    induction n with
    | zero => intro sr k chv hk hm; exact absurd hm (Nat.not_lt_zero _)
    | succ n ih =>
      intro sr k chv hk hm hex ls H locs hl hP hD hS
      rw [sX0_passDay_L11] at hex
      refine lv_iload_n hx hb dX0_passDay_11 rfl (lv_at hl 0 rfl) ?_
      refine lv_aload_n hx hb dX0_passDay_12 rfl (lv_at hl 2 rfl) ?_
      refine va_get (D := (dC, dI)) (ci := 0) (v := .int (nI an)) (C := RX0) (T := TX0) (N := 8) hx hb hts hiX0 hown hK.1 hP 0 rfl rfl 7 (by decide) (hts (.fieldLink RX0 26 "CellDays$Cases" "agreed" "I") (by decide +kernel)) (fun _ h9 => h9) rfl dX0_passDay_13 ?_
      refine lv_icmp_ge (tgt := 73) hx hb dX0_passDay_16 (by decide) (fun c_1 => ?_) (fun c_1 => ?_)
      · rw [if_pos c_1] at hex
        try have n_1 : an ≤ k := (nI_leI (a := an) (b := k) (by omega) (by omega)).mp c_1
        subst hex
        exact hret _ _ _ _ dX0_passDay_73 hP hD hS
      · rw [if_neg c_1] at hex
        try have n_1 : ¬ an ≤ k := fun h9 => c_1 ((nI_leI (a := an) (b := k) (by omega) (by omega)).mpr h9)
        refine lv_aload_n hx hb dX0_passDay_19 rfl (lv_at hl 2 rfl) ?_
        refine lv_aload_n hx hb dX0_passDay_20 rfl (lv_at hl 2 rfl) ?_
        refine va_get (D := (dC, dI)) (ci := 0) (v := .ref (ad 2)) (C := RX0) (T := TX0) (N := 8) hx hb hts hiX0 hown hK.1 hP 0 rfl rfl 3 (by decide) (hts (.fieldLink RX0 11 "CellDays$Cases" "agreeing" "[I") (by decide +kernel)) (fun _ h9 => h9) rfl dX0_passDay_21 ?_
        refine lv_iload_n hx hb dX0_passDay_24 rfl (lv_at hl 0 rfl) ?_
        refine cd_rSN (As := [.ref (ad 2), .int (nI k)]) (rest := [.ref (ad 1)]) ⟨hx, hb, hml, hown, hts⟩ (kX5_at l dC dI cI cQ cZ (ad 2) 150 ag (nI k) (by decide)) ⟨va_cnB 2 hts gX0_passDay_X5_at_n104 rfl rfl rfl (hK.2.1 (.methodLinkNest RX0 104 yX5_at RX5) (by decide +kernel)) (hts (.initialized RX5) (by decide +kernel)) (by decide +kernel) ⟨by decide, by decide⟩, hts (.static yX5_at) (by decide +kernel), trivial⟩ hK (hP.sub (ws' := (wAr cI (ad 2) 150 ag)) [1] rfl) rfl hl.1 rfl (Nat.le_of_ble_eq_true rfl) dX0_passDay_25 ⟨by decide, by decide⟩ ?_
        refine cd_rV (As := [.int (sX5_at 150 ag (nI k))]) (b := (ad 1)) (ci := 0) (q := (RX0, TX0, 8)) (rest := []) ⟨hx, hb, hml, hown, hts⟩ (kX0_leakOf l dC dI cI cQ cZ ad ag lo chv al an sh wa pl rm lk br row dn dy lv od sn L pd (sX5_at 150 ag (nI k))) (cwV 1 hts gX0_passDay_X0_leakOf rfl rfl rfl (by decide +kernel) ⟨by decide, by decide⟩) hK hP rfl rfl rfl hl.1 rfl (Nat.le_of_ble_eq_true rfl) dX0_passDay_28 ⟨by decide, by decide⟩ ?_
        refine lv_istore (lv' := [(4, .int (sX0_leakOf lk (sX5_at 150 ag (nI k)))), (3, .int (nI k)), (2, .int sr), (0, .ref (ad 1)), (1, .int dd)]) hx hb dX0_passDay_31 hl (by decide) rfl (fun ls hl => ?_)
        refine lv_aload_n hx hb dX0_passDay_33 rfl (lv_at hl 3 rfl) ?_
        refine va_get (D := (dC, dI)) (ci := 0) (v := .ref (ad 4)) (C := RX0) (T := TX0) (N := 8) hx hb hts hiX0 hown hK.1 hP 0 rfl rfl 5 (by decide) (hts (.fieldLink RX0 18 "CellDays$Cases" "charges" "[I") (by decide +kernel)) (fun _ h9 => h9) rfl dX0_passDay_34 ?_
        refine lv_iload_n hx hb dX0_passDay_37 rfl (lv_at hl 1 rfl) ?_
        refine lv_aload_n hx hb dX0_passDay_38 rfl (lv_at hl 3 rfl) ?_
        refine va_get (D := (dC, dI)) (ci := 0) (v := .ref (ad 6)) (C := RX0) (T := TX0) (N := 8) hx hb hts hiX0 hown hK.1 hP 0 rfl rfl 0 (by decide) (hts (.fieldLink RX0 30 "CellDays$Cases" "cell" "LCellDays$Cell;") (by decide +kernel)) (fun _ h9 => h9) rfl dX0_passDay_39 ?_
        refine lv_aload_n hx hb dX0_passDay_42 rfl (lv_at hl 3 rfl) ?_
        refine va_get (D := (dC, dI)) (ci := 0) (v := .ref (ad 4)) (C := RX0) (T := TX0) (N := 8) hx hb hts hiX0 hown hK.1 hP 0 rfl rfl 5 (by decide) (hts (.fieldLink RX0 18 "CellDays$Cases" "charges" "[I") (by decide +kernel)) (fun _ h9 => h9) rfl dX0_passDay_43 ?_
        refine lv_iload_n hx hb dX0_passDay_46 rfl (lv_at hl 1 rfl) ?_
        refine cd_rSN (As := [.ref (ad 4), .int (nI k)]) (rest := [.ref (ad 6), .int (nI k), .ref (ad 4)]) ⟨hx, hb, hml, hown, hts⟩ (kX5_at l dC dI cI cQ cZ (ad 4) 150 chv (nI k) (by decide)) ⟨va_cnB 2 hts gX0_passDay_X5_at_n104 rfl rfl rfl (hK.2.1 (.methodLinkNest RX0 104 yX5_at RX5) (by decide +kernel)) (hts (.initialized RX5) (by decide +kernel)) (by decide +kernel) ⟨by decide, by decide⟩, hts (.static yX5_at) (by decide +kernel), trivial⟩ hK (hP.sub (ws' := (wAr cI (ad 4) 150 chv)) [3] rfl) rfl hl.1 rfl (Nat.le_of_ble_eq_true rfl) dX0_passDay_47 ⟨by decide, by decide⟩ ?_
        refine lv_iload_n hx hb dX0_passDay_50 rfl (lv_at hl 2 rfl) ?_
        refine lv_iload hx hb dX0_passDay_51 (lv_at hl 0 rfl) ?_
        refine lv_aload_n hx hb dX0_passDay_53 rfl (lv_at hl 3 rfl) ?_
        refine va_get (D := (dC, dI)) (ci := 0) (v := .ref (ad 3)) (C := RX0) (T := TX0) (N := 8) hx hb hts hiX0 hown hK.1 hP 0 rfl rfl 4 (by decide) (hts (.fieldLink RX0 15 "CellDays$Cases" "loads" "[I") (by decide +kernel)) (fun _ h9 => h9) rfl dX0_passDay_54 ?_
        refine lv_iload_n hx hb dX0_passDay_57 rfl (lv_at hl 1 rfl) ?_
        refine cd_rSN (As := [.ref (ad 3), .int (nI k)]) (rest := [.int (sX0_leakOf lk (sX5_at 150 ag (nI k))), .int sr, .int (sX5_at 150 chv (nI k)), .ref (ad 6), .int (nI k), .ref (ad 4)]) ⟨hx, hb, hml, hown, hts⟩ (kX5_at l dC dI cI cQ cZ (ad 3) 150 lo (nI k) (by decide)) ⟨va_cnB 2 hts gX0_passDay_X5_at_n104 rfl rfl rfl (hK.2.1 (.methodLinkNest RX0 104 yX5_at RX5) (by decide +kernel)) (hts (.initialized RX5) (by decide +kernel)) (by decide +kernel) ⟨by decide, by decide⟩, hts (.static yX5_at) (by decide +kernel), trivial⟩ hK (hP.sub (ws' := (wAr cI (ad 3) 150 lo)) [2] rfl) rfl hl.1 rfl (Nat.le_of_ble_eq_true rfl) dX0_passDay_58 ⟨by decide, by decide⟩ ?_
        refine cd_rV (As := [.int (sX5_at 150 chv (nI k)), .int sr, .int (sX0_leakOf lk (sX5_at 150 ag (nI k))), .int (sX5_at 150 lo (nI k))]) (b := (ad 6)) (ci := 1) (q := (RX1, TX1, 6)) (rest := [.int (nI k), .ref (ad 4)]) ⟨hx, hb, hml, hown, hts⟩ (kX1_chargeBehind l dC dI cI cQ cZ (ad 6) (ad 7) (ad 8) sh wa pl rm lk br (sX5_at 150 chv (nI k)) sr (sX0_leakOf lk (sX5_at 150 ag (nI k))) (sX5_at 150 lo (nI k))) (cwV 4 hts gX0_passDay_X1_chargeBehind rfl rfl rfl (by decide +kernel) ⟨by decide, by decide⟩) hK (hP.sub (ws' := (wCl cI (ad 6) (ad 7) (ad 8) sh wa pl rm lk br)) [5, 6, 7] rfl) rfl rfl rfl hl.1 rfl (Nat.le_of_ble_eq_true rfl) dX0_passDay_61 ⟨by decide, by decide⟩ ?_
        have hDc : va_D A (wAr cI (ad 4) 150 chv) := (hD.sub (ws' := (wAr cI (ad 4) 150 chv)) [3] (by decide) rfl)
        have hFc := cd_F hDc hS hA
        refine cd_wSv (As := [.ref (ad 4), .int (nI k), .int (sX1_chargeBehind (sX5_at 150 chv (nI k)) sr (sX0_leakOf lk (sX5_at 150 ag (nI k))) (sX5_at 150 lo (nI k)))]) (rest := []) ⟨hx, hb, hml, hown, hts⟩ (kX5_put l dC dI cI cQ cZ (ad 4) 150 chv (nI k) (sX1_chargeBehind (sX5_at 150 chv (nI k)) sr (sX0_leakOf lk (sX5_at 150 ag (nI k))) (sX5_at 150 lo (nI k))) H.size (by decide)) ⟨va_cnB 3 hts gX0_passDay_X5_put_n100 rfl rfl rfl (hK.2.1 (.methodLinkNest RX0 100 yX5_put RX5) (by decide +kernel)) (hts (.initialized RX5) (by decide +kernel)) (by decide +kernel) ⟨by decide, by decide⟩, hts (.static yX5_put) (by decide +kernel), trivial⟩ hK (hP.sub (ws' := (wAr cI (ad 4) 150 chv)) [3] rfl) hDc hFc hS rfl hl.1 rfl (Nat.le_of_ble_eq_true rfl) dX0_passDay_64 ⟨by decide, by decide⟩ (fun H1 locs hP1 hD1 hk1 hS => ?_)
        obtain ⟨hP, hD⟩ := va_joinQ (X := wKx cI cQ ad ag lo chv al an sh wa pl rm lk br row dn dy lv od sn) (cx := (wAr cI (ad 4) 150 chv)) (wr := [(ad 1, .inr (0, [.ref (ad 6), .ref (ad 9), .ref (ad 11), .ref (ad 2), .ref (ad 3), .ref (ad 4), .ref (ad 5), .int (nI an)])), (ad 2, .inl (cI, 150, .inl ag)), (ad 3, .inl (cI, 150, .inl lo)), (ad 5, .inl (cI, 10, .inl al)), (ad 6, .inr (1, [.ref (ad 7), .ref (ad 8), .int pl, .int rm, .int lk, .int br])), (ad 7, .inl (cI, 3, .inl sh)), (ad 8, .inl (cI, 12, .inl wa)), (ad 9, .inr (2, [.ref (ad 10), .int (nI dn)])), (ad 10, .inl (cQ, 8, .inr (.inr (.inr (.inr row))))), (ad 11, .inr (4, [.ref (ad 12), .ref (ad 13), .ref (ad 14), .int (nI sn)])), (ad 12, .inl (cI, 12, .inl dy)), (ad 13, .inl (cI, 12, .inl lv)), (ad 14, .inl (cI, 12, .inl od))]) (w1 := (wAr cI (ad 4) 150 (sX5_put 150 chv (nI k) (sX1_chargeBehind (sX5_at 150 chv (nI k)) sr (sX0_leakOf lk (sX5_at 150 ag (nI k))) (sX5_at 150 lo (nI k)))))) hP hD [3] [0, 1, 2, 4, 5, 6, 7, 8, 9, 10, 11, 12, 13] rfl rfl (by decide) (by decide) hk1 hFc hP1 hD1
        have hP := hP.part (cx := wKx cI cQ ad ag lo (sX5_put 150 chv (nI k) (sX1_chargeBehind (sX5_at 150 chv (nI k)) sr (sX0_leakOf lk (sX5_at 150 ag (nI k))) (sX5_at 150 lo (nI k)))) al an sh wa pl rm lk br row dn dy lv od sn) [0, 1, 2, 13, 3, 4, 5, 6, 7, 8, 9, 10, 11, 12] rfl
        have hD := hD.part (cx := wKx cI cQ ad ag lo (sX5_put 150 chv (nI k) (sX1_chargeBehind (sX5_at 150 chv (nI k)) sr (sX0_leakOf lk (sX5_at 150 ag (nI k))) (sX5_at 150 lo (nI k)))) al an sh wa pl rm lk br row dn dy lv od sn) [0, 1, 2, 13, 3, 4, 5, 6, 7, 8, 9, 10, 11, 12] (by decide) rfl
        generalize H1 = H at hP hS ⊢
        have hP : va_P (dC, dI) vwCl (wKx cI cQ ad ag lo (sX5_put 150 chv (nI k) (sX1_chargeBehind (sX5_at 150 chv (nI k)) sr (sX0_leakOf lk (sX5_at 150 ag (nI k))) (sX5_at 150 lo (nI k)))) al an sh wa pl rm lk br row dn dy lv od sn ++ dpl L pd) H := hP
        have hD : va_D A (wKx cI cQ ad ag lo (sX5_put 150 chv (nI k) (sX1_chargeBehind (sX5_at 150 chv (nI k)) sr (sX0_leakOf lk (sX5_at 150 ag (nI k))) (sX5_at 150 lo (nI k)))) al an sh wa pl rm lk br row dn dy lv od sn ++ dpl L pd) := hD
        refine lv_iinc (v := nI (k + 1)) (lv' := [(3, .int (nI (k + 1))), (4, .int (sX0_leakOf lk (sX5_at 150 ag (nI k)))), (2, .int sr), (0, .ref (ad 1)), (1, .int dd)]) hx hb dX0_passDay_67 hl (k := 1) rfl (nI_1 k) (by decide) rfl (fun ls hl => ?_)
        refine lv_goto (tgt := 11) hx hb dX0_passDay_70 (by decide) ?_
        exact ih sr (k + 1) (sX5_put 150 chv (nI k) (sX1_chargeBehind (sX5_at 150 chv (nI k)) sr (sX0_leakOf lk (sX5_at 150 ag (nI k))) (sX5_at 150 lo (nI k)))) (by omega) (by omega) hex _ _ _ (lv_sub hl [0, 2, 3, 4] rfl) hP hD hS
  exact L11 151 (sX1_shareOn sh wa pl dd) 0 ch (by decide) (by decide) hex _ _ _ (lv_sub hl [0, 1, 2, 3] rfl) hP hD hS

def rX0_dayThatTellsMost : Room := { frames := 5, cells := 0, slots := 0, locals := 113 }
def sX0_dayThatTellsMost_L23 (ag : Nat → Int32) (an : Nat) (sh : Nat → Int32) (wa : Nat → Int32) (pl : Int32) (rm : Int32) (lk : Int32) : Nat → Int32 → Int32 → Nat → (Nat → Int32) → (Nat → Int32) → (Nat → Int32) → Int32 × (Nat → Int32) × (Nat → Int32) × (Nat → Int32)
  | 0, bs, lst, k, lov, chv, alv => (0, (fun _ => 0), (fun _ => 0), (fun _ => 0))
  | n + 1, bs, lst, k, lov, chv, alv => (if 400 ≤ (nI k) then (bs, lov, chv, alv) else (if lst ≤ ((sX0_greatestAtOneLevel chv alv an rm).1) then (if (sX5_at 10 ((sX0_greatestAtOneLevel chv alv an rm).2) 0) = (nI an) then (bs, lov, chv, (sX0_greatestAtOneLevel chv alv an rm).2) else sX0_dayThatTellsMost_L23 ag an sh wa pl rm lk n bs lst (k + 1) lov (sX0_passDay ag lov chv an sh wa pl lk (nI k)) ((sX0_greatestAtOneLevel chv alv an rm).2)) else (if (sX5_at 10 ((sX0_greatestAtOneLevel chv alv an rm).2) 0) = (nI an) then (nI k, lov, chv, (sX0_greatestAtOneLevel chv alv an rm).2) else sX0_dayThatTellsMost_L23 ag an sh wa pl rm lk n (nI k) ((sX0_greatestAtOneLevel chv alv an rm).1) (k + 1) lov (sX0_passDay ag lov chv an sh wa pl lk (nI k)) ((sX0_greatestAtOneLevel chv alv an rm).2))))
def sX0_dayThatTellsMost (ag : Nat → Int32) (lo : Nat → Int32) (ch : Nat → Int32) (al : Nat → Int32) (an : Nat) (sh : Nat → Int32) (wa : Nat → Int32) (pl : Int32) (rm : Int32) (lk : Int32) (br : Int32) (row : Nat → Option Nat) (dn : Nat) (pd : Nat → DT) : Int32 × (Nat → Int32) × (Nat → Int32) × (Nat → Int32) := (if 2 ≤ (nI an) then sX0_dayThatTellsMost_L23 ag an sh wa pl rm lk 401 0 151 0 ((sX0_startAgreeing ag lo ch an rm br row dn pd).1) ((sX0_startAgreeing ag lo ch an rm br row dn pd).2) al else ((-9), lo, ch, al))
set_option maxHeartbeats 4000000 in
set_option maxRecDepth 100000 in
theorem kX0_dayThatTellsMost (l : Launch) (dC : Nat → ClassId) (dI : Nat → Nat → Nat) (cI cQ cZ : ClassId) (ad : Nat → Nat) (ag : Nat → Int32) (lo : Nat → Int32) (ch : Nat → Int32) (al : Nat → Int32) (an : Nat) (sh : Nat → Int32) (wa : Nat → Int32) (pl : Int32) (rm : Int32) (lk : Int32) (br : Int32) (row : Nat → Option Nat) (dn : Nat) (dy : Nat → Int32) (lv : Nat → Int32) (od : Nat → Int32) (sn : Nat) (L : List Nat) (pd : Nat → DT) (sz : Nat) (hdn : dn ≤ 8) (hrw : ∀ j y, row j = some y → y ∈ L) (han : an ≤ 150) : Met l yX0_dayThatTellsMost wsX0_dayThatTellsMost rX0_dayThatTellsMost (va_Pc [.ref (ad 1)] (cd_pre dC dI cI cQ cZ (wKx cI cQ ad ag lo ch al an sh wa pl rm lk br row dn dy lv od sn ++ dpl L pd) sz)) (va_Qi (fun r _ => r = (sX0_dayThatTellsMost ag lo ch al an sh wa pl rm lk br row dn pd).1) (cd_post dC dI (wKx cI cQ ad ag lo ch al an sh wa pl rm lk br row dn dy lv od sn ++ dpl L pd) (wKx cI cQ ad ag ((sX0_dayThatTellsMost ag lo ch al an sh wa pl rm lk br row dn pd).2.1) ((sX0_dayThatTellsMost ag lo ch al an sh wa pl rm lk br row dn pd).2.2.1) ((sX0_dayThatTellsMost ag lo ch al an sh wa pl rm lk br row dn pd).2.2.2) an sh wa pl rm lk br row dn dy lv od sn ++ dpl L pd) sz) (va_A (wKx cI cQ ad ag lo ch al an sh wa pl rm lk br row dn dy lv od sn ++ dpl L pd) sz)) 0 0 (va_A (wKx cI cQ ad ag lo ch al an sh wa pl rm lk br row dn dy lv od sn ++ dpl L pd) sz) := by
  have hiX0 : ∀ w ∈ u_ws RX0 TX0 8, w ∈ wsX0_dayThatTellsMost := by decide +kernel
  generalize hex : sX0_dayThatTellsMost ag lo ch al an sh wa pl rm lk br row dn pd = ex
  unfold sX0_dayThatTellsMost at hex
  refine cd_mMi [.ref (ad 1)] (by decide) rfl (Nat.le_of_ble_eq_true rfl) ?_
  intro Q A p e s m args below meth c ls hx hb hml hown hts hA hret hK hP hD hS hl
  have hl : lv_has ls 5 [(0, .ref (ad 1))] := hl
  refine lv_aload_n hx hb dX0_dayThatTellsMost_0 rfl (lv_at hl 0 rfl) ?_
  refine va_get (D := (dC, dI)) (ci := 0) (v := .int (nI an)) (C := RX0) (T := TX0) (N := 8) hx hb hts hiX0 hown hK.1 hP 0 rfl rfl 7 (by decide) (hts (.fieldLink RX0 26 "CellDays$Cases" "agreed" "I") (by decide +kernel)) (fun _ h9 => h9) rfl dX0_dayThatTellsMost_1 ?_
  refine lv_iconst (v := 2) hx hb dX0_dayThatTellsMost_4 (by decide) ?_
  refine lv_icmp_ge (tgt := 11) hx hb dX0_dayThatTellsMost_5 (by decide) (fun c_1 => ?_) (fun c_1 => ?_)
  · rw [if_pos c_1] at hex
    try have n_1 : 2 ≤ an := (nI_leI (a := 2) (b := an) (by omega) (by omega)).mp c_1
    refine lv_aload_n hx hb dX0_dayThatTellsMost_11 rfl (lv_at hl 0 rfl) ?_
    have hDc : va_D A (wKx cI cQ ad ag lo ch al an sh wa pl rm lk br row dn dy lv od sn ++ dpl L pd) := hD
    have hFc := cd_F hDc hS hA
    refine cd_wVv (As := []) (b := (ad 1)) (ci := 0) (q := (RX0, TX0, 8)) (rest := []) ⟨hx, hb, hml, hown, hts⟩ (kX0_startAgreeing l dC dI cI cQ cZ ad ag lo ch al an sh wa pl rm lk br row dn dy lv od sn L pd s.heap.size hdn hrw han) (cwV 0 hts gX0_dayThatTellsMost_X0_startAgreeing rfl rfl rfl (by decide +kernel) ⟨by decide, by decide⟩) hK hP hDc hFc hS rfl rfl rfl hl.1 rfl (Nat.le_of_ble_eq_true rfl) dX0_dayThatTellsMost_12 ⟨by decide, by decide⟩ (fun H1 locs hP1 hD1 hk1 hS => ?_)
    have hP := hP1
    have hD := cd_DA hD1 hFc
    generalize H1 = H at hP hS ⊢
    have hP : va_P (dC, dI) vwCl (wKx cI cQ ad ag ((sX0_startAgreeing ag lo ch an rm br row dn pd).1) ((sX0_startAgreeing ag lo ch an rm br row dn pd).2) al an sh wa pl rm lk br row dn dy lv od sn ++ dpl L pd) H := hP
    have hD : va_D A (wKx cI cQ ad ag ((sX0_startAgreeing ag lo ch an rm br row dn pd).1) ((sX0_startAgreeing ag lo ch an rm br row dn pd).2) al an sh wa pl rm lk br row dn dy lv od sn ++ dpl L pd) := hD
    refine lv_iconst (v := 0) hx hb dX0_dayThatTellsMost_15 (by decide) ?_
    refine lv_istore_n (lv' := [(1, .int 0), (0, .ref (ad 1))]) hx hb dX0_dayThatTellsMost_16 rfl hl (by decide) rfl (fun ls hl => ?_)
    refine lv_sipush (v := 151) hx hb dX0_dayThatTellsMost_17 (by decide) ?_
    refine lv_istore_n (lv' := [(2, .int 151), (1, .int 0), (0, .ref (ad 1))]) hx hb dX0_dayThatTellsMost_20 rfl hl (by decide) rfl (fun ls hl => ?_)
    refine lv_iconst (v := 0) hx hb dX0_dayThatTellsMost_21 (by decide) ?_
    refine lv_istore_n (lv' := [(3, .int 0), (2, .int 151), (1, .int 0), (0, .ref (ad 1))]) hx hb dX0_dayThatTellsMost_22 rfl hl (by decide) rfl (fun ls hl => ?_)
    have L23 : ∀ (n : Nat) (bs : Int32) (lst : Int32) (k : Nat) (lov : Nat → Int32) (chv : Nat → Int32) (alv : Nat → Int32), (k ≤ 400) → 400 - k < n → sX0_dayThatTellsMost_L23 ag an sh wa pl rm lk n bs lst k lov chv alv = ex → ∀ (ls : Array Slot) (H : Heap) (locs : List Loc), lv_has ls 5 [(3, .int (nI k)), (2, .int lst), (1, .int bs), (0, .ref (ad 1))] → va_P (dC, dI) vwCl (wKx cI cQ ad ag lov chv alv an sh wa pl rm lk br row dn dy lv od sn ++ dpl L pd) H → va_D A (wKx cI cQ ad ag lov chv alv an sh wa pl rm lk br row dn dy lv od sn ++ dpl L pd) → va_S A s.heap H locs → W p l e rX0_dayThatTellsMost s m args below meth c H locs 0 0 Q (F0 m 23 ls []) := by
      intro n
      induction n with
      | zero => intro bs lst k lov chv alv hk hm; exact absurd hm (Nat.not_lt_zero _)
      | succ n ih =>
        intro bs lst k lov chv alv hk hm hex ls H locs hl hP hD hS
        rw [sX0_dayThatTellsMost_L23] at hex
        refine lv_iload_n hx hb dX0_dayThatTellsMost_23 rfl (lv_at hl 0 rfl) ?_
        refine lv_sipush (v := 400) hx hb dX0_dayThatTellsMost_24 (by decide) ?_
        refine lv_icmp_ge (tgt := 76) hx hb dX0_dayThatTellsMost_27 (by decide) (fun c_2 => ?_) (fun c_2 => ?_)
        · rw [if_pos c_2] at hex
          try have n_2 : 400 ≤ k := (nI_leI (a := 400) (b := k) (by omega) (by omega)).mp c_2
          refine lv_iload_n hx hb dX0_dayThatTellsMost_76 rfl (lv_at hl 2 rfl) ?_
          subst hex
          exact hret _ _ _ _ dX0_dayThatTellsMost_77 hP hD hS
        · rw [if_neg c_2] at hex
          try have n_2 : ¬ 400 ≤ k := fun h9 => c_2 ((nI_leI (a := 400) (b := k) (by omega) (by omega)).mpr h9)
          refine lv_aload_n hx hb dX0_dayThatTellsMost_30 rfl (lv_at hl 3 rfl) ?_
          have hDc : va_D A (wKx cI cQ ad ag lov chv alv an sh wa pl rm lk br row dn dy lv od sn ++ dpl L pd) := hD
          have hFc := cd_F hDc hS hA
          refine cd_wV (As := []) (b := (ad 1)) (ci := 0) (q := (RX0, TX0, 8)) (rest := []) ⟨hx, hb, hml, hown, hts⟩ (kX0_greatestAtOneLevel l dC dI cI cQ cZ ad ag lov chv alv an sh wa pl rm lk br row dn dy lv od sn L pd H.size han) (cwV 0 hts gX0_dayThatTellsMost_X0_greatestAtOneLevel rfl rfl rfl (by decide +kernel) ⟨by decide, by decide⟩) hK hP hDc hFc hS rfl rfl rfl hl.1 rfl (Nat.le_of_ble_eq_true rfl) dX0_dayThatTellsMost_31 ⟨by decide, by decide⟩ (fun H1 locs hP1 hD1 hk1 hS => ?_)
          have hP := hP1
          have hD := cd_DA hD1 hFc
          generalize H1 = H at hP hS ⊢
          have hP : va_P (dC, dI) vwCl (wKx cI cQ ad ag lov chv ((sX0_greatestAtOneLevel chv alv an rm).2) an sh wa pl rm lk br row dn dy lv od sn ++ dpl L pd) H := hP
          have hD : va_D A (wKx cI cQ ad ag lov chv ((sX0_greatestAtOneLevel chv alv an rm).2) an sh wa pl rm lk br row dn dy lv od sn ++ dpl L pd) := hD
          refine lv_istore (lv' := [(4, .int ((sX0_greatestAtOneLevel chv alv an rm).1)), (3, .int (nI k)), (2, .int lst), (1, .int bs), (0, .ref (ad 1))]) hx hb dX0_dayThatTellsMost_34 hl (by decide) rfl (fun ls hl => ?_)
          refine lv_iload hx hb dX0_dayThatTellsMost_36 (lv_at hl 0 rfl) ?_
          refine lv_iload_n hx hb dX0_dayThatTellsMost_38 rfl (lv_at hl 2 rfl) ?_
          refine lv_icmp_ge (tgt := 47) hx hb dX0_dayThatTellsMost_39 (by decide) (fun c_3 => ?_) (fun c_3 => ?_)
          · rw [if_pos c_3] at hex
            refine lv_aload_n hx hb dX0_dayThatTellsMost_47 rfl (lv_at hl 4 rfl) ?_
            refine va_get (D := (dC, dI)) (ci := 0) (v := .ref (ad 5)) (C := RX0) (T := TX0) (N := 8) hx hb hts hiX0 hown hK.1 hP 0 rfl rfl 6 (by decide) (hts (.fieldLink RX0 23 "CellDays$Cases" "atLevel" "[I") (by decide +kernel)) (fun _ h9 => h9) rfl dX0_dayThatTellsMost_48 ?_
            refine lv_iconst (v := 0) hx hb dX0_dayThatTellsMost_51 (by decide) ?_
            refine cd_rSN (As := [.ref (ad 5), .int 0]) (rest := []) ⟨hx, hb, hml, hown, hts⟩ (kX5_at l dC dI cI cQ cZ (ad 5) 10 ((sX0_greatestAtOneLevel chv alv an rm).2) 0 (by decide)) ⟨va_cnB 2 hts gX0_dayThatTellsMost_X5_at_n104 rfl rfl rfl (hK.2.1 (.methodLinkNest RX0 104 yX5_at RX5) (by decide +kernel)) (hts (.initialized RX5) (by decide +kernel)) (by decide +kernel) ⟨by decide, by decide⟩, hts (.static yX5_at) (by decide +kernel), trivial⟩ hK (hP.sub (ws' := (wAr cI (ad 5) 10 ((sX0_greatestAtOneLevel chv alv an rm).2))) [4] rfl) rfl hl.1 rfl (Nat.le_of_ble_eq_true rfl) dX0_dayThatTellsMost_52 ⟨by decide, by decide⟩ ?_
            refine lv_aload_n hx hb dX0_dayThatTellsMost_55 rfl (lv_at hl 4 rfl) ?_
            refine va_get (D := (dC, dI)) (ci := 0) (v := .int (nI an)) (C := RX0) (T := TX0) (N := 8) hx hb hts hiX0 hown hK.1 hP 0 rfl rfl 7 (by decide) (hts (.fieldLink RX0 26 "CellDays$Cases" "agreed" "I") (by decide +kernel)) (fun _ h9 => h9) rfl dX0_dayThatTellsMost_56 ?_
            refine lv_icmp_ne (tgt := 65) hx hb dX0_dayThatTellsMost_59 (by decide) (fun c_4 => ?_) (fun c_4 => ?_)
            · rw [if_neg c_4] at hex
              refine lv_aload_n hx hb dX0_dayThatTellsMost_65 rfl (lv_at hl 4 rfl) ?_
              refine lv_iload_n hx hb dX0_dayThatTellsMost_66 rfl (lv_at hl 1 rfl) ?_
              have hDc : va_D A (wKx cI cQ ad ag lov chv ((sX0_greatestAtOneLevel chv alv an rm).2) an sh wa pl rm lk br row dn dy lv od sn ++ dpl L pd) := hD
              have hFc := cd_F hDc hS hA
              refine cd_wVv (As := [.int (nI k)]) (b := (ad 1)) (ci := 0) (q := (RX0, TX0, 8)) (rest := []) ⟨hx, hb, hml, hown, hts⟩ (kX0_passDay l dC dI cI cQ cZ ad ag lov chv ((sX0_greatestAtOneLevel chv alv an rm).2) an sh wa pl rm lk br row dn dy lv od sn L pd (nI k) H.size han) (cwV 1 hts gX0_dayThatTellsMost_X0_passDay rfl rfl rfl (by decide +kernel) ⟨by decide, by decide⟩) hK hP hDc hFc hS rfl rfl rfl hl.1 rfl (Nat.le_of_ble_eq_true rfl) dX0_dayThatTellsMost_67 ⟨by decide, by decide⟩ (fun H1 locs hP1 hD1 hk1 hS => ?_)
              have hP := hP1
              have hD := cd_DA hD1 hFc
              generalize H1 = H at hP hS ⊢
              have hP : va_P (dC, dI) vwCl (wKx cI cQ ad ag lov (sX0_passDay ag lov chv an sh wa pl lk (nI k)) ((sX0_greatestAtOneLevel chv alv an rm).2) an sh wa pl rm lk br row dn dy lv od sn ++ dpl L pd) H := hP
              have hD : va_D A (wKx cI cQ ad ag lov (sX0_passDay ag lov chv an sh wa pl lk (nI k)) ((sX0_greatestAtOneLevel chv alv an rm).2) an sh wa pl rm lk br row dn dy lv od sn ++ dpl L pd) := hD
              refine lv_iinc (v := nI (k + 1)) (lv' := [(3, .int (nI (k + 1))), (4, .int ((sX0_greatestAtOneLevel chv alv an rm).1)), (2, .int lst), (1, .int bs), (0, .ref (ad 1))]) hx hb dX0_dayThatTellsMost_70 hl (k := 1) rfl (nI_1 k) (by decide) rfl (fun ls hl => ?_)
              refine lv_goto (tgt := 23) hx hb dX0_dayThatTellsMost_73 (by decide) ?_
              exact ih bs lst (k + 1) lov (sX0_passDay ag lov chv an sh wa pl lk (nI k)) ((sX0_greatestAtOneLevel chv alv an rm).2) (by omega) (by omega) hex _ _ _ (lv_sub hl [0, 2, 3, 4] rfl) hP hD hS
            · rw [if_pos c_4] at hex
              refine lv_goto (tgt := 76) hx hb dX0_dayThatTellsMost_62 (by decide) ?_
              refine lv_iload_n hx hb dX0_dayThatTellsMost_76 rfl (lv_at hl 3 rfl) ?_
              subst hex
              exact hret _ _ _ _ dX0_dayThatTellsMost_77 hP hD hS
          · rw [if_neg c_3] at hex
            refine lv_iload hx hb dX0_dayThatTellsMost_42 (lv_at hl 0 rfl) ?_
            refine lv_istore_n (lv' := [(2, .int ((sX0_greatestAtOneLevel chv alv an rm).1)), (4, .int ((sX0_greatestAtOneLevel chv alv an rm).1)), (3, .int (nI k)), (1, .int bs), (0, .ref (ad 1))]) hx hb dX0_dayThatTellsMost_44 rfl hl (by decide) rfl (fun ls hl => ?_)
            refine lv_iload_n hx hb dX0_dayThatTellsMost_45 rfl (lv_at hl 2 rfl) ?_
            refine lv_istore_n (lv' := [(1, .int (nI k)), (2, .int ((sX0_greatestAtOneLevel chv alv an rm).1)), (4, .int ((sX0_greatestAtOneLevel chv alv an rm).1)), (3, .int (nI k)), (0, .ref (ad 1))]) hx hb dX0_dayThatTellsMost_46 rfl hl (by decide) rfl (fun ls hl => ?_)
            refine lv_aload_n hx hb dX0_dayThatTellsMost_47 rfl (lv_at hl 4 rfl) ?_
            refine va_get (D := (dC, dI)) (ci := 0) (v := .ref (ad 5)) (C := RX0) (T := TX0) (N := 8) hx hb hts hiX0 hown hK.1 hP 0 rfl rfl 6 (by decide) (hts (.fieldLink RX0 23 "CellDays$Cases" "atLevel" "[I") (by decide +kernel)) (fun _ h9 => h9) rfl dX0_dayThatTellsMost_48 ?_
            refine lv_iconst (v := 0) hx hb dX0_dayThatTellsMost_51 (by decide) ?_
            refine cd_rSN (As := [.ref (ad 5), .int 0]) (rest := []) ⟨hx, hb, hml, hown, hts⟩ (kX5_at l dC dI cI cQ cZ (ad 5) 10 ((sX0_greatestAtOneLevel chv alv an rm).2) 0 (by decide)) ⟨va_cnB 2 hts gX0_dayThatTellsMost_X5_at_n104 rfl rfl rfl (hK.2.1 (.methodLinkNest RX0 104 yX5_at RX5) (by decide +kernel)) (hts (.initialized RX5) (by decide +kernel)) (by decide +kernel) ⟨by decide, by decide⟩, hts (.static yX5_at) (by decide +kernel), trivial⟩ hK (hP.sub (ws' := (wAr cI (ad 5) 10 ((sX0_greatestAtOneLevel chv alv an rm).2))) [4] rfl) rfl hl.1 rfl (Nat.le_of_ble_eq_true rfl) dX0_dayThatTellsMost_52 ⟨by decide, by decide⟩ ?_
            refine lv_aload_n hx hb dX0_dayThatTellsMost_55 rfl (lv_at hl 4 rfl) ?_
            refine va_get (D := (dC, dI)) (ci := 0) (v := .int (nI an)) (C := RX0) (T := TX0) (N := 8) hx hb hts hiX0 hown hK.1 hP 0 rfl rfl 7 (by decide) (hts (.fieldLink RX0 26 "CellDays$Cases" "agreed" "I") (by decide +kernel)) (fun _ h9 => h9) rfl dX0_dayThatTellsMost_56 ?_
            refine lv_icmp_ne (tgt := 65) hx hb dX0_dayThatTellsMost_59 (by decide) (fun c_5 => ?_) (fun c_5 => ?_)
            · rw [if_neg c_5] at hex
              refine lv_aload_n hx hb dX0_dayThatTellsMost_65 rfl (lv_at hl 4 rfl) ?_
              refine lv_iload_n hx hb dX0_dayThatTellsMost_66 rfl (lv_at hl 3 rfl) ?_
              have hDc : va_D A (wKx cI cQ ad ag lov chv ((sX0_greatestAtOneLevel chv alv an rm).2) an sh wa pl rm lk br row dn dy lv od sn ++ dpl L pd) := hD
              have hFc := cd_F hDc hS hA
              refine cd_wVv (As := [.int (nI k)]) (b := (ad 1)) (ci := 0) (q := (RX0, TX0, 8)) (rest := []) ⟨hx, hb, hml, hown, hts⟩ (kX0_passDay l dC dI cI cQ cZ ad ag lov chv ((sX0_greatestAtOneLevel chv alv an rm).2) an sh wa pl rm lk br row dn dy lv od sn L pd (nI k) H.size han) (cwV 1 hts gX0_dayThatTellsMost_X0_passDay rfl rfl rfl (by decide +kernel) ⟨by decide, by decide⟩) hK hP hDc hFc hS rfl rfl rfl hl.1 rfl (Nat.le_of_ble_eq_true rfl) dX0_dayThatTellsMost_67 ⟨by decide, by decide⟩ (fun H1 locs hP1 hD1 hk1 hS => ?_)
              have hP := hP1
              have hD := cd_DA hD1 hFc
              generalize H1 = H at hP hS ⊢
              have hP : va_P (dC, dI) vwCl (wKx cI cQ ad ag lov (sX0_passDay ag lov chv an sh wa pl lk (nI k)) ((sX0_greatestAtOneLevel chv alv an rm).2) an sh wa pl rm lk br row dn dy lv od sn ++ dpl L pd) H := hP
              have hD : va_D A (wKx cI cQ ad ag lov (sX0_passDay ag lov chv an sh wa pl lk (nI k)) ((sX0_greatestAtOneLevel chv alv an rm).2) an sh wa pl rm lk br row dn dy lv od sn ++ dpl L pd) := hD
              refine lv_iinc (v := nI (k + 1)) (lv' := [(3, .int (nI (k + 1))), (1, .int (nI k)), (2, .int ((sX0_greatestAtOneLevel chv alv an rm).1)), (4, .int ((sX0_greatestAtOneLevel chv alv an rm).1)), (0, .ref (ad 1))]) hx hb dX0_dayThatTellsMost_70 hl (k := 3) rfl (nI_1 k) (by decide) rfl (fun ls hl => ?_)
              refine lv_goto (tgt := 23) hx hb dX0_dayThatTellsMost_73 (by decide) ?_
              exact ih (nI k) ((sX0_greatestAtOneLevel chv alv an rm).1) (k + 1) lov (sX0_passDay ag lov chv an sh wa pl lk (nI k)) ((sX0_greatestAtOneLevel chv alv an rm).2) (by omega) (by omega) hex _ _ _ (lv_sub hl [0, 2, 1, 4] rfl) hP hD hS
            · rw [if_pos c_5] at hex
              refine lv_goto (tgt := 76) hx hb dX0_dayThatTellsMost_62 (by decide) ?_
              refine lv_iload_n hx hb dX0_dayThatTellsMost_76 rfl (lv_at hl 0 rfl) ?_
              subst hex
              exact hret _ _ _ _ dX0_dayThatTellsMost_77 hP hD hS
    exact L23 401 0 151 0 ((sX0_startAgreeing ag lo ch an rm br row dn pd).1) ((sX0_startAgreeing ag lo ch an rm br row dn pd).2) al (by decide) (by decide) hex _ _ _ (lv_sub hl [0, 1, 2, 3] rfl) hP hD hS
  · rw [if_neg c_1] at hex
    try have n_1 : ¬ 2 ≤ an := fun h9 => c_1 ((nI_leI (a := 2) (b := an) (by omega) (by omega)).mpr h9)
    refine lv_bipush (v := (-9)) hx hb dX0_dayThatTellsMost_8 (by decide) ?_
    subst hex
    exact hret _ _ _ _ dX0_dayThatTellsMost_10 hP hD hS
