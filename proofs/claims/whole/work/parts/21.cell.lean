theorem cd_nle {a b : Int32} (h : ¬ a ≤ b) : b.toInt < a.toInt := by
  rcases Int.lt_or_le b.toInt a.toInt with q | q
  · exact q
  · exact absurd (Int32.le_iff_toInt_le.mpr q) h
theorem cd_nlt {a b : Int32} (h : ¬ a < b) : b.toInt ≤ a.toInt := by
  rcases Int.lt_or_le a.toInt b.toInt with q | q
  · exact absurd (Int32.lt_iff_toInt_lt.mpr q) h
  · exact q
theorem cd_lt {a b : Int32} (h : a < b) : a.toInt < b.toInt := Int32.lt_iff_toInt_lt.mp h
theorem cd_le {a b : Int32} (h : a ≤ b) : a.toInt ≤ b.toInt := Int32.le_iff_toInt_le.mp h
theorem cd_inc {k : Int32} (h0 : 0 ≤ k.toInt) (h1 : k.toInt < 1000000) : (k + 1).toInt = k.toInt + 1 := by
  obtain ⟨j, hj, rfl⟩ := nI_of (x := k) (fun q => by have := cd_lt q; rw [show (0 : Int32).toInt = 0 from rfl] at this; omega)
  rw [nI_toInt hj] at h1 ⊢
  rw [nI_1, nI_toInt (by omega)]
  omega

def rX1_changeRoom : Room := { frames := 0, cells := 0, slots := 0, locals := 0 }
def sX1_changeRoom (rm : Int32) (v : Int32) : Int32 × (Int32) := (rm, v)
set_option maxHeartbeats 4000000 in
set_option maxRecDepth 100000 in
theorem kX1_changeRoom (l : Launch) (dC : Nat → ClassId) (dI : Nat → Nat → Nat) (cI cQ cZ : ClassId) (a0 : Nat) (a1 : Nat) (a2 : Nat) (sh : Nat → Int32) (wa : Nat → Int32) (pl : Int32) (rm : Int32) (lk : Int32) (br : Int32) (v : Int32) (sz : Nat) : Met l yX1_changeRoom wsX1_changeRoom rX1_changeRoom (va_Pc [.ref a0, .int v] (cd_pre dC dI cI cQ cZ (wCl cI a0 a1 a2 sh wa pl rm lk br) sz)) (va_Qi (fun r _ => r = (sX1_changeRoom rm v).1) (cd_post dC dI (wCl cI a0 a1 a2 sh wa pl rm lk br) (wCl cI a0 a1 a2 sh wa pl ((sX1_changeRoom rm v).2) lk br) sz) (va_A (wCl cI a0 a1 a2 sh wa pl rm lk br) sz)) 0 0 (va_A (wCl cI a0 a1 a2 sh wa pl rm lk br) sz) := by
  have hiX1 : ∀ w ∈ u_ws RX1 TX1 6, w ∈ wsX1_changeRoom := by decide +kernel
  generalize hex : sX1_changeRoom rm v = ex
  unfold sX1_changeRoom at hex
  refine cd_mMi [.ref a0, .int v] (by decide) rfl (Nat.le_of_ble_eq_true rfl) ?_
  intro Q A p e s m args below meth c ls hx hb hml hown hts hA hret hK hP hD hS hl
  have hl : lv_has ls 3 [(0, .ref a0), (1, .int v)] := hl
  refine lv_aload_n hx hb dX1_changeRoom_0 rfl (lv_at hl 0 rfl) ?_
  refine va_get (D := (dC, dI)) (ci := 1) (v := .int rm) (C := RX1) (T := TX1) (N := 6) hx hb hts hiX1 hown hK.1 hP 0 rfl rfl 3 (by decide) (hts (.fieldLink RX1 22 "CellDays$Cell" "room" "I") (by decide +kernel)) (fun _ h9 => h9) rfl dX1_changeRoom_1 ?_
  refine lv_istore_n (lv' := [(2, .int rm), (0, .ref a0), (1, .int v)]) hx hb dX1_changeRoom_4 rfl hl (by decide) rfl (fun ls hl => ?_)
  refine lv_aload_n hx hb dX1_changeRoom_5 rfl (lv_at hl 1 rfl) ?_
  refine lv_iload_n hx hb dX1_changeRoom_6 rfl (lv_at hl 2 rfl) ?_
  refine va_put (D := (dC, dI)) (ci := 1) (v := .int v) (ty := .int) (C := RX1) (T := TX1) (N := 6) hx hb hts hiX1 tyX1 tyX1_ok nmX1 hown hK.1 hP hD hS 0 rfl rfl 3 (by decide) (hts (.fieldLink RX1 22 "CellDays$Cell" "room" "I") (by decide +kernel)) (fun _ h9 => h9) rfl (by decide +kernel) (rfl) (rfl) (Nat.le_of_ble_eq_true rfl) dX1_changeRoom_7 (fun H locs hP hD hS => ?_)
  have hP : va_P (dC, dI) vwCl (wCl cI a0 a1 a2 sh wa pl v lk br) H := hP
  have hD : va_D A (wCl cI a0 a1 a2 sh wa pl v lk br) := hD
  refine lv_iload_n hx hb dX1_changeRoom_10 rfl (lv_at hl 0 rfl) ?_
  subst hex
  exact hret _ _ _ _ dX1_changeRoom_11 hP hD hS

def rX1_changeLeak : Room := { frames := 0, cells := 0, slots := 0, locals := 0 }
def sX1_changeLeak (lk : Int32) (v : Int32) : Int32 × (Int32) := (lk, v)
set_option maxHeartbeats 4000000 in
set_option maxRecDepth 100000 in
theorem kX1_changeLeak (l : Launch) (dC : Nat → ClassId) (dI : Nat → Nat → Nat) (cI cQ cZ : ClassId) (a0 : Nat) (a1 : Nat) (a2 : Nat) (sh : Nat → Int32) (wa : Nat → Int32) (pl : Int32) (rm : Int32) (lk : Int32) (br : Int32) (v : Int32) (sz : Nat) : Met l yX1_changeLeak wsX1_changeLeak rX1_changeLeak (va_Pc [.ref a0, .int v] (cd_pre dC dI cI cQ cZ (wCl cI a0 a1 a2 sh wa pl rm lk br) sz)) (va_Qi (fun r _ => r = (sX1_changeLeak lk v).1) (cd_post dC dI (wCl cI a0 a1 a2 sh wa pl rm lk br) (wCl cI a0 a1 a2 sh wa pl rm ((sX1_changeLeak lk v).2) br) sz) (va_A (wCl cI a0 a1 a2 sh wa pl rm lk br) sz)) 0 0 (va_A (wCl cI a0 a1 a2 sh wa pl rm lk br) sz) := by
  have hiX1 : ∀ w ∈ u_ws RX1 TX1 6, w ∈ wsX1_changeLeak := by decide +kernel
  generalize hex : sX1_changeLeak lk v = ex
  unfold sX1_changeLeak at hex
  refine cd_mMi [.ref a0, .int v] (by decide) rfl (Nat.le_of_ble_eq_true rfl) ?_
  intro Q A p e s m args below meth c ls hx hb hml hown hts hA hret hK hP hD hS hl
  have hl : lv_has ls 3 [(0, .ref a0), (1, .int v)] := hl
  refine lv_aload_n hx hb dX1_changeLeak_0 rfl (lv_at hl 0 rfl) ?_
  refine va_get (D := (dC, dI)) (ci := 1) (v := .int lk) (C := RX1) (T := TX1) (N := 6) hx hb hts hiX1 hown hK.1 hP 0 rfl rfl 4 (by decide) (hts (.fieldLink RX1 25 "CellDays$Cell" "leak" "I") (by decide +kernel)) (fun _ h9 => h9) rfl dX1_changeLeak_1 ?_
  refine lv_istore_n (lv' := [(2, .int lk), (0, .ref a0), (1, .int v)]) hx hb dX1_changeLeak_4 rfl hl (by decide) rfl (fun ls hl => ?_)
  refine lv_aload_n hx hb dX1_changeLeak_5 rfl (lv_at hl 1 rfl) ?_
  refine lv_iload_n hx hb dX1_changeLeak_6 rfl (lv_at hl 2 rfl) ?_
  refine va_put (D := (dC, dI)) (ci := 1) (v := .int v) (ty := .int) (C := RX1) (T := TX1) (N := 6) hx hb hts hiX1 tyX1 tyX1_ok nmX1 hown hK.1 hP hD hS 0 rfl rfl 4 (by decide) (hts (.fieldLink RX1 25 "CellDays$Cell" "leak" "I") (by decide +kernel)) (fun _ h9 => h9) rfl (by decide +kernel) (rfl) (rfl) (Nat.le_of_ble_eq_true rfl) dX1_changeLeak_7 (fun H locs hP hD hS => ?_)
  have hP : va_P (dC, dI) vwCl (wCl cI a0 a1 a2 sh wa pl rm v br) H := hP
  have hD : va_D A (wCl cI a0 a1 a2 sh wa pl rm v br) := hD
  refine lv_iload_n hx hb dX1_changeLeak_10 rfl (lv_at hl 0 rfl) ?_
  subst hex
  exact hret _ _ _ _ dX1_changeLeak_11 hP hD hS

def rX1_changeBar : Room := { frames := 0, cells := 0, slots := 0, locals := 0 }
def sX1_changeBar (br : Int32) (v : Int32) : Int32 × (Int32) := (br, v)
set_option maxHeartbeats 4000000 in
set_option maxRecDepth 100000 in
theorem kX1_changeBar (l : Launch) (dC : Nat → ClassId) (dI : Nat → Nat → Nat) (cI cQ cZ : ClassId) (a0 : Nat) (a1 : Nat) (a2 : Nat) (sh : Nat → Int32) (wa : Nat → Int32) (pl : Int32) (rm : Int32) (lk : Int32) (br : Int32) (v : Int32) (sz : Nat) : Met l yX1_changeBar wsX1_changeBar rX1_changeBar (va_Pc [.ref a0, .int v] (cd_pre dC dI cI cQ cZ (wCl cI a0 a1 a2 sh wa pl rm lk br) sz)) (va_Qi (fun r _ => r = (sX1_changeBar br v).1) (cd_post dC dI (wCl cI a0 a1 a2 sh wa pl rm lk br) (wCl cI a0 a1 a2 sh wa pl rm lk ((sX1_changeBar br v).2)) sz) (va_A (wCl cI a0 a1 a2 sh wa pl rm lk br) sz)) 0 0 (va_A (wCl cI a0 a1 a2 sh wa pl rm lk br) sz) := by
  have hiX1 : ∀ w ∈ u_ws RX1 TX1 6, w ∈ wsX1_changeBar := by decide +kernel
  generalize hex : sX1_changeBar br v = ex
  unfold sX1_changeBar at hex
  refine cd_mMi [.ref a0, .int v] (by decide) rfl (Nat.le_of_ble_eq_true rfl) ?_
  intro Q A p e s m args below meth c ls hx hb hml hown hts hA hret hK hP hD hS hl
  have hl : lv_has ls 3 [(0, .ref a0), (1, .int v)] := hl
  refine lv_aload_n hx hb dX1_changeBar_0 rfl (lv_at hl 0 rfl) ?_
  refine va_get (D := (dC, dI)) (ci := 1) (v := .int br) (C := RX1) (T := TX1) (N := 6) hx hb hts hiX1 hown hK.1 hP 0 rfl rfl 5 (by decide) (hts (.fieldLink RX1 28 "CellDays$Cell" "bar" "I") (by decide +kernel)) (fun _ h9 => h9) rfl dX1_changeBar_1 ?_
  refine lv_istore_n (lv' := [(2, .int br), (0, .ref a0), (1, .int v)]) hx hb dX1_changeBar_4 rfl hl (by decide) rfl (fun ls hl => ?_)
  refine lv_aload_n hx hb dX1_changeBar_5 rfl (lv_at hl 1 rfl) ?_
  refine lv_iload_n hx hb dX1_changeBar_6 rfl (lv_at hl 2 rfl) ?_
  refine va_put (D := (dC, dI)) (ci := 1) (v := .int v) (ty := .int) (C := RX1) (T := TX1) (N := 6) hx hb hts hiX1 tyX1 tyX1_ok nmX1 hown hK.1 hP hD hS 0 rfl rfl 5 (by decide) (hts (.fieldLink RX1 28 "CellDays$Cell" "bar" "I") (by decide +kernel)) (fun _ h9 => h9) rfl (by decide +kernel) (rfl) (rfl) (Nat.le_of_ble_eq_true rfl) dX1_changeBar_7 (fun H locs hP hD hS => ?_)
  have hP : va_P (dC, dI) vwCl (wCl cI a0 a1 a2 sh wa pl rm lk v) H := hP
  have hD : va_D A (wCl cI a0 a1 a2 sh wa pl rm lk v) := hD
  refine lv_iload_n hx hb dX1_changeBar_10 rfl (lv_at hl 0 rfl) ?_
  subst hex
  exact hret _ _ _ _ dX1_changeBar_11 hP hD hS

def rX1_changeShares : Room := { frames := 1, cells := 0, slots := 0, locals := 22 }
def sX1_changeShares (sh : Nat → Int32) (v1 : Int32) (v2 : Int32) (v3 : Int32) : (Nat → Int32) := (sX5_put 3 (sX5_put 3 (sX5_put 3 sh 0 v1) 1 v2) 2 v3)
set_option maxHeartbeats 4000000 in
set_option maxRecDepth 100000 in
theorem kX1_changeShares (l : Launch) (dC : Nat → ClassId) (dI : Nat → Nat → Nat) (cI cQ cZ : ClassId) (a0 : Nat) (a1 : Nat) (a2 : Nat) (sh : Nat → Int32) (wa : Nat → Int32) (pl : Int32) (rm : Int32) (lk : Int32) (br : Int32) (v1 : Int32) (v2 : Int32) (v3 : Int32) (sz : Nat) : Met l yX1_changeShares wsX1_changeShares rX1_changeShares (va_Pc [.ref a0, .int v1, .int v2, .int v3] (cd_pre dC dI cI cQ cZ (wCl cI a0 a1 a2 sh wa pl rm lk br) sz)) (va_Qv (fun _ => True) (cd_post dC dI (wCl cI a0 a1 a2 sh wa pl rm lk br) (wCl cI a0 a1 a2 (sX1_changeShares sh v1 v2 v3) wa pl rm lk br) sz) (va_A (wCl cI a0 a1 a2 sh wa pl rm lk br) sz)) 0 0 (va_A (wCl cI a0 a1 a2 sh wa pl rm lk br) sz) := by
  have hiX1 : ∀ w ∈ u_ws RX1 TX1 6, w ∈ wsX1_changeShares := by decide +kernel
  generalize hex : sX1_changeShares sh v1 v2 v3 = ex
  unfold sX1_changeShares at hex
  refine cd_mMv [.ref a0, .int v1, .int v2, .int v3] (by decide) rfl (Nat.le_of_ble_eq_true rfl) ?_
  intro Q A p e s m args below meth c ls hx hb hml hown hts hA hinit hret hK hP hD hS hl
  have hl : lv_has ls 4 [(0, .ref a0), (1, .int v1), (2, .int v2), (3, .int v3)] := hl
  refine lv_aload_n hx hb dX1_changeShares_0 rfl (lv_at hl 0 rfl) ?_
  refine va_get (D := (dC, dI)) (ci := 1) (v := .ref a1) (C := RX1) (T := TX1) (N := 6) hx hb hts hiX1 hown hK.1 hP 0 rfl rfl 0 (by decide) (hts (.fieldLink RX1 9 "CellDays$Cell" "sharesByWarmth" "[I") (by decide +kernel)) (fun _ h9 => h9) rfl dX1_changeShares_1 ?_
  refine lv_iconst (v := 0) hx hb dX1_changeShares_4 (by decide) ?_
  refine lv_iload_n hx hb dX1_changeShares_5 rfl (lv_at hl 1 rfl) ?_
  have hDc : va_D A (wAr cI a1 3 sh) := (hD.sub (ws' := (wAr cI a1 3 sh)) [1] (by decide) rfl)
  have hFc := cd_F hDc hS hA
  refine cd_wSv (As := [.ref a1, .int 0, .int v1]) (rest := []) ⟨hx, hb, hml, hown, hts⟩ (kX5_put l dC dI cI cQ cZ a1 3 sh 0 v1 s.heap.size (by decide)) ⟨va_cnB 3 hts gX1_changeShares_X5_put_n31 rfl rfl rfl (hK.2.1 (.methodLinkNest RX1 31 yX5_put RX5) (by decide +kernel)) (hts (.initialized RX5) (by decide +kernel)) (by decide +kernel) ⟨by decide, by decide⟩, hts (.static yX5_put) (by decide +kernel), trivial⟩ hK (hP.sub (ws' := (wAr cI a1 3 sh)) [1] rfl) hDc hFc hS rfl hl.1 rfl (Nat.le_of_ble_eq_true rfl) dX1_changeShares_6 ⟨by decide, by decide⟩ (fun H1 locs hP1 hD1 hk1 hS => ?_)
  obtain ⟨hP, hD⟩ := va_join (ws := (wCl cI a0 a1 a2 sh wa pl rm lk br)) (wc := (wAr cI a1 3 sh)) (wr := [(a0, .inr (1, [.ref a1, .ref a2, .int pl, .int rm, .int lk, .int br])), (a2, .inl (cI, 12, .inl wa))]) (w1 := (wAr cI a1 3 (sX5_put 3 sh 0 v1))) hP hD [1] [0, 2] rfl rfl (by decide) (by decide) hk1 hFc hP1 hD1
  have hP := hP.sub (ws' := (wCl cI a0 a1 a2 (sX5_put 3 sh 0 v1) wa pl rm lk br)) [0, 2, 1] rfl
  have hD := hD.sub (ws' := (wCl cI a0 a1 a2 (sX5_put 3 sh 0 v1) wa pl rm lk br)) [0, 2, 1] (by decide) rfl
  generalize H1 = H at hP hS ⊢
  have hP : va_P (dC, dI) vwCl (wCl cI a0 a1 a2 (sX5_put 3 sh 0 v1) wa pl rm lk br) H := hP
  have hD : va_D A (wCl cI a0 a1 a2 (sX5_put 3 sh 0 v1) wa pl rm lk br) := hD
  refine lv_aload_n hx hb dX1_changeShares_9 rfl (lv_at hl 0 rfl) ?_
  refine va_get (D := (dC, dI)) (ci := 1) (v := .ref a1) (C := RX1) (T := TX1) (N := 6) hx hb hts hiX1 hown hK.1 hP 0 rfl rfl 0 (by decide) (hts (.fieldLink RX1 9 "CellDays$Cell" "sharesByWarmth" "[I") (by decide +kernel)) (fun _ h9 => h9) rfl dX1_changeShares_10 ?_
  refine lv_iconst (v := 1) hx hb dX1_changeShares_13 (by decide) ?_
  refine lv_iload_n hx hb dX1_changeShares_14 rfl (lv_at hl 2 rfl) ?_
  have hDc : va_D A (wAr cI a1 3 (sX5_put 3 sh 0 v1)) := (hD.sub (ws' := (wAr cI a1 3 (sX5_put 3 sh 0 v1))) [1] (by decide) rfl)
  have hFc := cd_F hDc hS hA
  refine cd_wSv (As := [.ref a1, .int 1, .int v2]) (rest := []) ⟨hx, hb, hml, hown, hts⟩ (kX5_put l dC dI cI cQ cZ a1 3 (sX5_put 3 sh 0 v1) 1 v2 H.size (by decide)) ⟨va_cnB 3 hts gX1_changeShares_X5_put_n31 rfl rfl rfl (hK.2.1 (.methodLinkNest RX1 31 yX5_put RX5) (by decide +kernel)) (hts (.initialized RX5) (by decide +kernel)) (by decide +kernel) ⟨by decide, by decide⟩, hts (.static yX5_put) (by decide +kernel), trivial⟩ hK (hP.sub (ws' := (wAr cI a1 3 (sX5_put 3 sh 0 v1))) [1] rfl) hDc hFc hS rfl hl.1 rfl (Nat.le_of_ble_eq_true rfl) dX1_changeShares_15 ⟨by decide, by decide⟩ (fun H1 locs hP1 hD1 hk1 hS => ?_)
  obtain ⟨hP, hD⟩ := va_join (ws := (wCl cI a0 a1 a2 (sX5_put 3 sh 0 v1) wa pl rm lk br)) (wc := (wAr cI a1 3 (sX5_put 3 sh 0 v1))) (wr := [(a0, .inr (1, [.ref a1, .ref a2, .int pl, .int rm, .int lk, .int br])), (a2, .inl (cI, 12, .inl wa))]) (w1 := (wAr cI a1 3 (sX5_put 3 (sX5_put 3 sh 0 v1) 1 v2))) hP hD [1] [0, 2] rfl rfl (by decide) (by decide) hk1 hFc hP1 hD1
  have hP := hP.sub (ws' := (wCl cI a0 a1 a2 (sX5_put 3 (sX5_put 3 sh 0 v1) 1 v2) wa pl rm lk br)) [0, 2, 1] rfl
  have hD := hD.sub (ws' := (wCl cI a0 a1 a2 (sX5_put 3 (sX5_put 3 sh 0 v1) 1 v2) wa pl rm lk br)) [0, 2, 1] (by decide) rfl
  generalize H1 = H at hP hS ⊢
  have hP : va_P (dC, dI) vwCl (wCl cI a0 a1 a2 (sX5_put 3 (sX5_put 3 sh 0 v1) 1 v2) wa pl rm lk br) H := hP
  have hD : va_D A (wCl cI a0 a1 a2 (sX5_put 3 (sX5_put 3 sh 0 v1) 1 v2) wa pl rm lk br) := hD
  refine lv_aload_n hx hb dX1_changeShares_18 rfl (lv_at hl 0 rfl) ?_
  refine va_get (D := (dC, dI)) (ci := 1) (v := .ref a1) (C := RX1) (T := TX1) (N := 6) hx hb hts hiX1 hown hK.1 hP 0 rfl rfl 0 (by decide) (hts (.fieldLink RX1 9 "CellDays$Cell" "sharesByWarmth" "[I") (by decide +kernel)) (fun _ h9 => h9) rfl dX1_changeShares_19 ?_
  refine lv_iconst (v := 2) hx hb dX1_changeShares_22 (by decide) ?_
  refine lv_iload_n hx hb dX1_changeShares_23 rfl (lv_at hl 3 rfl) ?_
  have hDc : va_D A (wAr cI a1 3 (sX5_put 3 (sX5_put 3 sh 0 v1) 1 v2)) := (hD.sub (ws' := (wAr cI a1 3 (sX5_put 3 (sX5_put 3 sh 0 v1) 1 v2))) [1] (by decide) rfl)
  have hFc := cd_F hDc hS hA
  refine cd_wSv (As := [.ref a1, .int 2, .int v3]) (rest := []) ⟨hx, hb, hml, hown, hts⟩ (kX5_put l dC dI cI cQ cZ a1 3 (sX5_put 3 (sX5_put 3 sh 0 v1) 1 v2) 2 v3 H.size (by decide)) ⟨va_cnB 3 hts gX1_changeShares_X5_put_n31 rfl rfl rfl (hK.2.1 (.methodLinkNest RX1 31 yX5_put RX5) (by decide +kernel)) (hts (.initialized RX5) (by decide +kernel)) (by decide +kernel) ⟨by decide, by decide⟩, hts (.static yX5_put) (by decide +kernel), trivial⟩ hK (hP.sub (ws' := (wAr cI a1 3 (sX5_put 3 (sX5_put 3 sh 0 v1) 1 v2))) [1] rfl) hDc hFc hS rfl hl.1 rfl (Nat.le_of_ble_eq_true rfl) dX1_changeShares_24 ⟨by decide, by decide⟩ (fun H1 locs hP1 hD1 hk1 hS => ?_)
  obtain ⟨hP, hD⟩ := va_join (ws := (wCl cI a0 a1 a2 (sX5_put 3 (sX5_put 3 sh 0 v1) 1 v2) wa pl rm lk br)) (wc := (wAr cI a1 3 (sX5_put 3 (sX5_put 3 sh 0 v1) 1 v2))) (wr := [(a0, .inr (1, [.ref a1, .ref a2, .int pl, .int rm, .int lk, .int br])), (a2, .inl (cI, 12, .inl wa))]) (w1 := (wAr cI a1 3 (sX5_put 3 (sX5_put 3 (sX5_put 3 sh 0 v1) 1 v2) 2 v3))) hP hD [1] [0, 2] rfl rfl (by decide) (by decide) hk1 hFc hP1 hD1
  have hP := hP.sub (ws' := (wCl cI a0 a1 a2 (sX5_put 3 (sX5_put 3 (sX5_put 3 sh 0 v1) 1 v2) 2 v3) wa pl rm lk br)) [0, 2, 1] rfl
  have hD := hD.sub (ws' := (wCl cI a0 a1 a2 (sX5_put 3 (sX5_put 3 (sX5_put 3 sh 0 v1) 1 v2) 2 v3) wa pl rm lk br)) [0, 2, 1] (by decide) rfl
  generalize H1 = H at hP hS ⊢
  have hP : va_P (dC, dI) vwCl (wCl cI a0 a1 a2 (sX5_put 3 (sX5_put 3 (sX5_put 3 sh 0 v1) 1 v2) 2 v3) wa pl rm lk br) H := hP
  have hD : va_D A (wCl cI a0 a1 a2 (sX5_put 3 (sX5_put 3 (sX5_put 3 sh 0 v1) 1 v2) 2 v3) wa pl rm lk br) := hD
  subst hex
  exact hret _ _ _ _ dX1_changeShares_27 hP hD hS

def rX1_changeSeason : Room := { frames := 1, cells := 0, slots := 0, locals := 22 }
def sX1_changeSeason_L5 (nn : Int32) : Nat → Int32 → Nat → (Nat → Int32) → (Nat → Int32) × (Int32)
  | 0, rs, k, wv => ((fun _ => 0), 0)
  | n + 1, rs, k, wv => (if nn ≤ (nI k) then (wv, nn) else (if 12 ≤ (nI k) then (wv, nn) else sX1_changeSeason_L5 nn n (rs / 3) (k + 1) (sX5_put 12 wv (nI k) (rs - rs / 3 * 3))))
def sX1_changeSeason (wa : Nat → Int32) (nn : Int32) (dg : Int32) : (Nat → Int32) × (Int32) := sX1_changeSeason_L5 nn 13 dg 0 wa
set_option maxHeartbeats 4000000 in
set_option maxRecDepth 100000 in
theorem kX1_changeSeason (l : Launch) (dC : Nat → ClassId) (dI : Nat → Nat → Nat) (cI cQ cZ : ClassId) (a0 : Nat) (a1 : Nat) (a2 : Nat) (sh : Nat → Int32) (wa : Nat → Int32) (pl : Int32) (rm : Int32) (lk : Int32) (br : Int32) (nn : Int32) (dg : Int32) (sz : Nat) : Met l yX1_changeSeason wsX1_changeSeason rX1_changeSeason (va_Pc [.ref a0, .int nn, .int dg] (cd_pre dC dI cI cQ cZ (wCl cI a0 a1 a2 sh wa pl rm lk br) sz)) (va_Qv (fun _ => True) (cd_post dC dI (wCl cI a0 a1 a2 sh wa pl rm lk br) (wCl cI a0 a1 a2 sh ((sX1_changeSeason wa nn dg).1) ((sX1_changeSeason wa nn dg).2) rm lk br) sz) (va_A (wCl cI a0 a1 a2 sh wa pl rm lk br) sz)) 0 0 (va_A (wCl cI a0 a1 a2 sh wa pl rm lk br) sz) := by
  have hiX1 : ∀ w ∈ u_ws RX1 TX1 6, w ∈ wsX1_changeSeason := by decide +kernel
  generalize hex : sX1_changeSeason wa nn dg = ex
  unfold sX1_changeSeason at hex
  refine cd_mMv [.ref a0, .int nn, .int dg] (by decide) rfl (Nat.le_of_ble_eq_true rfl) ?_
  intro Q A p e s m args below meth c ls hx hb hml hown hts hA hinit hret hK hP hD hS hl
  have hl : lv_has ls 5 [(0, .ref a0), (1, .int nn), (2, .int dg)] := hl
  refine lv_iload_n hx hb dX1_changeSeason_0 rfl (lv_at hl 2 rfl) ?_
  refine lv_istore_n (lv' := [(3, .int dg), (0, .ref a0), (1, .int nn), (2, .int dg)]) hx hb dX1_changeSeason_1 rfl hl (by decide) rfl (fun ls hl => ?_)
  refine lv_iconst (v := 0) hx hb dX1_changeSeason_2 (by decide) ?_
  refine lv_istore (lv' := [(4, .int 0), (3, .int dg), (0, .ref a0), (1, .int nn), (2, .int dg)]) hx hb dX1_changeSeason_3 hl (by decide) rfl (fun ls hl => ?_)
  have L5 : ∀ (n : Nat) (rs : Int32) (k : Nat) (wv : Nat → Int32), (k ≤ 12) → 12 - k < n → sX1_changeSeason_L5 nn n rs k wv = ex → ∀ (ls : Array Slot) (H : Heap) (locs : List Loc), lv_has ls 5 [(4, .int (nI k)), (3, .int rs), (0, .ref a0), (1, .int nn), (2, .int dg)] → va_P (dC, dI) vwCl (wCl cI a0 a1 a2 sh wv pl rm lk br) H → va_D A (wCl cI a0 a1 a2 sh wv pl rm lk br) → va_S A s.heap H locs → W p l e rX1_changeSeason s m args below meth c H locs 0 0 Q (F0 m 5 ls []) := by
    intro n
    induction n with
    | zero => intro rs k wv hk hm; exact absurd hm (Nat.not_lt_zero _)
    | succ n ih =>
      intro rs k wv hk hm hex ls H locs hl hP hD hS
      rw [sX1_changeSeason_L5] at hex
      refine lv_iload hx hb dX1_changeSeason_5 (lv_at hl 0 rfl) ?_
      refine lv_iload_n hx hb dX1_changeSeason_7 rfl (lv_at hl 3 rfl) ?_
      refine lv_icmp_ge (tgt := 40) hx hb dX1_changeSeason_8 (by decide) (fun c_1 => ?_) (fun c_1 => ?_)
      · rw [if_pos c_1] at hex
        refine lv_aload_n hx hb dX1_changeSeason_40 rfl (lv_at hl 2 rfl) ?_
        refine lv_iload_n hx hb dX1_changeSeason_41 rfl (lv_at hl 3 rfl) ?_
        refine va_put (D := (dC, dI)) (ci := 1) (v := .int nn) (ty := .int) (C := RX1) (T := TX1) (N := 6) hx hb hts hiX1 tyX1 tyX1_ok nmX1 hown hK.1 hP hD hS 0 rfl rfl 2 (by decide) (hts (.fieldLink RX1 18 "CellDays$Cell" "places" "I") (by decide +kernel)) (fun _ h9 => h9) rfl (by decide +kernel) (rfl) (rfl) (Nat.le_of_ble_eq_true rfl) dX1_changeSeason_42 (fun H locs hP hD hS => ?_)
        have hP : va_P (dC, dI) vwCl (wCl cI a0 a1 a2 sh wv nn rm lk br) H := hP
        have hD : va_D A (wCl cI a0 a1 a2 sh wv nn rm lk br) := hD
        subst hex
        exact hret _ _ _ _ dX1_changeSeason_45 hP hD hS
      · rw [if_neg c_1] at hex
        refine lv_iload hx hb dX1_changeSeason_11 (lv_at hl 0 rfl) ?_
        refine lv_bipush (v := 12) hx hb dX1_changeSeason_13 (by decide) ?_
        refine lv_icmp_ge (tgt := 40) hx hb dX1_changeSeason_15 (by decide) (fun c_2 => ?_) (fun c_2 => ?_)
        · rw [if_pos c_2] at hex
          try have n_2 : 12 ≤ k := (nI_leI (a := 12) (b := k) (by omega) (by omega)).mp c_2
          refine lv_aload_n hx hb dX1_changeSeason_40 rfl (lv_at hl 2 rfl) ?_
          refine lv_iload_n hx hb dX1_changeSeason_41 rfl (lv_at hl 3 rfl) ?_
          refine va_put (D := (dC, dI)) (ci := 1) (v := .int nn) (ty := .int) (C := RX1) (T := TX1) (N := 6) hx hb hts hiX1 tyX1 tyX1_ok nmX1 hown hK.1 hP hD hS 0 rfl rfl 2 (by decide) (hts (.fieldLink RX1 18 "CellDays$Cell" "places" "I") (by decide +kernel)) (fun _ h9 => h9) rfl (by decide +kernel) (rfl) (rfl) (Nat.le_of_ble_eq_true rfl) dX1_changeSeason_42 (fun H locs hP hD hS => ?_)
          have hP : va_P (dC, dI) vwCl (wCl cI a0 a1 a2 sh wv nn rm lk br) H := hP
          have hD : va_D A (wCl cI a0 a1 a2 sh wv nn rm lk br) := hD
          subst hex
          exact hret _ _ _ _ dX1_changeSeason_45 hP hD hS
        · rw [if_neg c_2] at hex
          try have n_2 : ¬ 12 ≤ k := fun h9 => c_2 ((nI_leI (a := 12) (b := k) (by omega) (by omega)).mpr h9)
          refine lv_aload_n hx hb dX1_changeSeason_18 rfl (lv_at hl 2 rfl) ?_
          refine va_get (D := (dC, dI)) (ci := 1) (v := .ref a2) (C := RX1) (T := TX1) (N := 6) hx hb hts hiX1 hown hK.1 hP 0 rfl rfl 1 (by decide) (hts (.fieldLink RX1 15 "CellDays$Cell" "warmths" "[I") (by decide +kernel)) (fun _ h9 => h9) rfl dX1_changeSeason_19 ?_
          refine lv_iload hx hb dX1_changeSeason_22 (lv_at hl 0 rfl) ?_
          refine lv_iload_n hx hb dX1_changeSeason_24 rfl (lv_at hl 1 rfl) ?_
          refine lv_iconst (v := 3) hx hb dX1_changeSeason_25 (by decide) ?_
          refine lv_irem hx hb dX1_changeSeason_26 (by decide) ?_
          have hDc : va_D A (wAr cI a2 12 wv) := (hD.sub (ws' := (wAr cI a2 12 wv)) [2] (by decide) rfl)
          have hFc := cd_F hDc hS hA
          refine cd_wSv (As := [.ref a2, .int (nI k), .int (rs - rs / 3 * 3)]) (rest := []) ⟨hx, hb, hml, hown, hts⟩ (kX5_put l dC dI cI cQ cZ a2 12 wv (nI k) (rs - rs / 3 * 3) H.size (by decide)) ⟨va_cnB 3 hts gX1_changeSeason_X5_put_n31 rfl rfl rfl (hK.2.1 (.methodLinkNest RX1 31 yX5_put RX5) (by decide +kernel)) (hts (.initialized RX5) (by decide +kernel)) (by decide +kernel) ⟨by decide, by decide⟩, hts (.static yX5_put) (by decide +kernel), trivial⟩ hK (hP.sub (ws' := (wAr cI a2 12 wv)) [2] rfl) hDc hFc hS rfl hl.1 rfl (Nat.le_of_ble_eq_true rfl) dX1_changeSeason_27 ⟨by decide, by decide⟩ (fun H1 locs hP1 hD1 hk1 hS => ?_)
          obtain ⟨hP, hD⟩ := va_join (ws := (wCl cI a0 a1 a2 sh wv pl rm lk br)) (wc := (wAr cI a2 12 wv)) (wr := [(a0, .inr (1, [.ref a1, .ref a2, .int pl, .int rm, .int lk, .int br])), (a1, .inl (cI, 3, .inl sh))]) (w1 := (wAr cI a2 12 (sX5_put 12 wv (nI k) (rs - rs / 3 * 3)))) hP hD [2] [0, 1] rfl rfl (by decide) (by decide) hk1 hFc hP1 hD1
          have hP := hP.sub (ws' := (wCl cI a0 a1 a2 sh (sX5_put 12 wv (nI k) (rs - rs / 3 * 3)) pl rm lk br)) [0, 1, 2] rfl
          have hD := hD.sub (ws' := (wCl cI a0 a1 a2 sh (sX5_put 12 wv (nI k) (rs - rs / 3 * 3)) pl rm lk br)) [0, 1, 2] (by decide) rfl
          generalize H1 = H at hP hS ⊢
          have hP : va_P (dC, dI) vwCl (wCl cI a0 a1 a2 sh (sX5_put 12 wv (nI k) (rs - rs / 3 * 3)) pl rm lk br) H := hP
          have hD : va_D A (wCl cI a0 a1 a2 sh (sX5_put 12 wv (nI k) (rs - rs / 3 * 3)) pl rm lk br) := hD
          refine lv_iload_n hx hb dX1_changeSeason_30 rfl (lv_at hl 1 rfl) ?_
          refine lv_iconst (v := 3) hx hb dX1_changeSeason_31 (by decide) ?_
          refine lv_idiv hx hb dX1_changeSeason_32 (by decide) ?_
          refine lv_istore_n (lv' := [(3, .int (rs / 3)), (4, .int (nI k)), (0, .ref a0), (1, .int nn), (2, .int dg)]) hx hb dX1_changeSeason_33 rfl hl (by decide) rfl (fun ls hl => ?_)
          refine lv_iinc (v := nI (k + 1)) (lv' := [(4, .int (nI (k + 1))), (3, .int (rs / 3)), (0, .ref a0), (1, .int nn), (2, .int dg)]) hx hb dX1_changeSeason_34 hl (k := 1) rfl (nI_1 k) (by decide) rfl (fun ls hl => ?_)
          refine lv_goto (tgt := 5) hx hb dX1_changeSeason_37 (by decide) ?_
          exact ih (rs / 3) (k + 1) (sX5_put 12 wv (nI k) (rs - rs / 3 * 3)) (by omega) (by omega) hex _ _ _ (lv_sub hl [0, 1, 2, 3, 4] rfl) hP hD hS
  exact L5 13 dg 0 wa (by decide) (by decide) hex _ _ _ (lv_sub hl [0, 1, 2, 3, 4] rfl) hP hD hS

def rX1_shareOn : Room := { frames := 1, cells := 0, slots := 0, locals := 21 }
def sX1_shareOn (sh : Nat → Int32) (wa : Nat → Int32) (pl : Int32) (dd : Int32) : Int32 := (sX5_at 3 sh (sX5_at 12 wa (if pl ≤ 0 then 0 else dd - dd / pl * pl)))
set_option maxHeartbeats 4000000 in
set_option maxRecDepth 100000 in
theorem kX1_shareOn (l : Launch) (dC : Nat → ClassId) (dI : Nat → Nat → Nat) (cI cQ cZ : ClassId) (a0 : Nat) (a1 : Nat) (a2 : Nat) (sh : Nat → Int32) (wa : Nat → Int32) (pl : Int32) (rm : Int32) (lk : Int32) (br : Int32) (dd : Int32) : Met l yX1_shareOn wsX1_shareOn rX1_shareOn (va_Pc [.ref a0, .int dd] (cd_rp dC dI cI cQ cZ (wCl cI a0 a1 a2 sh wa pl rm lk br))) (vp_Si (fun r => r = sX1_shareOn sh wa pl dd)) 0 0 (fun _ => False) := by
  have hiX1 : ∀ w ∈ u_ws RX1 TX1 6, w ∈ wsX1_shareOn := by decide +kernel
  generalize hex : sX1_shareOn sh wa pl dd = ex
  unfold sX1_shareOn at hex
  refine cd_mRi [.ref a0, .int dd] (by decide) rfl (Nat.le_of_ble_eq_true rfl) ?_
  intro Q p e s m args below meth c ls hx hb hml hown hts hret ⟨hK, hP⟩ hl
  have hl : lv_has ls 3 [(0, .ref a0), (1, .int dd)] := hl
  refine lv_aload_n hx hb dX1_shareOn_0 rfl (lv_at hl 0 rfl) ?_
  refine va_get (D := (dC, dI)) (ci := 1) (v := .int pl) (C := RX1) (T := TX1) (N := 6) hx hb hts hiX1 hown hK.1 hP 0 rfl rfl 2 (by decide) (hts (.fieldLink RX1 18 "CellDays$Cell" "places" "I") (by decide +kernel)) (fun _ h9 => h9) rfl dX1_shareOn_1 ?_
  have J_1 : W p l e rX1_shareOn s m args below meth c s.heap [] 0 0 Q (F0 m 17 ls [.int (if pl ≤ 0 then 0 else dd - dd / pl * pl)]) := by
    refine lv_istore_n (lv' := [(2, .int (if pl ≤ 0 then 0 else dd - dd / pl * pl)), (0, .ref a0), (1, .int dd)]) hx hb dX1_shareOn_17 rfl hl (by decide) rfl (fun ls hl => ?_)
    refine lv_aload_n hx hb dX1_shareOn_18 rfl (lv_at hl 1 rfl) ?_
    refine va_get (D := (dC, dI)) (ci := 1) (v := .ref a1) (C := RX1) (T := TX1) (N := 6) hx hb hts hiX1 hown hK.1 hP 0 rfl rfl 0 (by decide) (hts (.fieldLink RX1 9 "CellDays$Cell" "sharesByWarmth" "[I") (by decide +kernel)) (fun _ h9 => h9) rfl dX1_shareOn_19 ?_
    refine lv_aload_n hx hb dX1_shareOn_22 rfl (lv_at hl 1 rfl) ?_
    refine va_get (D := (dC, dI)) (ci := 1) (v := .ref a2) (C := RX1) (T := TX1) (N := 6) hx hb hts hiX1 hown hK.1 hP 0 rfl rfl 1 (by decide) (hts (.fieldLink RX1 15 "CellDays$Cell" "warmths" "[I") (by decide +kernel)) (fun _ h9 => h9) rfl dX1_shareOn_23 ?_
    refine lv_iload_n hx hb dX1_shareOn_26 rfl (lv_at hl 0 rfl) ?_
    refine cd_rSN (As := [.ref a2, .int (if pl ≤ 0 then 0 else dd - dd / pl * pl)]) (rest := [.ref a1]) ⟨hx, hb, hml, hown, hts⟩ (kX5_at l dC dI cI cQ cZ a2 12 wa (if pl ≤ 0 then 0 else dd - dd / pl * pl) (by decide)) ⟨va_cnB 2 hts gX1_shareOn_X5_at_n35 rfl rfl rfl (hK.2.1 (.methodLinkNest RX1 35 yX5_at RX5) (by decide +kernel)) (hts (.initialized RX5) (by decide +kernel)) (by decide +kernel) ⟨by decide, by decide⟩, hts (.static yX5_at) (by decide +kernel), trivial⟩ hK (hP.sub (ws' := (wAr cI a2 12 wa)) [2] rfl) rfl hl.1 rfl (Nat.le_of_ble_eq_true rfl) dX1_shareOn_27 ⟨by decide, by decide⟩ ?_
    refine cd_rSN (As := [.ref a1, .int (sX5_at 12 wa (if pl ≤ 0 then 0 else dd - dd / pl * pl))]) (rest := []) ⟨hx, hb, hml, hown, hts⟩ (kX5_at l dC dI cI cQ cZ a1 3 sh (sX5_at 12 wa (if pl ≤ 0 then 0 else dd - dd / pl * pl)) (by decide)) ⟨va_cnB 2 hts gX1_shareOn_X5_at_n35 rfl rfl rfl (hK.2.1 (.methodLinkNest RX1 35 yX5_at RX5) (by decide +kernel)) (hts (.initialized RX5) (by decide +kernel)) (by decide +kernel) ⟨by decide, by decide⟩, hts (.static yX5_at) (by decide +kernel), trivial⟩ hK (hP.sub (ws' := (wAr cI a1 3 sh)) [1] rfl) rfl hl.1 rfl (Nat.le_of_ble_eq_true rfl) dX1_shareOn_30 ⟨by decide, by decide⟩ ?_
    subst hex
    exact hret _ _ dX1_shareOn_33
  refine lv_if_le (tgt := 16) hx hb dX1_shareOn_4 (by decide) (fun c_2 => ?_) (fun c_2 => ?_)
  · skip
    refine lv_iconst (v := 0) hx hb dX1_shareOn_16 (by decide) ?_
    rw [if_pos c_2] at J_1
    exact J_1
  · skip
    refine lv_iload_n hx hb dX1_shareOn_7 rfl (lv_at hl 1 rfl) ?_
    refine lv_aload_n hx hb dX1_shareOn_8 rfl (lv_at hl 0 rfl) ?_
    refine va_get (D := (dC, dI)) (ci := 1) (v := .int pl) (C := RX1) (T := TX1) (N := 6) hx hb hts hiX1 hown hK.1 hP 0 rfl rfl 2 (by decide) (hts (.fieldLink RX1 18 "CellDays$Cell" "places" "I") (by decide +kernel)) (fun _ h9 => h9) rfl dX1_shareOn_9 ?_
    refine lv_irem hx hb dX1_shareOn_12 (cd_nle0 c_2) ?_
    refine lv_goto (tgt := 17) hx hb dX1_shareOn_13 (by decide) ?_
    rw [if_neg c_2] at J_1
    exact J_1

def rX1_chargeAtFirst : Room := { frames := 0, cells := 0, slots := 0, locals := 0 }
def sX1_chargeAtFirst (rm : Int32) : Int32 := (rm * 1000)
set_option maxHeartbeats 4000000 in
set_option maxRecDepth 100000 in
theorem kX1_chargeAtFirst (l : Launch) (dC : Nat → ClassId) (dI : Nat → Nat → Nat) (cI cQ cZ : ClassId) (a0 : Nat) (a1 : Nat) (a2 : Nat) (sh : Nat → Int32) (wa : Nat → Int32) (pl : Int32) (rm : Int32) (lk : Int32) (br : Int32) : Met l yX1_chargeAtFirst wsX1_chargeAtFirst rX1_chargeAtFirst (va_Pc [.ref a0] (cd_rp dC dI cI cQ cZ (wCl cI a0 a1 a2 sh wa pl rm lk br))) (vp_Si (fun r => r = sX1_chargeAtFirst rm)) 0 0 (fun _ => False) := by
  have hiX1 : ∀ w ∈ u_ws RX1 TX1 6, w ∈ wsX1_chargeAtFirst := by decide +kernel
  generalize hex : sX1_chargeAtFirst rm = ex
  unfold sX1_chargeAtFirst at hex
  refine cd_mRi [.ref a0] (by decide) rfl (Nat.le_of_ble_eq_true rfl) ?_
  intro Q p e s m args below meth c ls hx hb hml hown hts hret ⟨hK, hP⟩ hl
  have hl : lv_has ls 1 [(0, .ref a0)] := hl
  refine lv_aload_n hx hb dX1_chargeAtFirst_0 rfl (lv_at hl 0 rfl) ?_
  refine va_get (D := (dC, dI)) (ci := 1) (v := .int rm) (C := RX1) (T := TX1) (N := 6) hx hb hts hiX1 hown hK.1 hP 0 rfl rfl 3 (by decide) (hts (.fieldLink RX1 22 "CellDays$Cell" "room" "I") (by decide +kernel)) (fun _ h9 => h9) rfl dX1_chargeAtFirst_1 ?_
  refine lv_sipush (v := 1000) hx hb dX1_chargeAtFirst_4 (by decide) ?_
  refine lv_imul hx hb dX1_chargeAtFirst_7 ?_
  subst hex
  exact hret _ _ dX1_chargeAtFirst_8

def rX1_chargeBehind : Room := { frames := 0, cells := 0, slots := 0, locals := 0 }
def sX1_chargeBehind (cg : Int32) (sr : Int32) (le : Int32) (ld : Int32) : Int32 := (if cg < 0 then (-1) else (if 0 < sr then ((cg - (((cg * le) + 999) / 1000)) - ((((ld * 100) + sr) - 1) / sr)) else (-1)))
set_option maxHeartbeats 4000000 in
set_option maxRecDepth 100000 in
theorem kX1_chargeBehind (l : Launch) (dC : Nat → ClassId) (dI : Nat → Nat → Nat) (cI cQ cZ : ClassId) (a0 : Nat) (a1 : Nat) (a2 : Nat) (sh : Nat → Int32) (wa : Nat → Int32) (pl : Int32) (rm : Int32) (lk : Int32) (br : Int32) (cg : Int32) (sr : Int32) (le : Int32) (ld : Int32) : Met l yX1_chargeBehind wsX1_chargeBehind rX1_chargeBehind (va_Pc [.ref a0, .int cg, .int sr, .int le, .int ld] (cd_rp dC dI cI cQ cZ (wCl cI a0 a1 a2 sh wa pl rm lk br))) (vp_Si (fun r => r = sX1_chargeBehind cg sr le ld)) 0 0 (fun _ => False) := by
  generalize hex : sX1_chargeBehind cg sr le ld = ex
  unfold sX1_chargeBehind at hex
  refine cd_mRi [.ref a0, .int cg, .int sr, .int le, .int ld] (by decide) rfl (Nat.le_of_ble_eq_true rfl) ?_
  intro Q p e s m args below meth c ls hx hb hml hown hts hret ⟨hK, hP⟩ hl
  have hl : lv_has ls 7 [(0, .ref a0), (1, .int cg), (2, .int sr), (3, .int le), (4, .int ld)] := hl
  refine lv_iload_n hx hb dX1_chargeBehind_0 rfl (lv_at hl 1 rfl) ?_
  refine lv_if_lt (tgt := 8) hx hb dX1_chargeBehind_1 (by decide) (fun c_1 => ?_) (fun c_1 => ?_)
  · rw [if_pos c_1] at hex
    refine lv_iconst (v := (-1)) hx hb dX1_chargeBehind_8 (by decide) ?_
    subst hex
    exact hret _ _ dX1_chargeBehind_9
  · rw [if_neg c_1] at hex
    refine lv_iload_n hx hb dX1_chargeBehind_4 rfl (lv_at hl 2 rfl) ?_
    refine lv_if_gt (tgt := 10) hx hb dX1_chargeBehind_5 (by decide) (fun c_2 => ?_) (fun c_2 => ?_)
    · rw [if_pos c_2] at hex
      refine lv_iload_n hx hb dX1_chargeBehind_10 rfl (lv_at hl 1 rfl) ?_
      refine lv_iload_n hx hb dX1_chargeBehind_11 rfl (lv_at hl 3 rfl) ?_
      refine lv_imul hx hb dX1_chargeBehind_12 ?_
      refine lv_sipush (v := 999) hx hb dX1_chargeBehind_13 (by decide) ?_
      refine lv_iadd hx hb dX1_chargeBehind_16 ?_
      refine lv_sipush (v := 1000) hx hb dX1_chargeBehind_17 (by decide) ?_
      refine lv_idiv hx hb dX1_chargeBehind_20 (by decide) ?_
      refine lv_istore (lv' := [(5, .int (((cg * le) + 999) / 1000)), (0, .ref a0), (1, .int cg), (2, .int sr), (3, .int le), (4, .int ld)]) hx hb dX1_chargeBehind_21 hl (by decide) rfl (fun ls hl => ?_)
      refine lv_iload hx hb dX1_chargeBehind_23 (lv_at hl 5 rfl) ?_
      refine lv_bipush (v := 100) hx hb dX1_chargeBehind_25 (by decide) ?_
      refine lv_imul hx hb dX1_chargeBehind_27 ?_
      refine lv_iload_n hx hb dX1_chargeBehind_28 rfl (lv_at hl 3 rfl) ?_
      refine lv_iadd hx hb dX1_chargeBehind_29 ?_
      refine lv_iconst (v := 1) hx hb dX1_chargeBehind_30 (by decide) ?_
      refine lv_isub hx hb dX1_chargeBehind_31 ?_
      refine lv_iload_n hx hb dX1_chargeBehind_32 rfl (lv_at hl 3 rfl) ?_
      refine lv_idiv hx hb dX1_chargeBehind_33 (cd_ne0 c_2) ?_
      refine lv_istore (lv' := [(6, .int ((((ld * 100) + sr) - 1) / sr)), (5, .int (((cg * le) + 999) / 1000)), (0, .ref a0), (1, .int cg), (2, .int sr), (3, .int le), (4, .int ld)]) hx hb dX1_chargeBehind_34 hl (by decide) rfl (fun ls hl => ?_)
      refine lv_iload_n hx hb dX1_chargeBehind_36 rfl (lv_at hl 3 rfl) ?_
      refine lv_iload hx hb dX1_chargeBehind_37 (lv_at hl 1 rfl) ?_
      refine lv_isub hx hb dX1_chargeBehind_39 ?_
      refine lv_iload hx hb dX1_chargeBehind_40 (lv_at hl 0 rfl) ?_
      refine lv_isub hx hb dX1_chargeBehind_42 ?_
      subst hex
      exact hret _ _ dX1_chargeBehind_43
    · rw [if_neg c_2] at hex
      refine lv_iconst (v := (-1)) hx hb dX1_chargeBehind_8 (by decide) ?_
      subst hex
      exact hret _ _ dX1_chargeBehind_9

def rX1_chargeFrom : Room := { frames := 2, cells := 0, slots := 0, locals := 43 }
def sX1_chargeFrom_L6 (sh : Nat → Int32) (wa : Nat → Int32) (pl : Int32) (to : Int32) (le : Int32) (ld : Int32) : Nat → Int32 → Int32 → Int32
  | 0, lf, k => 0
  | n + 1, lf, k => (if to ≤ k then lf else (if lf < 0 then lf else sX1_chargeFrom_L6 sh wa pl to le ld n (sX1_chargeBehind lf (sX1_shareOn sh wa pl k) le ld) (k + 1)))
def sX1_chargeFrom (sh : Nat → Int32) (wa : Nat → Int32) (pl : Int32) (cg : Int32) (fr : Int32) (to : Int32) (le : Int32) (ld : Int32) : Int32 := sX1_chargeFrom_L6 sh wa pl to le ld 401 cg fr
set_option maxHeartbeats 4000000 in
set_option maxRecDepth 100000 in
theorem kX1_chargeFrom (l : Launch) (dC : Nat → ClassId) (dI : Nat → Nat → Nat) (cI cQ cZ : ClassId) (a0 : Nat) (a1 : Nat) (a2 : Nat) (sh : Nat → Int32) (wa : Nat → Int32) (pl : Int32) (rm : Int32) (lk : Int32) (br : Int32) (cg : Int32) (fr : Int32) (to : Int32) (le : Int32) (ld : Int32) (hf0 : 0 ≤ fr.toInt) (hf1 : fr.toInt ≤ 400) (ht : to.toInt ≤ 400) : Met l yX1_chargeFrom wsX1_chargeFrom rX1_chargeFrom (va_Pc [.ref a0, .int cg, .int fr, .int to, .int le, .int ld] (cd_rp dC dI cI cQ cZ (wCl cI a0 a1 a2 sh wa pl rm lk br))) (vp_Si (fun r => r = sX1_chargeFrom sh wa pl cg fr to le ld)) 0 0 (fun _ => False) := by
  generalize hex : sX1_chargeFrom sh wa pl cg fr to le ld = ex
  unfold sX1_chargeFrom at hex
  refine cd_mRi [.ref a0, .int cg, .int fr, .int to, .int le, .int ld] (by decide) rfl (Nat.le_of_ble_eq_true rfl) ?_
  intro Q p e s m args below meth c ls hx hb hml hown hts hret ⟨hK, hP⟩ hl
  have hl : lv_has ls 8 [(0, .ref a0), (1, .int cg), (2, .int fr), (3, .int to), (4, .int le), (5, .int ld)] := hl
  refine lv_iload_n hx hb dX1_chargeFrom_0 rfl (lv_at hl 1 rfl) ?_
  refine lv_istore (lv' := [(6, .int cg), (0, .ref a0), (1, .int cg), (2, .int fr), (3, .int to), (4, .int le), (5, .int ld)]) hx hb dX1_chargeFrom_1 hl (by decide) rfl (fun ls hl => ?_)
  refine lv_iload_n hx hb dX1_chargeFrom_3 rfl (lv_at hl 3 rfl) ?_
  refine lv_istore (lv' := [(7, .int fr), (6, .int cg), (0, .ref a0), (1, .int cg), (2, .int fr), (3, .int to), (4, .int le), (5, .int ld)]) hx hb dX1_chargeFrom_4 hl (by decide) rfl (fun ls hl => ?_)
  have L6 : ∀ (n : Nat) (lf : Int32) (k : Int32), (0 ≤ k.toInt) → (k.toInt ≤ 400) → (400 - k.toInt).toNat < n → sX1_chargeFrom_L6 sh wa pl to le ld n lf k = ex → ∀ (ls : Array Slot), lv_has ls 8 [(7, .int k), (6, .int lf), (0, .ref a0), (1, .int cg), (2, .int fr), (3, .int to), (4, .int le), (5, .int ld)] → W p l e rX1_chargeFrom s m args below meth c s.heap [] 0 0 Q (F0 m 6 ls []) := by
    intro n
    induction n with
    | zero => intro lf k hk0 hk1 hm; exact absurd hm (Nat.not_lt_zero _)
    | succ n ih =>
      intro lf k hk0 hk1 hm hex ls hl
      rw [sX1_chargeFrom_L6] at hex
      refine lv_iload hx hb dX1_chargeFrom_6 (lv_at hl 0 rfl) ?_
      refine lv_iload_n hx hb dX1_chargeFrom_8 rfl (lv_at hl 5 rfl) ?_
      refine lv_icmp_ge (tgt := 41) hx hb dX1_chargeFrom_9 (by decide) (fun c_1 => ?_) (fun c_1 => ?_)
      · rw [if_pos c_1] at hex
        refine lv_iload hx hb dX1_chargeFrom_41 (lv_at hl 1 rfl) ?_
        subst hex
        exact hret _ _ dX1_chargeFrom_43
      · rw [if_neg c_1] at hex
        refine lv_iload hx hb dX1_chargeFrom_12 (lv_at hl 1 rfl) ?_
        refine lv_if_lt (tgt := 41) hx hb dX1_chargeFrom_14 (by decide) (fun c_2 => ?_) (fun c_2 => ?_)
        · rw [if_pos c_2] at hex
          refine lv_iload hx hb dX1_chargeFrom_41 (lv_at hl 1 rfl) ?_
          subst hex
          exact hret _ _ dX1_chargeFrom_43
        · rw [if_neg c_2] at hex
          refine lv_aload_n hx hb dX1_chargeFrom_17 rfl (lv_at hl 2 rfl) ?_
          refine lv_iload hx hb dX1_chargeFrom_18 (lv_at hl 1 rfl) ?_
          refine lv_aload_n hx hb dX1_chargeFrom_20 rfl (lv_at hl 2 rfl) ?_
          refine lv_iload hx hb dX1_chargeFrom_21 (lv_at hl 0 rfl) ?_
          refine cd_rV (As := [.int k]) (b := a0) (ci := 1) (q := (RX1, TX1, 6)) (rest := [.int lf, .ref a0]) ⟨hx, hb, hml, hown, hts⟩ (kX1_shareOn l dC dI cI cQ cZ a0 a1 a2 sh wa pl rm lk br k) (cwV 1 hts gX1_chargeFrom_X1_shareOn rfl rfl rfl (by decide +kernel) ⟨by decide, by decide⟩) hK hP rfl rfl rfl hl.1 rfl (Nat.le_of_ble_eq_true rfl) dX1_chargeFrom_23 ⟨by decide, by decide⟩ ?_
          refine lv_iload hx hb dX1_chargeFrom_26 (lv_at hl 6 rfl) ?_
          refine lv_iload hx hb dX1_chargeFrom_28 (lv_at hl 7 rfl) ?_
          refine cd_rV (As := [.int lf, .int (sX1_shareOn sh wa pl k), .int le, .int ld]) (b := a0) (ci := 1) (q := (RX1, TX1, 6)) (rest := []) ⟨hx, hb, hml, hown, hts⟩ (kX1_chargeBehind l dC dI cI cQ cZ a0 a1 a2 sh wa pl rm lk br lf (sX1_shareOn sh wa pl k) le ld) (cwV 4 hts gX1_chargeFrom_X1_chargeBehind rfl rfl rfl (by decide +kernel) ⟨by decide, by decide⟩) hK hP rfl rfl rfl hl.1 rfl (Nat.le_of_ble_eq_true rfl) dX1_chargeFrom_30 ⟨by decide, by decide⟩ ?_
          refine lv_istore (lv' := [(6, .int (sX1_chargeBehind lf (sX1_shareOn sh wa pl k) le ld)), (7, .int k), (0, .ref a0), (1, .int cg), (2, .int fr), (3, .int to), (4, .int le), (5, .int ld)]) hx hb dX1_chargeFrom_33 hl (by decide) rfl (fun ls hl => ?_)
          refine lv_iinc (v := k + 1) (lv' := [(7, .int (k + 1)), (6, .int (sX1_chargeBehind lf (sX1_shareOn sh wa pl k) le ld)), (0, .ref a0), (1, .int cg), (2, .int fr), (3, .int to), (4, .int le), (5, .int ld)]) hx hb dX1_chargeFrom_35 hl (k := 1) rfl (rfl) (by decide) rfl (fun ls hl => ?_)
          refine lv_goto (tgt := 6) hx hb dX1_chargeFrom_38 (by decide) ?_
          exact ih (sX1_chargeBehind lf (sX1_shareOn sh wa pl k) le ld) (k + 1) (by have h7 := cd_nle c_1; have h8 := cd_inc hk0 (by omega); omega) (by have h7 := cd_nle c_1; have h8 := cd_inc hk0 (by omega); omega) (by have h7 := cd_nle c_1; have h8 := cd_inc hk0 (by omega); omega) hex _ (lv_sub hl [0, 1, 2, 3, 4, 5, 6, 7] rfl)
  exact L6 401 cg fr hf0 hf1 (by omega) hex _ (lv_sub hl [0, 1, 2, 3, 4, 5, 6, 7] rfl)

def rX1_chargeAhead : Room := { frames := 3, cells := 0, slots := 0, locals := 70 }
def sX1_chargeAhead (sh : Nat → Int32) (wa : Nat → Int32) (pl : Int32) (rm : Int32) (to : Int32) (le : Int32) (ld : Int32) : Int32 := (sX1_chargeFrom sh wa pl (sX1_chargeAtFirst rm) 0 to le ld)
set_option maxHeartbeats 4000000 in
set_option maxRecDepth 100000 in
theorem kX1_chargeAhead (l : Launch) (dC : Nat → ClassId) (dI : Nat → Nat → Nat) (cI cQ cZ : ClassId) (a0 : Nat) (a1 : Nat) (a2 : Nat) (sh : Nat → Int32) (wa : Nat → Int32) (pl : Int32) (rm : Int32) (lk : Int32) (br : Int32) (to : Int32) (le : Int32) (ld : Int32) (ht : to.toInt ≤ 400) : Met l yX1_chargeAhead wsX1_chargeAhead rX1_chargeAhead (va_Pc [.ref a0, .int to, .int le, .int ld] (cd_rp dC dI cI cQ cZ (wCl cI a0 a1 a2 sh wa pl rm lk br))) (vp_Si (fun r => r = sX1_chargeAhead sh wa pl rm to le ld)) 0 0 (fun _ => False) := by
  generalize hex : sX1_chargeAhead sh wa pl rm to le ld = ex
  unfold sX1_chargeAhead at hex
  refine cd_mRi [.ref a0, .int to, .int le, .int ld] (by decide) rfl (Nat.le_of_ble_eq_true rfl) ?_
  intro Q p e s m args below meth c ls hx hb hml hown hts hret ⟨hK, hP⟩ hl
  have hl : lv_has ls 4 [(0, .ref a0), (1, .int to), (2, .int le), (3, .int ld)] := hl
  refine lv_aload_n hx hb dX1_chargeAhead_0 rfl (lv_at hl 0 rfl) ?_
  refine lv_aload_n hx hb dX1_chargeAhead_1 rfl (lv_at hl 0 rfl) ?_
  refine cd_rV (As := []) (b := a0) (ci := 1) (q := (RX1, TX1, 6)) (rest := [.ref a0]) ⟨hx, hb, hml, hown, hts⟩ (kX1_chargeAtFirst l dC dI cI cQ cZ a0 a1 a2 sh wa pl rm lk br) (cwV 0 hts gX1_chargeAhead_X1_chargeAtFirst rfl rfl rfl (by decide +kernel) ⟨by decide, by decide⟩) hK hP rfl rfl rfl hl.1 rfl (Nat.le_of_ble_eq_true rfl) dX1_chargeAhead_2 ⟨by decide, by decide⟩ ?_
  refine lv_iconst (v := 0) hx hb dX1_chargeAhead_5 (by decide) ?_
  refine lv_iload_n hx hb dX1_chargeAhead_6 rfl (lv_at hl 1 rfl) ?_
  refine lv_iload_n hx hb dX1_chargeAhead_7 rfl (lv_at hl 2 rfl) ?_
  refine lv_iload_n hx hb dX1_chargeAhead_8 rfl (lv_at hl 3 rfl) ?_
  refine cd_rV (As := [.int (sX1_chargeAtFirst rm), .int 0, .int to, .int le, .int ld]) (b := a0) (ci := 1) (q := (RX1, TX1, 6)) (rest := []) ⟨hx, hb, hml, hown, hts⟩ (kX1_chargeFrom l dC dI cI cQ cZ a0 a1 a2 sh wa pl rm lk br (sX1_chargeAtFirst rm) 0 to le ld (by decide) (by decide) ht) (cwV 5 hts gX1_chargeAhead_X1_chargeFrom rfl rfl rfl (by decide +kernel) ⟨by decide, by decide⟩) hK hP rfl rfl rfl hl.1 rfl (Nat.le_of_ble_eq_true rfl) dX1_chargeAhead_9 ⟨by decide, by decide⟩ ?_
  subst hex
  exact hret _ _ dX1_chargeAhead_12

def rX1_daysLasted : Room := { frames := 2, cells := 0, slots := 0, locals := 43 }
def sX1_daysLasted_L7 (sh : Nat → Int32) (wa : Nat → Int32) (pl : Int32) (lk : Int32) (ld : Int32) : Nat → Int32 → Nat → Int32
  | 0, lf, k => 0
  | n + 1, lf, k => (if 400 ≤ (nI k) then 400 else (if 0 ≤ (sX1_chargeBehind lf (sX1_shareOn sh wa pl (nI k)) lk ld) then sX1_daysLasted_L7 sh wa pl lk ld n (sX1_chargeBehind lf (sX1_shareOn sh wa pl (nI k)) lk ld) (k + 1) else (nI k)))
def sX1_daysLasted (sh : Nat → Int32) (wa : Nat → Int32) (pl : Int32) (rm : Int32) (lk : Int32) (ld : Int32) : Int32 := sX1_daysLasted_L7 sh wa pl lk ld 401 (sX1_chargeAtFirst rm) 0
set_option maxHeartbeats 4000000 in
set_option maxRecDepth 100000 in
theorem kX1_daysLasted (l : Launch) (dC : Nat → ClassId) (dI : Nat → Nat → Nat) (cI cQ cZ : ClassId) (a0 : Nat) (a1 : Nat) (a2 : Nat) (sh : Nat → Int32) (wa : Nat → Int32) (pl : Int32) (rm : Int32) (lk : Int32) (br : Int32) (ld : Int32) : Met l yX1_daysLasted wsX1_daysLasted rX1_daysLasted (va_Pc [.ref a0, .int ld] (cd_rp dC dI cI cQ cZ (wCl cI a0 a1 a2 sh wa pl rm lk br))) (vp_Si (fun r => r = sX1_daysLasted sh wa pl rm lk ld)) 0 0 (fun _ => False) := by
  have hiX1 : ∀ w ∈ u_ws RX1 TX1 6, w ∈ wsX1_daysLasted := by decide +kernel
  generalize hex : sX1_daysLasted sh wa pl rm lk ld = ex
  unfold sX1_daysLasted at hex
  refine cd_mRi [.ref a0, .int ld] (by decide) rfl (Nat.le_of_ble_eq_true rfl) ?_
  intro Q p e s m args below meth c ls hx hb hml hown hts hret ⟨hK, hP⟩ hl
  have hl : lv_has ls 4 [(0, .ref a0), (1, .int ld)] := hl
  refine lv_aload_n hx hb dX1_daysLasted_0 rfl (lv_at hl 0 rfl) ?_
  refine cd_rV (As := []) (b := a0) (ci := 1) (q := (RX1, TX1, 6)) (rest := []) ⟨hx, hb, hml, hown, hts⟩ (kX1_chargeAtFirst l dC dI cI cQ cZ a0 a1 a2 sh wa pl rm lk br) (cwV 0 hts gX1_daysLasted_X1_chargeAtFirst rfl rfl rfl (by decide +kernel) ⟨by decide, by decide⟩) hK hP rfl rfl rfl hl.1 rfl (Nat.le_of_ble_eq_true rfl) dX1_daysLasted_1 ⟨by decide, by decide⟩ ?_
  refine lv_istore_n (lv' := [(2, .int (sX1_chargeAtFirst rm)), (0, .ref a0), (1, .int ld)]) hx hb dX1_daysLasted_4 rfl hl (by decide) rfl (fun ls hl => ?_)
  refine lv_iconst (v := 0) hx hb dX1_daysLasted_5 (by decide) ?_
  refine lv_istore_n (lv' := [(3, .int 0), (2, .int (sX1_chargeAtFirst rm)), (0, .ref a0), (1, .int ld)]) hx hb dX1_daysLasted_6 rfl hl (by decide) rfl (fun ls hl => ?_)
  have L7 : ∀ (n : Nat) (lf : Int32) (k : Nat), (k ≤ 400) → 400 - k < n → sX1_daysLasted_L7 sh wa pl lk ld n lf k = ex → ∀ (ls : Array Slot), lv_has ls 4 [(3, .int (nI k)), (2, .int lf), (0, .ref a0), (1, .int ld)] → W p l e rX1_daysLasted s m args below meth c s.heap [] 0 0 Q (F0 m 7 ls []) := by
    intro n
    induction n with
    | zero => intro lf k hk hm; exact absurd hm (Nat.not_lt_zero _)
    | succ n ih =>
      intro lf k hk hm hex ls hl
      rw [sX1_daysLasted_L7] at hex
      refine lv_iload_n hx hb dX1_daysLasted_7 rfl (lv_at hl 0 rfl) ?_
      refine lv_sipush (v := 400) hx hb dX1_daysLasted_8 (by decide) ?_
      refine lv_icmp_ge (tgt := 42) hx hb dX1_daysLasted_11 (by decide) (fun c_1 => ?_) (fun c_1 => ?_)
      · rw [if_pos c_1] at hex
        try have n_1 : 400 ≤ k := (nI_leI (a := 400) (b := k) (by omega) (by omega)).mp c_1
        refine lv_sipush (v := 400) hx hb dX1_daysLasted_42 (by decide) ?_
        subst hex
        exact hret _ _ dX1_daysLasted_45
      · rw [if_neg c_1] at hex
        try have n_1 : ¬ 400 ≤ k := fun h9 => c_1 ((nI_leI (a := 400) (b := k) (by omega) (by omega)).mpr h9)
        refine lv_aload_n hx hb dX1_daysLasted_14 rfl (lv_at hl 2 rfl) ?_
        refine lv_iload_n hx hb dX1_daysLasted_15 rfl (lv_at hl 1 rfl) ?_
        refine lv_aload_n hx hb dX1_daysLasted_16 rfl (lv_at hl 2 rfl) ?_
        refine lv_iload_n hx hb dX1_daysLasted_17 rfl (lv_at hl 0 rfl) ?_
        refine cd_rV (As := [.int (nI k)]) (b := a0) (ci := 1) (q := (RX1, TX1, 6)) (rest := [.int lf, .ref a0]) ⟨hx, hb, hml, hown, hts⟩ (kX1_shareOn l dC dI cI cQ cZ a0 a1 a2 sh wa pl rm lk br (nI k)) (cwV 1 hts gX1_daysLasted_X1_shareOn rfl rfl rfl (by decide +kernel) ⟨by decide, by decide⟩) hK hP rfl rfl rfl hl.1 rfl (Nat.le_of_ble_eq_true rfl) dX1_daysLasted_18 ⟨by decide, by decide⟩ ?_
        refine lv_aload_n hx hb dX1_daysLasted_21 rfl (lv_at hl 2 rfl) ?_
        refine va_get (D := (dC, dI)) (ci := 1) (v := .int lk) (C := RX1) (T := TX1) (N := 6) hx hb hts hiX1 hown hK.1 hP 0 rfl rfl 4 (by decide) (hts (.fieldLink RX1 25 "CellDays$Cell" "leak" "I") (by decide +kernel)) (fun _ h9 => h9) rfl dX1_daysLasted_22 ?_
        refine lv_iload_n hx hb dX1_daysLasted_25 rfl (lv_at hl 3 rfl) ?_
        refine cd_rV (As := [.int lf, .int (sX1_shareOn sh wa pl (nI k)), .int lk, .int ld]) (b := a0) (ci := 1) (q := (RX1, TX1, 6)) (rest := []) ⟨hx, hb, hml, hown, hts⟩ (kX1_chargeBehind l dC dI cI cQ cZ a0 a1 a2 sh wa pl rm lk br lf (sX1_shareOn sh wa pl (nI k)) lk ld) (cwV 4 hts gX1_daysLasted_X1_chargeBehind rfl rfl rfl (by decide +kernel) ⟨by decide, by decide⟩) hK hP rfl rfl rfl hl.1 rfl (Nat.le_of_ble_eq_true rfl) dX1_daysLasted_26 ⟨by decide, by decide⟩ ?_
        refine lv_istore_n (lv' := [(2, .int (sX1_chargeBehind lf (sX1_shareOn sh wa pl (nI k)) lk ld)), (3, .int (nI k)), (0, .ref a0), (1, .int ld)]) hx hb dX1_daysLasted_29 rfl hl (by decide) rfl (fun ls hl => ?_)
        refine lv_iload_n hx hb dX1_daysLasted_30 rfl (lv_at hl 0 rfl) ?_
        refine lv_if_ge (tgt := 36) hx hb dX1_daysLasted_31 (by decide) (fun c_2 => ?_) (fun c_2 => ?_)
        · rw [if_pos c_2] at hex
          refine lv_iinc (v := nI (k + 1)) (lv' := [(3, .int (nI (k + 1))), (2, .int (sX1_chargeBehind lf (sX1_shareOn sh wa pl (nI k)) lk ld)), (0, .ref a0), (1, .int ld)]) hx hb dX1_daysLasted_36 hl (k := 1) rfl (nI_1 k) (by decide) rfl (fun ls hl => ?_)
          refine lv_goto (tgt := 7) hx hb dX1_daysLasted_39 (by decide) ?_
          exact ih (sX1_chargeBehind lf (sX1_shareOn sh wa pl (nI k)) lk ld) (k + 1) (by omega) (by omega) hex _ (lv_sub hl [0, 1, 2, 3] rfl)
        · rw [if_neg c_2] at hex
          refine lv_iload_n hx hb dX1_daysLasted_34 rfl (lv_at hl 1 rfl) ?_
          subst hex
          exact hret _ _ dX1_daysLasted_35
  exact L7 401 (sX1_chargeAtFirst rm) 0 (by decide) (by decide) hex _ (lv_sub hl [0, 1, 2, 3] rfl)

def rX1_levelOf : Room := { frames := 1, cells := 0, slots := 0, locals := 21 }
def sX1_levelOf (rm : Int32) (cg : Int32) : Int32 := (if cg < 0 then 0 else (if 0 < (sX1_chargeAtFirst rm) then (if ((10 * cg) / (sX1_chargeAtFirst rm)) < 9 then ((10 * cg) / (sX1_chargeAtFirst rm)) else 9) else 0))
set_option maxHeartbeats 4000000 in
set_option maxRecDepth 100000 in
theorem kX1_levelOf (l : Launch) (dC : Nat → ClassId) (dI : Nat → Nat → Nat) (cI cQ cZ : ClassId) (a0 : Nat) (a1 : Nat) (a2 : Nat) (sh : Nat → Int32) (wa : Nat → Int32) (pl : Int32) (rm : Int32) (lk : Int32) (br : Int32) (cg : Int32) : Met l yX1_levelOf wsX1_levelOf rX1_levelOf (va_Pc [.ref a0, .int cg] (cd_rp dC dI cI cQ cZ (wCl cI a0 a1 a2 sh wa pl rm lk br))) (vp_Si (fun r => r = sX1_levelOf rm cg)) 0 0 (fun _ => False) := by
  generalize hex : sX1_levelOf rm cg = ex
  unfold sX1_levelOf at hex
  refine cd_mRi [.ref a0, .int cg] (by decide) rfl (Nat.le_of_ble_eq_true rfl) ?_
  intro Q p e s m args below meth c ls hx hb hml hown hts hret ⟨hK, hP⟩ hl
  have hl : lv_has ls 3 [(0, .ref a0), (1, .int cg)] := hl
  refine lv_aload_n hx hb dX1_levelOf_0 rfl (lv_at hl 0 rfl) ?_
  refine cd_rV (As := []) (b := a0) (ci := 1) (q := (RX1, TX1, 6)) (rest := []) ⟨hx, hb, hml, hown, hts⟩ (kX1_chargeAtFirst l dC dI cI cQ cZ a0 a1 a2 sh wa pl rm lk br) (cwV 0 hts gX1_levelOf_X1_chargeAtFirst rfl rfl rfl (by decide +kernel) ⟨by decide, by decide⟩) hK hP rfl rfl rfl hl.1 rfl (Nat.le_of_ble_eq_true rfl) dX1_levelOf_1 ⟨by decide, by decide⟩ ?_
  refine lv_istore_n (lv' := [(2, .int (sX1_chargeAtFirst rm)), (0, .ref a0), (1, .int cg)]) hx hb dX1_levelOf_4 rfl hl (by decide) rfl (fun ls hl => ?_)
  refine lv_iload_n hx hb dX1_levelOf_5 rfl (lv_at hl 2 rfl) ?_
  refine lv_if_lt (tgt := 13) hx hb dX1_levelOf_6 (by decide) (fun c_1 => ?_) (fun c_1 => ?_)
  · rw [if_pos c_1] at hex
    refine lv_iconst (v := 0) hx hb dX1_levelOf_13 (by decide) ?_
    refine lv_goto (tgt := 28) hx hb dX1_levelOf_14 (by decide) ?_
    subst hex
    exact hret _ _ dX1_levelOf_28
  · rw [if_neg c_1] at hex
    refine lv_iload_n hx hb dX1_levelOf_9 rfl (lv_at hl 0 rfl) ?_
    refine lv_if_gt (tgt := 17) hx hb dX1_levelOf_10 (by decide) (fun c_2 => ?_) (fun c_2 => ?_)
    · rw [if_pos c_2] at hex
      refine lv_bipush (v := 9) hx hb dX1_levelOf_17 (by decide) ?_
      refine lv_bipush (v := 10) hx hb dX1_levelOf_19 (by decide) ?_
      refine lv_iload_n hx hb dX1_levelOf_21 rfl (lv_at hl 2 rfl) ?_
      refine lv_imul hx hb dX1_levelOf_22 ?_
      refine lv_iload_n hx hb dX1_levelOf_23 rfl (lv_at hl 0 rfl) ?_
      refine lv_idiv hx hb dX1_levelOf_24 (cd_ne0 c_2) ?_
      refine va_mmin hx hb (by rw [hml]; exact hl.1.symm) hown (hts (.methodLink RX1 55 Lib.Math.min.name) (by decide +kernel)) (hts (.static Lib.Math.min.name) (by decide +kernel)) (hts (.initialized "java/lang/Math") (by decide +kernel)) (hts (.code Lib.Math.min.name Lib.Math.min.code 2 (some .int)) (by decide +kernel)) (by decide) (by decide) (by decide) (by decide) dX1_levelOf_25 ?_
      subst hex
      exact hret _ _ dX1_levelOf_28
    · rw [if_neg c_2] at hex
      refine lv_iconst (v := 0) hx hb dX1_levelOf_13 (by decide) ?_
      refine lv_goto (tgt := 28) hx hb dX1_levelOf_14 (by decide) ?_
      subst hex
      exact hret _ _ dX1_levelOf_28
