/-- what holds of the reference's numbers at every call -/
def mOk (ru sh : Nat → Int32) (sn : Int32) (se : Nat → Int32) (dn sg : Nat) (sd : Nat → Int32) : Prop := (0 < sn.toInt ∧ sn.toInt ≤ 12) ∧ (∀ j, 0 ≤ (se j).toInt ∧ (se j).toInt < 3) ∧ (∀ j, j < 3 → 0 < (sh j).toInt) ∧ dn ≤ 8 ∧ sg ≤ 12 ∧ 0 < (ru 0).toInt ∧ ∀ j, 0 ≤ (sd j).toInt ∧ (sd j).toInt ≤ 399
theorem cd_add0 (x : Int32) : x + 0 = x := by
  apply Int32.toBitVec_inj.mp
  simp
theorem ne_pos {x : Int32} (h : 0 < x.toInt) : ¬ x = 0 := by
  intro e
  subst e
  exact absurd h (by decide)
theorem nn_nI {x : Int32} (h : 0 ≤ x.toInt) : ∃ j : Nat, j < 2 ^ 31 ∧ x = nI j := nI_of (fun q => by have := cd_lt q; rw [show (0 : Int32).toInt = 0 from rfl] at this; omega)
theorem rem_in {x y : Int32} (h0 : 0 ≤ x.toInt) (h1 : 0 < y.toInt) (h2 : y.toInt ≤ 12) : vp_in (x - x / y * y) 12 := by
  obtain ⟨a, ha, rfl⟩ := nn_nI h0
  obtain ⟨b, hb, rfl⟩ := nn_nI (x := y) (by omega)
  rw [nI_toInt hb] at h1 h2
  rw [pk_rem ha (by omega) hb]
  have := Nat.mod_lt a (show 0 < b by omega)
  exact vp_in_nI (by omega) (by decide)
theorem vp_of {x : Int32} {n : Nat} (h0 : 0 ≤ x.toInt) (h1 : x.toInt < n) : vp_in x n := vp_in_iff.mpr ⟨h0, h1⟩
theorem cl_lt {x : Int32} {n : Nat} (h0 : 0 ≤ x.toInt) (h1 : x.toInt < n) : x.toNatClampNeg < n := by
  obtain ⟨a, ha, rfl⟩ := nn_nI h0
  rw [nI_toInt ha] at h1
  rw [nI_clamp ha]
  omega
theorem nI_nn (k : Nat) (h : k < 2 ^ 31) : 0 ≤ (nI k).toInt := by rw [nI_toInt h]; omega

def rX6_in : Room := { frames := 0, cells := 0, slots := 0, locals := 0 }
def sX6_in (v : Int32) (lo : Int32) (hi : Int32) : Int32 := (if v < lo then 0 else (if hi < v then 0 else 1))
set_option maxHeartbeats 4000000 in
set_option maxRecDepth 100000 in
theorem kX6_in (l : Launch) (dC : Nat → ClassId) (dI : Nat → Nat → Nat) (cI cQ cZ : ClassId) (v : Int32) (lo : Int32) (hi : Int32) : Met l yX6_in wsX6_in rX6_in (va_Pc [.int v, .int lo, .int hi] (cd_rp dC dI cI cQ cZ [])) (vp_Si (fun r => r = sX6_in v lo hi)) 0 0 (fun _ => False) := by
  generalize hex : sX6_in v lo hi = ex
  unfold sX6_in at hex
  refine cd_mRz [.int v, .int lo, .int hi] (by decide) rfl (Nat.le_of_ble_eq_true rfl) ?_
  intro Q p e s m args below meth c ls hx hb hml hown hts hret ⟨hK, hP⟩ hl
  have hl : lv_has ls 3 [(0, .int v), (1, .int lo), (2, .int hi)] := hl
  refine lv_iload_n hx hb dX6_in_0 rfl (lv_at hl 0 rfl) ?_
  refine lv_iload_n hx hb dX6_in_1 rfl (lv_at hl 1 rfl) ?_
  refine lv_icmp_lt (tgt := 14) hx hb dX6_in_2 (by decide) (fun c_1 => ?_) (fun c_1 => ?_)
  · rw [if_pos c_1] at hex
    refine lv_iconst (v := 0) hx hb dX6_in_14 (by decide) ?_
    subst hex
    exact hret _ _ rfl dX6_in_15
  · rw [if_neg c_1] at hex
    refine lv_iload_n hx hb dX6_in_5 rfl (lv_at hl 0 rfl) ?_
    refine lv_iload_n hx hb dX6_in_6 rfl (lv_at hl 2 rfl) ?_
    refine lv_icmp_gt (tgt := 14) hx hb dX6_in_7 (by decide) (fun c_2 => ?_) (fun c_2 => ?_)
    · rw [if_pos c_2] at hex
      refine lv_iconst (v := 0) hx hb dX6_in_14 (by decide) ?_
      subst hex
      exact hret _ _ rfl dX6_in_15
    · rw [if_neg c_2] at hex
      refine lv_iconst (v := 1) hx hb dX6_in_10 (by decide) ?_
      refine lv_goto (tgt := 15) hx hb dX6_in_11 (by decide) ?_
      subst hex
      exact hret _ _ rfl dX6_in_15

theorem nb_in (v lo hi : Int32) : narrow .boolean (.int (sX6_in v lo hi)) = .int (sX6_in v lo hi) := by
  unfold sX6_in
  split <;> (try split) <;> rfl
theorem in6_b {v lo hi : Int32} (h : ¬ sX6_in v lo hi = 0) : lo.toInt ≤ v.toInt ∧ v.toInt ≤ hi.toInt := by
  unfold sX6_in at h
  split at h
  · exact absurd rfl h
  · next h1 =>
    split at h
    · exact absurd rfl h
    · next h2 => exact ⟨cd_nlt h1, cd_nlt h2⟩
theorem set_in {v : Int32} (h : ¬ sX6_in v 0 2 = 0) : vp_in v 3 := by
  have a : 0 ≤ v.toInt := (in6_b h).1
  have b : v.toInt ≤ 2 := (in6_b h).2
  exact vp_of a (by omega)
theorem cnt_in {v : Int32} (h : ¬ sX6_in v 3 5 = 0) : vp_in (v - 3) 3 := by
  have a : 3 ≤ v.toInt := (in6_b h).1
  have b : v.toInt ≤ 5 := (in6_b h).2
  obtain ⟨j, hj, rfl⟩ := nn_nI (x := v) (by omega)
  rw [nI_toInt hj] at a b
  rcases (show j = 3 ∨ j = 4 ∨ j = 5 by omega) with rfl | rfl | rfl
  · exact vp_in_nI (n := 0) (N := 3) (by decide) (by decide)
  · exact vp_in_nI (n := 1) (N := 3) (by decide) (by decide)
  · exact vp_in_nI (n := 2) (N := 3) (by decide) (by decide)
theorem lt12 {x : Int32} {j N : Nat} (hN : N ≤ 1000) (hn : x.toInt ≤ N) (h : ¬ x ≤ nI j) (hj : j ≤ N) : j < N := by
  have h7 := cd_nle h
  rw [nI_toInt (by omega)] at h7
  omega
theorem le12 {x : Int32} {j N : Nat} (hN : N ≤ 1000) (hn : x.toInt ≤ N) (h : ¬ x < nI j) (hj : j ≤ N + 1) : j ≤ N := by
  have h7 := cd_nlt h
  rw [nI_toInt (by omega)] at h7
  omega

def rX6_set : Room := { frames := 1, cells := 0, slots := 0, locals := 22 }
def sX6_set (ru : Nat → Int32) (wh : Int32) (v : Int32) : Int32 × (Int32) × (Nat → Int32) := (if (sX6_in wh 0 2) = 0 then ((-1), 0, ru) else (if (sX6_in v (if wh = 1 then (0 : Int32) else (1 : Int32)) (if wh = 0 then (5000 : Int32) else (if wh = 1 then (20 : Int32) else (500 : Int32)))) = 0 then ((-1), 0, ru) else (ru wh.toNatClampNeg, 0, upd ru wh.toNatClampNeg v)))
set_option maxHeartbeats 4000000 in
set_option maxRecDepth 100000 in
theorem kX6_set (l : Launch) (dC : Nat → ClassId) (dI : Nat → Nat → Nat) (cI cQ cZ : ClassId) (ad : Nat → Nat) (th : Int32) (tr : Int64) (ru : Nat → Int32) (sh : Nat → Int32) (sn : Int32) (se : Nat → Int32) (dn : Nat) (kd : Nat → Int32) (ld : Nat → Int32) (tm : Nat → Int32) (pk : Nat → Int32) (ts : Nat → Int32) (wo : Nat → Int32) (io : Nat → Int32) (sg : Nat) (sd : Nat → Int32) (sl : Nat → Int32) (lv : Nat → Int32) (mt : Nat → Int32) (wh : Int32) (v : Int32) (sz : Nat) : Met l yX6_set wsX6_set rX6_set (va_Pc [.ref (ad 0), .int wh, .int v] (cd_pre dC dI cI cQ cZ (wMd cI cZ ad th tr ru sh sn se dn kd ld tm pk ts wo io sg sd sl lv mt) sz)) (va_Qi (fun r _ => r = (sX6_set ru wh v).1) (cd_post dC dI (wMd cI cZ ad th tr ru sh sn se dn kd ld tm pk ts wo io sg sd sl lv mt) (wMd cI cZ ad ((sX6_set ru wh v).2.1) tr ((sX6_set ru wh v).2.2) sh sn se dn kd ld tm pk ts wo io sg sd sl lv mt) sz) (va_A (wMd cI cZ ad th tr ru sh sn se dn kd ld tm pk ts wo io sg sd sl lv mt) sz)) 0 0 (va_A (wMd cI cZ ad th tr ru sh sn se dn kd ld tm pk ts wo io sg sd sl lv mt) sz) := by
  have hiX6 : ∀ w ∈ u_ws RX6 TX6 19, w ∈ wsX6_set := by decide +kernel
  generalize hex : sX6_set ru wh v = ex
  unfold sX6_set at hex
  refine cd_mMi [.ref (ad 0), .int wh, .int v] (by decide) rfl (Nat.le_of_ble_eq_true rfl) ?_
  intro Q A p e s m args below meth c ls hx hb hml hown hts hA hret hK hP hD hS hl
  have hl : lv_has ls 4 [(0, .ref (ad 0)), (1, .int wh), (2, .int v)] := hl
  refine lv_aload_n hx hb dX6_set_0 rfl (lv_at hl 0 rfl) ?_
  refine lv_iconst (v := 0) hx hb dX6_set_1 (by decide) ?_
  refine va_put (D := (dC, dI)) (ci := 6) (v := .int 0) (ty := .int) (C := RX6) (T := TX6) (N := 19) hx hb hts hiX6 tyX6 tyX6_ok nmX6 hown hK.1 hP hD hS 0 rfl rfl 0 (by decide) (hts (.fieldLink RX6 57 "CellDaysModel" "thrown" "I") (by decide +kernel)) (fun _ h9 => h9) rfl (by decide +kernel) (rfl) (rfl) (Nat.le_of_ble_eq_true rfl) dX6_set_2 (fun H locs hP hD hS => ?_)
  have hP : va_P (dC, dI) vwCl (wMd cI cZ ad 0 tr ru sh sn se dn kd ld tm pk ts wo io sg sd sl lv mt) H := hP
  have hD : va_D A (wMd cI cZ ad 0 tr ru sh sn se dn kd ld tm pk ts wo io sg sd sl lv mt) := hD
  refine lv_iload_n hx hb dX6_set_5 rfl (lv_at hl 1 rfl) ?_
  refine lv_iconst (v := 0) hx hb dX6_set_6 (by decide) ?_
  refine lv_iconst (v := 2) hx hb dX6_set_7 (by decide) ?_
  refine cd_rS (As := [.int wh, .int 0, .int 2]) (rest := []) ⟨hx, hb, hml, hown, hts⟩ (kX6_in l dC dI cI cQ cZ wh 0 2) (va_cwS 3 hts gX6_set_X6_in rfl rfl rfl (by decide +kernel) ⟨by decide, by decide⟩) hK cd_P0 rfl hl.1 rfl (Nat.le_of_ble_eq_true rfl) dX6_set_8 ⟨by decide, by decide⟩ ?_
  refine lv_if_eq (tgt := 54) hx hb dX6_set_11 (by decide) (fun c_1 => ?_) (fun c_1 => ?_)
  · rw [if_pos c_1] at hex
    refine lv_iconst (v := (-1)) hx hb dX6_set_54 (by decide) ?_
    subst hex
    exact hret _ _ _ _ dX6_set_55 hP hD hS
  · rw [if_neg c_1] at hex
    refine lv_iload_n hx hb dX6_set_14 rfl (lv_at hl 2 rfl) ?_
    refine lv_iload_n hx hb dX6_set_15 rfl (lv_at hl 1 rfl) ?_
    refine lv_iconst (v := 1) hx hb dX6_set_16 (by decide) ?_
    have J_2 : W p l e rX6_set s m args below meth c H locs 0 0 Q (F0 m 25 ls [.int (if wh = 1 then (0 : Int32) else (1 : Int32)), .int v]) := by
      refine lv_iload_n hx hb dX6_set_25 rfl (lv_at hl 1 rfl) ?_
      have J_3 : W p l e rX6_set s m args below meth c H locs 0 0 Q (F0 m 48 ls [.int (if wh = 0 then (5000 : Int32) else (if wh = 1 then (20 : Int32) else (500 : Int32))), .int (if wh = 1 then (0 : Int32) else (1 : Int32)), .int v]) := by
        refine cd_rS (As := [.int v, .int (if wh = 1 then (0 : Int32) else (1 : Int32)), .int (if wh = 0 then (5000 : Int32) else (if wh = 1 then (20 : Int32) else (500 : Int32)))]) (rest := []) ⟨hx, hb, hml, hown, hts⟩ (kX6_in l dC dI cI cQ cZ v (if wh = 1 then (0 : Int32) else (1 : Int32)) (if wh = 0 then (5000 : Int32) else (if wh = 1 then (20 : Int32) else (500 : Int32)))) (va_cwS 3 hts gX6_set_X6_in rfl rfl rfl (by decide +kernel) ⟨by decide, by decide⟩) hK cd_P0 rfl hl.1 rfl (Nat.le_of_ble_eq_true rfl) dX6_set_48 ⟨by decide, by decide⟩ ?_
        refine lv_if_ne (tgt := 56) hx hb dX6_set_51 (by decide) (fun c_4 => ?_) (fun c_4 => ?_)
        · rw [if_neg c_4] at hex
          refine lv_aload_n hx hb dX6_set_56 rfl (lv_at hl 0 rfl) ?_
          refine va_get (D := (dC, dI)) (ci := 6) (v := .ref (ad 1)) (C := RX6) (T := TX6) (N := 19) hx hb hts hiX6 hown hK.1 hP 0 rfl rfl 2 (by decide) (hts (.fieldLink RX6 7 "CellDaysModel" "rules" "[I") (by decide +kernel)) (fun _ h9 => h9) rfl dX6_set_57 ?_
          refine lv_iload_n hx hb dX6_set_60 rfl (lv_at hl 1 rfl) ?_
          refine va_iald hx hb hK.1 hP 1 0 rfl rfl ((set_in c_1)) dX6_set_61 ?_
          refine lv_istore_n (lv' := [(3, .int (ru wh.toNatClampNeg)), (0, .ref (ad 0)), (1, .int wh), (2, .int v)]) hx hb dX6_set_62 rfl hl (by decide) rfl (fun ls hl => ?_)
          refine lv_aload_n hx hb dX6_set_63 rfl (lv_at hl 1 rfl) ?_
          refine va_get (D := (dC, dI)) (ci := 6) (v := .ref (ad 1)) (C := RX6) (T := TX6) (N := 19) hx hb hts hiX6 hown hK.1 hP 0 rfl rfl 2 (by decide) (hts (.fieldLink RX6 7 "CellDaysModel" "rules" "[I") (by decide +kernel)) (fun _ h9 => h9) rfl dX6_set_64 ?_
          refine lv_iload_n hx hb dX6_set_67 rfl (lv_at hl 2 rfl) ?_
          refine lv_iload_n hx hb dX6_set_68 rfl (lv_at hl 3 rfl) ?_
          refine va_iast hx hb hK.1 hP hD hS 1 0 rfl rfl ((set_in c_1)) dX6_set_69 (fun H locs hP hD hS => ?_)
          have hP : va_P (dC, dI) vwCl (wMd cI cZ ad 0 tr (upd ru wh.toNatClampNeg v) sh sn se dn kd ld tm pk ts wo io sg sd sl lv mt) H := hP
          have hD : va_D A (wMd cI cZ ad 0 tr (upd ru wh.toNatClampNeg v) sh sn se dn kd ld tm pk ts wo io sg sd sl lv mt) := hD
          refine lv_iload_n hx hb dX6_set_70 rfl (lv_at hl 0 rfl) ?_
          subst hex
          exact hret _ _ _ _ dX6_set_71 hP hD hS
        · rw [if_pos c_4] at hex
          refine lv_iconst (v := (-1)) hx hb dX6_set_54 (by decide) ?_
          subst hex
          exact hret _ _ _ _ dX6_set_55 hP hD hS
      refine lv_if_ne (tgt := 35) hx hb dX6_set_26 (by decide) (fun c_5 => ?_) (fun c_5 => ?_)
      · skip
        refine lv_iload_n hx hb dX6_set_35 rfl (lv_at hl 1 rfl) ?_
        refine lv_iconst (v := 1) hx hb dX6_set_36 (by decide) ?_
        refine lv_icmp_ne (tgt := 45) hx hb dX6_set_37 (by decide) (fun c_6 => ?_) (fun c_6 => ?_)
        · skip
          refine lv_sipush (v := 500) hx hb dX6_set_45 (by decide) ?_
          rw [if_neg c_5, if_neg c_6] at J_3
          exact J_3
        · skip
          refine lv_bipush (v := 20) hx hb dX6_set_40 (by decide) ?_
          refine lv_goto (tgt := 48) hx hb dX6_set_42 (by decide) ?_
          rw [if_neg c_5, if_pos c_6] at J_3
          exact J_3
      · skip
        refine lv_sipush (v := 5000) hx hb dX6_set_29 (by decide) ?_
        refine lv_goto (tgt := 48) hx hb dX6_set_32 (by decide) ?_
        rw [if_pos c_5] at J_3
        exact J_3
    refine lv_icmp_ne (tgt := 24) hx hb dX6_set_17 (by decide) (fun c_7 => ?_) (fun c_7 => ?_)
    · skip
      refine lv_iconst (v := 1) hx hb dX6_set_24 (by decide) ?_
      rw [if_neg c_7] at J_2
      exact J_2
    · skip
      refine lv_iconst (v := 0) hx hb dX6_set_20 (by decide) ?_
      refine lv_goto (tgt := 25) hx hb dX6_set_21 (by decide) ?_
      rw [if_pos c_7] at J_2
      exact J_2

def rX6_shares : Room := { frames := 1, cells := 0, slots := 0, locals := 22 }
def sX6_shares (sh : Nat → Int32) (v1 : Int32) (v2 : Int32) (v3 : Int32) : Int32 × (Int32) × (Nat → Int32) := (if (sX6_in v1 10 100) = 0 then ((-1), 0, sh) else (if (sX6_in v2 10 v1) = 0 then ((-1), 0, sh) else (if (sX6_in v3 10 v2) = 0 then ((-1), 0, sh) else (1, 0, upd (upd (upd sh 0 v1) 1 v2) 2 v3))))
set_option maxHeartbeats 4000000 in
set_option maxRecDepth 100000 in
theorem kX6_shares (l : Launch) (dC : Nat → ClassId) (dI : Nat → Nat → Nat) (cI cQ cZ : ClassId) (ad : Nat → Nat) (th : Int32) (tr : Int64) (ru : Nat → Int32) (sh : Nat → Int32) (sn : Int32) (se : Nat → Int32) (dn : Nat) (kd : Nat → Int32) (ld : Nat → Int32) (tm : Nat → Int32) (pk : Nat → Int32) (ts : Nat → Int32) (wo : Nat → Int32) (io : Nat → Int32) (sg : Nat) (sd : Nat → Int32) (sl : Nat → Int32) (lv : Nat → Int32) (mt : Nat → Int32) (v1 : Int32) (v2 : Int32) (v3 : Int32) (sz : Nat) : Met l yX6_shares wsX6_shares rX6_shares (va_Pc [.ref (ad 0), .int v1, .int v2, .int v3] (cd_pre dC dI cI cQ cZ (wMd cI cZ ad th tr ru sh sn se dn kd ld tm pk ts wo io sg sd sl lv mt) sz)) (va_Qi (fun r _ => r = (sX6_shares sh v1 v2 v3).1) (cd_post dC dI (wMd cI cZ ad th tr ru sh sn se dn kd ld tm pk ts wo io sg sd sl lv mt) (wMd cI cZ ad ((sX6_shares sh v1 v2 v3).2.1) tr ru ((sX6_shares sh v1 v2 v3).2.2) sn se dn kd ld tm pk ts wo io sg sd sl lv mt) sz) (va_A (wMd cI cZ ad th tr ru sh sn se dn kd ld tm pk ts wo io sg sd sl lv mt) sz)) 0 0 (va_A (wMd cI cZ ad th tr ru sh sn se dn kd ld tm pk ts wo io sg sd sl lv mt) sz) := by
  have hiX6 : ∀ w ∈ u_ws RX6 TX6 19, w ∈ wsX6_shares := by decide +kernel
  generalize hex : sX6_shares sh v1 v2 v3 = ex
  unfold sX6_shares at hex
  refine cd_mMi [.ref (ad 0), .int v1, .int v2, .int v3] (by decide) rfl (Nat.le_of_ble_eq_true rfl) ?_
  intro Q A p e s m args below meth c ls hx hb hml hown hts hA hret hK hP hD hS hl
  have hl : lv_has ls 4 [(0, .ref (ad 0)), (1, .int v1), (2, .int v2), (3, .int v3)] := hl
  refine lv_aload_n hx hb dX6_shares_0 rfl (lv_at hl 0 rfl) ?_
  refine lv_iconst (v := 0) hx hb dX6_shares_1 (by decide) ?_
  refine va_put (D := (dC, dI)) (ci := 6) (v := .int 0) (ty := .int) (C := RX6) (T := TX6) (N := 19) hx hb hts hiX6 tyX6 tyX6_ok nmX6 hown hK.1 hP hD hS 0 rfl rfl 0 (by decide) (hts (.fieldLink RX6 57 "CellDaysModel" "thrown" "I") (by decide +kernel)) (fun _ h9 => h9) rfl (by decide +kernel) (rfl) (rfl) (Nat.le_of_ble_eq_true rfl) dX6_shares_2 (fun H locs hP hD hS => ?_)
  have hP : va_P (dC, dI) vwCl (wMd cI cZ ad 0 tr ru sh sn se dn kd ld tm pk ts wo io sg sd sl lv mt) H := hP
  have hD : va_D A (wMd cI cZ ad 0 tr ru sh sn se dn kd ld tm pk ts wo io sg sd sl lv mt) := hD
  refine lv_iload_n hx hb dX6_shares_5 rfl (lv_at hl 1 rfl) ?_
  refine lv_bipush (v := 10) hx hb dX6_shares_6 (by decide) ?_
  refine lv_bipush (v := 100) hx hb dX6_shares_8 (by decide) ?_
  refine cd_rS (As := [.int v1, .int 10, .int 100]) (rest := []) ⟨hx, hb, hml, hown, hts⟩ (kX6_in l dC dI cI cQ cZ v1 10 100) (va_cwS 3 hts gX6_shares_X6_in rfl rfl rfl (by decide +kernel) ⟨by decide, by decide⟩) hK cd_P0 rfl hl.1 rfl (Nat.le_of_ble_eq_true rfl) dX6_shares_10 ⟨by decide, by decide⟩ ?_
  refine lv_if_eq (tgt := 36) hx hb dX6_shares_13 (by decide) (fun c_1 => ?_) (fun c_1 => ?_)
  · rw [if_pos c_1] at hex
    refine lv_iconst (v := (-1)) hx hb dX6_shares_36 (by decide) ?_
    subst hex
    exact hret _ _ _ _ dX6_shares_37 hP hD hS
  · rw [if_neg c_1] at hex
    refine lv_iload_n hx hb dX6_shares_16 rfl (lv_at hl 2 rfl) ?_
    refine lv_bipush (v := 10) hx hb dX6_shares_17 (by decide) ?_
    refine lv_iload_n hx hb dX6_shares_19 rfl (lv_at hl 1 rfl) ?_
    refine cd_rS (As := [.int v2, .int 10, .int v1]) (rest := []) ⟨hx, hb, hml, hown, hts⟩ (kX6_in l dC dI cI cQ cZ v2 10 v1) (va_cwS 3 hts gX6_shares_X6_in rfl rfl rfl (by decide +kernel) ⟨by decide, by decide⟩) hK cd_P0 rfl hl.1 rfl (Nat.le_of_ble_eq_true rfl) dX6_shares_20 ⟨by decide, by decide⟩ ?_
    refine lv_if_eq (tgt := 36) hx hb dX6_shares_23 (by decide) (fun c_2 => ?_) (fun c_2 => ?_)
    · rw [if_pos c_2] at hex
      refine lv_iconst (v := (-1)) hx hb dX6_shares_36 (by decide) ?_
      subst hex
      exact hret _ _ _ _ dX6_shares_37 hP hD hS
    · rw [if_neg c_2] at hex
      refine lv_iload_n hx hb dX6_shares_26 rfl (lv_at hl 3 rfl) ?_
      refine lv_bipush (v := 10) hx hb dX6_shares_27 (by decide) ?_
      refine lv_iload_n hx hb dX6_shares_29 rfl (lv_at hl 2 rfl) ?_
      refine cd_rS (As := [.int v3, .int 10, .int v2]) (rest := []) ⟨hx, hb, hml, hown, hts⟩ (kX6_in l dC dI cI cQ cZ v3 10 v2) (va_cwS 3 hts gX6_shares_X6_in rfl rfl rfl (by decide +kernel) ⟨by decide, by decide⟩) hK cd_P0 rfl hl.1 rfl (Nat.le_of_ble_eq_true rfl) dX6_shares_30 ⟨by decide, by decide⟩ ?_
      refine lv_if_ne (tgt := 38) hx hb dX6_shares_33 (by decide) (fun c_3 => ?_) (fun c_3 => ?_)
      · rw [if_neg c_3] at hex
        refine lv_aload_n hx hb dX6_shares_38 rfl (lv_at hl 0 rfl) ?_
        refine va_get (D := (dC, dI)) (ci := 6) (v := .ref (ad 2)) (C := RX6) (T := TX6) (N := 19) hx hb hts hiX6 hown hK.1 hP 0 rfl rfl 3 (by decide) (hts (.fieldLink RX6 13 "CellDaysModel" "shares" "[I") (by decide +kernel)) (fun _ h9 => h9) rfl dX6_shares_39 ?_
        refine lv_iconst (v := 0) hx hb dX6_shares_42 (by decide) ?_
        refine lv_iload_n hx hb dX6_shares_43 rfl (lv_at hl 1 rfl) ?_
        refine va_iast hx hb hK.1 hP hD hS 2 0 rfl rfl (vp_in_nI (n := 0) (N := 3) (by decide) (by decide)) dX6_shares_44 (fun H locs hP hD hS => ?_)
        have hP : va_P (dC, dI) vwCl (wMd cI cZ ad 0 tr ru (upd sh 0 v1) sn se dn kd ld tm pk ts wo io sg sd sl lv mt) H := hP
        have hD : va_D A (wMd cI cZ ad 0 tr ru (upd sh 0 v1) sn se dn kd ld tm pk ts wo io sg sd sl lv mt) := hD
        refine lv_aload_n hx hb dX6_shares_45 rfl (lv_at hl 0 rfl) ?_
        refine va_get (D := (dC, dI)) (ci := 6) (v := .ref (ad 2)) (C := RX6) (T := TX6) (N := 19) hx hb hts hiX6 hown hK.1 hP 0 rfl rfl 3 (by decide) (hts (.fieldLink RX6 13 "CellDaysModel" "shares" "[I") (by decide +kernel)) (fun _ h9 => h9) rfl dX6_shares_46 ?_
        refine lv_iconst (v := 1) hx hb dX6_shares_49 (by decide) ?_
        refine lv_iload_n hx hb dX6_shares_50 rfl (lv_at hl 2 rfl) ?_
        refine va_iast hx hb hK.1 hP hD hS 2 0 rfl rfl (vp_in_nI (n := 1) (N := 3) (by decide) (by decide)) dX6_shares_51 (fun H locs hP hD hS => ?_)
        have hP : va_P (dC, dI) vwCl (wMd cI cZ ad 0 tr ru (upd (upd sh 0 v1) 1 v2) sn se dn kd ld tm pk ts wo io sg sd sl lv mt) H := hP
        have hD : va_D A (wMd cI cZ ad 0 tr ru (upd (upd sh 0 v1) 1 v2) sn se dn kd ld tm pk ts wo io sg sd sl lv mt) := hD
        refine lv_aload_n hx hb dX6_shares_52 rfl (lv_at hl 0 rfl) ?_
        refine va_get (D := (dC, dI)) (ci := 6) (v := .ref (ad 2)) (C := RX6) (T := TX6) (N := 19) hx hb hts hiX6 hown hK.1 hP 0 rfl rfl 3 (by decide) (hts (.fieldLink RX6 13 "CellDaysModel" "shares" "[I") (by decide +kernel)) (fun _ h9 => h9) rfl dX6_shares_53 ?_
        refine lv_iconst (v := 2) hx hb dX6_shares_56 (by decide) ?_
        refine lv_iload_n hx hb dX6_shares_57 rfl (lv_at hl 3 rfl) ?_
        refine va_iast hx hb hK.1 hP hD hS 2 0 rfl rfl (vp_in_nI (n := 2) (N := 3) (by decide) (by decide)) dX6_shares_58 (fun H locs hP hD hS => ?_)
        have hP : va_P (dC, dI) vwCl (wMd cI cZ ad 0 tr ru (upd (upd (upd sh 0 v1) 1 v2) 2 v3) sn se dn kd ld tm pk ts wo io sg sd sl lv mt) H := hP
        have hD : va_D A (wMd cI cZ ad 0 tr ru (upd (upd (upd sh 0 v1) 1 v2) 2 v3) sn se dn kd ld tm pk ts wo io sg sd sl lv mt) := hD
        refine lv_iconst (v := 1) hx hb dX6_shares_59 (by decide) ?_
        subst hex
        exact hret _ _ _ _ dX6_shares_60 hP hD hS
      · rw [if_pos c_3] at hex
        refine lv_iconst (v := (-1)) hx hb dX6_shares_36 (by decide) ?_
        subst hex
        exact hret _ _ _ _ dX6_shares_37 hP hD hS

def rX6_season : Room := { frames := 1, cells := 0, slots := 0, locals := 22 }
def sX6_season_L62 (nn : Int32) : Nat → Int32 → Nat → (Nat → Int32) → Int32 × (Int32) × (Int32) × (Nat → Int32)
  | 0, rs, j, sev => (0, 0, 0, (fun _ => 0))
  | n + 1, rs, j, sev => (if nn ≤ (nI j) then (nn, 0, nn, sev) else sX6_season_L62 nn n (rs / 3) (j + 1) (upd sev j (rs - rs / 3 * 3)))
def sX6_season_L22 (sn : Int32) (se : Nat → Int32) (nn : Int32) (dg : Int32) : Nat → Int32 → Nat → Int32 × (Int32) × (Int32) × (Nat → Int32)
  | 0, mo, k => (0, 0, 0, (fun _ => 0))
  | n + 1, mo, k => (if nn ≤ (nI k) then (if (sX6_in dg 0 (mo - 1)) = 0 then ((-1), 0, sn, se) else sX6_season_L62 nn 13 dg 0 se) else sX6_season_L22 sn se nn dg n (mo * 3) (k + 1))
def sX6_season (sn : Int32) (se : Nat → Int32) (nn : Int32) (dg : Int32) : Int32 × (Int32) × (Int32) × (Nat → Int32) := (if (sX6_in nn 1 12) = 0 then ((-1), 0, sn, se) else sX6_season_L22 sn se nn dg 13 1 0)
set_option maxHeartbeats 4000000 in
set_option maxRecDepth 100000 in
theorem kX6_season (l : Launch) (dC : Nat → ClassId) (dI : Nat → Nat → Nat) (cI cQ cZ : ClassId) (ad : Nat → Nat) (th : Int32) (tr : Int64) (ru : Nat → Int32) (sh : Nat → Int32) (sn : Int32) (se : Nat → Int32) (dn : Nat) (kd : Nat → Int32) (ld : Nat → Int32) (tm : Nat → Int32) (pk : Nat → Int32) (ts : Nat → Int32) (wo : Nat → Int32) (io : Nat → Int32) (sg : Nat) (sd : Nat → Int32) (sl : Nat → Int32) (lv : Nat → Int32) (mt : Nat → Int32) (nn : Int32) (dg : Int32) (sz : Nat) : Met l yX6_season wsX6_season rX6_season (va_Pc [.ref (ad 0), .int nn, .int dg] (cd_pre dC dI cI cQ cZ (wMd cI cZ ad th tr ru sh sn se dn kd ld tm pk ts wo io sg sd sl lv mt) sz)) (va_Qi (fun r _ => r = (sX6_season sn se nn dg).1) (cd_post dC dI (wMd cI cZ ad th tr ru sh sn se dn kd ld tm pk ts wo io sg sd sl lv mt) (wMd cI cZ ad ((sX6_season sn se nn dg).2.1) tr ru sh ((sX6_season sn se nn dg).2.2.1) ((sX6_season sn se nn dg).2.2.2) dn kd ld tm pk ts wo io sg sd sl lv mt) sz) (va_A (wMd cI cZ ad th tr ru sh sn se dn kd ld tm pk ts wo io sg sd sl lv mt) sz)) 0 0 (va_A (wMd cI cZ ad th tr ru sh sn se dn kd ld tm pk ts wo io sg sd sl lv mt) sz) := by
  have hiX6 : ∀ w ∈ u_ws RX6 TX6 19, w ∈ wsX6_season := by decide +kernel
  generalize hex : sX6_season sn se nn dg = ex
  unfold sX6_season at hex
  refine cd_mMi [.ref (ad 0), .int nn, .int dg] (by decide) rfl (Nat.le_of_ble_eq_true rfl) ?_
  intro Q A p e s m args below meth c ls hx hb hml hown hts hA hret hK hP hD hS hl
  have hl : lv_has ls 6 [(0, .ref (ad 0)), (1, .int nn), (2, .int dg)] := hl
  refine lv_aload_n hx hb dX6_season_0 rfl (lv_at hl 0 rfl) ?_
  refine lv_iconst (v := 0) hx hb dX6_season_1 (by decide) ?_
  refine va_put (D := (dC, dI)) (ci := 6) (v := .int 0) (ty := .int) (C := RX6) (T := TX6) (N := 19) hx hb hts hiX6 tyX6 tyX6_ok nmX6 hown hK.1 hP hD hS 0 rfl rfl 0 (by decide) (hts (.fieldLink RX6 57 "CellDaysModel" "thrown" "I") (by decide +kernel)) (fun _ h9 => h9) rfl (by decide +kernel) (rfl) (rfl) (Nat.le_of_ble_eq_true rfl) dX6_season_2 (fun H locs hP hD hS => ?_)
  have hP : va_P (dC, dI) vwCl (wMd cI cZ ad 0 tr ru sh sn se dn kd ld tm pk ts wo io sg sd sl lv mt) H := hP
  have hD : va_D A (wMd cI cZ ad 0 tr ru sh sn se dn kd ld tm pk ts wo io sg sd sl lv mt) := hD
  refine lv_iload_n hx hb dX6_season_5 rfl (lv_at hl 1 rfl) ?_
  refine lv_iconst (v := 1) hx hb dX6_season_6 (by decide) ?_
  refine lv_bipush (v := 12) hx hb dX6_season_7 (by decide) ?_
  refine cd_rS (As := [.int nn, .int 1, .int 12]) (rest := []) ⟨hx, hb, hml, hown, hts⟩ (kX6_in l dC dI cI cQ cZ nn 1 12) (va_cwS 3 hts gX6_season_X6_in rfl rfl rfl (by decide +kernel) ⟨by decide, by decide⟩) hK cd_P0 rfl hl.1 rfl (Nat.le_of_ble_eq_true rfl) dX6_season_9 ⟨by decide, by decide⟩ ?_
  refine lv_if_ne (tgt := 17) hx hb dX6_season_12 (by decide) (fun c_1 => ?_) (fun c_1 => ?_)
  · rw [if_neg c_1] at hex
    refine lv_iconst (v := 1) hx hb dX6_season_17 (by decide) ?_
    refine lv_istore_n (lv' := [(3, .int 1), (0, .ref (ad 0)), (1, .int nn), (2, .int dg)]) hx hb dX6_season_18 rfl hl (by decide) rfl (fun ls hl => ?_)
    refine lv_iconst (v := 0) hx hb dX6_season_19 (by decide) ?_
    refine lv_istore (lv' := [(4, .int 0), (3, .int 1), (0, .ref (ad 0)), (1, .int nn), (2, .int dg)]) hx hb dX6_season_20 hl (by decide) rfl (fun ls hl => ?_)
    have L22 : ∀ (n : Nat) (mo : Int32) (k : Nat), (k ≤ 12) → 12 - k < n → sX6_season_L22 sn se nn dg n mo k = ex → ∀ (ls : Array Slot), lv_has ls 6 [(4, .int (nI k)), (3, .int mo), (0, .ref (ad 0)), (1, .int nn), (2, .int dg)] → W p l e rX6_season s m args below meth c H locs 0 0 Q (F0 m 22 ls []) := by
      intro n
      induction n with
      | zero => intro mo k hk hm; exact absurd hm (Nat.not_lt_zero _)
      | succ n ih =>
        intro mo k hk hm hex ls hl
        rw [sX6_season_L22] at hex
        have hnn : nn.toInt ≤ 12 := (in6_b c_1).2
        refine lv_iload hx hb dX6_season_22 (lv_at hl 0 rfl) ?_
        refine lv_iload_n hx hb dX6_season_24 rfl (lv_at hl 3 rfl) ?_
        refine lv_icmp_ge (tgt := 38) hx hb dX6_season_25 (by decide) (fun c_2 => ?_) (fun c_2 => ?_)
        · rw [if_pos c_2] at hex
          refine lv_iload_n hx hb dX6_season_38 rfl (lv_at hl 4 rfl) ?_
          refine lv_iconst (v := 0) hx hb dX6_season_39 (by decide) ?_
          refine lv_iload_n hx hb dX6_season_40 rfl (lv_at hl 1 rfl) ?_
          refine lv_iconst (v := 1) hx hb dX6_season_41 (by decide) ?_
          refine lv_isub hx hb dX6_season_42 ?_
          refine cd_rS (As := [.int dg, .int 0, .int (mo - 1)]) (rest := []) ⟨hx, hb, hml, hown, hts⟩ (kX6_in l dC dI cI cQ cZ dg 0 (mo - 1)) (va_cwS 3 hts gX6_season_X6_in rfl rfl rfl (by decide +kernel) ⟨by decide, by decide⟩) hK cd_P0 rfl hl.1 rfl (Nat.le_of_ble_eq_true rfl) dX6_season_43 ⟨by decide, by decide⟩ ?_
          refine lv_if_ne (tgt := 51) hx hb dX6_season_46 (by decide) (fun c_3 => ?_) (fun c_3 => ?_)
          · rw [if_neg c_3] at hex
            refine lv_aload_n hx hb dX6_season_51 rfl (lv_at hl 2 rfl) ?_
            refine lv_iload_n hx hb dX6_season_52 rfl (lv_at hl 3 rfl) ?_
            refine va_put (D := (dC, dI)) (ci := 6) (v := .int nn) (ty := .int) (C := RX6) (T := TX6) (N := 19) hx hb hts hiX6 tyX6 tyX6_ok nmX6 hown hK.1 hP hD hS 0 rfl rfl 4 (by decide) (hts (.fieldLink RX6 16 "CellDaysModel" "seasons" "I") (by decide +kernel)) (fun _ h9 => h9) rfl (by decide +kernel) (rfl) (rfl) (Nat.le_of_ble_eq_true rfl) dX6_season_53 (fun H locs hP hD hS => ?_)
            have hP : va_P (dC, dI) vwCl (wMd cI cZ ad 0 tr ru sh nn se dn kd ld tm pk ts wo io sg sd sl lv mt) H := hP
            have hD : va_D A (wMd cI cZ ad 0 tr ru sh nn se dn kd ld tm pk ts wo io sg sd sl lv mt) := hD
            refine lv_iload_n hx hb dX6_season_56 rfl (lv_at hl 4 rfl) ?_
            refine lv_istore (lv' := [(4, .int dg), (3, .int mo), (0, .ref (ad 0)), (1, .int nn), (2, .int dg)]) hx hb dX6_season_57 hl (by decide) rfl (fun ls hl => ?_)
            refine lv_iconst (v := 0) hx hb dX6_season_59 (by decide) ?_
            refine lv_istore (lv' := [(5, .int 0), (4, .int dg), (3, .int mo), (0, .ref (ad 0)), (1, .int nn), (2, .int dg)]) hx hb dX6_season_60 hl (by decide) rfl (fun ls hl => ?_)
            have L62 : ∀ (n : Nat) (rs : Int32) (j : Nat) (sev : Nat → Int32), (j ≤ 12) → 12 - j < n → sX6_season_L62 nn n rs j sev = ex → ∀ (ls : Array Slot) (H : Heap) (locs : List Loc), lv_has ls 6 [(5, .int (nI j)), (4, .int rs), (3, .int mo), (0, .ref (ad 0)), (1, .int nn), (2, .int dg)] → va_P (dC, dI) vwCl (wMd cI cZ ad 0 tr ru sh nn sev dn kd ld tm pk ts wo io sg sd sl lv mt) H → va_D A (wMd cI cZ ad 0 tr ru sh nn sev dn kd ld tm pk ts wo io sg sd sl lv mt) → va_S A s.heap H locs → W p l e rX6_season s m args below meth c H locs 0 0 Q (F0 m 62 ls []) := by
              intro n
              induction n with
              | zero => intro rs j sev hj hm; exact absurd hm (Nat.not_lt_zero _)
              | succ n ih =>
                intro rs j sev hj hm hex ls H locs hl hP hD hS
                rw [sX6_season_L62] at hex
                refine lv_iload hx hb dX6_season_62 (lv_at hl 0 rfl) ?_
                refine lv_iload_n hx hb dX6_season_64 rfl (lv_at hl 4 rfl) ?_
                refine lv_icmp_ge (tgt := 91) hx hb dX6_season_65 (by decide) (fun c_4 => ?_) (fun c_4 => ?_)
                · rw [if_pos c_4] at hex
                  refine lv_iload_n hx hb dX6_season_91 rfl (lv_at hl 4 rfl) ?_
                  subst hex
                  exact hret _ _ _ _ dX6_season_92 hP hD hS
                · rw [if_neg c_4] at hex
                  refine lv_aload_n hx hb dX6_season_68 rfl (lv_at hl 3 rfl) ?_
                  refine va_get (D := (dC, dI)) (ci := 6) (v := .ref (ad 3)) (C := RX6) (T := TX6) (N := 19) hx hb hts hiX6 hown hK.1 hP 0 rfl rfl 5 (by decide) (hts (.fieldLink RX6 20 "CellDaysModel" "season" "[I") (by decide +kernel)) (fun _ h9 => h9) rfl dX6_season_69 ?_
                  refine lv_iload hx hb dX6_season_72 (lv_at hl 0 rfl) ?_
                  refine lv_iload hx hb dX6_season_74 (lv_at hl 1 rfl) ?_
                  refine lv_iconst (v := 3) hx hb dX6_season_76 (by decide) ?_
                  refine lv_irem hx hb dX6_season_77 (by decide) ?_
                  refine va_iast hx hb hK.1 hP hD hS 3 0 rfl rfl (vp_in_nI (n := j) (N := 12) (lt12 (N := 12) (by decide) hnn (by assumption) (by omega)) (by omega)) dX6_season_78 (fun H locs hP hD hS => ?_)
                  rw [nI_clamp (show j < 2 ^ 31 by omega)] at hP hD
                  have hP : va_P (dC, dI) vwCl (wMd cI cZ ad 0 tr ru sh nn (upd sev j (rs - rs / 3 * 3)) dn kd ld tm pk ts wo io sg sd sl lv mt) H := hP
                  have hD : va_D A (wMd cI cZ ad 0 tr ru sh nn (upd sev j (rs - rs / 3 * 3)) dn kd ld tm pk ts wo io sg sd sl lv mt) := hD
                  refine lv_iload hx hb dX6_season_79 (lv_at hl 1 rfl) ?_
                  refine lv_iconst (v := 3) hx hb dX6_season_81 (by decide) ?_
                  refine lv_idiv hx hb dX6_season_82 (by decide) ?_
                  refine lv_istore (lv' := [(4, .int (rs / 3)), (5, .int (nI j)), (3, .int mo), (0, .ref (ad 0)), (1, .int nn), (2, .int dg)]) hx hb dX6_season_83 hl (by decide) rfl (fun ls hl => ?_)
                  refine lv_iinc (v := nI (j + 1)) (lv' := [(5, .int (nI (j + 1))), (4, .int (rs / 3)), (3, .int mo), (0, .ref (ad 0)), (1, .int nn), (2, .int dg)]) hx hb dX6_season_85 hl (k := 1) rfl (nI_1 j) (by decide) rfl (fun ls hl => ?_)
                  refine lv_goto (tgt := 62) hx hb dX6_season_88 (by decide) ?_
                  exact ih (rs / 3) (j + 1) (upd sev j (rs - rs / 3 * 3)) (by have := lt12 (N := 12) (by decide) hnn (by assumption) (by omega); omega) (by have := lt12 (N := 12) (by decide) hnn (by assumption) (by omega); omega) hex _ _ _ (lv_sub hl [0, 1, 2, 3, 4, 5] rfl) hP hD hS
            exact L62 13 dg 0 se (by decide) (by decide) hex _ _ _ (lv_sub hl [0, 1, 2, 3, 4, 5] rfl) hP hD hS
          · rw [if_pos c_3] at hex
            refine lv_iconst (v := (-1)) hx hb dX6_season_49 (by decide) ?_
            subst hex
            exact hret _ _ _ _ dX6_season_50 hP hD hS
        · rw [if_neg c_2] at hex
          refine lv_iload_n hx hb dX6_season_28 rfl (lv_at hl 1 rfl) ?_
          refine lv_iconst (v := 3) hx hb dX6_season_29 (by decide) ?_
          refine lv_imul hx hb dX6_season_30 ?_
          refine lv_istore_n (lv' := [(3, .int (mo * 3)), (4, .int (nI k)), (0, .ref (ad 0)), (1, .int nn), (2, .int dg)]) hx hb dX6_season_31 rfl hl (by decide) rfl (fun ls hl => ?_)
          refine lv_iinc (v := nI (k + 1)) (lv' := [(4, .int (nI (k + 1))), (3, .int (mo * 3)), (0, .ref (ad 0)), (1, .int nn), (2, .int dg)]) hx hb dX6_season_32 hl (k := 1) rfl (nI_1 k) (by decide) rfl (fun ls hl => ?_)
          refine lv_goto (tgt := 22) hx hb dX6_season_35 (by decide) ?_
          exact ih (mo * 3) (k + 1) (by have := lt12 (N := 12) (by decide) hnn (by assumption) (by omega); omega) (by have := lt12 (N := 12) (by decide) hnn (by assumption) (by omega); omega) hex _ (lv_sub hl [0, 1, 2, 3, 4] rfl)
    exact L22 13 1 0 (by decide) (by decide) hex _ (lv_sub hl [0, 1, 2, 3, 4] rfl)
  · rw [if_pos c_1] at hex
    refine lv_iconst (v := (-1)) hx hb dX6_season_15 (by decide) ?_
    subst hex
    exact hret _ _ _ _ dX6_season_16 hP hD hS

def rX6_shareOf : Room := { frames := 0, cells := 0, slots := 0, locals := 0 }
def sX6_shareOf (sh : Nat → Int32) (sn : Int32) (se : Nat → Int32) (dd : Int32) : Int32 := (sh ((se ((dd - dd / sn * sn).toNatClampNeg)).toNatClampNeg))
set_option maxHeartbeats 4000000 in
set_option maxRecDepth 100000 in
theorem kX6_shareOf (l : Launch) (dC : Nat → ClassId) (dI : Nat → Nat → Nat) (cI cQ cZ : ClassId) (ad : Nat → Nat) (th : Int32) (tr : Int64) (ru : Nat → Int32) (sh : Nat → Int32) (sn : Int32) (se : Nat → Int32) (dn : Nat) (kd : Nat → Int32) (ld : Nat → Int32) (tm : Nat → Int32) (pk : Nat → Int32) (ts : Nat → Int32) (wo : Nat → Int32) (io : Nat → Int32) (sg : Nat) (sd : Nat → Int32) (sl : Nat → Int32) (lv : Nat → Int32) (mt : Nat → Int32) (dd : Int32) (hI : mOk ru sh sn se dn sg sd) (hdd : 0 ≤ dd.toInt) : Met l yX6_shareOf wsX6_shareOf rX6_shareOf (va_Pc [.ref (ad 0), .int dd] (cd_rp dC dI cI cQ cZ (wMd cI cZ ad th tr ru sh sn se dn kd ld tm pk ts wo io sg sd sl lv mt))) (vp_Si (fun r => r = sX6_shareOf sh sn se dd)) 0 0 (fun _ => False) := by
  have hiX6 : ∀ w ∈ u_ws RX6 TX6 19, w ∈ wsX6_shareOf := by decide +kernel
  generalize hex : sX6_shareOf sh sn se dd = ex
  unfold sX6_shareOf at hex
  refine cd_mRi [.ref (ad 0), .int dd] (by decide) rfl (Nat.le_of_ble_eq_true rfl) ?_
  intro Q p e s m args below meth c ls hx hb hml hown hts hret ⟨hK, hP⟩ hl
  have hl : lv_has ls 2 [(0, .ref (ad 0)), (1, .int dd)] := hl
  have hdn : dn ≤ 8 := hI.2.2.2.1
  have hsg : sg ≤ 12 := hI.2.2.2.2.1
  refine lv_aload_n hx hb dX6_shareOf_0 rfl (lv_at hl 0 rfl) ?_
  refine va_get (D := (dC, dI)) (ci := 6) (v := .ref (ad 2)) (C := RX6) (T := TX6) (N := 19) hx hb hts hiX6 hown hK.1 hP 0 rfl rfl 3 (by decide) (hts (.fieldLink RX6 13 "CellDaysModel" "shares" "[I") (by decide +kernel)) (fun _ h9 => h9) rfl dX6_shareOf_1 ?_
  refine lv_aload_n hx hb dX6_shareOf_4 rfl (lv_at hl 0 rfl) ?_
  refine va_get (D := (dC, dI)) (ci := 6) (v := .ref (ad 3)) (C := RX6) (T := TX6) (N := 19) hx hb hts hiX6 hown hK.1 hP 0 rfl rfl 5 (by decide) (hts (.fieldLink RX6 20 "CellDaysModel" "season" "[I") (by decide +kernel)) (fun _ h9 => h9) rfl dX6_shareOf_5 ?_
  refine lv_iload_n hx hb dX6_shareOf_8 rfl (lv_at hl 1 rfl) ?_
  refine lv_aload_n hx hb dX6_shareOf_9 rfl (lv_at hl 0 rfl) ?_
  refine va_get (D := (dC, dI)) (ci := 6) (v := .int sn) (C := RX6) (T := TX6) (N := 19) hx hb hts hiX6 hown hK.1 hP 0 rfl rfl 4 (by decide) (hts (.fieldLink RX6 16 "CellDaysModel" "seasons" "I") (by decide +kernel)) (fun _ h9 => h9) rfl dX6_shareOf_10 ?_
  refine lv_irem hx hb dX6_shareOf_13 (ne_pos hI.1.1) ?_
  refine va_iald hx hb hK.1 hP 3 0 rfl rfl ((rem_in hdd hI.1.1 hI.1.2)) dX6_shareOf_14 ?_
  refine va_iald hx hb hK.1 hP 2 0 rfl rfl ((vp_of (hI.2.1 _).1 (hI.2.1 _).2)) dX6_shareOf_15 ?_
  subst hex
  exact hret _ _ dX6_shareOf_16

theorem shareOf_ne {ru sh : Nat → Int32} {sn : Int32} {se : Nat → Int32} {dn sg : Nat} {sd : Nat → Int32} {dd : Int32} (hI : mOk ru sh sn se dn sg sd) : ¬ sX6_shareOf sh sn se dd = 0 := by
  unfold sX6_shareOf
  exact ne_pos (hI.2.2.1 _ (cl_lt (hI.2.1 _).1 (hI.2.1 _).2))

def rX6_isDay : Room := { frames := 1, cells := 0, slots := 0, locals := 22 }
def sX6_isDay (dd : Int32) : Int32 := (sX6_in dd 0 399)
set_option maxHeartbeats 4000000 in
set_option maxRecDepth 100000 in
theorem kX6_isDay (l : Launch) (dC : Nat → ClassId) (dI : Nat → Nat → Nat) (cI cQ cZ : ClassId) (dd : Int32) : Met l yX6_isDay wsX6_isDay rX6_isDay (va_Pc [.int dd] (cd_rp dC dI cI cQ cZ [])) (vp_Si (fun r => r = sX6_isDay dd)) 0 0 (fun _ => False) := by
  generalize hex : sX6_isDay dd = ex
  unfold sX6_isDay at hex
  refine cd_mRz [.int dd] (by decide) rfl (Nat.le_of_ble_eq_true rfl) ?_
  intro Q p e s m args below meth c ls hx hb hml hown hts hret ⟨hK, hP⟩ hl
  have hl : lv_has ls 1 [(0, .int dd)] := hl
  refine lv_iload_n hx hb dX6_isDay_0 rfl (lv_at hl 0 rfl) ?_
  refine lv_iconst (v := 0) hx hb dX6_isDay_1 (by decide) ?_
  refine lv_sipush (v := 399) hx hb dX6_isDay_2 (by decide) ?_
  refine cd_rS (As := [.int dd, .int 0, .int 399]) (rest := []) ⟨hx, hb, hml, hown, hts⟩ (kX6_in l dC dI cI cQ cZ dd 0 399) (va_cwS 3 hts gX6_isDay_X6_in rfl rfl rfl (by decide +kernel) ⟨by decide, by decide⟩) hK cd_P0 rfl hl.1 rfl (Nat.le_of_ble_eq_true rfl) dX6_isDay_5 ⟨by decide, by decide⟩ ?_
  subst hex
  exact hret _ _ (nb_in _ _ _) dX6_isDay_8

def rX6_isTries : Room := { frames := 1, cells := 0, slots := 0, locals := 22 }
def sX6_isTries (t : Int32) : Int32 := (sX6_in t 1 5)
set_option maxHeartbeats 4000000 in
set_option maxRecDepth 100000 in
theorem kX6_isTries (l : Launch) (dC : Nat → ClassId) (dI : Nat → Nat → Nat) (cI cQ cZ : ClassId) (t : Int32) : Met l yX6_isTries wsX6_isTries rX6_isTries (va_Pc [.int t] (cd_rp dC dI cI cQ cZ [])) (vp_Si (fun r => r = sX6_isTries t)) 0 0 (fun _ => False) := by
  generalize hex : sX6_isTries t = ex
  unfold sX6_isTries at hex
  refine cd_mRz [.int t] (by decide) rfl (Nat.le_of_ble_eq_true rfl) ?_
  intro Q p e s m args below meth c ls hx hb hml hown hts hret ⟨hK, hP⟩ hl
  have hl : lv_has ls 1 [(0, .int t)] := hl
  refine lv_iload_n hx hb dX6_isTries_0 rfl (lv_at hl 0 rfl) ?_
  refine lv_iconst (v := 1) hx hb dX6_isTries_1 (by decide) ?_
  refine lv_iconst (v := 5) hx hb dX6_isTries_2 (by decide) ?_
  refine cd_rS (As := [.int t, .int 1, .int 5]) (rest := []) ⟨hx, hb, hml, hown, hts⟩ (kX6_in l dC dI cI cQ cZ t 1 5) (va_cwS 3 hts gX6_isTries_X6_in rfl rfl rfl (by decide +kernel) ⟨by decide, by decide⟩) hK cd_P0 rfl hl.1 rfl (Nat.le_of_ble_eq_true rfl) dX6_isTries_3 ⟨by decide, by decide⟩ ?_
  subst hex
  exact hret _ _ (nb_in _ _ _) dX6_isTries_6

def rX6_isCase : Room := { frames := 1, cells := 0, slots := 0, locals := 22 }
def sX6_isCase (nu : Int32) : Int32 := (sX6_in nu 0 149)
set_option maxHeartbeats 4000000 in
set_option maxRecDepth 100000 in
theorem kX6_isCase (l : Launch) (dC : Nat → ClassId) (dI : Nat → Nat → Nat) (cI cQ cZ : ClassId) (nu : Int32) : Met l yX6_isCase wsX6_isCase rX6_isCase (va_Pc [.int nu] (cd_rp dC dI cI cQ cZ [])) (vp_Si (fun r => r = sX6_isCase nu)) 0 0 (fun _ => False) := by
  generalize hex : sX6_isCase nu = ex
  unfold sX6_isCase at hex
  refine cd_mRz [.int nu] (by decide) rfl (Nat.le_of_ble_eq_true rfl) ?_
  intro Q p e s m args below meth c ls hx hb hml hown hts hret ⟨hK, hP⟩ hl
  have hl : lv_has ls 1 [(0, .int nu)] := hl
  refine lv_iload_n hx hb dX6_isCase_0 rfl (lv_at hl 0 rfl) ?_
  refine lv_iconst (v := 0) hx hb dX6_isCase_1 (by decide) ?_
  refine lv_sipush (v := 149) hx hb dX6_isCase_2 (by decide) ?_
  refine cd_rS (As := [.int nu, .int 0, .int 149]) (rest := []) ⟨hx, hb, hml, hown, hts⟩ (kX6_in l dC dI cI cQ cZ nu 0 149) (va_cwS 3 hts gX6_isCase_X6_in rfl rfl rfl (by decide +kernel) ⟨by decide, by decide⟩) hK cd_P0 rfl hl.1 rfl (Nat.le_of_ble_eq_true rfl) dX6_isCase_5 ⟨by decide, by decide⟩ ?_
  subst hex
  exact hret _ _ (nb_in _ _ _) dX6_isCase_8

theorem isDay6_b {d : Int32} (h : ¬ sX6_isDay d = 0) : 0 ≤ d.toInt ∧ d.toInt ≤ 399 := in6_b h

def rX6_share : Room := { frames := 2, cells := 0, slots := 0, locals := 42 }
def sX6_share (sh : Nat → Int32) (sn : Int32) (se : Nat → Int32) (dd : Int32) : Int32 × (Int32) := (if (sX6_isDay dd) = 0 then ((-1), 0) else (sX6_shareOf sh sn se dd, 0))
set_option maxHeartbeats 4000000 in
set_option maxRecDepth 100000 in
theorem kX6_share (l : Launch) (dC : Nat → ClassId) (dI : Nat → Nat → Nat) (cI cQ cZ : ClassId) (ad : Nat → Nat) (th : Int32) (tr : Int64) (ru : Nat → Int32) (sh : Nat → Int32) (sn : Int32) (se : Nat → Int32) (dn : Nat) (kd : Nat → Int32) (ld : Nat → Int32) (tm : Nat → Int32) (pk : Nat → Int32) (ts : Nat → Int32) (wo : Nat → Int32) (io : Nat → Int32) (sg : Nat) (sd : Nat → Int32) (sl : Nat → Int32) (lv : Nat → Int32) (mt : Nat → Int32) (dd : Int32) (sz : Nat) (hI : mOk ru sh sn se dn sg sd) : Met l yX6_share wsX6_share rX6_share (va_Pc [.ref (ad 0), .int dd] (cd_pre dC dI cI cQ cZ (wMd cI cZ ad th tr ru sh sn se dn kd ld tm pk ts wo io sg sd sl lv mt) sz)) (va_Qi (fun r _ => r = (sX6_share sh sn se dd).1) (cd_post dC dI (wMd cI cZ ad th tr ru sh sn se dn kd ld tm pk ts wo io sg sd sl lv mt) (wMd cI cZ ad ((sX6_share sh sn se dd).2) tr ru sh sn se dn kd ld tm pk ts wo io sg sd sl lv mt) sz) (va_A (wMd cI cZ ad th tr ru sh sn se dn kd ld tm pk ts wo io sg sd sl lv mt) sz)) 0 0 (va_A (wMd cI cZ ad th tr ru sh sn se dn kd ld tm pk ts wo io sg sd sl lv mt) sz) := by
  have hiX6 : ∀ w ∈ u_ws RX6 TX6 19, w ∈ wsX6_share := by decide +kernel
  generalize hex : sX6_share sh sn se dd = ex
  unfold sX6_share at hex
  refine cd_mMi [.ref (ad 0), .int dd] (by decide) rfl (Nat.le_of_ble_eq_true rfl) ?_
  intro Q A p e s m args below meth c ls hx hb hml hown hts hA hret hK hP hD hS hl
  have hl : lv_has ls 2 [(0, .ref (ad 0)), (1, .int dd)] := hl
  have hdn : dn ≤ 8 := hI.2.2.2.1
  have hsg : sg ≤ 12 := hI.2.2.2.2.1
  refine lv_aload_n hx hb dX6_share_0 rfl (lv_at hl 0 rfl) ?_
  refine lv_iconst (v := 0) hx hb dX6_share_1 (by decide) ?_
  refine va_put (D := (dC, dI)) (ci := 6) (v := .int 0) (ty := .int) (C := RX6) (T := TX6) (N := 19) hx hb hts hiX6 tyX6 tyX6_ok nmX6 hown hK.1 hP hD hS 0 rfl rfl 0 (by decide) (hts (.fieldLink RX6 57 "CellDaysModel" "thrown" "I") (by decide +kernel)) (fun _ h9 => h9) rfl (by decide +kernel) (rfl) (rfl) (Nat.le_of_ble_eq_true rfl) dX6_share_2 (fun H locs hP hD hS => ?_)
  have hP : va_P (dC, dI) vwCl (wMd cI cZ ad 0 tr ru sh sn se dn kd ld tm pk ts wo io sg sd sl lv mt) H := hP
  have hD : va_D A (wMd cI cZ ad 0 tr ru sh sn se dn kd ld tm pk ts wo io sg sd sl lv mt) := hD
  refine lv_iload_n hx hb dX6_share_5 rfl (lv_at hl 1 rfl) ?_
  refine cd_rS (As := [.int dd]) (rest := []) ⟨hx, hb, hml, hown, hts⟩ (kX6_isDay l dC dI cI cQ cZ dd) (va_cwS 1 hts gX6_share_X6_isDay rfl rfl rfl (by decide +kernel) ⟨by decide, by decide⟩) hK cd_P0 rfl hl.1 rfl (Nat.le_of_ble_eq_true rfl) dX6_share_6 ⟨by decide, by decide⟩ ?_
  refine lv_if_eq (tgt := 20) hx hb dX6_share_9 (by decide) (fun c_1 => ?_) (fun c_1 => ?_)
  · rw [if_pos c_1] at hex
    refine lv_iconst (v := (-1)) hx hb dX6_share_20 (by decide) ?_
    subst hex
    exact hret _ _ _ _ dX6_share_21 hP hD hS
  · rw [if_neg c_1] at hex
    refine lv_aload_n hx hb dX6_share_12 rfl (lv_at hl 0 rfl) ?_
    refine lv_iload_n hx hb dX6_share_13 rfl (lv_at hl 1 rfl) ?_
    refine cd_rV (As := [.int dd]) (b := (ad 0)) (ci := 6) (q := (RX6, TX6, 19)) (rest := []) ⟨hx, hb, hml, hown, hts⟩ (kX6_shareOf l dC dI cI cQ cZ ad 0 tr ru sh sn se dn kd ld tm pk ts wo io sg sd sl lv mt dd hI ((isDay6_b c_1).1)) (cwV 1 hts gX6_share_X6_shareOf rfl rfl rfl (by decide +kernel) ⟨by decide, by decide⟩) hK hP rfl rfl rfl hl.1 rfl (Nat.le_of_ble_eq_true rfl) dX6_share_14 ⟨by decide, by decide⟩ ?_
    refine lv_goto (tgt := 21) hx hb dX6_share_17 (by decide) ?_
    subst hex
    exact hret _ _ _ _ dX6_share_21 hP hD hS

def rX6_isDuty : Room := { frames := 1, cells := 0, slots := 0, locals := 22 }
def sX6_isDuty (dn : Nat) (du : Int32) : Int32 := (sX6_in du 0 ((nI dn) - 1))
set_option maxHeartbeats 4000000 in
set_option maxRecDepth 100000 in
theorem kX6_isDuty (l : Launch) (dC : Nat → ClassId) (dI : Nat → Nat → Nat) (cI cQ cZ : ClassId) (ad : Nat → Nat) (th : Int32) (tr : Int64) (ru : Nat → Int32) (sh : Nat → Int32) (sn : Int32) (se : Nat → Int32) (dn : Nat) (kd : Nat → Int32) (ld : Nat → Int32) (tm : Nat → Int32) (pk : Nat → Int32) (ts : Nat → Int32) (wo : Nat → Int32) (io : Nat → Int32) (sg : Nat) (sd : Nat → Int32) (sl : Nat → Int32) (lv : Nat → Int32) (mt : Nat → Int32) (du : Int32) : Met l yX6_isDuty wsX6_isDuty rX6_isDuty (va_Pc [.ref (ad 0), .int du] (cd_rp dC dI cI cQ cZ (wMd cI cZ ad th tr ru sh sn se dn kd ld tm pk ts wo io sg sd sl lv mt))) (vp_Si (fun r => r = sX6_isDuty dn du)) 0 0 (fun _ => False) := by
  have hiX6 : ∀ w ∈ u_ws RX6 TX6 19, w ∈ wsX6_isDuty := by decide +kernel
  generalize hex : sX6_isDuty dn du = ex
  unfold sX6_isDuty at hex
  refine cd_mRz [.ref (ad 0), .int du] (by decide) rfl (Nat.le_of_ble_eq_true rfl) ?_
  intro Q p e s m args below meth c ls hx hb hml hown hts hret ⟨hK, hP⟩ hl
  have hl : lv_has ls 2 [(0, .ref (ad 0)), (1, .int du)] := hl
  refine lv_iload_n hx hb dX6_isDuty_0 rfl (lv_at hl 1 rfl) ?_
  refine lv_iconst (v := 0) hx hb dX6_isDuty_1 (by decide) ?_
  refine lv_aload_n hx hb dX6_isDuty_2 rfl (lv_at hl 0 rfl) ?_
  refine va_get (D := (dC, dI)) (ci := 6) (v := .int (nI dn)) (C := RX6) (T := TX6) (N := 19) hx hb hts hiX6 hown hK.1 hP 0 rfl rfl 6 (by decide) (hts (.fieldLink RX6 72 "CellDaysModel" "duties" "I") (by decide +kernel)) (fun _ h9 => h9) rfl dX6_isDuty_3 ?_
  refine lv_iconst (v := 1) hx hb dX6_isDuty_6 (by decide) ?_
  refine lv_isub hx hb dX6_isDuty_7 ?_
  refine cd_rS (As := [.int du, .int 0, .int ((nI dn) - 1)]) (rest := []) ⟨hx, hb, hml, hown, hts⟩ (kX6_in l dC dI cI cQ cZ du 0 ((nI dn) - 1)) (va_cwS 3 hts gX6_isDuty_X6_in rfl rfl rfl (by decide +kernel) ⟨by decide, by decide⟩) hK cd_P0 rfl hl.1 rfl (Nat.le_of_ble_eq_true rfl) dX6_isDuty_8 ⟨by decide, by decide⟩ ?_
  subst hex
  exact hret _ _ (nb_in _ _ _) dX6_isDuty_11

theorem isDuty_in {dn : Nat} {du : Int32} (hdn : dn ≤ 8) (h : ¬ sX6_isDuty dn du = 0) : vp_in du 8 := by
  have a : 0 ≤ du.toInt := (in6_b h).1
  have b := (in6_b h).2
  refine vp_of a ?_
  rcases Nat.eq_zero_or_pos dn with rfl | hp
  · have : (nI 0 - 1).toInt = -1 := by decide
    omega
  · rw [cd_s1 hp, nI_toInt (by omega)] at b
    omega
theorem nar_b {x : Int32} (h : x = 0 ∨ x = 1) : vp_nar .boolean x = x := by rcases h with rfl | rfl <;> rfl
theorem nar_n {x : Int32} (h : x = 0 ∨ x = 1) : narrow .boolean (.int x) = .int x := by rcases h with rfl | rfl <;> rfl
theorem and01 {x : Int32} {c : Prop} [Decidable c] (h : x = 0 ∨ x = 1) : (x &&& (if c then (0 : Int32) else 1)) = 0 ∨ (x &&& (if c then (0 : Int32) else 1)) = 1 := by
  rcases h with rfl | rfl <;> split <;> decide
theorem and01' {x : Int32} {c : Prop} [Decidable c] (h : x = 0 ∨ x = 1) : (x &&& (if c then (1 : Int32) else 0)) = 0 ∨ (x &&& (if c then (1 : Int32) else 0)) = 1 := by
  rcases h with rfl | rfl <;> split <;> decide

def rX6_duty : Room := { frames := 1, cells := 0, slots := 0, locals := 22 }
def sX6_duty_B64 (kd : Nat → Int32) (ld : Nat → Int32) (tm : Nat → Int32) (pk : Nat → Int32) (ts : Nat → Int32) (wo : Nat → Int32) (io : Nat → Int32) (dn : Nat) (k1 : Int32) (k2 : Int32) (k3 : Int32) (k4 : Int32) (k5 : Int32) (k6 : Int32) : Int32 × (Int32) × (Nat → Int32) × (Nat → Int32) × (Nat → Int32) × (Nat → Int32) × (Nat → Int32) × (Nat → Int32) × (Nat → Int32) × (Nat) := (if (sX6_in k6 0 100) = 0 then ((-1), 0, kd, ld, tm, pk, ts, wo, io, dn) else (if (nI dn) = 8 then ((-3), 0, kd, ld, tm, pk, ts, wo, io, dn) else (nI dn, 0, upd kd dn k1, upd ld dn k2, upd tm dn k3, upd pk dn (if k1 ≤ 0 then (0 : Int32) else k4), upd ts dn (if k1 = 2 then k5 else (1 : Int32)), upd wo dn k6, upd io dn 1, dn + 1)))
def sX6_duty_B49 (kd : Nat → Int32) (ld : Nat → Int32) (tm : Nat → Int32) (pk : Nat → Int32) (ts : Nat → Int32) (wo : Nat → Int32) (io : Nat → Int32) (dn : Nat) (k1 : Int32) (k2 : Int32) (k3 : Int32) (k4 : Int32) (k5 : Int32) (k6 : Int32) : Int32 × (Int32) × (Nat → Int32) × (Nat → Int32) × (Nat → Int32) × (Nat → Int32) × (Nat → Int32) × (Nat → Int32) × (Nat → Int32) × (Nat) := (if k1 = 2 then (if (sX6_in k5 1 5) = 0 then ((-1), 0, kd, ld, tm, pk, ts, wo, io, dn) else sX6_duty_B64 kd ld tm pk ts wo io dn k1 k2 k3 k4 k5 k6) else sX6_duty_B64 kd ld tm pk ts wo io dn k1 k2 k3 k4 k5 k6)
def sX6_duty (dn : Nat) (kd : Nat → Int32) (ld : Nat → Int32) (tm : Nat → Int32) (pk : Nat → Int32) (ts : Nat → Int32) (wo : Nat → Int32) (io : Nat → Int32) (k1 : Int32) (k2 : Int32) (k3 : Int32) (k4 : Int32) (k5 : Int32) (k6 : Int32) : Int32 × (Int32) × (Nat → Int32) × (Nat → Int32) × (Nat → Int32) × (Nat → Int32) × (Nat → Int32) × (Nat → Int32) × (Nat → Int32) × (Nat) := (if (sX6_in k1 0 2) = 0 then ((-1), 0, kd, ld, tm, pk, ts, wo, io, dn) else (if (sX6_in k2 1 100) = 0 then ((-1), 0, kd, ld, tm, pk, ts, wo, io, dn) else (if (sX6_in k3 1 20) = 0 then ((-1), 0, kd, ld, tm, pk, ts, wo, io, dn) else (if k1 ≤ 0 then sX6_duty_B49 kd ld tm pk ts wo io dn k1 k2 k3 k4 k5 k6 else (if (sX6_in k4 0 100) = 0 then ((-1), 0, kd, ld, tm, pk, ts, wo, io, dn) else sX6_duty_B49 kd ld tm pk ts wo io dn k1 k2 k3 k4 k5 k6)))))
set_option maxHeartbeats 4000000 in
set_option maxRecDepth 100000 in
theorem kX6_duty (l : Launch) (dC : Nat → ClassId) (dI : Nat → Nat → Nat) (cI cQ cZ : ClassId) (ad : Nat → Nat) (th : Int32) (tr : Int64) (ru : Nat → Int32) (sh : Nat → Int32) (sn : Int32) (se : Nat → Int32) (dn : Nat) (kd : Nat → Int32) (ld : Nat → Int32) (tm : Nat → Int32) (pk : Nat → Int32) (ts : Nat → Int32) (wo : Nat → Int32) (io : Nat → Int32) (sg : Nat) (sd : Nat → Int32) (sl : Nat → Int32) (lv : Nat → Int32) (mt : Nat → Int32) (k1 : Int32) (k2 : Int32) (k3 : Int32) (k4 : Int32) (k5 : Int32) (k6 : Int32) (sz : Nat) (hI : mOk ru sh sn se dn sg sd) : Met l yX6_duty wsX6_duty rX6_duty (va_Pc [.ref (ad 0), .int k1, .int k2, .int k3, .int k4, .int k5, .int k6] (cd_pre dC dI cI cQ cZ (wMd cI cZ ad th tr ru sh sn se dn kd ld tm pk ts wo io sg sd sl lv mt) sz)) (va_Qi (fun r _ => r = (sX6_duty dn kd ld tm pk ts wo io k1 k2 k3 k4 k5 k6).1) (cd_post dC dI (wMd cI cZ ad th tr ru sh sn se dn kd ld tm pk ts wo io sg sd sl lv mt) (wMd cI cZ ad ((sX6_duty dn kd ld tm pk ts wo io k1 k2 k3 k4 k5 k6).2.1) tr ru sh sn se ((sX6_duty dn kd ld tm pk ts wo io k1 k2 k3 k4 k5 k6).2.2.2.2.2.2.2.2.2) ((sX6_duty dn kd ld tm pk ts wo io k1 k2 k3 k4 k5 k6).2.2.1) ((sX6_duty dn kd ld tm pk ts wo io k1 k2 k3 k4 k5 k6).2.2.2.1) ((sX6_duty dn kd ld tm pk ts wo io k1 k2 k3 k4 k5 k6).2.2.2.2.1) ((sX6_duty dn kd ld tm pk ts wo io k1 k2 k3 k4 k5 k6).2.2.2.2.2.1) ((sX6_duty dn kd ld tm pk ts wo io k1 k2 k3 k4 k5 k6).2.2.2.2.2.2.1) ((sX6_duty dn kd ld tm pk ts wo io k1 k2 k3 k4 k5 k6).2.2.2.2.2.2.2.1) ((sX6_duty dn kd ld tm pk ts wo io k1 k2 k3 k4 k5 k6).2.2.2.2.2.2.2.2.1) sg sd sl lv mt) sz) (va_A (wMd cI cZ ad th tr ru sh sn se dn kd ld tm pk ts wo io sg sd sl lv mt) sz)) 0 0 (va_A (wMd cI cZ ad th tr ru sh sn se dn kd ld tm pk ts wo io sg sd sl lv mt) sz) := by
  have hiX6 : ∀ w ∈ u_ws RX6 TX6 19, w ∈ wsX6_duty := by decide +kernel
  generalize hex : sX6_duty dn kd ld tm pk ts wo io k1 k2 k3 k4 k5 k6 = ex
  unfold sX6_duty at hex
  refine cd_mMi [.ref (ad 0), .int k1, .int k2, .int k3, .int k4, .int k5, .int k6] (by decide) rfl (Nat.le_of_ble_eq_true rfl) ?_
  intro Q A p e s m args below meth c ls hx hb hml hown hts hA hret hK hP hD hS hl
  have hl : lv_has ls 7 [(0, .ref (ad 0)), (1, .int k1), (2, .int k2), (3, .int k3), (4, .int k4), (5, .int k5), (6, .int k6)] := hl
  have hdn : dn ≤ 8 := hI.2.2.2.1
  have hsg : sg ≤ 12 := hI.2.2.2.2.1
  refine lv_aload_n hx hb dX6_duty_0 rfl (lv_at hl 0 rfl) ?_
  refine lv_iconst (v := 0) hx hb dX6_duty_1 (by decide) ?_
  refine va_put (D := (dC, dI)) (ci := 6) (v := .int 0) (ty := .int) (C := RX6) (T := TX6) (N := 19) hx hb hts hiX6 tyX6 tyX6_ok nmX6 hown hK.1 hP hD hS 0 rfl rfl 0 (by decide) (hts (.fieldLink RX6 57 "CellDaysModel" "thrown" "I") (by decide +kernel)) (fun _ h9 => h9) rfl (by decide +kernel) (rfl) (rfl) (Nat.le_of_ble_eq_true rfl) dX6_duty_2 (fun H locs hP hD hS => ?_)
  have hP : va_P (dC, dI) vwCl (wMd cI cZ ad 0 tr ru sh sn se dn kd ld tm pk ts wo io sg sd sl lv mt) H := hP
  have hD : va_D A (wMd cI cZ ad 0 tr ru sh sn se dn kd ld tm pk ts wo io sg sd sl lv mt) := hD
  refine lv_iload_n hx hb dX6_duty_5 rfl (lv_at hl 1 rfl) ?_
  refine lv_iconst (v := 0) hx hb dX6_duty_6 (by decide) ?_
  refine lv_iconst (v := 2) hx hb dX6_duty_7 (by decide) ?_
  refine cd_rS (As := [.int k1, .int 0, .int 2]) (rest := []) ⟨hx, hb, hml, hown, hts⟩ (kX6_in l dC dI cI cQ cZ k1 0 2) (va_cwS 3 hts gX6_duty_X6_in rfl rfl rfl (by decide +kernel) ⟨by decide, by decide⟩) hK cd_P0 rfl hl.1 rfl (Nat.le_of_ble_eq_true rfl) dX6_duty_8 ⟨by decide, by decide⟩ ?_
  refine lv_if_eq (tgt := 75) hx hb dX6_duty_11 (by decide) (fun c_1 => ?_) (fun c_1 => ?_)
  · rw [if_pos c_1] at hex
    refine lv_iconst (v := (-1)) hx hb dX6_duty_75 (by decide) ?_
    subst hex
    exact hret _ _ _ _ dX6_duty_76 hP hD hS
  · rw [if_neg c_1] at hex
    refine lv_iload_n hx hb dX6_duty_14 rfl (lv_at hl 2 rfl) ?_
    refine lv_iconst (v := 1) hx hb dX6_duty_15 (by decide) ?_
    refine lv_bipush (v := 100) hx hb dX6_duty_16 (by decide) ?_
    refine cd_rS (As := [.int k2, .int 1, .int 100]) (rest := []) ⟨hx, hb, hml, hown, hts⟩ (kX6_in l dC dI cI cQ cZ k2 1 100) (va_cwS 3 hts gX6_duty_X6_in rfl rfl rfl (by decide +kernel) ⟨by decide, by decide⟩) hK cd_P0 rfl hl.1 rfl (Nat.le_of_ble_eq_true rfl) dX6_duty_18 ⟨by decide, by decide⟩ ?_
    refine lv_if_eq (tgt := 75) hx hb dX6_duty_21 (by decide) (fun c_2 => ?_) (fun c_2 => ?_)
    · rw [if_pos c_2] at hex
      refine lv_iconst (v := (-1)) hx hb dX6_duty_75 (by decide) ?_
      subst hex
      exact hret _ _ _ _ dX6_duty_76 hP hD hS
    · rw [if_neg c_2] at hex
      refine lv_iload_n hx hb dX6_duty_24 rfl (lv_at hl 3 rfl) ?_
      refine lv_iconst (v := 1) hx hb dX6_duty_25 (by decide) ?_
      refine lv_bipush (v := 20) hx hb dX6_duty_26 (by decide) ?_
      refine cd_rS (As := [.int k3, .int 1, .int 20]) (rest := []) ⟨hx, hb, hml, hown, hts⟩ (kX6_in l dC dI cI cQ cZ k3 1 20) (va_cwS 3 hts gX6_duty_X6_in rfl rfl rfl (by decide +kernel) ⟨by decide, by decide⟩) hK cd_P0 rfl hl.1 rfl (Nat.le_of_ble_eq_true rfl) dX6_duty_28 ⟨by decide, by decide⟩ ?_
      refine lv_if_eq (tgt := 75) hx hb dX6_duty_31 (by decide) (fun c_3 => ?_) (fun c_3 => ?_)
      · rw [if_pos c_3] at hex
        refine lv_iconst (v := (-1)) hx hb dX6_duty_75 (by decide) ?_
        subst hex
        exact hret _ _ _ _ dX6_duty_76 hP hD hS
      · rw [if_neg c_3] at hex
        have J49 : sX6_duty_B49 kd ld tm pk ts wo io dn k1 k2 k3 k4 k5 k6 = ex → W p l e rX6_duty s m args below meth c H locs 0 0 Q (F0 m 49 ls []) := by
          intro hex
          unfold sX6_duty_B49 at hex
          have J64 : sX6_duty_B64 kd ld tm pk ts wo io dn k1 k2 k3 k4 k5 k6 = ex → W p l e rX6_duty s m args below meth c H locs 0 0 Q (F0 m 64 ls []) := by
            intro hex
            unfold sX6_duty_B64 at hex
            refine lv_iload hx hb dX6_duty_64 (lv_at hl 6 rfl) ?_
            refine lv_iconst (v := 0) hx hb dX6_duty_66 (by decide) ?_
            refine lv_bipush (v := 100) hx hb dX6_duty_67 (by decide) ?_
            refine cd_rS (As := [.int k6, .int 0, .int 100]) (rest := []) ⟨hx, hb, hml, hown, hts⟩ (kX6_in l dC dI cI cQ cZ k6 0 100) (va_cwS 3 hts gX6_duty_X6_in rfl rfl rfl (by decide +kernel) ⟨by decide, by decide⟩) hK cd_P0 rfl hl.1 rfl (Nat.le_of_ble_eq_true rfl) dX6_duty_69 ⟨by decide, by decide⟩ ?_
            refine lv_if_ne (tgt := 77) hx hb dX6_duty_72 (by decide) (fun c_4 => ?_) (fun c_4 => ?_)
            · rw [if_neg c_4] at hex
              refine lv_aload_n hx hb dX6_duty_77 rfl (lv_at hl 0 rfl) ?_
              refine va_get (D := (dC, dI)) (ci := 6) (v := .int (nI dn)) (C := RX6) (T := TX6) (N := 19) hx hb hts hiX6 hown hK.1 hP 0 rfl rfl 6 (by decide) (hts (.fieldLink RX6 72 "CellDaysModel" "duties" "I") (by decide +kernel)) (fun _ h9 => h9) rfl dX6_duty_78 ?_
              refine lv_bipush (v := 8) hx hb dX6_duty_81 (by decide) ?_
              refine lv_icmp_ne (tgt := 89) hx hb dX6_duty_83 (by decide) (fun c_5 => ?_) (fun c_5 => ?_)
              · rw [if_neg c_5] at hex
                try have n_5 : ¬ dn = 8 := fun h9 => c_5 ((nI_eq (a := dn) (b := 8) (by omega) (by omega)).mpr h9)
                refine lv_aload_n hx hb dX6_duty_89 rfl (lv_at hl 0 rfl) ?_
                refine va_get (D := (dC, dI)) (ci := 6) (v := .ref (ad 4)) (C := RX6) (T := TX6) (N := 19) hx hb hts hiX6 hown hK.1 hP 0 rfl rfl 7 (by decide) (hts (.fieldLink RX6 23 "CellDaysModel" "kind" "[I") (by decide +kernel)) (fun _ h9 => h9) rfl dX6_duty_90 ?_
                refine lv_aload_n hx hb dX6_duty_93 rfl (lv_at hl 0 rfl) ?_
                refine va_get (D := (dC, dI)) (ci := 6) (v := .int (nI dn)) (C := RX6) (T := TX6) (N := 19) hx hb hts hiX6 hown hK.1 hP 0 rfl rfl 6 (by decide) (hts (.fieldLink RX6 72 "CellDaysModel" "duties" "I") (by decide +kernel)) (fun _ h9 => h9) rfl dX6_duty_94 ?_
                refine lv_iload_n hx hb dX6_duty_97 rfl (lv_at hl 1 rfl) ?_
                refine va_iast hx hb hK.1 hP hD hS 4 0 rfl rfl (vp_in_nI (n := dn) (N := 8) (by omega) (by omega)) dX6_duty_98 (fun H locs hP hD hS => ?_)
                rw [nI_clamp (show dn < 2 ^ 31 by omega)] at hP hD
                have hP : va_P (dC, dI) vwCl (wMd cI cZ ad 0 tr ru sh sn se dn (upd kd dn k1) ld tm pk ts wo io sg sd sl lv mt) H := hP
                have hD : va_D A (wMd cI cZ ad 0 tr ru sh sn se dn (upd kd dn k1) ld tm pk ts wo io sg sd sl lv mt) := hD
                refine lv_aload_n hx hb dX6_duty_99 rfl (lv_at hl 0 rfl) ?_
                refine va_get (D := (dC, dI)) (ci := 6) (v := .ref (ad 5)) (C := RX6) (T := TX6) (N := 19) hx hb hts hiX6 hown hK.1 hP 0 rfl rfl 8 (by decide) (hts (.fieldLink RX6 26 "CellDaysModel" "load" "[I") (by decide +kernel)) (fun _ h9 => h9) rfl dX6_duty_100 ?_
                refine lv_aload_n hx hb dX6_duty_103 rfl (lv_at hl 0 rfl) ?_
                refine va_get (D := (dC, dI)) (ci := 6) (v := .int (nI dn)) (C := RX6) (T := TX6) (N := 19) hx hb hts hiX6 hown hK.1 hP 0 rfl rfl 6 (by decide) (hts (.fieldLink RX6 72 "CellDaysModel" "duties" "I") (by decide +kernel)) (fun _ h9 => h9) rfl dX6_duty_104 ?_
                refine lv_iload_n hx hb dX6_duty_107 rfl (lv_at hl 2 rfl) ?_
                refine va_iast hx hb hK.1 hP hD hS 5 0 rfl rfl (vp_in_nI (n := dn) (N := 8) (by omega) (by omega)) dX6_duty_108 (fun H locs hP hD hS => ?_)
                rw [nI_clamp (show dn < 2 ^ 31 by omega)] at hP hD
                have hP : va_P (dC, dI) vwCl (wMd cI cZ ad 0 tr ru sh sn se dn (upd kd dn k1) (upd ld dn k2) tm pk ts wo io sg sd sl lv mt) H := hP
                have hD : va_D A (wMd cI cZ ad 0 tr ru sh sn se dn (upd kd dn k1) (upd ld dn k2) tm pk ts wo io sg sd sl lv mt) := hD
                refine lv_aload_n hx hb dX6_duty_109 rfl (lv_at hl 0 rfl) ?_
                refine va_get (D := (dC, dI)) (ci := 6) (v := .ref (ad 6)) (C := RX6) (T := TX6) (N := 19) hx hb hts hiX6 hown hK.1 hP 0 rfl rfl 9 (by decide) (hts (.fieldLink RX6 29 "CellDaysModel" "times" "[I") (by decide +kernel)) (fun _ h9 => h9) rfl dX6_duty_110 ?_
                refine lv_aload_n hx hb dX6_duty_113 rfl (lv_at hl 0 rfl) ?_
                refine va_get (D := (dC, dI)) (ci := 6) (v := .int (nI dn)) (C := RX6) (T := TX6) (N := 19) hx hb hts hiX6 hown hK.1 hP 0 rfl rfl 6 (by decide) (hts (.fieldLink RX6 72 "CellDaysModel" "duties" "I") (by decide +kernel)) (fun _ h9 => h9) rfl dX6_duty_114 ?_
                refine lv_iload_n hx hb dX6_duty_117 rfl (lv_at hl 3 rfl) ?_
                refine va_iast hx hb hK.1 hP hD hS 6 0 rfl rfl (vp_in_nI (n := dn) (N := 8) (by omega) (by omega)) dX6_duty_118 (fun H locs hP hD hS => ?_)
                rw [nI_clamp (show dn < 2 ^ 31 by omega)] at hP hD
                have hP : va_P (dC, dI) vwCl (wMd cI cZ ad 0 tr ru sh sn se dn (upd kd dn k1) (upd ld dn k2) (upd tm dn k3) pk ts wo io sg sd sl lv mt) H := hP
                have hD : va_D A (wMd cI cZ ad 0 tr ru sh sn se dn (upd kd dn k1) (upd ld dn k2) (upd tm dn k3) pk ts wo io sg sd sl lv mt) := hD
                refine lv_aload_n hx hb dX6_duty_119 rfl (lv_at hl 0 rfl) ?_
                refine va_get (D := (dC, dI)) (ci := 6) (v := .ref (ad 7)) (C := RX6) (T := TX6) (N := 19) hx hb hts hiX6 hown hK.1 hP 0 rfl rfl 10 (by decide) (hts (.fieldLink RX6 32 "CellDaysModel" "peak" "[I") (by decide +kernel)) (fun _ h9 => h9) rfl dX6_duty_120 ?_
                refine lv_aload_n hx hb dX6_duty_123 rfl (lv_at hl 0 rfl) ?_
                refine va_get (D := (dC, dI)) (ci := 6) (v := .int (nI dn)) (C := RX6) (T := TX6) (N := 19) hx hb hts hiX6 hown hK.1 hP 0 rfl rfl 6 (by decide) (hts (.fieldLink RX6 72 "CellDaysModel" "duties" "I") (by decide +kernel)) (fun _ h9 => h9) rfl dX6_duty_124 ?_
                refine lv_iload_n hx hb dX6_duty_127 rfl (lv_at hl 1 rfl) ?_
                have J_6 : W p l e rX6_duty s m args below meth c H locs 0 0 Q (F0 m 137 ls [.int (if k1 ≤ 0 then (0 : Int32) else k4), .int (nI dn), .ref (ad 7)]) := by
                  refine va_iast hx hb hK.1 hP hD hS 7 0 rfl rfl (vp_in_nI (n := dn) (N := 8) (by omega) (by omega)) dX6_duty_137 (fun H locs hP hD hS => ?_)
                  rw [nI_clamp (show dn < 2 ^ 31 by omega)] at hP hD
                  have hP : va_P (dC, dI) vwCl (wMd cI cZ ad 0 tr ru sh sn se dn (upd kd dn k1) (upd ld dn k2) (upd tm dn k3) (upd pk dn (if k1 ≤ 0 then (0 : Int32) else k4)) ts wo io sg sd sl lv mt) H := hP
                  have hD : va_D A (wMd cI cZ ad 0 tr ru sh sn se dn (upd kd dn k1) (upd ld dn k2) (upd tm dn k3) (upd pk dn (if k1 ≤ 0 then (0 : Int32) else k4)) ts wo io sg sd sl lv mt) := hD
                  refine lv_aload_n hx hb dX6_duty_138 rfl (lv_at hl 0 rfl) ?_
                  refine va_get (D := (dC, dI)) (ci := 6) (v := .ref (ad 8)) (C := RX6) (T := TX6) (N := 19) hx hb hts hiX6 hown hK.1 hP 0 rfl rfl 11 (by decide) (hts (.fieldLink RX6 35 "CellDaysModel" "tries" "[I") (by decide +kernel)) (fun _ h9 => h9) rfl dX6_duty_139 ?_
                  refine lv_aload_n hx hb dX6_duty_142 rfl (lv_at hl 0 rfl) ?_
                  refine va_get (D := (dC, dI)) (ci := 6) (v := .int (nI dn)) (C := RX6) (T := TX6) (N := 19) hx hb hts hiX6 hown hK.1 hP 0 rfl rfl 6 (by decide) (hts (.fieldLink RX6 72 "CellDaysModel" "duties" "I") (by decide +kernel)) (fun _ h9 => h9) rfl dX6_duty_143 ?_
                  refine lv_iload_n hx hb dX6_duty_146 rfl (lv_at hl 1 rfl) ?_
                  refine lv_iconst (v := 2) hx hb dX6_duty_147 (by decide) ?_
                  have J_7 : W p l e rX6_duty s m args below meth c H locs 0 0 Q (F0 m 157 ls [.int (if k1 = 2 then k5 else (1 : Int32)), .int (nI dn), .ref (ad 8)]) := by
                    refine va_iast hx hb hK.1 hP hD hS 8 0 rfl rfl (vp_in_nI (n := dn) (N := 8) (by omega) (by omega)) dX6_duty_157 (fun H locs hP hD hS => ?_)
                    rw [nI_clamp (show dn < 2 ^ 31 by omega)] at hP hD
                    have hP : va_P (dC, dI) vwCl (wMd cI cZ ad 0 tr ru sh sn se dn (upd kd dn k1) (upd ld dn k2) (upd tm dn k3) (upd pk dn (if k1 ≤ 0 then (0 : Int32) else k4)) (upd ts dn (if k1 = 2 then k5 else (1 : Int32))) wo io sg sd sl lv mt) H := hP
                    have hD : va_D A (wMd cI cZ ad 0 tr ru sh sn se dn (upd kd dn k1) (upd ld dn k2) (upd tm dn k3) (upd pk dn (if k1 ≤ 0 then (0 : Int32) else k4)) (upd ts dn (if k1 = 2 then k5 else (1 : Int32))) wo io sg sd sl lv mt) := hD
                    refine lv_aload_n hx hb dX6_duty_158 rfl (lv_at hl 0 rfl) ?_
                    refine va_get (D := (dC, dI)) (ci := 6) (v := .ref (ad 9)) (C := RX6) (T := TX6) (N := 19) hx hb hts hiX6 hown hK.1 hP 0 rfl rfl 12 (by decide) (hts (.fieldLink RX6 38 "CellDaysModel" "worth" "[I") (by decide +kernel)) (fun _ h9 => h9) rfl dX6_duty_159 ?_
                    refine lv_aload_n hx hb dX6_duty_162 rfl (lv_at hl 0 rfl) ?_
                    refine va_get (D := (dC, dI)) (ci := 6) (v := .int (nI dn)) (C := RX6) (T := TX6) (N := 19) hx hb hts hiX6 hown hK.1 hP 0 rfl rfl 6 (by decide) (hts (.fieldLink RX6 72 "CellDaysModel" "duties" "I") (by decide +kernel)) (fun _ h9 => h9) rfl dX6_duty_163 ?_
                    refine lv_iload hx hb dX6_duty_166 (lv_at hl 6 rfl) ?_
                    refine va_iast hx hb hK.1 hP hD hS 9 0 rfl rfl (vp_in_nI (n := dn) (N := 8) (by omega) (by omega)) dX6_duty_168 (fun H locs hP hD hS => ?_)
                    rw [nI_clamp (show dn < 2 ^ 31 by omega)] at hP hD
                    have hP : va_P (dC, dI) vwCl (wMd cI cZ ad 0 tr ru sh sn se dn (upd kd dn k1) (upd ld dn k2) (upd tm dn k3) (upd pk dn (if k1 ≤ 0 then (0 : Int32) else k4)) (upd ts dn (if k1 = 2 then k5 else (1 : Int32))) (upd wo dn k6) io sg sd sl lv mt) H := hP
                    have hD : va_D A (wMd cI cZ ad 0 tr ru sh sn se dn (upd kd dn k1) (upd ld dn k2) (upd tm dn k3) (upd pk dn (if k1 ≤ 0 then (0 : Int32) else k4)) (upd ts dn (if k1 = 2 then k5 else (1 : Int32))) (upd wo dn k6) io sg sd sl lv mt) := hD
                    refine lv_aload_n hx hb dX6_duty_169 rfl (lv_at hl 0 rfl) ?_
                    refine va_get (D := (dC, dI)) (ci := 6) (v := .ref (ad 10)) (C := RX6) (T := TX6) (N := 19) hx hb hts hiX6 hown hK.1 hP 0 rfl rfl 13 (by decide) (hts (.fieldLink RX6 41 "CellDaysModel" "isOn" "[Z") (by decide +kernel)) (fun _ h9 => h9) rfl dX6_duty_170 ?_
                    refine lv_aload_n hx hb dX6_duty_173 rfl (lv_at hl 0 rfl) ?_
                    refine va_get (D := (dC, dI)) (ci := 6) (v := .int (nI dn)) (C := RX6) (T := TX6) (N := 19) hx hb hts hiX6 hown hK.1 hP 0 rfl rfl 6 (by decide) (hts (.fieldLink RX6 72 "CellDaysModel" "duties" "I") (by decide +kernel)) (fun _ h9 => h9) rfl dX6_duty_174 ?_
                    refine lv_iconst (v := 1) hx hb dX6_duty_177 (by decide) ?_
                    refine va_zast hx hb hK.1 hP hD hS 10 2 rfl rfl (vp_in_nI (n := dn) (N := 8) (by omega) (by omega)) dX6_duty_178 (fun H locs hP hD hS => ?_)
                    rw [nI_clamp (show dn < 2 ^ 31 by omega)] at hP hD
                    rw [show vp_nar .boolean 1 = 1 from rfl] at hP hD
                    have hP : va_P (dC, dI) vwCl (wMd cI cZ ad 0 tr ru sh sn se dn (upd kd dn k1) (upd ld dn k2) (upd tm dn k3) (upd pk dn (if k1 ≤ 0 then (0 : Int32) else k4)) (upd ts dn (if k1 = 2 then k5 else (1 : Int32))) (upd wo dn k6) (upd io dn 1) sg sd sl lv mt) H := hP
                    have hD : va_D A (wMd cI cZ ad 0 tr ru sh sn se dn (upd kd dn k1) (upd ld dn k2) (upd tm dn k3) (upd pk dn (if k1 ≤ 0 then (0 : Int32) else k4)) (upd ts dn (if k1 = 2 then k5 else (1 : Int32))) (upd wo dn k6) (upd io dn 1) sg sd sl lv mt) := hD
                    refine lv_aload_n hx hb dX6_duty_179 rfl (lv_at hl 0 rfl) ?_
                    refine lv_dup hx hb dX6_duty_180 rfl ?_
                    refine va_get (D := (dC, dI)) (ci := 6) (v := .int (nI dn)) (C := RX6) (T := TX6) (N := 19) hx hb hts hiX6 hown hK.1 hP 0 rfl rfl 6 (by decide) (hts (.fieldLink RX6 72 "CellDaysModel" "duties" "I") (by decide +kernel)) (fun _ h9 => h9) rfl dX6_duty_181 ?_
                    refine lv_iconst (v := 1) hx hb dX6_duty_184 (by decide) ?_
                    refine lv_iadd hx hb dX6_duty_185 ?_
                    refine W.eq (g2 := F0 m 186 ls [.int (nI (dn + 1)), .ref (ad 0)]) (by rw [nI_1]) ?_
                    refine va_put (D := (dC, dI)) (ci := 6) (v := .int (nI (dn + 1))) (ty := .int) (C := RX6) (T := TX6) (N := 19) hx hb hts hiX6 tyX6 tyX6_ok nmX6 hown hK.1 hP hD hS 0 rfl rfl 6 (by decide) (hts (.fieldLink RX6 72 "CellDaysModel" "duties" "I") (by decide +kernel)) (fun _ h9 => h9) rfl (by decide +kernel) (rfl) (rfl) (Nat.le_of_ble_eq_true rfl) dX6_duty_186 (fun H locs hP hD hS => ?_)
                    have hP : va_P (dC, dI) vwCl (wMd cI cZ ad 0 tr ru sh sn se (dn + 1) (upd kd dn k1) (upd ld dn k2) (upd tm dn k3) (upd pk dn (if k1 ≤ 0 then (0 : Int32) else k4)) (upd ts dn (if k1 = 2 then k5 else (1 : Int32))) (upd wo dn k6) (upd io dn 1) sg sd sl lv mt) H := hP
                    have hD : va_D A (wMd cI cZ ad 0 tr ru sh sn se (dn + 1) (upd kd dn k1) (upd ld dn k2) (upd tm dn k3) (upd pk dn (if k1 ≤ 0 then (0 : Int32) else k4)) (upd ts dn (if k1 = 2 then k5 else (1 : Int32))) (upd wo dn k6) (upd io dn 1) sg sd sl lv mt) := hD
                    refine lv_aload_n hx hb dX6_duty_189 rfl (lv_at hl 0 rfl) ?_
                    refine va_get (D := (dC, dI)) (ci := 6) (v := .int (nI (dn + 1))) (C := RX6) (T := TX6) (N := 19) hx hb hts hiX6 hown hK.1 hP 0 rfl rfl 6 (by decide) (hts (.fieldLink RX6 72 "CellDaysModel" "duties" "I") (by decide +kernel)) (fun _ h9 => h9) rfl dX6_duty_190 ?_
                    refine lv_iconst (v := 1) hx hb dX6_duty_193 (by decide) ?_
                    refine lv_isub hx hb dX6_duty_194 ?_
                    refine W.eq (g2 := F0 m 195 ls [.int (nI dn)]) (by rw [nI_pred]) ?_
                    subst hex
                    exact hret _ _ _ _ dX6_duty_195 hP hD hS
                  refine lv_icmp_ne (tgt := 156) hx hb dX6_duty_148 (by decide) (fun c_8 => ?_) (fun c_8 => ?_)
                  · skip
                    refine lv_iconst (v := 1) hx hb dX6_duty_156 (by decide) ?_
                    rw [if_neg c_8] at J_7
                    exact J_7
                  · skip
                    refine lv_iload hx hb dX6_duty_151 (lv_at hl 5 rfl) ?_
                    refine lv_goto (tgt := 157) hx hb dX6_duty_153 (by decide) ?_
                    rw [if_pos c_8] at J_7
                    exact J_7
                refine lv_if_le (tgt := 136) hx hb dX6_duty_128 (by decide) (fun c_9 => ?_) (fun c_9 => ?_)
                · skip
                  refine lv_iconst (v := 0) hx hb dX6_duty_136 (by decide) ?_
                  rw [if_pos c_9] at J_6
                  exact J_6
                · skip
                  refine lv_iload hx hb dX6_duty_131 (lv_at hl 4 rfl) ?_
                  refine lv_goto (tgt := 137) hx hb dX6_duty_133 (by decide) ?_
                  rw [if_neg c_9] at J_6
                  exact J_6
              · rw [if_pos c_5] at hex
                try have n_5 : dn = 8 := (nI_eq (a := dn) (b := 8) (by omega) (by omega)).mp c_5
                refine lv_bipush (v := (-3)) hx hb dX6_duty_86 (by decide) ?_
                subst hex
                exact hret _ _ _ _ dX6_duty_88 hP hD hS
            · rw [if_pos c_4] at hex
              refine lv_iconst (v := (-1)) hx hb dX6_duty_75 (by decide) ?_
              subst hex
              exact hret _ _ _ _ dX6_duty_76 hP hD hS
          refine lv_iload_n hx hb dX6_duty_49 rfl (lv_at hl 1 rfl) ?_
          refine lv_iconst (v := 2) hx hb dX6_duty_50 (by decide) ?_
          refine lv_icmp_ne (tgt := 64) hx hb dX6_duty_51 (by decide) (fun c_10 => ?_) (fun c_10 => ?_)
          · rw [if_neg c_10] at hex
            exact J64 hex
          · rw [if_pos c_10] at hex
            refine lv_iload hx hb dX6_duty_54 (lv_at hl 5 rfl) ?_
            refine lv_iconst (v := 1) hx hb dX6_duty_56 (by decide) ?_
            refine lv_iconst (v := 5) hx hb dX6_duty_57 (by decide) ?_
            refine cd_rS (As := [.int k5, .int 1, .int 5]) (rest := []) ⟨hx, hb, hml, hown, hts⟩ (kX6_in l dC dI cI cQ cZ k5 1 5) (va_cwS 3 hts gX6_duty_X6_in rfl rfl rfl (by decide +kernel) ⟨by decide, by decide⟩) hK cd_P0 rfl hl.1 rfl (Nat.le_of_ble_eq_true rfl) dX6_duty_58 ⟨by decide, by decide⟩ ?_
            refine lv_if_eq (tgt := 75) hx hb dX6_duty_61 (by decide) (fun c_11 => ?_) (fun c_11 => ?_)
            · rw [if_pos c_11] at hex
              refine lv_iconst (v := (-1)) hx hb dX6_duty_75 (by decide) ?_
              subst hex
              exact hret _ _ _ _ dX6_duty_76 hP hD hS
            · rw [if_neg c_11] at hex
              exact J64 hex
        refine lv_iload_n hx hb dX6_duty_34 rfl (lv_at hl 1 rfl) ?_
        refine lv_if_le (tgt := 49) hx hb dX6_duty_35 (by decide) (fun c_12 => ?_) (fun c_12 => ?_)
        · rw [if_pos c_12] at hex
          exact J49 hex
        · rw [if_neg c_12] at hex
          refine lv_iload hx hb dX6_duty_38 (lv_at hl 4 rfl) ?_
          refine lv_iconst (v := 0) hx hb dX6_duty_40 (by decide) ?_
          refine lv_bipush (v := 100) hx hb dX6_duty_41 (by decide) ?_
          refine cd_rS (As := [.int k4, .int 0, .int 100]) (rest := []) ⟨hx, hb, hml, hown, hts⟩ (kX6_in l dC dI cI cQ cZ k4 0 100) (va_cwS 3 hts gX6_duty_X6_in rfl rfl rfl (by decide +kernel) ⟨by decide, by decide⟩) hK cd_P0 rfl hl.1 rfl (Nat.le_of_ble_eq_true rfl) dX6_duty_43 ⟨by decide, by decide⟩ ?_
          refine lv_if_eq (tgt := 75) hx hb dX6_duty_46 (by decide) (fun c_13 => ?_) (fun c_13 => ?_)
          · rw [if_pos c_13] at hex
            refine lv_iconst (v := (-1)) hx hb dX6_duty_75 (by decide) ?_
            subst hex
            exact hret _ _ _ _ dX6_duty_76 hP hD hS
          · rw [if_neg c_13] at hex
            exact J49 hex

def rX6_on : Room := { frames := 2, cells := 0, slots := 0, locals := 43 }
def sX6_on (dn : Nat) (io : Nat → Int32) (du : Int32) (iz : Int32) : Int32 × (Int32) × (Nat → Int32) := (if (sX6_isDuty dn du) = 0 then ((-1), 0, io) else (if (io du.toNatClampNeg) = 0 then (0 : Int32) else (1 : Int32), 0, upd io du.toNatClampNeg iz))
set_option maxHeartbeats 4000000 in
set_option maxRecDepth 100000 in
theorem kX6_on (l : Launch) (dC : Nat → ClassId) (dI : Nat → Nat → Nat) (cI cQ cZ : ClassId) (ad : Nat → Nat) (th : Int32) (tr : Int64) (ru : Nat → Int32) (sh : Nat → Int32) (sn : Int32) (se : Nat → Int32) (dn : Nat) (kd : Nat → Int32) (ld : Nat → Int32) (tm : Nat → Int32) (pk : Nat → Int32) (ts : Nat → Int32) (wo : Nat → Int32) (io : Nat → Int32) (sg : Nat) (sd : Nat → Int32) (sl : Nat → Int32) (lv : Nat → Int32) (mt : Nat → Int32) (du : Int32) (iz : Int32) (sz : Nat) (hI : mOk ru sh sn se dn sg sd) (hiz : iz = 0 ∨ iz = 1) : Met l yX6_on wsX6_on rX6_on (va_Pc [.ref (ad 0), .int du, .int iz] (cd_pre dC dI cI cQ cZ (wMd cI cZ ad th tr ru sh sn se dn kd ld tm pk ts wo io sg sd sl lv mt) sz)) (va_Qi (fun r _ => r = (sX6_on dn io du iz).1) (cd_post dC dI (wMd cI cZ ad th tr ru sh sn se dn kd ld tm pk ts wo io sg sd sl lv mt) (wMd cI cZ ad ((sX6_on dn io du iz).2.1) tr ru sh sn se dn kd ld tm pk ts wo ((sX6_on dn io du iz).2.2) sg sd sl lv mt) sz) (va_A (wMd cI cZ ad th tr ru sh sn se dn kd ld tm pk ts wo io sg sd sl lv mt) sz)) 0 0 (va_A (wMd cI cZ ad th tr ru sh sn se dn kd ld tm pk ts wo io sg sd sl lv mt) sz) := by
  have hiX6 : ∀ w ∈ u_ws RX6 TX6 19, w ∈ wsX6_on := by decide +kernel
  generalize hex : sX6_on dn io du iz = ex
  unfold sX6_on at hex
  refine cd_mMi [.ref (ad 0), .int du, .int iz] (by decide) rfl (Nat.le_of_ble_eq_true rfl) ?_
  intro Q A p e s m args below meth c ls hx hb hml hown hts hA hret hK hP hD hS hl
  have hl : lv_has ls 4 [(0, .ref (ad 0)), (1, .int du), (2, .int iz)] := hl
  have hdn : dn ≤ 8 := hI.2.2.2.1
  have hsg : sg ≤ 12 := hI.2.2.2.2.1
  refine lv_aload_n hx hb dX6_on_0 rfl (lv_at hl 0 rfl) ?_
  refine lv_iconst (v := 0) hx hb dX6_on_1 (by decide) ?_
  refine va_put (D := (dC, dI)) (ci := 6) (v := .int 0) (ty := .int) (C := RX6) (T := TX6) (N := 19) hx hb hts hiX6 tyX6 tyX6_ok nmX6 hown hK.1 hP hD hS 0 rfl rfl 0 (by decide) (hts (.fieldLink RX6 57 "CellDaysModel" "thrown" "I") (by decide +kernel)) (fun _ h9 => h9) rfl (by decide +kernel) (rfl) (rfl) (Nat.le_of_ble_eq_true rfl) dX6_on_2 (fun H locs hP hD hS => ?_)
  have hP : va_P (dC, dI) vwCl (wMd cI cZ ad 0 tr ru sh sn se dn kd ld tm pk ts wo io sg sd sl lv mt) H := hP
  have hD : va_D A (wMd cI cZ ad 0 tr ru sh sn se dn kd ld tm pk ts wo io sg sd sl lv mt) := hD
  refine lv_aload_n hx hb dX6_on_5 rfl (lv_at hl 0 rfl) ?_
  refine lv_iload_n hx hb dX6_on_6 rfl (lv_at hl 1 rfl) ?_
  refine cd_rV (As := [.int du]) (b := (ad 0)) (ci := 6) (q := (RX6, TX6, 19)) (rest := []) ⟨hx, hb, hml, hown, hts⟩ (kX6_isDuty l dC dI cI cQ cZ ad 0 tr ru sh sn se dn kd ld tm pk ts wo io sg sd sl lv mt du) (cwV 1 hts gX6_on_X6_isDuty rfl rfl rfl (by decide +kernel) ⟨by decide, by decide⟩) hK hP rfl rfl rfl hl.1 rfl (Nat.le_of_ble_eq_true rfl) dX6_on_7 ⟨by decide, by decide⟩ ?_
  refine lv_if_ne (tgt := 15) hx hb dX6_on_10 (by decide) (fun c_1 => ?_) (fun c_1 => ?_)
  · rw [if_neg c_1] at hex
    refine lv_aload_n hx hb dX6_on_15 rfl (lv_at hl 0 rfl) ?_
    refine va_get (D := (dC, dI)) (ci := 6) (v := .ref (ad 10)) (C := RX6) (T := TX6) (N := 19) hx hb hts hiX6 hown hK.1 hP 0 rfl rfl 13 (by decide) (hts (.fieldLink RX6 41 "CellDaysModel" "isOn" "[Z") (by decide +kernel)) (fun _ h9 => h9) rfl dX6_on_16 ?_
    refine lv_iload_n hx hb dX6_on_19 rfl (lv_at hl 1 rfl) ?_
    refine va_zald hx hb hK.1 hP 10 2 rfl rfl ((isDuty_in hdn c_1)) dX6_on_20 ?_
    have J_2 : W p l e rX6_on s m args below meth c H locs 0 0 Q (F0 m 29 ls [.int (if (io du.toNatClampNeg) = 0 then (0 : Int32) else (1 : Int32))]) := by
      refine lv_istore_n (lv' := [(3, .int (if (io du.toNatClampNeg) = 0 then (0 : Int32) else (1 : Int32))), (0, .ref (ad 0)), (1, .int du), (2, .int iz)]) hx hb dX6_on_29 rfl hl (by decide) rfl (fun ls hl => ?_)
      refine lv_aload_n hx hb dX6_on_30 rfl (lv_at hl 1 rfl) ?_
      refine va_get (D := (dC, dI)) (ci := 6) (v := .ref (ad 10)) (C := RX6) (T := TX6) (N := 19) hx hb hts hiX6 hown hK.1 hP 0 rfl rfl 13 (by decide) (hts (.fieldLink RX6 41 "CellDaysModel" "isOn" "[Z") (by decide +kernel)) (fun _ h9 => h9) rfl dX6_on_31 ?_
      refine lv_iload_n hx hb dX6_on_34 rfl (lv_at hl 2 rfl) ?_
      refine lv_iload_n hx hb dX6_on_35 rfl (lv_at hl 3 rfl) ?_
      refine va_zast hx hb hK.1 hP hD hS 10 2 rfl rfl ((isDuty_in hdn c_1)) dX6_on_36 (fun H locs hP hD hS => ?_)
      rw [nar_b hiz] at hP hD
      have hP : va_P (dC, dI) vwCl (wMd cI cZ ad 0 tr ru sh sn se dn kd ld tm pk ts wo (upd io du.toNatClampNeg iz) sg sd sl lv mt) H := hP
      have hD : va_D A (wMd cI cZ ad 0 tr ru sh sn se dn kd ld tm pk ts wo (upd io du.toNatClampNeg iz) sg sd sl lv mt) := hD
      refine lv_iload_n hx hb dX6_on_37 rfl (lv_at hl 0 rfl) ?_
      subst hex
      exact hret _ _ _ _ dX6_on_38 hP hD hS
    refine lv_if_eq (tgt := 28) hx hb dX6_on_21 (by decide) (fun c_3 => ?_) (fun c_3 => ?_)
    · skip
      refine lv_iconst (v := 0) hx hb dX6_on_28 (by decide) ?_
      rw [if_pos c_3] at J_2
      exact J_2
    · skip
      refine lv_iconst (v := 1) hx hb dX6_on_24 (by decide) ?_
      refine lv_goto (tgt := 29) hx hb dX6_on_25 (by decide) ?_
      rw [if_neg c_3] at J_2
      exact J_2
  · rw [if_pos c_1] at hex
    refine lv_iconst (v := (-1)) hx hb dX6_on_13 (by decide) ?_
    subst hex
    exact hret _ _ _ _ dX6_on_14 hP hD hS

def rX6_drop : Room := { frames := 0, cells := 0, slots := 0, locals := 0 }
def sX6_drop (dn : Nat) : Int32 × (Int32) × (Nat) := (if (nI dn) = 0 then ((-2), 0, dn) else (nI (dn - 1), 0, dn - 1))
set_option maxHeartbeats 4000000 in
set_option maxRecDepth 100000 in
theorem kX6_drop (l : Launch) (dC : Nat → ClassId) (dI : Nat → Nat → Nat) (cI cQ cZ : ClassId) (ad : Nat → Nat) (th : Int32) (tr : Int64) (ru : Nat → Int32) (sh : Nat → Int32) (sn : Int32) (se : Nat → Int32) (dn : Nat) (kd : Nat → Int32) (ld : Nat → Int32) (tm : Nat → Int32) (pk : Nat → Int32) (ts : Nat → Int32) (wo : Nat → Int32) (io : Nat → Int32) (sg : Nat) (sd : Nat → Int32) (sl : Nat → Int32) (lv : Nat → Int32) (mt : Nat → Int32) (sz : Nat) (hI : mOk ru sh sn se dn sg sd) : Met l yX6_drop wsX6_drop rX6_drop (va_Pc [.ref (ad 0)] (cd_pre dC dI cI cQ cZ (wMd cI cZ ad th tr ru sh sn se dn kd ld tm pk ts wo io sg sd sl lv mt) sz)) (va_Qi (fun r _ => r = (sX6_drop dn).1) (cd_post dC dI (wMd cI cZ ad th tr ru sh sn se dn kd ld tm pk ts wo io sg sd sl lv mt) (wMd cI cZ ad ((sX6_drop dn).2.1) tr ru sh sn se ((sX6_drop dn).2.2) kd ld tm pk ts wo io sg sd sl lv mt) sz) (va_A (wMd cI cZ ad th tr ru sh sn se dn kd ld tm pk ts wo io sg sd sl lv mt) sz)) 0 0 (va_A (wMd cI cZ ad th tr ru sh sn se dn kd ld tm pk ts wo io sg sd sl lv mt) sz) := by
  have hiX6 : ∀ w ∈ u_ws RX6 TX6 19, w ∈ wsX6_drop := by decide +kernel
  generalize hex : sX6_drop dn = ex
  unfold sX6_drop at hex
  refine cd_mMi [.ref (ad 0)] (by decide) rfl (Nat.le_of_ble_eq_true rfl) ?_
  intro Q A p e s m args below meth c ls hx hb hml hown hts hA hret hK hP hD hS hl
  have hl : lv_has ls 1 [(0, .ref (ad 0))] := hl
  have hdn : dn ≤ 8 := hI.2.2.2.1
  have hsg : sg ≤ 12 := hI.2.2.2.2.1
  refine lv_aload_n hx hb dX6_drop_0 rfl (lv_at hl 0 rfl) ?_
  refine lv_iconst (v := 0) hx hb dX6_drop_1 (by decide) ?_
  refine va_put (D := (dC, dI)) (ci := 6) (v := .int 0) (ty := .int) (C := RX6) (T := TX6) (N := 19) hx hb hts hiX6 tyX6 tyX6_ok nmX6 hown hK.1 hP hD hS 0 rfl rfl 0 (by decide) (hts (.fieldLink RX6 57 "CellDaysModel" "thrown" "I") (by decide +kernel)) (fun _ h9 => h9) rfl (by decide +kernel) (rfl) (rfl) (Nat.le_of_ble_eq_true rfl) dX6_drop_2 (fun H locs hP hD hS => ?_)
  have hP : va_P (dC, dI) vwCl (wMd cI cZ ad 0 tr ru sh sn se dn kd ld tm pk ts wo io sg sd sl lv mt) H := hP
  have hD : va_D A (wMd cI cZ ad 0 tr ru sh sn se dn kd ld tm pk ts wo io sg sd sl lv mt) := hD
  refine lv_aload_n hx hb dX6_drop_5 rfl (lv_at hl 0 rfl) ?_
  refine va_get (D := (dC, dI)) (ci := 6) (v := .int (nI dn)) (C := RX6) (T := TX6) (N := 19) hx hb hts hiX6 hown hK.1 hP 0 rfl rfl 6 (by decide) (hts (.fieldLink RX6 72 "CellDaysModel" "duties" "I") (by decide +kernel)) (fun _ h9 => h9) rfl dX6_drop_6 ?_
  refine lv_if_ne (tgt := 15) hx hb dX6_drop_9 (by decide) (fun c_1 => ?_) (fun c_1 => ?_)
  · rw [if_neg c_1] at hex
    try have n_1 : ¬ dn = 0 := fun h9 => c_1 ((nI_eq (a := dn) (b := 0) (by omega) (by omega)).mpr h9)
    refine lv_aload_n hx hb dX6_drop_15 rfl (lv_at hl 0 rfl) ?_
    refine lv_dup hx hb dX6_drop_16 rfl ?_
    refine va_get (D := (dC, dI)) (ci := 6) (v := .int (nI dn)) (C := RX6) (T := TX6) (N := 19) hx hb hts hiX6 hown hK.1 hP 0 rfl rfl 6 (by decide) (hts (.fieldLink RX6 72 "CellDaysModel" "duties" "I") (by decide +kernel)) (fun _ h9 => h9) rfl dX6_drop_17 ?_
    refine lv_iconst (v := 1) hx hb dX6_drop_20 (by decide) ?_
    refine lv_isub hx hb dX6_drop_21 ?_
    refine W.eq (g2 := F0 m 22 ls [.int (nI (dn - 1)), .ref (ad 0)]) (by rw [cd_s1 (by omega)]) ?_
    refine va_put (D := (dC, dI)) (ci := 6) (v := .int (nI (dn - 1))) (ty := .int) (C := RX6) (T := TX6) (N := 19) hx hb hts hiX6 tyX6 tyX6_ok nmX6 hown hK.1 hP hD hS 0 rfl rfl 6 (by decide) (hts (.fieldLink RX6 72 "CellDaysModel" "duties" "I") (by decide +kernel)) (fun _ h9 => h9) rfl (by decide +kernel) (rfl) (rfl) (Nat.le_of_ble_eq_true rfl) dX6_drop_22 (fun H locs hP hD hS => ?_)
    have hP : va_P (dC, dI) vwCl (wMd cI cZ ad 0 tr ru sh sn se (dn - 1) kd ld tm pk ts wo io sg sd sl lv mt) H := hP
    have hD : va_D A (wMd cI cZ ad 0 tr ru sh sn se (dn - 1) kd ld tm pk ts wo io sg sd sl lv mt) := hD
    refine lv_aload_n hx hb dX6_drop_25 rfl (lv_at hl 0 rfl) ?_
    refine va_get (D := (dC, dI)) (ci := 6) (v := .int (nI (dn - 1))) (C := RX6) (T := TX6) (N := 19) hx hb hts hiX6 hown hK.1 hP 0 rfl rfl 6 (by decide) (hts (.fieldLink RX6 72 "CellDaysModel" "duties" "I") (by decide +kernel)) (fun _ h9 => h9) rfl dX6_drop_26 ?_
    subst hex
    exact hret _ _ _ _ dX6_drop_29 hP hD hS
  · rw [if_pos c_1] at hex
    try have n_1 : dn = 0 := (nI_eq (a := dn) (b := 0) (by omega) (by omega)).mp c_1
    refine lv_bipush (v := (-2)) hx hb dX6_drop_12 (by decide) ?_
    subst hex
    exact hret _ _ _ _ dX6_drop_14 hP hD hS

def rX6_drainOf : Room := { frames := 0, cells := 0, slots := 0, locals := 0 }
def sX6_drainOf (ru : Nat → Int32) (kd : Nat → Int32) (ld : Nat → Int32) (tm : Nat → Int32) (pk : Nat → Int32) (ts : Nat → Int32) (du : Int32) (t : Int32) : Int32 := (if (kd du.toNatClampNeg) ≤ 0 then (((ld du.toNatClampNeg) * (tm du.toNatClampNeg)) * (if (ts du.toNatClampNeg) ≤ t then ts du.toNatClampNeg else t)) else (((((ld du.toNatClampNeg) * (tm du.toNatClampNeg)) + (pk du.toNatClampNeg)) + (if (pk du.toNatClampNeg) ≤ (ru 2) then (0 : Int32) else (pk du.toNatClampNeg) - (ru 2))) * (if (ts du.toNatClampNeg) ≤ t then ts du.toNatClampNeg else t)))
set_option maxHeartbeats 4000000 in
set_option maxRecDepth 100000 in
theorem kX6_drainOf (l : Launch) (dC : Nat → ClassId) (dI : Nat → Nat → Nat) (cI cQ cZ : ClassId) (ad : Nat → Nat) (th : Int32) (tr : Int64) (ru : Nat → Int32) (sh : Nat → Int32) (sn : Int32) (se : Nat → Int32) (dn : Nat) (kd : Nat → Int32) (ld : Nat → Int32) (tm : Nat → Int32) (pk : Nat → Int32) (ts : Nat → Int32) (wo : Nat → Int32) (io : Nat → Int32) (sg : Nat) (sd : Nat → Int32) (sl : Nat → Int32) (lv : Nat → Int32) (mt : Nat → Int32) (du : Int32) (t : Int32) (hdu : vp_in du 8) : Met l yX6_drainOf wsX6_drainOf rX6_drainOf (va_Pc [.ref (ad 0), .int du, .int t] (cd_rp dC dI cI cQ cZ (wMd cI cZ ad th tr ru sh sn se dn kd ld tm pk ts wo io sg sd sl lv mt))) (vp_Si (fun r => r = sX6_drainOf ru kd ld tm pk ts du t)) 0 0 (fun _ => False) := by
  have hiX6 : ∀ w ∈ u_ws RX6 TX6 19, w ∈ wsX6_drainOf := by decide +kernel
  generalize hex : sX6_drainOf ru kd ld tm pk ts du t = ex
  unfold sX6_drainOf at hex
  refine cd_mRi [.ref (ad 0), .int du, .int t] (by decide) rfl (Nat.le_of_ble_eq_true rfl) ?_
  intro Q p e s m args below meth c ls hx hb hml hown hts hret ⟨hK, hP⟩ hl
  have hl : lv_has ls 4 [(0, .ref (ad 0)), (1, .int du), (2, .int t)] := hl
  refine lv_aload_n hx hb dX6_drainOf_0 rfl (lv_at hl 0 rfl) ?_
  refine va_get (D := (dC, dI)) (ci := 6) (v := .ref (ad 5)) (C := RX6) (T := TX6) (N := 19) hx hb hts hiX6 hown hK.1 hP 0 rfl rfl 8 (by decide) (hts (.fieldLink RX6 26 "CellDaysModel" "load" "[I") (by decide +kernel)) (fun _ h9 => h9) rfl dX6_drainOf_1 ?_
  refine lv_iload_n hx hb dX6_drainOf_4 rfl (lv_at hl 1 rfl) ?_
  refine va_iald hx hb hK.1 hP 5 0 rfl rfl ((by assumption)) dX6_drainOf_5 ?_
  refine lv_aload_n hx hb dX6_drainOf_6 rfl (lv_at hl 0 rfl) ?_
  refine va_get (D := (dC, dI)) (ci := 6) (v := .ref (ad 6)) (C := RX6) (T := TX6) (N := 19) hx hb hts hiX6 hown hK.1 hP 0 rfl rfl 9 (by decide) (hts (.fieldLink RX6 29 "CellDaysModel" "times" "[I") (by decide +kernel)) (fun _ h9 => h9) rfl dX6_drainOf_7 ?_
  refine lv_iload_n hx hb dX6_drainOf_10 rfl (lv_at hl 1 rfl) ?_
  refine va_iald hx hb hK.1 hP 6 0 rfl rfl ((by assumption)) dX6_drainOf_11 ?_
  refine lv_imul hx hb dX6_drainOf_12 ?_
  refine lv_istore_n (lv' := [(3, .int ((ld du.toNatClampNeg) * (tm du.toNatClampNeg))), (0, .ref (ad 0)), (1, .int du), (2, .int t)]) hx hb dX6_drainOf_13 rfl hl (by decide) rfl (fun ls hl => ?_)
  refine lv_aload_n hx hb dX6_drainOf_14 rfl (lv_at hl 1 rfl) ?_
  refine va_get (D := (dC, dI)) (ci := 6) (v := .ref (ad 4)) (C := RX6) (T := TX6) (N := 19) hx hb hts hiX6 hown hK.1 hP 0 rfl rfl 7 (by decide) (hts (.fieldLink RX6 23 "CellDaysModel" "kind" "[I") (by decide +kernel)) (fun _ h9 => h9) rfl dX6_drainOf_15 ?_
  refine lv_iload_n hx hb dX6_drainOf_18 rfl (lv_at hl 2 rfl) ?_
  refine va_iald hx hb hK.1 hP 4 0 rfl rfl ((by assumption)) dX6_drainOf_19 ?_
  refine lv_if_le (tgt := 67) hx hb dX6_drainOf_20 (by decide) (fun c_1 => ?_) (fun c_1 => ?_)
  · rw [if_pos c_1] at hex
    refine lv_iload_n hx hb dX6_drainOf_67 rfl (lv_at hl 0 rfl) ?_
    refine lv_iload_n hx hb dX6_drainOf_68 rfl (lv_at hl 3 rfl) ?_
    refine lv_aload_n hx hb dX6_drainOf_69 rfl (lv_at hl 1 rfl) ?_
    refine va_get (D := (dC, dI)) (ci := 6) (v := .ref (ad 8)) (C := RX6) (T := TX6) (N := 19) hx hb hts hiX6 hown hK.1 hP 0 rfl rfl 11 (by decide) (hts (.fieldLink RX6 35 "CellDaysModel" "tries" "[I") (by decide +kernel)) (fun _ h9 => h9) rfl dX6_drainOf_70 ?_
    refine lv_iload_n hx hb dX6_drainOf_73 rfl (lv_at hl 2 rfl) ?_
    refine va_iald hx hb hK.1 hP 8 0 rfl rfl ((by assumption)) dX6_drainOf_74 ?_
    have J_2 : W p l e rX6_drainOf s m args below meth c s.heap [] 0 0 Q (F0 m 88 ls [.int (if (ts du.toNatClampNeg) ≤ t then ts du.toNatClampNeg else t), .int ((ld du.toNatClampNeg) * (tm du.toNatClampNeg))]) := by
      refine lv_imul hx hb dX6_drainOf_88 ?_
      subst hex
      exact hret _ _ dX6_drainOf_89
    refine lv_icmp_ge (tgt := 82) hx hb dX6_drainOf_75 (by decide) (fun c_3 => ?_) (fun c_3 => ?_)
    · skip
      refine lv_aload_n hx hb dX6_drainOf_82 rfl (lv_at hl 1 rfl) ?_
      refine va_get (D := (dC, dI)) (ci := 6) (v := .ref (ad 8)) (C := RX6) (T := TX6) (N := 19) hx hb hts hiX6 hown hK.1 hP 0 rfl rfl 11 (by decide) (hts (.fieldLink RX6 35 "CellDaysModel" "tries" "[I") (by decide +kernel)) (fun _ h9 => h9) rfl dX6_drainOf_83 ?_
      refine lv_iload_n hx hb dX6_drainOf_86 rfl (lv_at hl 2 rfl) ?_
      refine va_iald hx hb hK.1 hP 8 0 rfl rfl ((by assumption)) dX6_drainOf_87 ?_
      rw [if_pos c_3] at J_2
      exact J_2
    · skip
      refine lv_iload_n hx hb dX6_drainOf_78 rfl (lv_at hl 3 rfl) ?_
      refine lv_goto (tgt := 88) hx hb dX6_drainOf_79 (by decide) ?_
      rw [if_neg c_3] at J_2
      exact J_2
  · rw [if_neg c_1] at hex
    refine lv_iload_n hx hb dX6_drainOf_23 rfl (lv_at hl 0 rfl) ?_
    refine lv_aload_n hx hb dX6_drainOf_24 rfl (lv_at hl 1 rfl) ?_
    refine va_get (D := (dC, dI)) (ci := 6) (v := .ref (ad 7)) (C := RX6) (T := TX6) (N := 19) hx hb hts hiX6 hown hK.1 hP 0 rfl rfl 10 (by decide) (hts (.fieldLink RX6 32 "CellDaysModel" "peak" "[I") (by decide +kernel)) (fun _ h9 => h9) rfl dX6_drainOf_25 ?_
    refine lv_iload_n hx hb dX6_drainOf_28 rfl (lv_at hl 2 rfl) ?_
    refine va_iald hx hb hK.1 hP 7 0 rfl rfl ((by assumption)) dX6_drainOf_29 ?_
    refine lv_iadd hx hb dX6_drainOf_30 ?_
    refine lv_istore_n (lv' := [(3, .int (((ld du.toNatClampNeg) * (tm du.toNatClampNeg)) + (pk du.toNatClampNeg))), (0, .ref (ad 0)), (1, .int du), (2, .int t)]) hx hb dX6_drainOf_31 rfl hl (by decide) rfl (fun ls hl => ?_)
    refine lv_iload_n hx hb dX6_drainOf_32 rfl (lv_at hl 0 rfl) ?_
    refine lv_aload_n hx hb dX6_drainOf_33 rfl (lv_at hl 1 rfl) ?_
    refine va_get (D := (dC, dI)) (ci := 6) (v := .ref (ad 7)) (C := RX6) (T := TX6) (N := 19) hx hb hts hiX6 hown hK.1 hP 0 rfl rfl 10 (by decide) (hts (.fieldLink RX6 32 "CellDaysModel" "peak" "[I") (by decide +kernel)) (fun _ h9 => h9) rfl dX6_drainOf_34 ?_
    refine lv_iload_n hx hb dX6_drainOf_37 rfl (lv_at hl 2 rfl) ?_
    refine va_iald hx hb hK.1 hP 7 0 rfl rfl ((by assumption)) dX6_drainOf_38 ?_
    refine lv_aload_n hx hb dX6_drainOf_39 rfl (lv_at hl 1 rfl) ?_
    refine va_get (D := (dC, dI)) (ci := 6) (v := .ref (ad 1)) (C := RX6) (T := TX6) (N := 19) hx hb hts hiX6 hown hK.1 hP 0 rfl rfl 2 (by decide) (hts (.fieldLink RX6 7 "CellDaysModel" "rules" "[I") (by decide +kernel)) (fun _ h9 => h9) rfl dX6_drainOf_40 ?_
    refine lv_iconst (v := 2) hx hb dX6_drainOf_43 (by decide) ?_
    refine va_iald hx hb hK.1 hP 1 0 rfl rfl (vp_in_nI (n := 2) (N := 3) (by decide) (by decide)) dX6_drainOf_44 ?_
    refine W.eq (g2 := F0 m 45 ls [.int (ru 2), .int (pk du.toNatClampNeg), .int (((ld du.toNatClampNeg) * (tm du.toNatClampNeg)) + (pk du.toNatClampNeg))]) (rfl) ?_
    have J_4 : W p l e rX6_drainOf s m args below meth c s.heap [] 0 0 Q (F0 m 65 ls [.int (if (pk du.toNatClampNeg) ≤ (ru 2) then (0 : Int32) else (pk du.toNatClampNeg) - (ru 2)), .int (((ld du.toNatClampNeg) * (tm du.toNatClampNeg)) + (pk du.toNatClampNeg))]) := by
      refine lv_iadd hx hb dX6_drainOf_65 ?_
      refine lv_istore_n (lv' := [(3, .int ((((ld du.toNatClampNeg) * (tm du.toNatClampNeg)) + (pk du.toNatClampNeg)) + (if (pk du.toNatClampNeg) ≤ (ru 2) then (0 : Int32) else (pk du.toNatClampNeg) - (ru 2)))), (0, .ref (ad 0)), (1, .int du), (2, .int t)]) hx hb dX6_drainOf_66 rfl hl (by decide) rfl (fun ls hl => ?_)
      refine lv_iload_n hx hb dX6_drainOf_67 rfl (lv_at hl 0 rfl) ?_
      refine lv_iload_n hx hb dX6_drainOf_68 rfl (lv_at hl 3 rfl) ?_
      refine lv_aload_n hx hb dX6_drainOf_69 rfl (lv_at hl 1 rfl) ?_
      refine va_get (D := (dC, dI)) (ci := 6) (v := .ref (ad 8)) (C := RX6) (T := TX6) (N := 19) hx hb hts hiX6 hown hK.1 hP 0 rfl rfl 11 (by decide) (hts (.fieldLink RX6 35 "CellDaysModel" "tries" "[I") (by decide +kernel)) (fun _ h9 => h9) rfl dX6_drainOf_70 ?_
      refine lv_iload_n hx hb dX6_drainOf_73 rfl (lv_at hl 2 rfl) ?_
      refine va_iald hx hb hK.1 hP 8 0 rfl rfl ((by assumption)) dX6_drainOf_74 ?_
      have J_5 : W p l e rX6_drainOf s m args below meth c s.heap [] 0 0 Q (F0 m 88 ls [.int (if (ts du.toNatClampNeg) ≤ t then ts du.toNatClampNeg else t), .int ((((ld du.toNatClampNeg) * (tm du.toNatClampNeg)) + (pk du.toNatClampNeg)) + (if (pk du.toNatClampNeg) ≤ (ru 2) then (0 : Int32) else (pk du.toNatClampNeg) - (ru 2)))]) := by
        refine lv_imul hx hb dX6_drainOf_88 ?_
        subst hex
        exact hret _ _ dX6_drainOf_89
      refine lv_icmp_ge (tgt := 82) hx hb dX6_drainOf_75 (by decide) (fun c_6 => ?_) (fun c_6 => ?_)
      · skip
        refine lv_aload_n hx hb dX6_drainOf_82 rfl (lv_at hl 1 rfl) ?_
        refine va_get (D := (dC, dI)) (ci := 6) (v := .ref (ad 8)) (C := RX6) (T := TX6) (N := 19) hx hb hts hiX6 hown hK.1 hP 0 rfl rfl 11 (by decide) (hts (.fieldLink RX6 35 "CellDaysModel" "tries" "[I") (by decide +kernel)) (fun _ h9 => h9) rfl dX6_drainOf_83 ?_
        refine lv_iload_n hx hb dX6_drainOf_86 rfl (lv_at hl 2 rfl) ?_
        refine va_iald hx hb hK.1 hP 8 0 rfl rfl ((by assumption)) dX6_drainOf_87 ?_
        rw [if_pos c_6] at J_5
        exact J_5
      · skip
        refine lv_iload_n hx hb dX6_drainOf_78 rfl (lv_at hl 3 rfl) ?_
        refine lv_goto (tgt := 88) hx hb dX6_drainOf_79 (by decide) ?_
        rw [if_neg c_6] at J_5
        exact J_5
    refine lv_icmp_le (tgt := 64) hx hb dX6_drainOf_45 (by decide) (fun c_7 => ?_) (fun c_7 => ?_)
    · skip
      refine lv_iconst (v := 0) hx hb dX6_drainOf_64 (by decide) ?_
      rw [if_pos c_7] at J_4
      exact J_4
    · skip
      refine lv_aload_n hx hb dX6_drainOf_48 rfl (lv_at hl 1 rfl) ?_
      refine va_get (D := (dC, dI)) (ci := 6) (v := .ref (ad 7)) (C := RX6) (T := TX6) (N := 19) hx hb hts hiX6 hown hK.1 hP 0 rfl rfl 10 (by decide) (hts (.fieldLink RX6 32 "CellDaysModel" "peak" "[I") (by decide +kernel)) (fun _ h9 => h9) rfl dX6_drainOf_49 ?_
      refine lv_iload_n hx hb dX6_drainOf_52 rfl (lv_at hl 2 rfl) ?_
      refine va_iald hx hb hK.1 hP 7 0 rfl rfl ((by assumption)) dX6_drainOf_53 ?_
      refine lv_aload_n hx hb dX6_drainOf_54 rfl (lv_at hl 1 rfl) ?_
      refine va_get (D := (dC, dI)) (ci := 6) (v := .ref (ad 1)) (C := RX6) (T := TX6) (N := 19) hx hb hts hiX6 hown hK.1 hP 0 rfl rfl 2 (by decide) (hts (.fieldLink RX6 7 "CellDaysModel" "rules" "[I") (by decide +kernel)) (fun _ h9 => h9) rfl dX6_drainOf_55 ?_
      refine lv_iconst (v := 2) hx hb dX6_drainOf_58 (by decide) ?_
      refine va_iald hx hb hK.1 hP 1 0 rfl rfl (vp_in_nI (n := 2) (N := 3) (by decide) (by decide)) dX6_drainOf_59 ?_
      refine W.eq (g2 := F0 m 60 ls [.int (ru 2), .int (pk du.toNatClampNeg), .int (((ld du.toNatClampNeg) * (tm du.toNatClampNeg)) + (pk du.toNatClampNeg))]) (rfl) ?_
      refine lv_isub hx hb dX6_drainOf_60 ?_
      refine lv_goto (tgt := 65) hx hb dX6_drainOf_61 (by decide) ?_
      rw [if_neg c_7] at J_4
      exact J_4

def rX6_drain : Room := { frames := 2, cells := 0, slots := 0, locals := 43 }
def sX6_drain_B44 (tr : Int64) (ru : Nat → Int32) (kd : Nat → Int32) (ld : Nat → Int32) (tm : Nat → Int32) (pk : Nat → Int32) (ts : Nat → Int32) (du : Int32) (t : Int32) : Int32 × (Int32) × (Int64) := (sX6_drainOf ru kd ld tm pk ts du t, 0, tr + (if (kd du.toNatClampNeg) = 0 then 1 else (if (kd du.toNatClampNeg) = 1 then 11 else 111)))
def sX6_drain (tr : Int64) (ru : Nat → Int32) (dn : Nat) (kd : Nat → Int32) (ld : Nat → Int32) (tm : Nat → Int32) (pk : Nat → Int32) (ts : Nat → Int32) (du : Int32) (t : Int32) : Int32 × (Int32) × (Int64) := (if (sX6_isDuty dn du) = 0 then ((-1), 0, tr) else (if (sX6_in t 1 5) = 0 then ((-1), 0, tr) else (if (kd du.toNatClampNeg) = 2 then (if t ≤ (ts du.toNatClampNeg) then sX6_drain_B44 tr ru kd ld tm pk ts du t else ((-1), 0, tr)) else sX6_drain_B44 tr ru kd ld tm pk ts du t)))
set_option maxHeartbeats 4000000 in
set_option maxRecDepth 100000 in
theorem kX6_drain (l : Launch) (dC : Nat → ClassId) (dI : Nat → Nat → Nat) (cI cQ cZ : ClassId) (ad : Nat → Nat) (th : Int32) (tr : Int64) (ru : Nat → Int32) (sh : Nat → Int32) (sn : Int32) (se : Nat → Int32) (dn : Nat) (kd : Nat → Int32) (ld : Nat → Int32) (tm : Nat → Int32) (pk : Nat → Int32) (ts : Nat → Int32) (wo : Nat → Int32) (io : Nat → Int32) (sg : Nat) (sd : Nat → Int32) (sl : Nat → Int32) (lv : Nat → Int32) (mt : Nat → Int32) (du : Int32) (t : Int32) (sz : Nat) (hI : mOk ru sh sn se dn sg sd) : Met l yX6_drain wsX6_drain rX6_drain (va_Pc [.ref (ad 0), .int du, .int t] (cd_pre dC dI cI cQ cZ (wMd cI cZ ad th tr ru sh sn se dn kd ld tm pk ts wo io sg sd sl lv mt) sz)) (va_Qi (fun r _ => r = (sX6_drain tr ru dn kd ld tm pk ts du t).1) (cd_post dC dI (wMd cI cZ ad th tr ru sh sn se dn kd ld tm pk ts wo io sg sd sl lv mt) (wMd cI cZ ad ((sX6_drain tr ru dn kd ld tm pk ts du t).2.1) ((sX6_drain tr ru dn kd ld tm pk ts du t).2.2) ru sh sn se dn kd ld tm pk ts wo io sg sd sl lv mt) sz) (va_A (wMd cI cZ ad th tr ru sh sn se dn kd ld tm pk ts wo io sg sd sl lv mt) sz)) 0 0 (va_A (wMd cI cZ ad th tr ru sh sn se dn kd ld tm pk ts wo io sg sd sl lv mt) sz) := by
  have hiX6 : ∀ w ∈ u_ws RX6 TX6 19, w ∈ wsX6_drain := by decide +kernel
  generalize hex : sX6_drain tr ru dn kd ld tm pk ts du t = ex
  unfold sX6_drain at hex
  refine cd_mMi [.ref (ad 0), .int du, .int t] (by decide) rfl (Nat.le_of_ble_eq_true rfl) ?_
  intro Q A p e s m args below meth c ls hx hb hml hown hts hA hret hK hP hD hS hl
  have hl : lv_has ls 3 [(0, .ref (ad 0)), (1, .int du), (2, .int t)] := hl
  have hdn : dn ≤ 8 := hI.2.2.2.1
  have hsg : sg ≤ 12 := hI.2.2.2.2.1
  refine lv_aload_n hx hb dX6_drain_0 rfl (lv_at hl 0 rfl) ?_
  refine lv_iconst (v := 0) hx hb dX6_drain_1 (by decide) ?_
  refine va_put (D := (dC, dI)) (ci := 6) (v := .int 0) (ty := .int) (C := RX6) (T := TX6) (N := 19) hx hb hts hiX6 tyX6 tyX6_ok nmX6 hown hK.1 hP hD hS 0 rfl rfl 0 (by decide) (hts (.fieldLink RX6 57 "CellDaysModel" "thrown" "I") (by decide +kernel)) (fun _ h9 => h9) rfl (by decide +kernel) (rfl) (rfl) (Nat.le_of_ble_eq_true rfl) dX6_drain_2 (fun H locs hP hD hS => ?_)
  have hP : va_P (dC, dI) vwCl (wMd cI cZ ad 0 tr ru sh sn se dn kd ld tm pk ts wo io sg sd sl lv mt) H := hP
  have hD : va_D A (wMd cI cZ ad 0 tr ru sh sn se dn kd ld tm pk ts wo io sg sd sl lv mt) := hD
  refine lv_aload_n hx hb dX6_drain_5 rfl (lv_at hl 0 rfl) ?_
  refine lv_iload_n hx hb dX6_drain_6 rfl (lv_at hl 1 rfl) ?_
  refine cd_rV (As := [.int du]) (b := (ad 0)) (ci := 6) (q := (RX6, TX6, 19)) (rest := []) ⟨hx, hb, hml, hown, hts⟩ (kX6_isDuty l dC dI cI cQ cZ ad 0 tr ru sh sn se dn kd ld tm pk ts wo io sg sd sl lv mt du) (cwV 1 hts gX6_drain_X6_isDuty rfl rfl rfl (by decide +kernel) ⟨by decide, by decide⟩) hK hP rfl rfl rfl hl.1 rfl (Nat.le_of_ble_eq_true rfl) dX6_drain_7 ⟨by decide, by decide⟩ ?_
  refine lv_if_eq (tgt := 42) hx hb dX6_drain_10 (by decide) (fun c_1 => ?_) (fun c_1 => ?_)
  · rw [if_pos c_1] at hex
    refine lv_iconst (v := (-1)) hx hb dX6_drain_42 (by decide) ?_
    subst hex
    exact hret _ _ _ _ dX6_drain_43 hP hD hS
  · rw [if_neg c_1] at hex
    refine lv_iload_n hx hb dX6_drain_13 rfl (lv_at hl 2 rfl) ?_
    refine lv_iconst (v := 1) hx hb dX6_drain_14 (by decide) ?_
    refine lv_iconst (v := 5) hx hb dX6_drain_15 (by decide) ?_
    refine cd_rS (As := [.int t, .int 1, .int 5]) (rest := []) ⟨hx, hb, hml, hown, hts⟩ (kX6_in l dC dI cI cQ cZ t 1 5) (va_cwS 3 hts gX6_drain_X6_in rfl rfl rfl (by decide +kernel) ⟨by decide, by decide⟩) hK cd_P0 rfl hl.1 rfl (Nat.le_of_ble_eq_true rfl) dX6_drain_16 ⟨by decide, by decide⟩ ?_
    refine lv_if_eq (tgt := 42) hx hb dX6_drain_19 (by decide) (fun c_2 => ?_) (fun c_2 => ?_)
    · rw [if_pos c_2] at hex
      refine lv_iconst (v := (-1)) hx hb dX6_drain_42 (by decide) ?_
      subst hex
      exact hret _ _ _ _ dX6_drain_43 hP hD hS
    · rw [if_neg c_2] at hex
      have J44 : sX6_drain_B44 tr ru kd ld tm pk ts du t = ex → W p l e rX6_drain s m args below meth c H locs 0 0 Q (F0 m 44 ls []) := by
        intro hex
        unfold sX6_drain_B44 at hex
        refine lv_aload_n hx hb dX6_drain_44 rfl (lv_at hl 0 rfl) ?_
        refine lv_dup hx hb dX6_drain_45 rfl ?_
        refine va_get (D := (dC, dI)) (ci := 6) (v := .long tr) (C := RX6) (T := TX6) (N := 19) hx hb hts hiX6 hown hK.1 hP 0 rfl rfl 1 (by decide) (hts (.fieldLink RX6 78 "CellDaysModel" "trace" "J") (by decide +kernel)) (fun _ h9 => h9) rfl dX6_drain_46 ?_
        refine lv_aload_n hx hb dX6_drain_49 rfl (lv_at hl 0 rfl) ?_
        refine va_get (D := (dC, dI)) (ci := 6) (v := .ref (ad 4)) (C := RX6) (T := TX6) (N := 19) hx hb hts hiX6 hown hK.1 hP 0 rfl rfl 7 (by decide) (hts (.fieldLink RX6 23 "CellDaysModel" "kind" "[I") (by decide +kernel)) (fun _ h9 => h9) rfl dX6_drain_50 ?_
        refine lv_iload_n hx hb dX6_drain_53 rfl (lv_at hl 1 rfl) ?_
        refine va_iald hx hb hK.1 hP 4 0 rfl rfl ((isDuty_in hdn c_1)) dX6_drain_54 ?_
        have J_3 : W p l e rX6_drain s m args below meth c H locs 0 0 Q (F0 m 81 ls [.long (if (kd du.toNatClampNeg) = 0 then 1 else (if (kd du.toNatClampNeg) = 1 then 11 else 111)), .long tr, .ref (ad 0)]) := by
          refine lv_ladd hx hb dX6_drain_81 ?_
          refine va_put (D := (dC, dI)) (ci := 6) (v := .long (tr + (if (kd du.toNatClampNeg) = 0 then 1 else (if (kd du.toNatClampNeg) = 1 then 11 else 111)))) (ty := .long) (C := RX6) (T := TX6) (N := 19) hx hb hts hiX6 tyX6 tyX6_ok nmX6 hown hK.1 hP hD hS 0 rfl rfl 1 (by decide) (hts (.fieldLink RX6 78 "CellDaysModel" "trace" "J") (by decide +kernel)) (fun _ h9 => h9) rfl (by decide +kernel) (rfl) (rfl) (Nat.le_of_ble_eq_true rfl) dX6_drain_82 (fun H locs hP hD hS => ?_)
          have hP : va_P (dC, dI) vwCl (wMd cI cZ ad 0 (tr + (if (kd du.toNatClampNeg) = 0 then 1 else (if (kd du.toNatClampNeg) = 1 then 11 else 111))) ru sh sn se dn kd ld tm pk ts wo io sg sd sl lv mt) H := hP
          have hD : va_D A (wMd cI cZ ad 0 (tr + (if (kd du.toNatClampNeg) = 0 then 1 else (if (kd du.toNatClampNeg) = 1 then 11 else 111))) ru sh sn se dn kd ld tm pk ts wo io sg sd sl lv mt) := hD
          refine lv_aload_n hx hb dX6_drain_85 rfl (lv_at hl 0 rfl) ?_
          refine lv_iload_n hx hb dX6_drain_86 rfl (lv_at hl 1 rfl) ?_
          refine lv_iload_n hx hb dX6_drain_87 rfl (lv_at hl 2 rfl) ?_
          refine cd_rV (As := [.int du, .int t]) (b := (ad 0)) (ci := 6) (q := (RX6, TX6, 19)) (rest := []) ⟨hx, hb, hml, hown, hts⟩ (kX6_drainOf l dC dI cI cQ cZ ad 0 (tr + (if (kd du.toNatClampNeg) = 0 then 1 else (if (kd du.toNatClampNeg) = 1 then 11 else 111))) ru sh sn se dn kd ld tm pk ts wo io sg sd sl lv mt du t (isDuty_in hdn c_1)) (cwV 2 hts gX6_drain_X6_drainOf rfl rfl rfl (by decide +kernel) ⟨by decide, by decide⟩) hK hP rfl rfl rfl hl.1 rfl (Nat.le_of_ble_eq_true rfl) dX6_drain_88 ⟨by decide, by decide⟩ ?_
          subst hex
          exact hret _ _ _ _ dX6_drain_91 hP hD hS
        refine lv_if_ne (tgt := 62) hx hb dX6_drain_55 (by decide) (fun c_4 => ?_) (fun c_4 => ?_)
        · skip
          refine lv_aload_n hx hb dX6_drain_62 rfl (lv_at hl 0 rfl) ?_
          refine va_get (D := (dC, dI)) (ci := 6) (v := .ref (ad 4)) (C := RX6) (T := TX6) (N := 19) hx hb hts hiX6 hown hK.1 hP 0 rfl rfl 7 (by decide) (hts (.fieldLink RX6 23 "CellDaysModel" "kind" "[I") (by decide +kernel)) (fun _ h9 => h9) rfl dX6_drain_63 ?_
          refine lv_iload_n hx hb dX6_drain_66 rfl (lv_at hl 1 rfl) ?_
          refine va_iald hx hb hK.1 hP 4 0 rfl rfl ((isDuty_in hdn c_1)) dX6_drain_67 ?_
          refine lv_iconst (v := 1) hx hb dX6_drain_68 (by decide) ?_
          refine lv_icmp_ne (tgt := 78) hx hb dX6_drain_69 (by decide) (fun c_5 => ?_) (fun c_5 => ?_)
          · skip
            refine lv_ldc2 (v := 111) hx hb hown (hts (.constantLong RX6 84 111) (by decide +kernel)) dX6_drain_78 ?_
            rw [if_neg c_4, if_neg c_5] at J_3
            exact J_3
          · skip
            refine lv_ldc2 (v := 11) hx hb hown (hts (.constantLong RX6 82 11) (by decide +kernel)) dX6_drain_72 ?_
            refine lv_goto (tgt := 81) hx hb dX6_drain_75 (by decide) ?_
            rw [if_neg c_4, if_pos c_5] at J_3
            exact J_3
        · skip
          refine lv_lconst (v := 1) hx hb dX6_drain_58 (by decide) ?_
          refine lv_goto (tgt := 81) hx hb dX6_drain_59 (by decide) ?_
          rw [if_pos c_4] at J_3
          exact J_3
      refine lv_aload_n hx hb dX6_drain_22 rfl (lv_at hl 0 rfl) ?_
      refine va_get (D := (dC, dI)) (ci := 6) (v := .ref (ad 4)) (C := RX6) (T := TX6) (N := 19) hx hb hts hiX6 hown hK.1 hP 0 rfl rfl 7 (by decide) (hts (.fieldLink RX6 23 "CellDaysModel" "kind" "[I") (by decide +kernel)) (fun _ h9 => h9) rfl dX6_drain_23 ?_
      refine lv_iload_n hx hb dX6_drain_26 rfl (lv_at hl 1 rfl) ?_
      refine va_iald hx hb hK.1 hP 4 0 rfl rfl ((isDuty_in hdn c_1)) dX6_drain_27 ?_
      refine lv_iconst (v := 2) hx hb dX6_drain_28 (by decide) ?_
      refine lv_icmp_ne (tgt := 44) hx hb dX6_drain_29 (by decide) (fun c_6 => ?_) (fun c_6 => ?_)
      · rw [if_neg c_6] at hex
        exact J44 hex
      · rw [if_pos c_6] at hex
        refine lv_iload_n hx hb dX6_drain_32 rfl (lv_at hl 2 rfl) ?_
        refine lv_aload_n hx hb dX6_drain_33 rfl (lv_at hl 0 rfl) ?_
        refine va_get (D := (dC, dI)) (ci := 6) (v := .ref (ad 8)) (C := RX6) (T := TX6) (N := 19) hx hb hts hiX6 hown hK.1 hP 0 rfl rfl 11 (by decide) (hts (.fieldLink RX6 35 "CellDaysModel" "tries" "[I") (by decide +kernel)) (fun _ h9 => h9) rfl dX6_drain_34 ?_
        refine lv_iload_n hx hb dX6_drain_37 rfl (lv_at hl 1 rfl) ?_
        refine va_iald hx hb hK.1 hP 8 0 rfl rfl ((isDuty_in hdn c_1)) dX6_drain_38 ?_
        refine lv_icmp_le (tgt := 44) hx hb dX6_drain_39 (by decide) (fun c_7 => ?_) (fun c_7 => ?_)
        · rw [if_pos c_7] at hex
          exact J44 hex
        · rw [if_neg c_7] at hex
          refine lv_iconst (v := (-1)) hx hb dX6_drain_42 (by decide) ?_
          subst hex
          exact hret _ _ _ _ dX6_drain_43 hP hD hS

def rX6_bits : Room := { frames := 0, cells := 0, slots := 0, locals := 0 }
def sX6_bits_L4 (dn : Nat) (io : Nat → Int32) : Nat → Int32 → Nat → Int32
  | 0, vv, k => 0
  | n + 1, vv, k => (if (nI dn) ≤ (nI k) then vv else sX6_bits_L4 dn io n (vv ||| (if (io k) = 0 then (0 : Int32) else 1 <<< ((nI k) &&& 31))) (k + 1))
def sX6_bits (dn : Nat) (io : Nat → Int32) : Int32 := sX6_bits_L4 dn io 9 0 0
set_option maxHeartbeats 4000000 in
set_option maxRecDepth 100000 in
theorem kX6_bits (l : Launch) (dC : Nat → ClassId) (dI : Nat → Nat → Nat) (cI cQ cZ : ClassId) (ad : Nat → Nat) (th : Int32) (tr : Int64) (ru : Nat → Int32) (sh : Nat → Int32) (sn : Int32) (se : Nat → Int32) (dn : Nat) (kd : Nat → Int32) (ld : Nat → Int32) (tm : Nat → Int32) (pk : Nat → Int32) (ts : Nat → Int32) (wo : Nat → Int32) (io : Nat → Int32) (sg : Nat) (sd : Nat → Int32) (sl : Nat → Int32) (lv : Nat → Int32) (mt : Nat → Int32) (hI : mOk ru sh sn se dn sg sd) : Met l yX6_bits wsX6_bits rX6_bits (va_Pc [.ref (ad 0)] (cd_rp dC dI cI cQ cZ (wMd cI cZ ad th tr ru sh sn se dn kd ld tm pk ts wo io sg sd sl lv mt))) (vp_Si (fun r => r = sX6_bits dn io)) 0 0 (fun _ => False) := by
  have hiX6 : ∀ w ∈ u_ws RX6 TX6 19, w ∈ wsX6_bits := by decide +kernel
  generalize hex : sX6_bits dn io = ex
  unfold sX6_bits at hex
  refine cd_mRi [.ref (ad 0)] (by decide) rfl (Nat.le_of_ble_eq_true rfl) ?_
  intro Q p e s m args below meth c ls hx hb hml hown hts hret ⟨hK, hP⟩ hl
  have hl : lv_has ls 3 [(0, .ref (ad 0))] := hl
  have hdn : dn ≤ 8 := hI.2.2.2.1
  have hsg : sg ≤ 12 := hI.2.2.2.2.1
  refine lv_iconst (v := 0) hx hb dX6_bits_0 (by decide) ?_
  refine lv_istore_n (lv' := [(1, .int 0), (0, .ref (ad 0))]) hx hb dX6_bits_1 rfl hl (by decide) rfl (fun ls hl => ?_)
  refine lv_iconst (v := 0) hx hb dX6_bits_2 (by decide) ?_
  refine lv_istore_n (lv' := [(2, .int 0), (1, .int 0), (0, .ref (ad 0))]) hx hb dX6_bits_3 rfl hl (by decide) rfl (fun ls hl => ?_)
  have L4 : ∀ (n : Nat) (vv : Int32) (k : Nat), (k ≤ 8) → 8 - k < n → sX6_bits_L4 dn io n vv k = ex → ∀ (ls : Array Slot), lv_has ls 3 [(2, .int (nI k)), (1, .int vv), (0, .ref (ad 0))] → W p l e rX6_bits s m args below meth c s.heap [] 0 0 Q (F0 m 4 ls []) := by
    intro n
    induction n with
    | zero => intro vv k hk hm; exact absurd hm (Nat.not_lt_zero _)
    | succ n ih =>
      intro vv k hk hm hex ls hl
      rw [sX6_bits_L4] at hex
      refine lv_iload_n hx hb dX6_bits_4 rfl (lv_at hl 0 rfl) ?_
      refine lv_aload_n hx hb dX6_bits_5 rfl (lv_at hl 2 rfl) ?_
      refine va_get (D := (dC, dI)) (ci := 6) (v := .int (nI dn)) (C := RX6) (T := TX6) (N := 19) hx hb hts hiX6 hown hK.1 hP 0 rfl rfl 6 (by decide) (hts (.fieldLink RX6 72 "CellDaysModel" "duties" "I") (by decide +kernel)) (fun _ h9 => h9) rfl dX6_bits_6 ?_
      refine lv_icmp_ge (tgt := 37) hx hb dX6_bits_9 (by decide) (fun c_1 => ?_) (fun c_1 => ?_)
      · rw [if_pos c_1] at hex
        try have n_1 : dn ≤ k := (nI_leI (a := dn) (b := k) (by omega) (by omega)).mp c_1
        refine lv_iload_n hx hb dX6_bits_37 rfl (lv_at hl 1 rfl) ?_
        subst hex
        exact hret _ _ dX6_bits_38
      · rw [if_neg c_1] at hex
        try have n_1 : ¬ dn ≤ k := fun h9 => c_1 ((nI_leI (a := dn) (b := k) (by omega) (by omega)).mpr h9)
        refine lv_iload_n hx hb dX6_bits_12 rfl (lv_at hl 1 rfl) ?_
        refine lv_aload_n hx hb dX6_bits_13 rfl (lv_at hl 2 rfl) ?_
        refine va_get (D := (dC, dI)) (ci := 6) (v := .ref (ad 10)) (C := RX6) (T := TX6) (N := 19) hx hb hts hiX6 hown hK.1 hP 0 rfl rfl 13 (by decide) (hts (.fieldLink RX6 41 "CellDaysModel" "isOn" "[Z") (by decide +kernel)) (fun _ h9 => h9) rfl dX6_bits_14 ?_
        refine lv_iload_n hx hb dX6_bits_17 rfl (lv_at hl 0 rfl) ?_
        refine va_zald hx hb hK.1 hP 10 2 rfl rfl (vp_in_nI (n := k) (N := 8) (by omega) (by omega)) dX6_bits_18 ?_
        refine W.eq (g2 := F0 m 19 ls [.int (io k), .int vv]) (by rw [nI_clamp (show k < 2 ^ 31 by omega)]) ?_
        have J_2 : W p l e rX6_bits s m args below meth c s.heap [] 0 0 Q (F0 m 29 ls [.int (if (io k) = 0 then (0 : Int32) else 1 <<< ((nI k) &&& 31)), .int vv]) := by
          refine lv_ior hx hb dX6_bits_29 ?_
          refine lv_istore_n (lv' := [(1, .int (vv ||| (if (io k) = 0 then (0 : Int32) else 1 <<< ((nI k) &&& 31)))), (2, .int (nI k)), (0, .ref (ad 0))]) hx hb dX6_bits_30 rfl hl (by decide) rfl (fun ls hl => ?_)
          refine lv_iinc (v := nI (k + 1)) (lv' := [(2, .int (nI (k + 1))), (1, .int (vv ||| (if (io k) = 0 then (0 : Int32) else 1 <<< ((nI k) &&& 31)))), (0, .ref (ad 0))]) hx hb dX6_bits_31 hl (k := 1) rfl (nI_1 k) (by decide) rfl (fun ls hl => ?_)
          refine lv_goto (tgt := 4) hx hb dX6_bits_34 (by decide) ?_
          exact ih (vv ||| (if (io k) = 0 then (0 : Int32) else 1 <<< ((nI k) &&& 31))) (k + 1) (by omega) (by omega) hex _ (lv_sub hl [0, 1, 2] rfl)
        refine lv_if_eq (tgt := 28) hx hb dX6_bits_19 (by decide) (fun c_3 => ?_) (fun c_3 => ?_)
        · skip
          refine lv_iconst (v := 0) hx hb dX6_bits_28 (by decide) ?_
          rw [if_pos c_3] at J_2
          exact J_2
        · skip
          refine lv_iconst (v := 1) hx hb dX6_bits_22 (by decide) ?_
          refine lv_iload_n hx hb dX6_bits_23 rfl (lv_at hl 0 rfl) ?_
          refine lv_ishl hx hb dX6_bits_24 ?_
          refine lv_goto (tgt := 29) hx hb dX6_bits_25 (by decide) ?_
          rw [if_neg c_3] at J_2
          exact J_2
  exact L4 9 0 0 (by decide) (by decide) hex _ (lv_sub hl [0, 1, 2] rfl)

def rX6_drains : Room := { frames := 1, cells := 0, slots := 0, locals := 23 }
def sX6_drains_L5 (ru : Nat → Int32) (dn : Nat) (kd : Nat → Int32) (ld : Nat → Int32) (tm : Nat → Int32) (pk : Nat → Int32) (ts : Nat → Int32) (st : Int32) (t : Int32) : Nat → Int32 → Nat → Int32
  | 0, vv, k => 0
  | n + 1, vv, k => (if (nI dn) ≤ (nI k) then vv else sX6_drains_L5 ru dn kd ld tm pk ts st t n (vv + (if ((st >>> ((nI k) &&& 31)) &&& 1) = 1 then sX6_drainOf ru kd ld tm pk ts (nI k) t else (0 : Int32))) (k + 1))
def sX6_drains (ru : Nat → Int32) (dn : Nat) (kd : Nat → Int32) (ld : Nat → Int32) (tm : Nat → Int32) (pk : Nat → Int32) (ts : Nat → Int32) (st : Int32) (t : Int32) : Int32 := sX6_drains_L5 ru dn kd ld tm pk ts st t 9 0 0
set_option maxHeartbeats 4000000 in
set_option maxRecDepth 100000 in
theorem kX6_drains (l : Launch) (dC : Nat → ClassId) (dI : Nat → Nat → Nat) (cI cQ cZ : ClassId) (ad : Nat → Nat) (th : Int32) (tr : Int64) (ru : Nat → Int32) (sh : Nat → Int32) (sn : Int32) (se : Nat → Int32) (dn : Nat) (kd : Nat → Int32) (ld : Nat → Int32) (tm : Nat → Int32) (pk : Nat → Int32) (ts : Nat → Int32) (wo : Nat → Int32) (io : Nat → Int32) (sg : Nat) (sd : Nat → Int32) (sl : Nat → Int32) (lv : Nat → Int32) (mt : Nat → Int32) (st : Int32) (t : Int32) (hI : mOk ru sh sn se dn sg sd) : Met l yX6_drains wsX6_drains rX6_drains (va_Pc [.ref (ad 0), .int st, .int t] (cd_rp dC dI cI cQ cZ (wMd cI cZ ad th tr ru sh sn se dn kd ld tm pk ts wo io sg sd sl lv mt))) (vp_Si (fun r => r = sX6_drains ru dn kd ld tm pk ts st t)) 0 0 (fun _ => False) := by
  have hiX6 : ∀ w ∈ u_ws RX6 TX6 19, w ∈ wsX6_drains := by decide +kernel
  generalize hex : sX6_drains ru dn kd ld tm pk ts st t = ex
  unfold sX6_drains at hex
  refine cd_mRi [.ref (ad 0), .int st, .int t] (by decide) rfl (Nat.le_of_ble_eq_true rfl) ?_
  intro Q p e s m args below meth c ls hx hb hml hown hts hret ⟨hK, hP⟩ hl
  have hl : lv_has ls 5 [(0, .ref (ad 0)), (1, .int st), (2, .int t)] := hl
  have hdn : dn ≤ 8 := hI.2.2.2.1
  have hsg : sg ≤ 12 := hI.2.2.2.2.1
  refine lv_iconst (v := 0) hx hb dX6_drains_0 (by decide) ?_
  refine lv_istore_n (lv' := [(3, .int 0), (0, .ref (ad 0)), (1, .int st), (2, .int t)]) hx hb dX6_drains_1 rfl hl (by decide) rfl (fun ls hl => ?_)
  refine lv_iconst (v := 0) hx hb dX6_drains_2 (by decide) ?_
  refine lv_istore (lv' := [(4, .int 0), (3, .int 0), (0, .ref (ad 0)), (1, .int st), (2, .int t)]) hx hb dX6_drains_3 hl (by decide) rfl (fun ls hl => ?_)
  have L5 : ∀ (n : Nat) (vv : Int32) (k : Nat), (k ≤ 8) → 8 - k < n → sX6_drains_L5 ru dn kd ld tm pk ts st t n vv k = ex → ∀ (ls : Array Slot), lv_has ls 5 [(4, .int (nI k)), (3, .int vv), (0, .ref (ad 0)), (1, .int st), (2, .int t)] → W p l e rX6_drains s m args below meth c s.heap [] 0 0 Q (F0 m 5 ls []) := by
    intro n
    induction n with
    | zero => intro vv k hk hm; exact absurd hm (Nat.not_lt_zero _)
    | succ n ih =>
      intro vv k hk hm hex ls hl
      rw [sX6_drains_L5] at hex
      refine lv_iload hx hb dX6_drains_5 (lv_at hl 0 rfl) ?_
      refine lv_aload_n hx hb dX6_drains_7 rfl (lv_at hl 2 rfl) ?_
      refine va_get (D := (dC, dI)) (ci := 6) (v := .int (nI dn)) (C := RX6) (T := TX6) (N := 19) hx hb hts hiX6 hown hK.1 hP 0 rfl rfl 6 (by decide) (hts (.fieldLink RX6 72 "CellDaysModel" "duties" "I") (by decide +kernel)) (fun _ h9 => h9) rfl dX6_drains_8 ?_
      refine lv_icmp_ge (tgt := 44) hx hb dX6_drains_11 (by decide) (fun c_1 => ?_) (fun c_1 => ?_)
      · rw [if_pos c_1] at hex
        try have n_1 : dn ≤ k := (nI_leI (a := dn) (b := k) (by omega) (by omega)).mp c_1
        refine lv_iload_n hx hb dX6_drains_44 rfl (lv_at hl 1 rfl) ?_
        subst hex
        exact hret _ _ dX6_drains_45
      · rw [if_neg c_1] at hex
        try have n_1 : ¬ dn ≤ k := fun h9 => c_1 ((nI_leI (a := dn) (b := k) (by omega) (by omega)).mpr h9)
        refine lv_iload_n hx hb dX6_drains_14 rfl (lv_at hl 1 rfl) ?_
        refine lv_iload_n hx hb dX6_drains_15 rfl (lv_at hl 3 rfl) ?_
        refine lv_iload hx hb dX6_drains_16 (lv_at hl 0 rfl) ?_
        refine lv_ishr hx hb dX6_drains_18 ?_
        refine lv_iconst (v := 1) hx hb dX6_drains_19 (by decide) ?_
        refine lv_iand hx hb dX6_drains_20 ?_
        refine lv_iconst (v := 1) hx hb dX6_drains_21 (by decide) ?_
        have J_2 : W p l e rX6_drains s m args below meth c s.heap [] 0 0 Q (F0 m 36 ls [.int (if ((st >>> ((nI k) &&& 31)) &&& 1) = 1 then sX6_drainOf ru kd ld tm pk ts (nI k) t else (0 : Int32)), .int vv]) := by
          refine lv_iadd hx hb dX6_drains_36 ?_
          refine lv_istore_n (lv' := [(3, .int (vv + (if ((st >>> ((nI k) &&& 31)) &&& 1) = 1 then sX6_drainOf ru kd ld tm pk ts (nI k) t else (0 : Int32)))), (4, .int (nI k)), (0, .ref (ad 0)), (1, .int st), (2, .int t)]) hx hb dX6_drains_37 rfl hl (by decide) rfl (fun ls hl => ?_)
          refine lv_iinc (v := nI (k + 1)) (lv' := [(4, .int (nI (k + 1))), (3, .int (vv + (if ((st >>> ((nI k) &&& 31)) &&& 1) = 1 then sX6_drainOf ru kd ld tm pk ts (nI k) t else (0 : Int32)))), (0, .ref (ad 0)), (1, .int st), (2, .int t)]) hx hb dX6_drains_38 hl (k := 1) rfl (nI_1 k) (by decide) rfl (fun ls hl => ?_)
          refine lv_goto (tgt := 5) hx hb dX6_drains_41 (by decide) ?_
          exact ih (vv + (if ((st >>> ((nI k) &&& 31)) &&& 1) = 1 then sX6_drainOf ru kd ld tm pk ts (nI k) t else (0 : Int32))) (k + 1) (by omega) (by omega) hex _ (lv_sub hl [0, 1, 2, 3, 4] rfl)
        refine lv_icmp_ne (tgt := 35) hx hb dX6_drains_22 (by decide) (fun c_3 => ?_) (fun c_3 => ?_)
        · skip
          refine lv_iconst (v := 0) hx hb dX6_drains_35 (by decide) ?_
          rw [if_neg c_3] at J_2
          exact J_2
        · skip
          refine lv_aload_n hx hb dX6_drains_25 rfl (lv_at hl 2 rfl) ?_
          refine lv_iload hx hb dX6_drains_26 (lv_at hl 0 rfl) ?_
          refine lv_iload_n hx hb dX6_drains_28 rfl (lv_at hl 4 rfl) ?_
          refine cd_rV (As := [.int (nI k), .int t]) (b := (ad 0)) (ci := 6) (q := (RX6, TX6, 19)) (rest := [.int vv]) ⟨hx, hb, hml, hown, hts⟩ (kX6_drainOf l dC dI cI cQ cZ ad th tr ru sh sn se dn kd ld tm pk ts wo io sg sd sl lv mt (nI k) t (vp_in_nI (by omega) (by omega))) (cwV 2 hts gX6_drains_X6_drainOf rfl rfl rfl (by decide +kernel) ⟨by decide, by decide⟩) hK hP rfl rfl rfl hl.1 rfl (Nat.le_of_ble_eq_true rfl) dX6_drains_29 ⟨by decide, by decide⟩ ?_
          refine lv_goto (tgt := 36) hx hb dX6_drains_32 (by decide) ?_
          rw [if_pos c_3] at J_2
          exact J_2
  exact L5 9 0 0 (by decide) (by decide) hex _ (lv_sub hl [0, 1, 2, 3, 4] rfl)

def rX6_worthOf : Room := { frames := 0, cells := 0, slots := 0, locals := 0 }
def sX6_worthOf_L4 (dn : Nat) (wo : Nat → Int32) (st : Int32) : Nat → Int32 → Nat → Int32
  | 0, vv, k => 0
  | n + 1, vv, k => (if (nI dn) ≤ (nI k) then vv else sX6_worthOf_L4 dn wo st n (vv + (if ((st >>> ((nI k) &&& 31)) &&& 1) = 1 then wo k else (0 : Int32))) (k + 1))
def sX6_worthOf (dn : Nat) (wo : Nat → Int32) (st : Int32) : Int32 := sX6_worthOf_L4 dn wo st 9 0 0
set_option maxHeartbeats 4000000 in
set_option maxRecDepth 100000 in
theorem kX6_worthOf (l : Launch) (dC : Nat → ClassId) (dI : Nat → Nat → Nat) (cI cQ cZ : ClassId) (ad : Nat → Nat) (th : Int32) (tr : Int64) (ru : Nat → Int32) (sh : Nat → Int32) (sn : Int32) (se : Nat → Int32) (dn : Nat) (kd : Nat → Int32) (ld : Nat → Int32) (tm : Nat → Int32) (pk : Nat → Int32) (ts : Nat → Int32) (wo : Nat → Int32) (io : Nat → Int32) (sg : Nat) (sd : Nat → Int32) (sl : Nat → Int32) (lv : Nat → Int32) (mt : Nat → Int32) (st : Int32) (hI : mOk ru sh sn se dn sg sd) : Met l yX6_worthOf wsX6_worthOf rX6_worthOf (va_Pc [.ref (ad 0), .int st] (cd_rp dC dI cI cQ cZ (wMd cI cZ ad th tr ru sh sn se dn kd ld tm pk ts wo io sg sd sl lv mt))) (vp_Si (fun r => r = sX6_worthOf dn wo st)) 0 0 (fun _ => False) := by
  have hiX6 : ∀ w ∈ u_ws RX6 TX6 19, w ∈ wsX6_worthOf := by decide +kernel
  generalize hex : sX6_worthOf dn wo st = ex
  unfold sX6_worthOf at hex
  refine cd_mRi [.ref (ad 0), .int st] (by decide) rfl (Nat.le_of_ble_eq_true rfl) ?_
  intro Q p e s m args below meth c ls hx hb hml hown hts hret ⟨hK, hP⟩ hl
  have hl : lv_has ls 4 [(0, .ref (ad 0)), (1, .int st)] := hl
  have hdn : dn ≤ 8 := hI.2.2.2.1
  have hsg : sg ≤ 12 := hI.2.2.2.2.1
  refine lv_iconst (v := 0) hx hb dX6_worthOf_0 (by decide) ?_
  refine lv_istore_n (lv' := [(2, .int 0), (0, .ref (ad 0)), (1, .int st)]) hx hb dX6_worthOf_1 rfl hl (by decide) rfl (fun ls hl => ?_)
  refine lv_iconst (v := 0) hx hb dX6_worthOf_2 (by decide) ?_
  refine lv_istore_n (lv' := [(3, .int 0), (2, .int 0), (0, .ref (ad 0)), (1, .int st)]) hx hb dX6_worthOf_3 rfl hl (by decide) rfl (fun ls hl => ?_)
  have L4 : ∀ (n : Nat) (vv : Int32) (k : Nat), (k ≤ 8) → 8 - k < n → sX6_worthOf_L4 dn wo st n vv k = ex → ∀ (ls : Array Slot), lv_has ls 4 [(3, .int (nI k)), (2, .int vv), (0, .ref (ad 0)), (1, .int st)] → W p l e rX6_worthOf s m args below meth c s.heap [] 0 0 Q (F0 m 4 ls []) := by
    intro n
    induction n with
    | zero => intro vv k hk hm; exact absurd hm (Nat.not_lt_zero _)
    | succ n ih =>
      intro vv k hk hm hex ls hl
      rw [sX6_worthOf_L4] at hex
      refine lv_iload_n hx hb dX6_worthOf_4 rfl (lv_at hl 0 rfl) ?_
      refine lv_aload_n hx hb dX6_worthOf_5 rfl (lv_at hl 2 rfl) ?_
      refine va_get (D := (dC, dI)) (ci := 6) (v := .int (nI dn)) (C := RX6) (T := TX6) (N := 19) hx hb hts hiX6 hown hK.1 hP 0 rfl rfl 6 (by decide) (hts (.fieldLink RX6 72 "CellDaysModel" "duties" "I") (by decide +kernel)) (fun _ h9 => h9) rfl dX6_worthOf_6 ?_
      refine lv_icmp_ge (tgt := 40) hx hb dX6_worthOf_9 (by decide) (fun c_1 => ?_) (fun c_1 => ?_)
      · rw [if_pos c_1] at hex
        try have n_1 : dn ≤ k := (nI_leI (a := dn) (b := k) (by omega) (by omega)).mp c_1
        refine lv_iload_n hx hb dX6_worthOf_40 rfl (lv_at hl 1 rfl) ?_
        subst hex
        exact hret _ _ dX6_worthOf_41
      · rw [if_neg c_1] at hex
        try have n_1 : ¬ dn ≤ k := fun h9 => c_1 ((nI_leI (a := dn) (b := k) (by omega) (by omega)).mpr h9)
        refine lv_iload_n hx hb dX6_worthOf_12 rfl (lv_at hl 1 rfl) ?_
        refine lv_iload_n hx hb dX6_worthOf_13 rfl (lv_at hl 3 rfl) ?_
        refine lv_iload_n hx hb dX6_worthOf_14 rfl (lv_at hl 0 rfl) ?_
        refine lv_ishr hx hb dX6_worthOf_15 ?_
        refine lv_iconst (v := 1) hx hb dX6_worthOf_16 (by decide) ?_
        refine lv_iand hx hb dX6_worthOf_17 ?_
        refine lv_iconst (v := 1) hx hb dX6_worthOf_18 (by decide) ?_
        have J_2 : W p l e rX6_worthOf s m args below meth c s.heap [] 0 0 Q (F0 m 32 ls [.int (if ((st >>> ((nI k) &&& 31)) &&& 1) = 1 then wo k else (0 : Int32)), .int vv]) := by
          refine lv_iadd hx hb dX6_worthOf_32 ?_
          refine lv_istore_n (lv' := [(2, .int (vv + (if ((st >>> ((nI k) &&& 31)) &&& 1) = 1 then wo k else (0 : Int32)))), (3, .int (nI k)), (0, .ref (ad 0)), (1, .int st)]) hx hb dX6_worthOf_33 rfl hl (by decide) rfl (fun ls hl => ?_)
          refine lv_iinc (v := nI (k + 1)) (lv' := [(3, .int (nI (k + 1))), (2, .int (vv + (if ((st >>> ((nI k) &&& 31)) &&& 1) = 1 then wo k else (0 : Int32)))), (0, .ref (ad 0)), (1, .int st)]) hx hb dX6_worthOf_34 hl (k := 1) rfl (nI_1 k) (by decide) rfl (fun ls hl => ?_)
          refine lv_goto (tgt := 4) hx hb dX6_worthOf_37 (by decide) ?_
          exact ih (vv + (if ((st >>> ((nI k) &&& 31)) &&& 1) = 1 then wo k else (0 : Int32))) (k + 1) (by omega) (by omega) hex _ (lv_sub hl [0, 1, 2, 3] rfl)
        refine lv_icmp_ne (tgt := 31) hx hb dX6_worthOf_19 (by decide) (fun c_3 => ?_) (fun c_3 => ?_)
        · skip
          refine lv_iconst (v := 0) hx hb dX6_worthOf_31 (by decide) ?_
          rw [if_neg c_3] at J_2
          exact J_2
        · skip
          refine lv_aload_n hx hb dX6_worthOf_22 rfl (lv_at hl 2 rfl) ?_
          refine va_get (D := (dC, dI)) (ci := 6) (v := .ref (ad 9)) (C := RX6) (T := TX6) (N := 19) hx hb hts hiX6 hown hK.1 hP 0 rfl rfl 12 (by decide) (hts (.fieldLink RX6 38 "CellDaysModel" "worth" "[I") (by decide +kernel)) (fun _ h9 => h9) rfl dX6_worthOf_23 ?_
          refine lv_iload_n hx hb dX6_worthOf_26 rfl (lv_at hl 0 rfl) ?_
          refine va_iald hx hb hK.1 hP 9 0 rfl rfl (vp_in_nI (n := k) (N := 8) (by omega) (by omega)) dX6_worthOf_27 ?_
          refine W.eq (g2 := F0 m 28 ls [.int (wo k), .int vv]) (by rw [nI_clamp (show k < 2 ^ 31 by omega)]) ?_
          refine lv_goto (tgt := 32) hx hb dX6_worthOf_28 (by decide) ?_
          rw [if_pos c_3] at J_2
          exact J_2
  exact L4 9 0 0 (by decide) (by decide) hex _ (lv_sub hl [0, 1, 2, 3] rfl)

def rX6_up : Room := { frames := 0, cells := 0, slots := 0, locals := 0 }
def sX6_up (v : Int32) (by0 : Int32) : Int32 := (((v + by0) - 1) / by0)
set_option maxHeartbeats 4000000 in
set_option maxRecDepth 100000 in
theorem kX6_up (l : Launch) (dC : Nat → ClassId) (dI : Nat → Nat → Nat) (cI cQ cZ : ClassId) (v : Int32) (by0 : Int32) (hby : ¬ by0 = 0) : Met l yX6_up wsX6_up rX6_up (va_Pc [.int v, .int by0] (cd_rp dC dI cI cQ cZ [])) (vp_Si (fun r => r = sX6_up v by0)) 0 0 (fun _ => False) := by
  generalize hex : sX6_up v by0 = ex
  unfold sX6_up at hex
  refine cd_mRi [.int v, .int by0] (by decide) rfl (Nat.le_of_ble_eq_true rfl) ?_
  intro Q p e s m args below meth c ls hx hb hml hown hts hret ⟨hK, hP⟩ hl
  have hl : lv_has ls 2 [(0, .int v), (1, .int by0)] := hl
  refine lv_iload_n hx hb dX6_up_0 rfl (lv_at hl 0 rfl) ?_
  refine lv_iload_n hx hb dX6_up_1 rfl (lv_at hl 1 rfl) ?_
  refine lv_iadd hx hb dX6_up_2 ?_
  refine lv_iconst (v := 1) hx hb dX6_up_3 (by decide) ?_
  refine lv_isub hx hb dX6_up_4 ?_
  refine lv_iload_n hx hb dX6_up_5 rfl (lv_at hl 1 rfl) ?_
  refine lv_idiv hx hb dX6_up_6 (by assumption) ?_
  subst hex
  exact hret _ _ dX6_up_7

def rX6_behind : Room := { frames := 1, cells := 0, slots := 0, locals := 21 }
def sX6_behind (sh : Nat → Int32) (sn : Int32) (se : Nat → Int32) (cg : Int32) (dd : Int32) (le : Int32) (sm : Int32) : Int32 := ((cg - (sX6_up (cg * le) 1000)) - (sX6_up (100 * sm) (sX6_shareOf sh sn se dd)))
set_option maxHeartbeats 4000000 in
set_option maxRecDepth 100000 in
theorem kX6_behind (l : Launch) (dC : Nat → ClassId) (dI : Nat → Nat → Nat) (cI cQ cZ : ClassId) (ad : Nat → Nat) (th : Int32) (tr : Int64) (ru : Nat → Int32) (sh : Nat → Int32) (sn : Int32) (se : Nat → Int32) (dn : Nat) (kd : Nat → Int32) (ld : Nat → Int32) (tm : Nat → Int32) (pk : Nat → Int32) (ts : Nat → Int32) (wo : Nat → Int32) (io : Nat → Int32) (sg : Nat) (sd : Nat → Int32) (sl : Nat → Int32) (lv : Nat → Int32) (mt : Nat → Int32) (cg : Int32) (dd : Int32) (le : Int32) (sm : Int32) (hI : mOk ru sh sn se dn sg sd) (hdd : 0 ≤ dd.toInt) : Met l yX6_behind wsX6_behind rX6_behind (va_Pc [.ref (ad 0), .int cg, .int dd, .int le, .int sm] (cd_rp dC dI cI cQ cZ (wMd cI cZ ad th tr ru sh sn se dn kd ld tm pk ts wo io sg sd sl lv mt))) (vp_Si (fun r => r = sX6_behind sh sn se cg dd le sm)) 0 0 (fun _ => False) := by
  generalize hex : sX6_behind sh sn se cg dd le sm = ex
  unfold sX6_behind at hex
  refine cd_mRi [.ref (ad 0), .int cg, .int dd, .int le, .int sm] (by decide) rfl (Nat.le_of_ble_eq_true rfl) ?_
  intro Q p e s m args below meth c ls hx hb hml hown hts hret ⟨hK, hP⟩ hl
  have hl : lv_has ls 5 [(0, .ref (ad 0)), (1, .int cg), (2, .int dd), (3, .int le), (4, .int sm)] := hl
  have hdn : dn ≤ 8 := hI.2.2.2.1
  have hsg : sg ≤ 12 := hI.2.2.2.2.1
  refine lv_iload_n hx hb dX6_behind_0 rfl (lv_at hl 1 rfl) ?_
  refine lv_iload_n hx hb dX6_behind_1 rfl (lv_at hl 1 rfl) ?_
  refine lv_iload_n hx hb dX6_behind_2 rfl (lv_at hl 3 rfl) ?_
  refine lv_imul hx hb dX6_behind_3 ?_
  refine lv_sipush (v := 1000) hx hb dX6_behind_4 (by decide) ?_
  refine cd_rS (As := [.int (cg * le), .int 1000]) (rest := [.int cg]) ⟨hx, hb, hml, hown, hts⟩ (kX6_up l dC dI cI cQ cZ (cg * le) 1000 (by decide)) (va_cwS 2 hts gX6_behind_X6_up rfl rfl rfl (by decide +kernel) ⟨by decide, by decide⟩) hK cd_P0 rfl hl.1 rfl (Nat.le_of_ble_eq_true rfl) dX6_behind_7 ⟨by decide, by decide⟩ ?_
  refine lv_isub hx hb dX6_behind_10 ?_
  refine lv_bipush (v := 100) hx hb dX6_behind_11 (by decide) ?_
  refine lv_iload hx hb dX6_behind_13 (lv_at hl 4 rfl) ?_
  refine lv_imul hx hb dX6_behind_15 ?_
  refine lv_aload_n hx hb dX6_behind_16 rfl (lv_at hl 0 rfl) ?_
  refine lv_iload_n hx hb dX6_behind_17 rfl (lv_at hl 2 rfl) ?_
  refine cd_rV (As := [.int dd]) (b := (ad 0)) (ci := 6) (q := (RX6, TX6, 19)) (rest := [.int (100 * sm), .int (cg - (sX6_up (cg * le) 1000))]) ⟨hx, hb, hml, hown, hts⟩ (kX6_shareOf l dC dI cI cQ cZ ad th tr ru sh sn se dn kd ld tm pk ts wo io sg sd sl lv mt dd hI hdd) (cwV 1 hts gX6_behind_X6_shareOf rfl rfl rfl (by decide +kernel) ⟨by decide, by decide⟩) hK hP rfl rfl rfl hl.1 rfl (Nat.le_of_ble_eq_true rfl) dX6_behind_18 ⟨by decide, by decide⟩ ?_
  refine cd_rS (As := [.int (100 * sm), .int (sX6_shareOf sh sn se dd)]) (rest := [.int (cg - (sX6_up (cg * le) 1000))]) ⟨hx, hb, hml, hown, hts⟩ (kX6_up l dC dI cI cQ cZ (100 * sm) (sX6_shareOf sh sn se dd) (shareOf_ne hI)) (va_cwS 2 hts gX6_behind_X6_up rfl rfl rfl (by decide +kernel) ⟨by decide, by decide⟩) hK cd_P0 rfl hl.1 rfl (Nat.le_of_ble_eq_true rfl) dX6_behind_21 ⟨by decide, by decide⟩ ?_
  refine lv_isub hx hb dX6_behind_24 ?_
  subst hex
  exact hret _ _ dX6_behind_25

def lmz (cg : Int32) : Nat := if cg < 0 then 0 else 1

def rX6_lifeOf : Room := { frames := 2, cells := 0, slots := 0, locals := 47 }
def sX6_lifeOf_L23 (ru : Nat → Int32) (sh : Nat → Int32) (sn : Int32) (se : Nat → Int32) (mo : Int32) : Nat → Int32 → Int32 → Nat → Int32
  | 0, sm, cg, k => 0
  | n + 1, sm, cg, k => (if mo ≤ (nI k) then (nI k) else (if cg < 0 then (nI k) else (if (sX6_behind sh sn se cg (nI k) (ru 1) sm) < 0 then sX6_lifeOf_L23 ru sh sn se mo n sm (sX6_behind sh sn se cg (nI k) (ru 1) sm) k else sX6_lifeOf_L23 ru sh sn se mo n sm (sX6_behind sh sn se cg (nI k) (ru 1) sm) (k + 1))))
def sX6_lifeOf (ru : Nat → Int32) (sh : Nat → Int32) (sn : Int32) (se : Nat → Int32) (dn : Nat) (kd : Nat → Int32) (ld : Nat → Int32) (tm : Nat → Int32) (pk : Nat → Int32) (ts : Nat → Int32) (st : Int32) (t : Int32) (mo : Int32) : Int32 := sX6_lifeOf_L23 ru sh sn se mo 402 (sX6_drains ru dn kd ld tm pk ts st t) (1000 * (ru 0)) 0
set_option maxHeartbeats 4000000 in
set_option maxRecDepth 100000 in
theorem kX6_lifeOf (l : Launch) (dC : Nat → ClassId) (dI : Nat → Nat → Nat) (cI cQ cZ : ClassId) (ad : Nat → Nat) (th : Int32) (tr : Int64) (ru : Nat → Int32) (sh : Nat → Int32) (sn : Int32) (se : Nat → Int32) (dn : Nat) (kd : Nat → Int32) (ld : Nat → Int32) (tm : Nat → Int32) (pk : Nat → Int32) (ts : Nat → Int32) (wo : Nat → Int32) (io : Nat → Int32) (sg : Nat) (sd : Nat → Int32) (sl : Nat → Int32) (lv : Nat → Int32) (mt : Nat → Int32) (st : Int32) (t : Int32) (mo : Int32) (hI : mOk ru sh sn se dn sg sd) (hmo : mo.toInt ≤ 400) : Met l yX6_lifeOf wsX6_lifeOf rX6_lifeOf (va_Pc [.ref (ad 0), .int st, .int t, .int mo] (cd_rp dC dI cI cQ cZ (wMd cI cZ ad th tr ru sh sn se dn kd ld tm pk ts wo io sg sd sl lv mt))) (vp_Si (fun r => r = sX6_lifeOf ru sh sn se dn kd ld tm pk ts st t mo)) 0 0 (fun _ => False) := by
  have hiX6 : ∀ w ∈ u_ws RX6 TX6 19, w ∈ wsX6_lifeOf := by decide +kernel
  generalize hex : sX6_lifeOf ru sh sn se dn kd ld tm pk ts st t mo = ex
  unfold sX6_lifeOf at hex
  refine cd_mRi [.ref (ad 0), .int st, .int t, .int mo] (by decide) rfl (Nat.le_of_ble_eq_true rfl) ?_
  intro Q p e s m args below meth c ls hx hb hml hown hts hret ⟨hK, hP⟩ hl
  have hl : lv_has ls 7 [(0, .ref (ad 0)), (1, .int st), (2, .int t), (3, .int mo)] := hl
  have hdn : dn ≤ 8 := hI.2.2.2.1
  have hsg : sg ≤ 12 := hI.2.2.2.2.1
  refine lv_aload_n hx hb dX6_lifeOf_0 rfl (lv_at hl 0 rfl) ?_
  refine lv_iload_n hx hb dX6_lifeOf_1 rfl (lv_at hl 1 rfl) ?_
  refine lv_iload_n hx hb dX6_lifeOf_2 rfl (lv_at hl 2 rfl) ?_
  refine cd_rV (As := [.int st, .int t]) (b := (ad 0)) (ci := 6) (q := (RX6, TX6, 19)) (rest := []) ⟨hx, hb, hml, hown, hts⟩ (kX6_drains l dC dI cI cQ cZ ad th tr ru sh sn se dn kd ld tm pk ts wo io sg sd sl lv mt st t hI) (cwV 2 hts gX6_lifeOf_X6_drains rfl rfl rfl (by decide +kernel) ⟨by decide, by decide⟩) hK hP rfl rfl rfl hl.1 rfl (Nat.le_of_ble_eq_true rfl) dX6_lifeOf_3 ⟨by decide, by decide⟩ ?_
  refine lv_istore (lv' := [(4, .int (sX6_drains ru dn kd ld tm pk ts st t)), (0, .ref (ad 0)), (1, .int st), (2, .int t), (3, .int mo)]) hx hb dX6_lifeOf_6 hl (by decide) rfl (fun ls hl => ?_)
  refine lv_sipush (v := 1000) hx hb dX6_lifeOf_8 (by decide) ?_
  refine lv_aload_n hx hb dX6_lifeOf_11 rfl (lv_at hl 1 rfl) ?_
  refine va_get (D := (dC, dI)) (ci := 6) (v := .ref (ad 1)) (C := RX6) (T := TX6) (N := 19) hx hb hts hiX6 hown hK.1 hP 0 rfl rfl 2 (by decide) (hts (.fieldLink RX6 7 "CellDaysModel" "rules" "[I") (by decide +kernel)) (fun _ h9 => h9) rfl dX6_lifeOf_12 ?_
  refine lv_iconst (v := 0) hx hb dX6_lifeOf_15 (by decide) ?_
  refine va_iald hx hb hK.1 hP 1 0 rfl rfl (vp_in_nI (n := 0) (N := 3) (by decide) (by decide)) dX6_lifeOf_16 ?_
  refine W.eq (g2 := F0 m 17 ls [.int (ru 0), .int 1000]) (rfl) ?_
  refine lv_imul hx hb dX6_lifeOf_17 ?_
  refine lv_istore (lv' := [(5, .int (1000 * (ru 0))), (4, .int (sX6_drains ru dn kd ld tm pk ts st t)), (0, .ref (ad 0)), (1, .int st), (2, .int t), (3, .int mo)]) hx hb dX6_lifeOf_18 hl (by decide) rfl (fun ls hl => ?_)
  refine lv_iconst (v := 0) hx hb dX6_lifeOf_20 (by decide) ?_
  refine lv_istore (lv' := [(6, .int 0), (5, .int (1000 * (ru 0))), (4, .int (sX6_drains ru dn kd ld tm pk ts st t)), (0, .ref (ad 0)), (1, .int st), (2, .int t), (3, .int mo)]) hx hb dX6_lifeOf_21 hl (by decide) rfl (fun ls hl => ?_)
  have L23 : ∀ (n : Nat) (sm : Int32) (cg : Int32) (k : Nat), (k ≤ 400) → (400 - k) + lmz cg < n → sX6_lifeOf_L23 ru sh sn se mo n sm cg k = ex → ∀ (ls : Array Slot), lv_has ls 7 [(6, .int (nI k)), (5, .int cg), (4, .int sm), (0, .ref (ad 0)), (1, .int st), (2, .int t), (3, .int mo)] → W p l e rX6_lifeOf s m args below meth c s.heap [] 0 0 Q (F0 m 23 ls []) := by
    intro n
    induction n with
    | zero => intro sm cg k hk hm; exact absurd hm (Nat.not_lt_zero _)
    | succ n ih =>
      intro sm cg k hk hm hex ls hl
      rw [sX6_lifeOf_L23] at hex
      refine lv_iload hx hb dX6_lifeOf_23 (lv_at hl 0 rfl) ?_
      refine lv_iload_n hx hb dX6_lifeOf_25 rfl (lv_at hl 6 rfl) ?_
      refine lv_icmp_ge (tgt := 70) hx hb dX6_lifeOf_26 (by decide) (fun c_1 => ?_) (fun c_1 => ?_)
      · rw [if_pos c_1] at hex
        refine lv_iload hx hb dX6_lifeOf_70 (lv_at hl 0 rfl) ?_
        subst hex
        exact hret _ _ dX6_lifeOf_72
      · rw [if_neg c_1] at hex
        refine lv_iload hx hb dX6_lifeOf_29 (lv_at hl 1 rfl) ?_
        refine lv_if_lt (tgt := 70) hx hb dX6_lifeOf_31 (by decide) (fun c_2 => ?_) (fun c_2 => ?_)
        · rw [if_pos c_2] at hex
          refine lv_iload hx hb dX6_lifeOf_70 (lv_at hl 0 rfl) ?_
          subst hex
          exact hret _ _ dX6_lifeOf_72
        · rw [if_neg c_2] at hex
          refine lv_aload_n hx hb dX6_lifeOf_34 rfl (lv_at hl 3 rfl) ?_
          refine lv_iload hx hb dX6_lifeOf_35 (lv_at hl 1 rfl) ?_
          refine lv_iload hx hb dX6_lifeOf_37 (lv_at hl 0 rfl) ?_
          refine lv_aload_n hx hb dX6_lifeOf_39 rfl (lv_at hl 3 rfl) ?_
          refine va_get (D := (dC, dI)) (ci := 6) (v := .ref (ad 1)) (C := RX6) (T := TX6) (N := 19) hx hb hts hiX6 hown hK.1 hP 0 rfl rfl 2 (by decide) (hts (.fieldLink RX6 7 "CellDaysModel" "rules" "[I") (by decide +kernel)) (fun _ h9 => h9) rfl dX6_lifeOf_40 ?_
          refine lv_iconst (v := 1) hx hb dX6_lifeOf_43 (by decide) ?_
          refine va_iald hx hb hK.1 hP 1 0 rfl rfl (vp_in_nI (n := 1) (N := 3) (by decide) (by decide)) dX6_lifeOf_44 ?_
          refine W.eq (g2 := F0 m 45 ls [.int (ru 1), .int (nI k), .int cg, .ref (ad 0)]) (rfl) ?_
          refine lv_iload hx hb dX6_lifeOf_45 (lv_at hl 2 rfl) ?_
          refine cd_rV (As := [.int cg, .int (nI k), .int (ru 1), .int sm]) (b := (ad 0)) (ci := 6) (q := (RX6, TX6, 19)) (rest := []) ⟨hx, hb, hml, hown, hts⟩ (kX6_behind l dC dI cI cQ cZ ad th tr ru sh sn se dn kd ld tm pk ts wo io sg sd sl lv mt cg (nI k) (ru 1) sm hI (nI_nn _ (by omega))) (cwV 4 hts gX6_lifeOf_X6_behind rfl rfl rfl (by decide +kernel) ⟨by decide, by decide⟩) hK hP rfl rfl rfl hl.1 rfl (Nat.le_of_ble_eq_true rfl) dX6_lifeOf_47 ⟨by decide, by decide⟩ ?_
          refine lv_istore (lv' := [(5, .int (sX6_behind sh sn se cg (nI k) (ru 1) sm)), (6, .int (nI k)), (4, .int sm), (0, .ref (ad 0)), (1, .int st), (2, .int t), (3, .int mo)]) hx hb dX6_lifeOf_50 hl (by decide) rfl (fun ls hl => ?_)
          refine lv_iload hx hb dX6_lifeOf_52 (lv_at hl 1 rfl) ?_
          refine lv_iload hx hb dX6_lifeOf_54 (lv_at hl 0 rfl) ?_
          refine lv_if_lt (tgt := 63) hx hb dX6_lifeOf_56 (by decide) (fun c_3 => ?_) (fun c_3 => ?_)
          · rw [if_pos c_3] at hex
            refine lv_iconst (v := 0) hx hb dX6_lifeOf_63 (by decide) ?_
            refine lv_iadd hx hb dX6_lifeOf_64 ?_
            refine W.eq (g2 := F0 m 65 ls [.int (nI k)]) (by rw [cd_add0]) ?_
            refine lv_istore (lv' := [(6, .int (nI k)), (5, .int (sX6_behind sh sn se cg (nI k) (ru 1) sm)), (4, .int sm), (0, .ref (ad 0)), (1, .int st), (2, .int t), (3, .int mo)]) hx hb dX6_lifeOf_65 hl (by decide) rfl (fun ls hl => ?_)
            refine lv_goto (tgt := 23) hx hb dX6_lifeOf_67 (by decide) ?_
            exact ih sm (sX6_behind sh sn se cg (nI k) (ru 1) sm) k (by have h7 := lt12 (N := 400) (by decide) hmo c_1 (by omega); omega) (by have h7 := lt12 (N := 400) (by decide) hmo c_1 (by omega); unfold lmz at hm ⊢; split at hm <;> split <;> first | omega | contradiction) hex _ (lv_sub hl [0, 1, 2, 3, 4, 5, 6] rfl)
          · rw [if_neg c_3] at hex
            refine lv_iconst (v := 1) hx hb dX6_lifeOf_59 (by decide) ?_
            refine lv_goto (tgt := 64) hx hb dX6_lifeOf_60 (by decide) ?_
            refine lv_iadd hx hb dX6_lifeOf_64 ?_
            refine W.eq (g2 := F0 m 65 ls [.int (nI (k + 1))]) (by rw [nI_1]) ?_
            refine lv_istore (lv' := [(6, .int (nI (k + 1))), (5, .int (sX6_behind sh sn se cg (nI k) (ru 1) sm)), (4, .int sm), (0, .ref (ad 0)), (1, .int st), (2, .int t), (3, .int mo)]) hx hb dX6_lifeOf_65 hl (by decide) rfl (fun ls hl => ?_)
            refine lv_goto (tgt := 23) hx hb dX6_lifeOf_67 (by decide) ?_
            exact ih sm (sX6_behind sh sn se cg (nI k) (ru 1) sm) (k + 1) (by have h7 := lt12 (N := 400) (by decide) hmo c_1 (by omega); omega) (by have h7 := lt12 (N := 400) (by decide) hmo c_1 (by omega); unfold lmz at hm ⊢; split at hm <;> split <;> first | omega | contradiction) hex _ (lv_sub hl [0, 1, 2, 3, 4, 5, 6] rfl)
  exact L23 402 (sX6_drains ru dn kd ld tm pk ts st t) (1000 * (ru 0)) 0 (by decide) (by unfold lmz; split <;> omega) hex _ (lv_sub hl [0, 1, 2, 3, 4, 5, 6] rfl)

def rX6_life : Room := { frames := 3, cells := 0, slots := 0, locals := 73 }
def sX6_life (ru : Nat → Int32) (sh : Nat → Int32) (sn : Int32) (se : Nat → Int32) (dn : Nat) (kd : Nat → Int32) (ld : Nat → Int32) (tm : Nat → Int32) (pk : Nat → Int32) (ts : Nat → Int32) (io : Nat → Int32) (t : Int32) : Int32 × (Int32) := (if (sX6_isTries t) = 0 then ((-1), 0) else (sX6_lifeOf ru sh sn se dn kd ld tm pk ts (sX6_bits dn io) t 400, 0))
set_option maxHeartbeats 4000000 in
set_option maxRecDepth 100000 in
theorem kX6_life (l : Launch) (dC : Nat → ClassId) (dI : Nat → Nat → Nat) (cI cQ cZ : ClassId) (ad : Nat → Nat) (th : Int32) (tr : Int64) (ru : Nat → Int32) (sh : Nat → Int32) (sn : Int32) (se : Nat → Int32) (dn : Nat) (kd : Nat → Int32) (ld : Nat → Int32) (tm : Nat → Int32) (pk : Nat → Int32) (ts : Nat → Int32) (wo : Nat → Int32) (io : Nat → Int32) (sg : Nat) (sd : Nat → Int32) (sl : Nat → Int32) (lv : Nat → Int32) (mt : Nat → Int32) (t : Int32) (sz : Nat) (hI : mOk ru sh sn se dn sg sd) : Met l yX6_life wsX6_life rX6_life (va_Pc [.ref (ad 0), .int t] (cd_pre dC dI cI cQ cZ (wMd cI cZ ad th tr ru sh sn se dn kd ld tm pk ts wo io sg sd sl lv mt) sz)) (va_Qi (fun r _ => r = (sX6_life ru sh sn se dn kd ld tm pk ts io t).1) (cd_post dC dI (wMd cI cZ ad th tr ru sh sn se dn kd ld tm pk ts wo io sg sd sl lv mt) (wMd cI cZ ad ((sX6_life ru sh sn se dn kd ld tm pk ts io t).2) tr ru sh sn se dn kd ld tm pk ts wo io sg sd sl lv mt) sz) (va_A (wMd cI cZ ad th tr ru sh sn se dn kd ld tm pk ts wo io sg sd sl lv mt) sz)) 0 0 (va_A (wMd cI cZ ad th tr ru sh sn se dn kd ld tm pk ts wo io sg sd sl lv mt) sz) := by
  have hiX6 : ∀ w ∈ u_ws RX6 TX6 19, w ∈ wsX6_life := by decide +kernel
  generalize hex : sX6_life ru sh sn se dn kd ld tm pk ts io t = ex
  unfold sX6_life at hex
  refine cd_mMi [.ref (ad 0), .int t] (by decide) rfl (Nat.le_of_ble_eq_true rfl) ?_
  intro Q A p e s m args below meth c ls hx hb hml hown hts hA hret hK hP hD hS hl
  have hl : lv_has ls 2 [(0, .ref (ad 0)), (1, .int t)] := hl
  have hdn : dn ≤ 8 := hI.2.2.2.1
  have hsg : sg ≤ 12 := hI.2.2.2.2.1
  refine lv_aload_n hx hb dX6_life_0 rfl (lv_at hl 0 rfl) ?_
  refine lv_iconst (v := 0) hx hb dX6_life_1 (by decide) ?_
  refine va_put (D := (dC, dI)) (ci := 6) (v := .int 0) (ty := .int) (C := RX6) (T := TX6) (N := 19) hx hb hts hiX6 tyX6 tyX6_ok nmX6 hown hK.1 hP hD hS 0 rfl rfl 0 (by decide) (hts (.fieldLink RX6 57 "CellDaysModel" "thrown" "I") (by decide +kernel)) (fun _ h9 => h9) rfl (by decide +kernel) (rfl) (rfl) (Nat.le_of_ble_eq_true rfl) dX6_life_2 (fun H locs hP hD hS => ?_)
  have hP : va_P (dC, dI) vwCl (wMd cI cZ ad 0 tr ru sh sn se dn kd ld tm pk ts wo io sg sd sl lv mt) H := hP
  have hD : va_D A (wMd cI cZ ad 0 tr ru sh sn se dn kd ld tm pk ts wo io sg sd sl lv mt) := hD
  refine lv_iload_n hx hb dX6_life_5 rfl (lv_at hl 1 rfl) ?_
  refine cd_rS (As := [.int t]) (rest := []) ⟨hx, hb, hml, hown, hts⟩ (kX6_isTries l dC dI cI cQ cZ t) (va_cwS 1 hts gX6_life_X6_isTries rfl rfl rfl (by decide +kernel) ⟨by decide, by decide⟩) hK cd_P0 rfl hl.1 rfl (Nat.le_of_ble_eq_true rfl) dX6_life_6 ⟨by decide, by decide⟩ ?_
  refine lv_if_eq (tgt := 27) hx hb dX6_life_9 (by decide) (fun c_1 => ?_) (fun c_1 => ?_)
  · rw [if_pos c_1] at hex
    refine lv_iconst (v := (-1)) hx hb dX6_life_27 (by decide) ?_
    subst hex
    exact hret _ _ _ _ dX6_life_28 hP hD hS
  · rw [if_neg c_1] at hex
    refine lv_aload_n hx hb dX6_life_12 rfl (lv_at hl 0 rfl) ?_
    refine lv_aload_n hx hb dX6_life_13 rfl (lv_at hl 0 rfl) ?_
    refine cd_rV (As := []) (b := (ad 0)) (ci := 6) (q := (RX6, TX6, 19)) (rest := [.ref (ad 0)]) ⟨hx, hb, hml, hown, hts⟩ (kX6_bits l dC dI cI cQ cZ ad 0 tr ru sh sn se dn kd ld tm pk ts wo io sg sd sl lv mt hI) (cwV 0 hts gX6_life_X6_bits rfl rfl rfl (by decide +kernel) ⟨by decide, by decide⟩) hK hP rfl rfl rfl hl.1 rfl (Nat.le_of_ble_eq_true rfl) dX6_life_14 ⟨by decide, by decide⟩ ?_
    refine lv_iload_n hx hb dX6_life_17 rfl (lv_at hl 1 rfl) ?_
    refine lv_sipush (v := 400) hx hb dX6_life_18 (by decide) ?_
    refine cd_rV (As := [.int (sX6_bits dn io), .int t, .int 400]) (b := (ad 0)) (ci := 6) (q := (RX6, TX6, 19)) (rest := []) ⟨hx, hb, hml, hown, hts⟩ (kX6_lifeOf l dC dI cI cQ cZ ad 0 tr ru sh sn se dn kd ld tm pk ts wo io sg sd sl lv mt (sX6_bits dn io) t 400 hI (by decide)) (cwV 3 hts gX6_life_X6_lifeOf rfl rfl rfl (by decide +kernel) ⟨by decide, by decide⟩) hK hP rfl rfl rfl hl.1 rfl (Nat.le_of_ble_eq_true rfl) dX6_life_21 ⟨by decide, by decide⟩ ?_
    refine lv_goto (tgt := 28) hx hb dX6_life_24 (by decide) ?_
    subst hex
    exact hret _ _ _ _ dX6_life_28 hP hD hS

def rX6_charge : Room := { frames := 2, cells := 0, slots := 0, locals := 47 }
def sX6_charge_L46 (ru : Nat → Int32) (sh : Nat → Int32) (sn : Int32) (se : Nat → Int32) (dd : Int32) : Nat → Int32 → Int32 → Nat → Int32 × (Int32)
  | 0, sm, cg, k => (0, 0)
  | n + 1, sm, cg, k => (if dd < (nI k) then (if 0 ≤ cg then (cg, 0) else (0, 0)) else (if cg < 0 then (if 0 ≤ cg then (cg, 0) else (0, 0)) else sX6_charge_L46 ru sh sn se dd n sm (sX6_behind sh sn se cg (nI k) (ru 1) sm) (k + 1)))
def sX6_charge (ru : Nat → Int32) (sh : Nat → Int32) (sn : Int32) (se : Nat → Int32) (dn : Nat) (kd : Nat → Int32) (ld : Nat → Int32) (tm : Nat → Int32) (pk : Nat → Int32) (ts : Nat → Int32) (io : Nat → Int32) (dd : Int32) (t : Int32) : Int32 × (Int32) := (if (sX6_isDay dd) = 0 then ((-1), 0) else (if (sX6_isTries t) = 0 then ((-1), 0) else sX6_charge_L46 ru sh sn se dd 401 (sX6_drains ru dn kd ld tm pk ts (sX6_bits dn io) t) (1000 * (ru 0)) 0))
set_option maxHeartbeats 4000000 in
set_option maxRecDepth 100000 in
theorem kX6_charge (l : Launch) (dC : Nat → ClassId) (dI : Nat → Nat → Nat) (cI cQ cZ : ClassId) (ad : Nat → Nat) (th : Int32) (tr : Int64) (ru : Nat → Int32) (sh : Nat → Int32) (sn : Int32) (se : Nat → Int32) (dn : Nat) (kd : Nat → Int32) (ld : Nat → Int32) (tm : Nat → Int32) (pk : Nat → Int32) (ts : Nat → Int32) (wo : Nat → Int32) (io : Nat → Int32) (sg : Nat) (sd : Nat → Int32) (sl : Nat → Int32) (lv : Nat → Int32) (mt : Nat → Int32) (dd : Int32) (t : Int32) (sz : Nat) (hI : mOk ru sh sn se dn sg sd) : Met l yX6_charge wsX6_charge rX6_charge (va_Pc [.ref (ad 0), .int dd, .int t] (cd_pre dC dI cI cQ cZ (wMd cI cZ ad th tr ru sh sn se dn kd ld tm pk ts wo io sg sd sl lv mt) sz)) (va_Qi (fun r _ => r = (sX6_charge ru sh sn se dn kd ld tm pk ts io dd t).1) (cd_post dC dI (wMd cI cZ ad th tr ru sh sn se dn kd ld tm pk ts wo io sg sd sl lv mt) (wMd cI cZ ad ((sX6_charge ru sh sn se dn kd ld tm pk ts io dd t).2) tr ru sh sn se dn kd ld tm pk ts wo io sg sd sl lv mt) sz) (va_A (wMd cI cZ ad th tr ru sh sn se dn kd ld tm pk ts wo io sg sd sl lv mt) sz)) 0 0 (va_A (wMd cI cZ ad th tr ru sh sn se dn kd ld tm pk ts wo io sg sd sl lv mt) sz) := by
  have hiX6 : ∀ w ∈ u_ws RX6 TX6 19, w ∈ wsX6_charge := by decide +kernel
  generalize hex : sX6_charge ru sh sn se dn kd ld tm pk ts io dd t = ex
  unfold sX6_charge at hex
  refine cd_mMi [.ref (ad 0), .int dd, .int t] (by decide) rfl (Nat.le_of_ble_eq_true rfl) ?_
  intro Q A p e s m args below meth c ls hx hb hml hown hts hA hret hK hP hD hS hl
  have hl : lv_has ls 6 [(0, .ref (ad 0)), (1, .int dd), (2, .int t)] := hl
  have hdn : dn ≤ 8 := hI.2.2.2.1
  have hsg : sg ≤ 12 := hI.2.2.2.2.1
  refine lv_aload_n hx hb dX6_charge_0 rfl (lv_at hl 0 rfl) ?_
  refine lv_iconst (v := 0) hx hb dX6_charge_1 (by decide) ?_
  refine va_put (D := (dC, dI)) (ci := 6) (v := .int 0) (ty := .int) (C := RX6) (T := TX6) (N := 19) hx hb hts hiX6 tyX6 tyX6_ok nmX6 hown hK.1 hP hD hS 0 rfl rfl 0 (by decide) (hts (.fieldLink RX6 57 "CellDaysModel" "thrown" "I") (by decide +kernel)) (fun _ h9 => h9) rfl (by decide +kernel) (rfl) (rfl) (Nat.le_of_ble_eq_true rfl) dX6_charge_2 (fun H locs hP hD hS => ?_)
  have hP : va_P (dC, dI) vwCl (wMd cI cZ ad 0 tr ru sh sn se dn kd ld tm pk ts wo io sg sd sl lv mt) H := hP
  have hD : va_D A (wMd cI cZ ad 0 tr ru sh sn se dn kd ld tm pk ts wo io sg sd sl lv mt) := hD
  refine lv_iload_n hx hb dX6_charge_5 rfl (lv_at hl 1 rfl) ?_
  refine cd_rS (As := [.int dd]) (rest := []) ⟨hx, hb, hml, hown, hts⟩ (kX6_isDay l dC dI cI cQ cZ dd) (va_cwS 1 hts gX6_charge_X6_isDay rfl rfl rfl (by decide +kernel) ⟨by decide, by decide⟩) hK cd_P0 rfl hl.1 rfl (Nat.le_of_ble_eq_true rfl) dX6_charge_6 ⟨by decide, by decide⟩ ?_
  refine lv_if_eq (tgt := 19) hx hb dX6_charge_9 (by decide) (fun c_1 => ?_) (fun c_1 => ?_)
  · rw [if_pos c_1] at hex
    refine lv_iconst (v := (-1)) hx hb dX6_charge_19 (by decide) ?_
    subst hex
    exact hret _ _ _ _ dX6_charge_20 hP hD hS
  · rw [if_neg c_1] at hex
    refine lv_iload_n hx hb dX6_charge_12 rfl (lv_at hl 2 rfl) ?_
    refine cd_rS (As := [.int t]) (rest := []) ⟨hx, hb, hml, hown, hts⟩ (kX6_isTries l dC dI cI cQ cZ t) (va_cwS 1 hts gX6_charge_X6_isTries rfl rfl rfl (by decide +kernel) ⟨by decide, by decide⟩) hK cd_P0 rfl hl.1 rfl (Nat.le_of_ble_eq_true rfl) dX6_charge_13 ⟨by decide, by decide⟩ ?_
    refine lv_if_ne (tgt := 21) hx hb dX6_charge_16 (by decide) (fun c_2 => ?_) (fun c_2 => ?_)
    · rw [if_neg c_2] at hex
      refine lv_aload_n hx hb dX6_charge_21 rfl (lv_at hl 0 rfl) ?_
      refine lv_aload_n hx hb dX6_charge_22 rfl (lv_at hl 0 rfl) ?_
      refine cd_rV (As := []) (b := (ad 0)) (ci := 6) (q := (RX6, TX6, 19)) (rest := [.ref (ad 0)]) ⟨hx, hb, hml, hown, hts⟩ (kX6_bits l dC dI cI cQ cZ ad 0 tr ru sh sn se dn kd ld tm pk ts wo io sg sd sl lv mt hI) (cwV 0 hts gX6_charge_X6_bits rfl rfl rfl (by decide +kernel) ⟨by decide, by decide⟩) hK hP rfl rfl rfl hl.1 rfl (Nat.le_of_ble_eq_true rfl) dX6_charge_23 ⟨by decide, by decide⟩ ?_
      refine lv_iload_n hx hb dX6_charge_26 rfl (lv_at hl 2 rfl) ?_
      refine cd_rV (As := [.int (sX6_bits dn io), .int t]) (b := (ad 0)) (ci := 6) (q := (RX6, TX6, 19)) (rest := []) ⟨hx, hb, hml, hown, hts⟩ (kX6_drains l dC dI cI cQ cZ ad 0 tr ru sh sn se dn kd ld tm pk ts wo io sg sd sl lv mt (sX6_bits dn io) t hI) (cwV 2 hts gX6_charge_X6_drains rfl rfl rfl (by decide +kernel) ⟨by decide, by decide⟩) hK hP rfl rfl rfl hl.1 rfl (Nat.le_of_ble_eq_true rfl) dX6_charge_27 ⟨by decide, by decide⟩ ?_
      refine lv_istore_n (lv' := [(3, .int (sX6_drains ru dn kd ld tm pk ts (sX6_bits dn io) t)), (0, .ref (ad 0)), (1, .int dd), (2, .int t)]) hx hb dX6_charge_30 rfl hl (by decide) rfl (fun ls hl => ?_)
      refine lv_sipush (v := 1000) hx hb dX6_charge_31 (by decide) ?_
      refine lv_aload_n hx hb dX6_charge_34 rfl (lv_at hl 1 rfl) ?_
      refine va_get (D := (dC, dI)) (ci := 6) (v := .ref (ad 1)) (C := RX6) (T := TX6) (N := 19) hx hb hts hiX6 hown hK.1 hP 0 rfl rfl 2 (by decide) (hts (.fieldLink RX6 7 "CellDaysModel" "rules" "[I") (by decide +kernel)) (fun _ h9 => h9) rfl dX6_charge_35 ?_
      refine lv_iconst (v := 0) hx hb dX6_charge_38 (by decide) ?_
      refine va_iald hx hb hK.1 hP 1 0 rfl rfl (vp_in_nI (n := 0) (N := 3) (by decide) (by decide)) dX6_charge_39 ?_
      refine W.eq (g2 := F0 m 40 ls [.int (ru 0), .int 1000]) (rfl) ?_
      refine lv_imul hx hb dX6_charge_40 ?_
      refine lv_istore (lv' := [(4, .int (1000 * (ru 0))), (3, .int (sX6_drains ru dn kd ld tm pk ts (sX6_bits dn io) t)), (0, .ref (ad 0)), (1, .int dd), (2, .int t)]) hx hb dX6_charge_41 hl (by decide) rfl (fun ls hl => ?_)
      refine lv_iconst (v := 0) hx hb dX6_charge_43 (by decide) ?_
      refine lv_istore (lv' := [(5, .int 0), (4, .int (1000 * (ru 0))), (3, .int (sX6_drains ru dn kd ld tm pk ts (sX6_bits dn io) t)), (0, .ref (ad 0)), (1, .int dd), (2, .int t)]) hx hb dX6_charge_44 hl (by decide) rfl (fun ls hl => ?_)
      have L46 : ∀ (n : Nat) (sm : Int32) (cg : Int32) (k : Nat), (k ≤ 400) → 400 - k < n → sX6_charge_L46 ru sh sn se dd n sm cg k = ex → ∀ (ls : Array Slot), lv_has ls 6 [(5, .int (nI k)), (4, .int cg), (3, .int sm), (0, .ref (ad 0)), (1, .int dd), (2, .int t)] → W p l e rX6_charge s m args below meth c H locs 0 0 Q (F0 m 46 ls []) := by
        intro n
        induction n with
        | zero => intro sm cg k hk hm; exact absurd hm (Nat.not_lt_zero _)
        | succ n ih =>
          intro sm cg k hk hm hex ls hl
          rw [sX6_charge_L46] at hex
          refine lv_iload hx hb dX6_charge_46 (lv_at hl 0 rfl) ?_
          refine lv_iload_n hx hb dX6_charge_48 rfl (lv_at hl 4 rfl) ?_
          refine lv_icmp_gt (tgt := 80) hx hb dX6_charge_49 (by decide) (fun c_3 => ?_) (fun c_3 => ?_)
          · rw [if_pos c_3] at hex
            refine lv_iload hx hb dX6_charge_80 (lv_at hl 1 rfl) ?_
            refine lv_if_ge (tgt := 89) hx hb dX6_charge_82 (by decide) (fun c_4 => ?_) (fun c_4 => ?_)
            · rw [if_pos c_4] at hex
              refine lv_iload hx hb dX6_charge_89 (lv_at hl 1 rfl) ?_
              subst hex
              exact hret _ _ _ _ dX6_charge_91 hP hD hS
            · rw [if_neg c_4] at hex
              refine lv_iconst (v := 0) hx hb dX6_charge_85 (by decide) ?_
              refine lv_goto (tgt := 91) hx hb dX6_charge_86 (by decide) ?_
              subst hex
              exact hret _ _ _ _ dX6_charge_91 hP hD hS
          · rw [if_neg c_3] at hex
            refine lv_iload hx hb dX6_charge_52 (lv_at hl 1 rfl) ?_
            refine lv_if_lt (tgt := 80) hx hb dX6_charge_54 (by decide) (fun c_5 => ?_) (fun c_5 => ?_)
            · rw [if_pos c_5] at hex
              refine lv_iload hx hb dX6_charge_80 (lv_at hl 1 rfl) ?_
              refine lv_if_ge (tgt := 89) hx hb dX6_charge_82 (by decide) (fun c_6 => ?_) (fun c_6 => ?_)
              · rw [if_pos c_6] at hex
                refine lv_iload hx hb dX6_charge_89 (lv_at hl 1 rfl) ?_
                subst hex
                exact hret _ _ _ _ dX6_charge_91 hP hD hS
              · rw [if_neg c_6] at hex
                refine lv_iconst (v := 0) hx hb dX6_charge_85 (by decide) ?_
                refine lv_goto (tgt := 91) hx hb dX6_charge_86 (by decide) ?_
                subst hex
                exact hret _ _ _ _ dX6_charge_91 hP hD hS
            · rw [if_neg c_5] at hex
              refine lv_aload_n hx hb dX6_charge_57 rfl (lv_at hl 3 rfl) ?_
              refine lv_iload hx hb dX6_charge_58 (lv_at hl 1 rfl) ?_
              refine lv_iload hx hb dX6_charge_60 (lv_at hl 0 rfl) ?_
              refine lv_aload_n hx hb dX6_charge_62 rfl (lv_at hl 3 rfl) ?_
              refine va_get (D := (dC, dI)) (ci := 6) (v := .ref (ad 1)) (C := RX6) (T := TX6) (N := 19) hx hb hts hiX6 hown hK.1 hP 0 rfl rfl 2 (by decide) (hts (.fieldLink RX6 7 "CellDaysModel" "rules" "[I") (by decide +kernel)) (fun _ h9 => h9) rfl dX6_charge_63 ?_
              refine lv_iconst (v := 1) hx hb dX6_charge_66 (by decide) ?_
              refine va_iald hx hb hK.1 hP 1 0 rfl rfl (vp_in_nI (n := 1) (N := 3) (by decide) (by decide)) dX6_charge_67 ?_
              refine W.eq (g2 := F0 m 68 ls [.int (ru 1), .int (nI k), .int cg, .ref (ad 0)]) (rfl) ?_
              refine lv_iload_n hx hb dX6_charge_68 rfl (lv_at hl 2 rfl) ?_
              refine cd_rV (As := [.int cg, .int (nI k), .int (ru 1), .int sm]) (b := (ad 0)) (ci := 6) (q := (RX6, TX6, 19)) (rest := []) ⟨hx, hb, hml, hown, hts⟩ (kX6_behind l dC dI cI cQ cZ ad 0 tr ru sh sn se dn kd ld tm pk ts wo io sg sd sl lv mt cg (nI k) (ru 1) sm hI (nI_nn _ (by omega))) (cwV 4 hts gX6_charge_X6_behind rfl rfl rfl (by decide +kernel) ⟨by decide, by decide⟩) hK hP rfl rfl rfl hl.1 rfl (Nat.le_of_ble_eq_true rfl) dX6_charge_69 ⟨by decide, by decide⟩ ?_
              refine lv_istore (lv' := [(4, .int (sX6_behind sh sn se cg (nI k) (ru 1) sm)), (5, .int (nI k)), (3, .int sm), (0, .ref (ad 0)), (1, .int dd), (2, .int t)]) hx hb dX6_charge_72 hl (by decide) rfl (fun ls hl => ?_)
              refine lv_iinc (v := nI (k + 1)) (lv' := [(5, .int (nI (k + 1))), (4, .int (sX6_behind sh sn se cg (nI k) (ru 1) sm)), (3, .int sm), (0, .ref (ad 0)), (1, .int dd), (2, .int t)]) hx hb dX6_charge_74 hl (k := 1) rfl (nI_1 k) (by decide) rfl (fun ls hl => ?_)
              refine lv_goto (tgt := 46) hx hb dX6_charge_77 (by decide) ?_
              exact ih sm (sX6_behind sh sn se cg (nI k) (ru 1) sm) (k + 1) (by have h7 := le12 (N := 399) (by decide) (isDay6_b c_1).2 (by assumption) (by omega); omega) (by have h7 := le12 (N := 399) (by decide) (isDay6_b c_1).2 (by assumption) (by omega); omega) hex _ (lv_sub hl [0, 1, 2, 3, 4, 5] rfl)
      exact L46 401 (sX6_drains ru dn kd ld tm pk ts (sX6_bits dn io) t) (1000 * (ru 0)) 0 (by decide) (by decide) hex _ (lv_sub hl [0, 1, 2, 3, 4, 5] rfl)
    · rw [if_pos c_2] at hex
      refine lv_iconst (v := (-1)) hx hb dX6_charge_19 (by decide) ?_
      subst hex
      exact hret _ _ _ _ dX6_charge_20 hP hD hS

def rX6_price : Room := { frames := 3, cells := 0, slots := 0, locals := 73 }
def sX6_price (ru : Nat → Int32) (sh : Nat → Int32) (sn : Int32) (se : Nat → Int32) (dn : Nat) (kd : Nat → Int32) (ld : Nat → Int32) (tm : Nat → Int32) (pk : Nat → Int32) (ts : Nat → Int32) (io : Nat → Int32) (du : Int32) : Int32 × (Int32) := (if (sX6_isDuty dn du) = 0 then ((-1), 0) else ((sX6_lifeOf ru sh sn se dn kd ld tm pk ts (((sX6_bits dn io) ||| (1 <<< (du &&& 31))) - (1 <<< (du &&& 31))) 5 400) - (sX6_lifeOf ru sh sn se dn kd ld tm pk ts ((sX6_bits dn io) ||| (1 <<< (du &&& 31))) 5 400), 0))
set_option maxHeartbeats 4000000 in
set_option maxRecDepth 100000 in
theorem kX6_price (l : Launch) (dC : Nat → ClassId) (dI : Nat → Nat → Nat) (cI cQ cZ : ClassId) (ad : Nat → Nat) (th : Int32) (tr : Int64) (ru : Nat → Int32) (sh : Nat → Int32) (sn : Int32) (se : Nat → Int32) (dn : Nat) (kd : Nat → Int32) (ld : Nat → Int32) (tm : Nat → Int32) (pk : Nat → Int32) (ts : Nat → Int32) (wo : Nat → Int32) (io : Nat → Int32) (sg : Nat) (sd : Nat → Int32) (sl : Nat → Int32) (lv : Nat → Int32) (mt : Nat → Int32) (du : Int32) (sz : Nat) (hI : mOk ru sh sn se dn sg sd) : Met l yX6_price wsX6_price rX6_price (va_Pc [.ref (ad 0), .int du] (cd_pre dC dI cI cQ cZ (wMd cI cZ ad th tr ru sh sn se dn kd ld tm pk ts wo io sg sd sl lv mt) sz)) (va_Qi (fun r _ => r = (sX6_price ru sh sn se dn kd ld tm pk ts io du).1) (cd_post dC dI (wMd cI cZ ad th tr ru sh sn se dn kd ld tm pk ts wo io sg sd sl lv mt) (wMd cI cZ ad ((sX6_price ru sh sn se dn kd ld tm pk ts io du).2) tr ru sh sn se dn kd ld tm pk ts wo io sg sd sl lv mt) sz) (va_A (wMd cI cZ ad th tr ru sh sn se dn kd ld tm pk ts wo io sg sd sl lv mt) sz)) 0 0 (va_A (wMd cI cZ ad th tr ru sh sn se dn kd ld tm pk ts wo io sg sd sl lv mt) sz) := by
  have hiX6 : ∀ w ∈ u_ws RX6 TX6 19, w ∈ wsX6_price := by decide +kernel
  generalize hex : sX6_price ru sh sn se dn kd ld tm pk ts io du = ex
  unfold sX6_price at hex
  refine cd_mMi [.ref (ad 0), .int du] (by decide) rfl (Nat.le_of_ble_eq_true rfl) ?_
  intro Q A p e s m args below meth c ls hx hb hml hown hts hA hret hK hP hD hS hl
  have hl : lv_has ls 3 [(0, .ref (ad 0)), (1, .int du)] := hl
  have hdn : dn ≤ 8 := hI.2.2.2.1
  have hsg : sg ≤ 12 := hI.2.2.2.2.1
  refine lv_aload_n hx hb dX6_price_0 rfl (lv_at hl 0 rfl) ?_
  refine lv_iconst (v := 0) hx hb dX6_price_1 (by decide) ?_
  refine va_put (D := (dC, dI)) (ci := 6) (v := .int 0) (ty := .int) (C := RX6) (T := TX6) (N := 19) hx hb hts hiX6 tyX6 tyX6_ok nmX6 hown hK.1 hP hD hS 0 rfl rfl 0 (by decide) (hts (.fieldLink RX6 57 "CellDaysModel" "thrown" "I") (by decide +kernel)) (fun _ h9 => h9) rfl (by decide +kernel) (rfl) (rfl) (Nat.le_of_ble_eq_true rfl) dX6_price_2 (fun H locs hP hD hS => ?_)
  have hP : va_P (dC, dI) vwCl (wMd cI cZ ad 0 tr ru sh sn se dn kd ld tm pk ts wo io sg sd sl lv mt) H := hP
  have hD : va_D A (wMd cI cZ ad 0 tr ru sh sn se dn kd ld tm pk ts wo io sg sd sl lv mt) := hD
  refine lv_aload_n hx hb dX6_price_5 rfl (lv_at hl 0 rfl) ?_
  refine lv_iload_n hx hb dX6_price_6 rfl (lv_at hl 1 rfl) ?_
  refine cd_rV (As := [.int du]) (b := (ad 0)) (ci := 6) (q := (RX6, TX6, 19)) (rest := []) ⟨hx, hb, hml, hown, hts⟩ (kX6_isDuty l dC dI cI cQ cZ ad 0 tr ru sh sn se dn kd ld tm pk ts wo io sg sd sl lv mt du) (cwV 1 hts gX6_price_X6_isDuty rfl rfl rfl (by decide +kernel) ⟨by decide, by decide⟩) hK hP rfl rfl rfl hl.1 rfl (Nat.le_of_ble_eq_true rfl) dX6_price_7 ⟨by decide, by decide⟩ ?_
  refine lv_if_ne (tgt := 15) hx hb dX6_price_10 (by decide) (fun c_1 => ?_) (fun c_1 => ?_)
  · rw [if_neg c_1] at hex
    refine lv_aload_n hx hb dX6_price_15 rfl (lv_at hl 0 rfl) ?_
    refine cd_rV (As := []) (b := (ad 0)) (ci := 6) (q := (RX6, TX6, 19)) (rest := []) ⟨hx, hb, hml, hown, hts⟩ (kX6_bits l dC dI cI cQ cZ ad 0 tr ru sh sn se dn kd ld tm pk ts wo io sg sd sl lv mt hI) (cwV 0 hts gX6_price_X6_bits rfl rfl rfl (by decide +kernel) ⟨by decide, by decide⟩) hK hP rfl rfl rfl hl.1 rfl (Nat.le_of_ble_eq_true rfl) dX6_price_16 ⟨by decide, by decide⟩ ?_
    refine lv_iconst (v := 1) hx hb dX6_price_19 (by decide) ?_
    refine lv_iload_n hx hb dX6_price_20 rfl (lv_at hl 1 rfl) ?_
    refine lv_ishl hx hb dX6_price_21 ?_
    refine lv_ior hx hb dX6_price_22 ?_
    refine lv_istore_n (lv' := [(2, .int ((sX6_bits dn io) ||| (1 <<< (du &&& 31)))), (0, .ref (ad 0)), (1, .int du)]) hx hb dX6_price_23 rfl hl (by decide) rfl (fun ls hl => ?_)
    refine lv_aload_n hx hb dX6_price_24 rfl (lv_at hl 1 rfl) ?_
    refine lv_iload_n hx hb dX6_price_25 rfl (lv_at hl 0 rfl) ?_
    refine lv_iconst (v := 1) hx hb dX6_price_26 (by decide) ?_
    refine lv_iload_n hx hb dX6_price_27 rfl (lv_at hl 2 rfl) ?_
    refine lv_ishl hx hb dX6_price_28 ?_
    refine lv_isub hx hb dX6_price_29 ?_
    refine lv_iconst (v := 5) hx hb dX6_price_30 (by decide) ?_
    refine lv_sipush (v := 400) hx hb dX6_price_31 (by decide) ?_
    refine cd_rV (As := [.int (((sX6_bits dn io) ||| (1 <<< (du &&& 31))) - (1 <<< (du &&& 31))), .int 5, .int 400]) (b := (ad 0)) (ci := 6) (q := (RX6, TX6, 19)) (rest := []) ⟨hx, hb, hml, hown, hts⟩ (kX6_lifeOf l dC dI cI cQ cZ ad 0 tr ru sh sn se dn kd ld tm pk ts wo io sg sd sl lv mt (((sX6_bits dn io) ||| (1 <<< (du &&& 31))) - (1 <<< (du &&& 31))) 5 400 hI (by decide)) (cwV 3 hts gX6_price_X6_lifeOf rfl rfl rfl (by decide +kernel) ⟨by decide, by decide⟩) hK hP rfl rfl rfl hl.1 rfl (Nat.le_of_ble_eq_true rfl) dX6_price_34 ⟨by decide, by decide⟩ ?_
    refine lv_aload_n hx hb dX6_price_37 rfl (lv_at hl 1 rfl) ?_
    refine lv_iload_n hx hb dX6_price_38 rfl (lv_at hl 0 rfl) ?_
    refine lv_iconst (v := 5) hx hb dX6_price_39 (by decide) ?_
    refine lv_sipush (v := 400) hx hb dX6_price_40 (by decide) ?_
    refine cd_rV (As := [.int ((sX6_bits dn io) ||| (1 <<< (du &&& 31))), .int 5, .int 400]) (b := (ad 0)) (ci := 6) (q := (RX6, TX6, 19)) (rest := [.int (sX6_lifeOf ru sh sn se dn kd ld tm pk ts (((sX6_bits dn io) ||| (1 <<< (du &&& 31))) - (1 <<< (du &&& 31))) 5 400)]) ⟨hx, hb, hml, hown, hts⟩ (kX6_lifeOf l dC dI cI cQ cZ ad 0 tr ru sh sn se dn kd ld tm pk ts wo io sg sd sl lv mt ((sX6_bits dn io) ||| (1 <<< (du &&& 31))) 5 400 hI (by decide)) (cwV 3 hts gX6_price_X6_lifeOf rfl rfl rfl (by decide +kernel) ⟨by decide, by decide⟩) hK hP rfl rfl rfl hl.1 rfl (Nat.le_of_ble_eq_true rfl) dX6_price_43 ⟨by decide, by decide⟩ ?_
    refine lv_isub hx hb dX6_price_46 ?_
    subst hex
    exact hret _ _ _ _ dX6_price_47 hP hD hS
  · rw [if_pos c_1] at hex
    refine lv_iconst (v := (-1)) hx hb dX6_price_13 (by decide) ?_
    subst hex
    exact hret _ _ _ _ dX6_price_14 hP hD hS

def rX6_plan : Room := { frames := 3, cells := 0, slots := 0, locals := 73 }
def sX6_plan_L33 (ru : Nat → Int32) (sh : Nat → Int32) (sn : Int32) (se : Nat → Int32) (dn : Nat) (kd : Nat → Int32) (ld : Nat → Int32) (tm : Nat → Int32) (pk : Nat → Int32) (ts : Nat → Int32) (wo : Nat → Int32) (nn : Int32) (wh : Int32) : Nat → Int32 → Nat → Int32 × (Int32)
  | 0, fd, k => (0, 0)
  | n + 1, fd, k => (if (nI (2 ^ dn)) ≤ (nI k) then (if fd = (-9) then ((-9), 0) else (if wh = 0 then (fd, 0) else (if wh = 1 then (sX6_worthOf dn wo fd, 0) else (sX6_lifeOf ru sh sn se dn kd ld tm pk ts fd 5 400, 0)))) else (if fd = (-9) then (if (sX6_lifeOf ru sh sn se dn kd ld tm pk ts (nI k) 5 nn) = nn then sX6_plan_L33 ru sh sn se dn kd ld tm pk ts wo nn wh n (nI k) (k + 1) else sX6_plan_L33 ru sh sn se dn kd ld tm pk ts wo nn wh n fd (k + 1)) else (if (sX6_worthOf dn wo (nI k)) ≤ (sX6_worthOf dn wo fd) then sX6_plan_L33 ru sh sn se dn kd ld tm pk ts wo nn wh n fd (k + 1) else (if (sX6_lifeOf ru sh sn se dn kd ld tm pk ts (nI k) 5 nn) = nn then sX6_plan_L33 ru sh sn se dn kd ld tm pk ts wo nn wh n (nI k) (k + 1) else sX6_plan_L33 ru sh sn se dn kd ld tm pk ts wo nn wh n fd (k + 1)))))
def sX6_plan (ru : Nat → Int32) (sh : Nat → Int32) (sn : Int32) (se : Nat → Int32) (dn : Nat) (kd : Nat → Int32) (ld : Nat → Int32) (tm : Nat → Int32) (pk : Nat → Int32) (ts : Nat → Int32) (wo : Nat → Int32) (nn : Int32) (wh : Int32) : Int32 × (Int32) := (if (sX6_in nn 1 400) = 0 then ((-1), 0) else (if (sX6_in wh 0 2) = 0 then ((-1), 0) else sX6_plan_L33 ru sh sn se dn kd ld tm pk ts wo nn wh 257 (-9) 0))
set_option maxHeartbeats 4000000 in
set_option maxRecDepth 100000 in
theorem kX6_plan (l : Launch) (dC : Nat → ClassId) (dI : Nat → Nat → Nat) (cI cQ cZ : ClassId) (ad : Nat → Nat) (th : Int32) (tr : Int64) (ru : Nat → Int32) (sh : Nat → Int32) (sn : Int32) (se : Nat → Int32) (dn : Nat) (kd : Nat → Int32) (ld : Nat → Int32) (tm : Nat → Int32) (pk : Nat → Int32) (ts : Nat → Int32) (wo : Nat → Int32) (io : Nat → Int32) (sg : Nat) (sd : Nat → Int32) (sl : Nat → Int32) (lv : Nat → Int32) (mt : Nat → Int32) (nn : Int32) (wh : Int32) (sz : Nat) (hI : mOk ru sh sn se dn sg sd) : Met l yX6_plan wsX6_plan rX6_plan (va_Pc [.ref (ad 0), .int nn, .int wh] (cd_pre dC dI cI cQ cZ (wMd cI cZ ad th tr ru sh sn se dn kd ld tm pk ts wo io sg sd sl lv mt) sz)) (va_Qi (fun r _ => r = (sX6_plan ru sh sn se dn kd ld tm pk ts wo nn wh).1) (cd_post dC dI (wMd cI cZ ad th tr ru sh sn se dn kd ld tm pk ts wo io sg sd sl lv mt) (wMd cI cZ ad ((sX6_plan ru sh sn se dn kd ld tm pk ts wo nn wh).2) tr ru sh sn se dn kd ld tm pk ts wo io sg sd sl lv mt) sz) (va_A (wMd cI cZ ad th tr ru sh sn se dn kd ld tm pk ts wo io sg sd sl lv mt) sz)) 0 0 (va_A (wMd cI cZ ad th tr ru sh sn se dn kd ld tm pk ts wo io sg sd sl lv mt) sz) := by
  have hiX6 : ∀ w ∈ u_ws RX6 TX6 19, w ∈ wsX6_plan := by decide +kernel
  generalize hex : sX6_plan ru sh sn se dn kd ld tm pk ts wo nn wh = ex
  unfold sX6_plan at hex
  refine cd_mMi [.ref (ad 0), .int nn, .int wh] (by decide) rfl (Nat.le_of_ble_eq_true rfl) ?_
  intro Q A p e s m args below meth c ls hx hb hml hown hts hA hret hK hP hD hS hl
  have hl : lv_has ls 5 [(0, .ref (ad 0)), (1, .int nn), (2, .int wh)] := hl
  have hdn : dn ≤ 8 := hI.2.2.2.1
  have hsg : sg ≤ 12 := hI.2.2.2.2.1
  have hp8 := pow_8 hdn
  refine lv_aload_n hx hb dX6_plan_0 rfl (lv_at hl 0 rfl) ?_
  refine lv_iconst (v := 0) hx hb dX6_plan_1 (by decide) ?_
  refine va_put (D := (dC, dI)) (ci := 6) (v := .int 0) (ty := .int) (C := RX6) (T := TX6) (N := 19) hx hb hts hiX6 tyX6 tyX6_ok nmX6 hown hK.1 hP hD hS 0 rfl rfl 0 (by decide) (hts (.fieldLink RX6 57 "CellDaysModel" "thrown" "I") (by decide +kernel)) (fun _ h9 => h9) rfl (by decide +kernel) (rfl) (rfl) (Nat.le_of_ble_eq_true rfl) dX6_plan_2 (fun H locs hP hD hS => ?_)
  have hP : va_P (dC, dI) vwCl (wMd cI cZ ad 0 tr ru sh sn se dn kd ld tm pk ts wo io sg sd sl lv mt) H := hP
  have hD : va_D A (wMd cI cZ ad 0 tr ru sh sn se dn kd ld tm pk ts wo io sg sd sl lv mt) := hD
  refine lv_iload_n hx hb dX6_plan_5 rfl (lv_at hl 1 rfl) ?_
  refine lv_iconst (v := 1) hx hb dX6_plan_6 (by decide) ?_
  refine lv_sipush (v := 400) hx hb dX6_plan_7 (by decide) ?_
  refine cd_rS (As := [.int nn, .int 1, .int 400]) (rest := []) ⟨hx, hb, hml, hown, hts⟩ (kX6_in l dC dI cI cQ cZ nn 1 400) (va_cwS 3 hts gX6_plan_X6_in rfl rfl rfl (by decide +kernel) ⟨by decide, by decide⟩) hK cd_P0 rfl hl.1 rfl (Nat.le_of_ble_eq_true rfl) dX6_plan_10 ⟨by decide, by decide⟩ ?_
  refine lv_if_eq (tgt := 25) hx hb dX6_plan_13 (by decide) (fun c_1 => ?_) (fun c_1 => ?_)
  · rw [if_pos c_1] at hex
    refine lv_iconst (v := (-1)) hx hb dX6_plan_25 (by decide) ?_
    subst hex
    exact hret _ _ _ _ dX6_plan_26 hP hD hS
  · rw [if_neg c_1] at hex
    refine lv_iload_n hx hb dX6_plan_16 rfl (lv_at hl 2 rfl) ?_
    refine lv_iconst (v := 0) hx hb dX6_plan_17 (by decide) ?_
    refine lv_iconst (v := 2) hx hb dX6_plan_18 (by decide) ?_
    refine cd_rS (As := [.int wh, .int 0, .int 2]) (rest := []) ⟨hx, hb, hml, hown, hts⟩ (kX6_in l dC dI cI cQ cZ wh 0 2) (va_cwS 3 hts gX6_plan_X6_in rfl rfl rfl (by decide +kernel) ⟨by decide, by decide⟩) hK cd_P0 rfl hl.1 rfl (Nat.le_of_ble_eq_true rfl) dX6_plan_19 ⟨by decide, by decide⟩ ?_
    refine lv_if_ne (tgt := 27) hx hb dX6_plan_22 (by decide) (fun c_2 => ?_) (fun c_2 => ?_)
    · rw [if_neg c_2] at hex
      refine lv_bipush (v := (-9)) hx hb dX6_plan_27 (by decide) ?_
      refine lv_istore_n (lv' := [(3, .int (-9)), (0, .ref (ad 0)), (1, .int nn), (2, .int wh)]) hx hb dX6_plan_29 rfl hl (by decide) rfl (fun ls hl => ?_)
      refine lv_iconst (v := 0) hx hb dX6_plan_30 (by decide) ?_
      refine lv_istore (lv' := [(4, .int 0), (3, .int (-9)), (0, .ref (ad 0)), (1, .int nn), (2, .int wh)]) hx hb dX6_plan_31 hl (by decide) rfl (fun ls hl => ?_)
      have L33 : ∀ (n : Nat) (fd : Int32) (k : Nat), (k ≤ 256) → 256 - k < n → sX6_plan_L33 ru sh sn se dn kd ld tm pk ts wo nn wh n fd k = ex → ∀ (ls : Array Slot), lv_has ls 5 [(4, .int (nI k)), (3, .int fd), (0, .ref (ad 0)), (1, .int nn), (2, .int wh)] → W p l e rX6_plan s m args below meth c H locs 0 0 Q (F0 m 33 ls []) := by
        intro n
        induction n with
        | zero => intro fd k hk hm; exact absurd hm (Nat.not_lt_zero _)
        | succ n ih =>
          intro fd k hk hm hex ls hl
          rw [sX6_plan_L33] at hex
          refine lv_iload hx hb dX6_plan_33 (lv_at hl 0 rfl) ?_
          refine lv_iconst (v := 1) hx hb dX6_plan_35 (by decide) ?_
          refine lv_aload_n hx hb dX6_plan_36 rfl (lv_at hl 2 rfl) ?_
          refine va_get (D := (dC, dI)) (ci := 6) (v := .int (nI dn)) (C := RX6) (T := TX6) (N := 19) hx hb hts hiX6 hown hK.1 hP 0 rfl rfl 6 (by decide) (hts (.fieldLink RX6 72 "CellDaysModel" "duties" "I") (by decide +kernel)) (fun _ h9 => h9) rfl dX6_plan_37 ?_
          refine lv_ishl hx hb dX6_plan_40 ?_
          refine W.eq (g2 := F0 m 41 ls [.int (nI (2 ^ dn)), .int (nI k)]) (by rw [shl_nI hdn]) ?_
          refine lv_icmp_ge (tgt := 85) hx hb dX6_plan_41 (by decide) (fun c_3 => ?_) (fun c_3 => ?_)
          · rw [if_pos c_3] at hex
            try have n_3 : (2 ^ dn) ≤ k := (nI_leI (a := (2 ^ dn)) (b := k) (by omega) (by omega)).mp c_3
            refine lv_iload_n hx hb dX6_plan_85 rfl (lv_at hl 1 rfl) ?_
            refine lv_bipush (v := (-9)) hx hb dX6_plan_86 (by decide) ?_
            refine lv_icmp_ne (tgt := 96) hx hb dX6_plan_88 (by decide) (fun c_4 => ?_) (fun c_4 => ?_)
            · rw [if_neg c_4] at hex
              refine lv_iload_n hx hb dX6_plan_96 rfl (lv_at hl 4 rfl) ?_
              refine lv_if_ne (tgt := 104) hx hb dX6_plan_97 (by decide) (fun c_5 => ?_) (fun c_5 => ?_)
              · rw [if_neg c_5] at hex
                refine lv_iload_n hx hb dX6_plan_104 rfl (lv_at hl 4 rfl) ?_
                refine lv_iconst (v := 1) hx hb dX6_plan_105 (by decide) ?_
                refine lv_icmp_ne (tgt := 117) hx hb dX6_plan_106 (by decide) (fun c_6 => ?_) (fun c_6 => ?_)
                · rw [if_neg c_6] at hex
                  refine lv_aload_n hx hb dX6_plan_117 rfl (lv_at hl 2 rfl) ?_
                  refine lv_iload_n hx hb dX6_plan_118 rfl (lv_at hl 1 rfl) ?_
                  refine lv_iconst (v := 5) hx hb dX6_plan_119 (by decide) ?_
                  refine lv_sipush (v := 400) hx hb dX6_plan_120 (by decide) ?_
                  refine cd_rV (As := [.int fd, .int 5, .int 400]) (b := (ad 0)) (ci := 6) (q := (RX6, TX6, 19)) (rest := []) ⟨hx, hb, hml, hown, hts⟩ (kX6_lifeOf l dC dI cI cQ cZ ad 0 tr ru sh sn se dn kd ld tm pk ts wo io sg sd sl lv mt fd 5 400 hI (by decide)) (cwV 3 hts gX6_plan_X6_lifeOf rfl rfl rfl (by decide +kernel) ⟨by decide, by decide⟩) hK hP rfl rfl rfl hl.1 rfl (Nat.le_of_ble_eq_true rfl) dX6_plan_123 ⟨by decide, by decide⟩ ?_
                  subst hex
                  exact hret _ _ _ _ dX6_plan_126 hP hD hS
                · rw [if_pos c_6] at hex
                  refine lv_aload_n hx hb dX6_plan_109 rfl (lv_at hl 2 rfl) ?_
                  refine lv_iload_n hx hb dX6_plan_110 rfl (lv_at hl 1 rfl) ?_
                  refine cd_rV (As := [.int fd]) (b := (ad 0)) (ci := 6) (q := (RX6, TX6, 19)) (rest := []) ⟨hx, hb, hml, hown, hts⟩ (kX6_worthOf l dC dI cI cQ cZ ad 0 tr ru sh sn se dn kd ld tm pk ts wo io sg sd sl lv mt fd hI) (cwV 1 hts gX6_plan_X6_worthOf rfl rfl rfl (by decide +kernel) ⟨by decide, by decide⟩) hK hP rfl rfl rfl hl.1 rfl (Nat.le_of_ble_eq_true rfl) dX6_plan_111 ⟨by decide, by decide⟩ ?_
                  refine lv_goto (tgt := 126) hx hb dX6_plan_114 (by decide) ?_
                  subst hex
                  exact hret _ _ _ _ dX6_plan_126 hP hD hS
              · rw [if_pos c_5] at hex
                refine lv_iload_n hx hb dX6_plan_100 rfl (lv_at hl 1 rfl) ?_
                refine lv_goto (tgt := 126) hx hb dX6_plan_101 (by decide) ?_
                subst hex
                exact hret _ _ _ _ dX6_plan_126 hP hD hS
            · rw [if_pos c_4] at hex
              refine lv_bipush (v := (-9)) hx hb dX6_plan_91 (by decide) ?_
              refine lv_goto (tgt := 126) hx hb dX6_plan_93 (by decide) ?_
              subst hex
              exact hret _ _ _ _ dX6_plan_126 hP hD hS
          · rw [if_neg c_3] at hex
            try have n_3 : ¬ (2 ^ dn) ≤ k := fun h9 => c_3 ((nI_leI (a := (2 ^ dn)) (b := k) (by omega) (by omega)).mpr h9)
            refine lv_iload_n hx hb dX6_plan_44 rfl (lv_at hl 1 rfl) ?_
            refine lv_bipush (v := (-9)) hx hb dX6_plan_45 (by decide) ?_
            refine lv_icmp_eq (tgt := 64) hx hb dX6_plan_47 (by decide) (fun c_7 => ?_) (fun c_7 => ?_)
            · rw [if_pos c_7] at hex
              refine lv_aload_n hx hb dX6_plan_64 rfl (lv_at hl 2 rfl) ?_
              refine lv_iload hx hb dX6_plan_65 (lv_at hl 0 rfl) ?_
              refine lv_iconst (v := 5) hx hb dX6_plan_67 (by decide) ?_
              refine lv_iload_n hx hb dX6_plan_68 rfl (lv_at hl 3 rfl) ?_
              refine cd_rV (As := [.int (nI k), .int 5, .int nn]) (b := (ad 0)) (ci := 6) (q := (RX6, TX6, 19)) (rest := []) ⟨hx, hb, hml, hown, hts⟩ (kX6_lifeOf l dC dI cI cQ cZ ad 0 tr ru sh sn se dn kd ld tm pk ts wo io sg sd sl lv mt (nI k) 5 nn hI ((in6_b c_1).2)) (cwV 3 hts gX6_plan_X6_lifeOf rfl rfl rfl (by decide +kernel) ⟨by decide, by decide⟩) hK hP rfl rfl rfl hl.1 rfl (Nat.le_of_ble_eq_true rfl) dX6_plan_69 ⟨by decide, by decide⟩ ?_
              refine lv_iload_n hx hb dX6_plan_72 rfl (lv_at hl 3 rfl) ?_
              refine lv_icmp_ne (tgt := 79) hx hb dX6_plan_73 (by decide) (fun c_8 => ?_) (fun c_8 => ?_)
              · rw [if_neg c_8] at hex
                refine lv_iinc (v := nI (k + 1)) (lv' := [(4, .int (nI (k + 1))), (3, .int fd), (0, .ref (ad 0)), (1, .int nn), (2, .int wh)]) hx hb dX6_plan_79 hl (k := 0) rfl (nI_1 k) (by decide) rfl (fun ls hl => ?_)
                refine lv_goto (tgt := 33) hx hb dX6_plan_82 (by decide) ?_
                exact ih fd (k + 1) (by omega) (by omega) hex _ (lv_sub hl [0, 1, 2, 3, 4] rfl)
              · rw [if_pos c_8] at hex
                refine lv_iload hx hb dX6_plan_76 (lv_at hl 0 rfl) ?_
                refine lv_istore_n (lv' := [(3, .int (nI k)), (4, .int (nI k)), (0, .ref (ad 0)), (1, .int nn), (2, .int wh)]) hx hb dX6_plan_78 rfl hl (by decide) rfl (fun ls hl => ?_)
                refine lv_iinc (v := nI (k + 1)) (lv' := [(4, .int (nI (k + 1))), (3, .int (nI k)), (0, .ref (ad 0)), (1, .int nn), (2, .int wh)]) hx hb dX6_plan_79 hl (k := 1) rfl (nI_1 k) (by decide) rfl (fun ls hl => ?_)
                refine lv_goto (tgt := 33) hx hb dX6_plan_82 (by decide) ?_
                exact ih (nI k) (k + 1) (by omega) (by omega) hex _ (lv_sub hl [0, 1, 2, 3, 4] rfl)
            · rw [if_neg c_7] at hex
              refine lv_aload_n hx hb dX6_plan_50 rfl (lv_at hl 2 rfl) ?_
              refine lv_iload hx hb dX6_plan_51 (lv_at hl 0 rfl) ?_
              refine cd_rV (As := [.int (nI k)]) (b := (ad 0)) (ci := 6) (q := (RX6, TX6, 19)) (rest := []) ⟨hx, hb, hml, hown, hts⟩ (kX6_worthOf l dC dI cI cQ cZ ad 0 tr ru sh sn se dn kd ld tm pk ts wo io sg sd sl lv mt (nI k) hI) (cwV 1 hts gX6_plan_X6_worthOf rfl rfl rfl (by decide +kernel) ⟨by decide, by decide⟩) hK hP rfl rfl rfl hl.1 rfl (Nat.le_of_ble_eq_true rfl) dX6_plan_53 ⟨by decide, by decide⟩ ?_
              refine lv_aload_n hx hb dX6_plan_56 rfl (lv_at hl 2 rfl) ?_
              refine lv_iload_n hx hb dX6_plan_57 rfl (lv_at hl 1 rfl) ?_
              refine cd_rV (As := [.int fd]) (b := (ad 0)) (ci := 6) (q := (RX6, TX6, 19)) (rest := [.int (sX6_worthOf dn wo (nI k))]) ⟨hx, hb, hml, hown, hts⟩ (kX6_worthOf l dC dI cI cQ cZ ad 0 tr ru sh sn se dn kd ld tm pk ts wo io sg sd sl lv mt fd hI) (cwV 1 hts gX6_plan_X6_worthOf rfl rfl rfl (by decide +kernel) ⟨by decide, by decide⟩) hK hP rfl rfl rfl hl.1 rfl (Nat.le_of_ble_eq_true rfl) dX6_plan_58 ⟨by decide, by decide⟩ ?_
              refine lv_icmp_le (tgt := 79) hx hb dX6_plan_61 (by decide) (fun c_9 => ?_) (fun c_9 => ?_)
              · rw [if_pos c_9] at hex
                refine lv_iinc (v := nI (k + 1)) (lv' := [(4, .int (nI (k + 1))), (3, .int fd), (0, .ref (ad 0)), (1, .int nn), (2, .int wh)]) hx hb dX6_plan_79 hl (k := 0) rfl (nI_1 k) (by decide) rfl (fun ls hl => ?_)
                refine lv_goto (tgt := 33) hx hb dX6_plan_82 (by decide) ?_
                exact ih fd (k + 1) (by omega) (by omega) hex _ (lv_sub hl [0, 1, 2, 3, 4] rfl)
              · rw [if_neg c_9] at hex
                refine lv_aload_n hx hb dX6_plan_64 rfl (lv_at hl 2 rfl) ?_
                refine lv_iload hx hb dX6_plan_65 (lv_at hl 0 rfl) ?_
                refine lv_iconst (v := 5) hx hb dX6_plan_67 (by decide) ?_
                refine lv_iload_n hx hb dX6_plan_68 rfl (lv_at hl 3 rfl) ?_
                refine cd_rV (As := [.int (nI k), .int 5, .int nn]) (b := (ad 0)) (ci := 6) (q := (RX6, TX6, 19)) (rest := []) ⟨hx, hb, hml, hown, hts⟩ (kX6_lifeOf l dC dI cI cQ cZ ad 0 tr ru sh sn se dn kd ld tm pk ts wo io sg sd sl lv mt (nI k) 5 nn hI ((in6_b c_1).2)) (cwV 3 hts gX6_plan_X6_lifeOf rfl rfl rfl (by decide +kernel) ⟨by decide, by decide⟩) hK hP rfl rfl rfl hl.1 rfl (Nat.le_of_ble_eq_true rfl) dX6_plan_69 ⟨by decide, by decide⟩ ?_
                refine lv_iload_n hx hb dX6_plan_72 rfl (lv_at hl 3 rfl) ?_
                refine lv_icmp_ne (tgt := 79) hx hb dX6_plan_73 (by decide) (fun c_10 => ?_) (fun c_10 => ?_)
                · rw [if_neg c_10] at hex
                  refine lv_iinc (v := nI (k + 1)) (lv' := [(4, .int (nI (k + 1))), (3, .int fd), (0, .ref (ad 0)), (1, .int nn), (2, .int wh)]) hx hb dX6_plan_79 hl (k := 0) rfl (nI_1 k) (by decide) rfl (fun ls hl => ?_)
                  refine lv_goto (tgt := 33) hx hb dX6_plan_82 (by decide) ?_
                  exact ih fd (k + 1) (by omega) (by omega) hex _ (lv_sub hl [0, 1, 2, 3, 4] rfl)
                · rw [if_pos c_10] at hex
                  refine lv_iload hx hb dX6_plan_76 (lv_at hl 0 rfl) ?_
                  refine lv_istore_n (lv' := [(3, .int (nI k)), (4, .int (nI k)), (0, .ref (ad 0)), (1, .int nn), (2, .int wh)]) hx hb dX6_plan_78 rfl hl (by decide) rfl (fun ls hl => ?_)
                  refine lv_iinc (v := nI (k + 1)) (lv' := [(4, .int (nI (k + 1))), (3, .int (nI k)), (0, .ref (ad 0)), (1, .int nn), (2, .int wh)]) hx hb dX6_plan_79 hl (k := 1) rfl (nI_1 k) (by decide) rfl (fun ls hl => ?_)
                  refine lv_goto (tgt := 33) hx hb dX6_plan_82 (by decide) ?_
                  exact ih (nI k) (k + 1) (by omega) (by omega) hex _ (lv_sub hl [0, 1, 2, 3, 4] rfl)
      exact L33 257 (-9) 0 (by decide) (by decide) hex _ (lv_sub hl [0, 1, 2, 3, 4] rfl)
    · rw [if_pos c_2] at hex
      refine lv_iconst (v := (-1)) hx hb dX6_plan_25 (by decide) ?_
      subst hex
      exact hret _ _ _ _ dX6_plan_26 hP hD hS

def rX6_sign : Room := { frames := 2, cells := 0, slots := 0, locals := 42 }
def sX6_sign (sg : Nat) (sd : Nat → Int32) (sl : Nat → Int32) (dd : Int32) (lw : Int32) : Int32 × (Int32) × (Nat → Int32) × (Nat → Int32) × (Nat) := (if (sX6_isDay dd) = 0 then ((-1), 0, sd, sl, sg) else (if (sX6_in lw 0 9) = 0 then ((-1), 0, sd, sl, sg) else (if (nI sg) = 12 then ((-3), 0, sd, sl, sg) else (nI (sg + 1), 0, upd sd sg dd, upd sl sg lw, sg + 1))))
set_option maxHeartbeats 4000000 in
set_option maxRecDepth 100000 in
theorem kX6_sign (l : Launch) (dC : Nat → ClassId) (dI : Nat → Nat → Nat) (cI cQ cZ : ClassId) (ad : Nat → Nat) (th : Int32) (tr : Int64) (ru : Nat → Int32) (sh : Nat → Int32) (sn : Int32) (se : Nat → Int32) (dn : Nat) (kd : Nat → Int32) (ld : Nat → Int32) (tm : Nat → Int32) (pk : Nat → Int32) (ts : Nat → Int32) (wo : Nat → Int32) (io : Nat → Int32) (sg : Nat) (sd : Nat → Int32) (sl : Nat → Int32) (lv : Nat → Int32) (mt : Nat → Int32) (dd : Int32) (lw : Int32) (sz : Nat) (hI : mOk ru sh sn se dn sg sd) : Met l yX6_sign wsX6_sign rX6_sign (va_Pc [.ref (ad 0), .int dd, .int lw] (cd_pre dC dI cI cQ cZ (wMd cI cZ ad th tr ru sh sn se dn kd ld tm pk ts wo io sg sd sl lv mt) sz)) (va_Qi (fun r _ => r = (sX6_sign sg sd sl dd lw).1) (cd_post dC dI (wMd cI cZ ad th tr ru sh sn se dn kd ld tm pk ts wo io sg sd sl lv mt) (wMd cI cZ ad ((sX6_sign sg sd sl dd lw).2.1) tr ru sh sn se dn kd ld tm pk ts wo io ((sX6_sign sg sd sl dd lw).2.2.2.2) ((sX6_sign sg sd sl dd lw).2.2.1) ((sX6_sign sg sd sl dd lw).2.2.2.1) lv mt) sz) (va_A (wMd cI cZ ad th tr ru sh sn se dn kd ld tm pk ts wo io sg sd sl lv mt) sz)) 0 0 (va_A (wMd cI cZ ad th tr ru sh sn se dn kd ld tm pk ts wo io sg sd sl lv mt) sz) := by
  have hiX6 : ∀ w ∈ u_ws RX6 TX6 19, w ∈ wsX6_sign := by decide +kernel
  generalize hex : sX6_sign sg sd sl dd lw = ex
  unfold sX6_sign at hex
  refine cd_mMi [.ref (ad 0), .int dd, .int lw] (by decide) rfl (Nat.le_of_ble_eq_true rfl) ?_
  intro Q A p e s m args below meth c ls hx hb hml hown hts hA hret hK hP hD hS hl
  have hl : lv_has ls 3 [(0, .ref (ad 0)), (1, .int dd), (2, .int lw)] := hl
  have hdn : dn ≤ 8 := hI.2.2.2.1
  have hsg : sg ≤ 12 := hI.2.2.2.2.1
  refine lv_aload_n hx hb dX6_sign_0 rfl (lv_at hl 0 rfl) ?_
  refine lv_iconst (v := 0) hx hb dX6_sign_1 (by decide) ?_
  refine va_put (D := (dC, dI)) (ci := 6) (v := .int 0) (ty := .int) (C := RX6) (T := TX6) (N := 19) hx hb hts hiX6 tyX6 tyX6_ok nmX6 hown hK.1 hP hD hS 0 rfl rfl 0 (by decide) (hts (.fieldLink RX6 57 "CellDaysModel" "thrown" "I") (by decide +kernel)) (fun _ h9 => h9) rfl (by decide +kernel) (rfl) (rfl) (Nat.le_of_ble_eq_true rfl) dX6_sign_2 (fun H locs hP hD hS => ?_)
  have hP : va_P (dC, dI) vwCl (wMd cI cZ ad 0 tr ru sh sn se dn kd ld tm pk ts wo io sg sd sl lv mt) H := hP
  have hD : va_D A (wMd cI cZ ad 0 tr ru sh sn se dn kd ld tm pk ts wo io sg sd sl lv mt) := hD
  refine lv_iload_n hx hb dX6_sign_5 rfl (lv_at hl 1 rfl) ?_
  refine cd_rS (As := [.int dd]) (rest := []) ⟨hx, hb, hml, hown, hts⟩ (kX6_isDay l dC dI cI cQ cZ dd) (va_cwS 1 hts gX6_sign_X6_isDay rfl rfl rfl (by decide +kernel) ⟨by decide, by decide⟩) hK cd_P0 rfl hl.1 rfl (Nat.le_of_ble_eq_true rfl) dX6_sign_6 ⟨by decide, by decide⟩ ?_
  refine lv_if_eq (tgt := 22) hx hb dX6_sign_9 (by decide) (fun c_1 => ?_) (fun c_1 => ?_)
  · rw [if_pos c_1] at hex
    refine lv_iconst (v := (-1)) hx hb dX6_sign_22 (by decide) ?_
    subst hex
    exact hret _ _ _ _ dX6_sign_23 hP hD hS
  · rw [if_neg c_1] at hex
    refine lv_iload_n hx hb dX6_sign_12 rfl (lv_at hl 2 rfl) ?_
    refine lv_iconst (v := 0) hx hb dX6_sign_13 (by decide) ?_
    refine lv_bipush (v := 9) hx hb dX6_sign_14 (by decide) ?_
    refine cd_rS (As := [.int lw, .int 0, .int 9]) (rest := []) ⟨hx, hb, hml, hown, hts⟩ (kX6_in l dC dI cI cQ cZ lw 0 9) (va_cwS 3 hts gX6_sign_X6_in rfl rfl rfl (by decide +kernel) ⟨by decide, by decide⟩) hK cd_P0 rfl hl.1 rfl (Nat.le_of_ble_eq_true rfl) dX6_sign_16 ⟨by decide, by decide⟩ ?_
    refine lv_if_ne (tgt := 24) hx hb dX6_sign_19 (by decide) (fun c_2 => ?_) (fun c_2 => ?_)
    · rw [if_neg c_2] at hex
      refine lv_aload_n hx hb dX6_sign_24 rfl (lv_at hl 0 rfl) ?_
      refine va_get (D := (dC, dI)) (ci := 6) (v := .int (nI sg)) (C := RX6) (T := TX6) (N := 19) hx hb hts hiX6 hown hK.1 hP 0 rfl rfl 14 (by decide) (hts (.fieldLink RX6 114 "CellDaysModel" "signs" "I") (by decide +kernel)) (fun _ h9 => h9) rfl dX6_sign_25 ?_
      refine lv_bipush (v := 12) hx hb dX6_sign_28 (by decide) ?_
      refine lv_icmp_ne (tgt := 36) hx hb dX6_sign_30 (by decide) (fun c_3 => ?_) (fun c_3 => ?_)
      · rw [if_neg c_3] at hex
        try have n_3 : ¬ sg = 12 := fun h9 => c_3 ((nI_eq (a := sg) (b := 12) (by omega) (by omega)).mpr h9)
        refine lv_aload_n hx hb dX6_sign_36 rfl (lv_at hl 0 rfl) ?_
        refine va_get (D := (dC, dI)) (ci := 6) (v := .ref (ad 11)) (C := RX6) (T := TX6) (N := 19) hx hb hts hiX6 hown hK.1 hP 0 rfl rfl 15 (by decide) (hts (.fieldLink RX6 45 "CellDaysModel" "signDay" "[I") (by decide +kernel)) (fun _ h9 => h9) rfl dX6_sign_37 ?_
        refine lv_aload_n hx hb dX6_sign_40 rfl (lv_at hl 0 rfl) ?_
        refine va_get (D := (dC, dI)) (ci := 6) (v := .int (nI sg)) (C := RX6) (T := TX6) (N := 19) hx hb hts hiX6 hown hK.1 hP 0 rfl rfl 14 (by decide) (hts (.fieldLink RX6 114 "CellDaysModel" "signs" "I") (by decide +kernel)) (fun _ h9 => h9) rfl dX6_sign_41 ?_
        refine lv_iload_n hx hb dX6_sign_44 rfl (lv_at hl 1 rfl) ?_
        refine va_iast hx hb hK.1 hP hD hS 11 0 rfl rfl (vp_in_nI (n := sg) (N := 12) (by omega) (by omega)) dX6_sign_45 (fun H locs hP hD hS => ?_)
        rw [nI_clamp (show sg < 2 ^ 31 by omega)] at hP hD
        have hP : va_P (dC, dI) vwCl (wMd cI cZ ad 0 tr ru sh sn se dn kd ld tm pk ts wo io sg (upd sd sg dd) sl lv mt) H := hP
        have hD : va_D A (wMd cI cZ ad 0 tr ru sh sn se dn kd ld tm pk ts wo io sg (upd sd sg dd) sl lv mt) := hD
        refine lv_aload_n hx hb dX6_sign_46 rfl (lv_at hl 0 rfl) ?_
        refine va_get (D := (dC, dI)) (ci := 6) (v := .ref (ad 12)) (C := RX6) (T := TX6) (N := 19) hx hb hts hiX6 hown hK.1 hP 0 rfl rfl 16 (by decide) (hts (.fieldLink RX6 48 "CellDaysModel" "signLevel" "[I") (by decide +kernel)) (fun _ h9 => h9) rfl dX6_sign_47 ?_
        refine lv_aload_n hx hb dX6_sign_50 rfl (lv_at hl 0 rfl) ?_
        refine va_get (D := (dC, dI)) (ci := 6) (v := .int (nI sg)) (C := RX6) (T := TX6) (N := 19) hx hb hts hiX6 hown hK.1 hP 0 rfl rfl 14 (by decide) (hts (.fieldLink RX6 114 "CellDaysModel" "signs" "I") (by decide +kernel)) (fun _ h9 => h9) rfl dX6_sign_51 ?_
        refine lv_iload_n hx hb dX6_sign_54 rfl (lv_at hl 2 rfl) ?_
        refine va_iast hx hb hK.1 hP hD hS 12 0 rfl rfl (vp_in_nI (n := sg) (N := 12) (by omega) (by omega)) dX6_sign_55 (fun H locs hP hD hS => ?_)
        rw [nI_clamp (show sg < 2 ^ 31 by omega)] at hP hD
        have hP : va_P (dC, dI) vwCl (wMd cI cZ ad 0 tr ru sh sn se dn kd ld tm pk ts wo io sg (upd sd sg dd) (upd sl sg lw) lv mt) H := hP
        have hD : va_D A (wMd cI cZ ad 0 tr ru sh sn se dn kd ld tm pk ts wo io sg (upd sd sg dd) (upd sl sg lw) lv mt) := hD
        refine lv_aload_n hx hb dX6_sign_56 rfl (lv_at hl 0 rfl) ?_
        refine lv_dup hx hb dX6_sign_57 rfl ?_
        refine va_get (D := (dC, dI)) (ci := 6) (v := .int (nI sg)) (C := RX6) (T := TX6) (N := 19) hx hb hts hiX6 hown hK.1 hP 0 rfl rfl 14 (by decide) (hts (.fieldLink RX6 114 "CellDaysModel" "signs" "I") (by decide +kernel)) (fun _ h9 => h9) rfl dX6_sign_58 ?_
        refine lv_iconst (v := 1) hx hb dX6_sign_61 (by decide) ?_
        refine lv_iadd hx hb dX6_sign_62 ?_
        refine W.eq (g2 := F0 m 63 ls [.int (nI (sg + 1)), .ref (ad 0)]) (by rw [nI_1]) ?_
        refine va_put (D := (dC, dI)) (ci := 6) (v := .int (nI (sg + 1))) (ty := .int) (C := RX6) (T := TX6) (N := 19) hx hb hts hiX6 tyX6 tyX6_ok nmX6 hown hK.1 hP hD hS 0 rfl rfl 14 (by decide) (hts (.fieldLink RX6 114 "CellDaysModel" "signs" "I") (by decide +kernel)) (fun _ h9 => h9) rfl (by decide +kernel) (rfl) (rfl) (Nat.le_of_ble_eq_true rfl) dX6_sign_63 (fun H locs hP hD hS => ?_)
        have hP : va_P (dC, dI) vwCl (wMd cI cZ ad 0 tr ru sh sn se dn kd ld tm pk ts wo io (sg + 1) (upd sd sg dd) (upd sl sg lw) lv mt) H := hP
        have hD : va_D A (wMd cI cZ ad 0 tr ru sh sn se dn kd ld tm pk ts wo io (sg + 1) (upd sd sg dd) (upd sl sg lw) lv mt) := hD
        refine lv_aload_n hx hb dX6_sign_66 rfl (lv_at hl 0 rfl) ?_
        refine va_get (D := (dC, dI)) (ci := 6) (v := .int (nI (sg + 1))) (C := RX6) (T := TX6) (N := 19) hx hb hts hiX6 hown hK.1 hP 0 rfl rfl 14 (by decide) (hts (.fieldLink RX6 114 "CellDaysModel" "signs" "I") (by decide +kernel)) (fun _ h9 => h9) rfl dX6_sign_67 ?_
        subst hex
        exact hret _ _ _ _ dX6_sign_70 hP hD hS
      · rw [if_pos c_3] at hex
        try have n_3 : sg = 12 := (nI_eq (a := sg) (b := 12) (by omega) (by omega)).mp c_3
        refine lv_bipush (v := (-3)) hx hb dX6_sign_33 (by decide) ?_
        subst hex
        exact hret _ _ _ _ dX6_sign_35 hP hD hS
    · rw [if_pos c_2] at hex
      refine lv_iconst (v := (-1)) hx hb dX6_sign_22 (by decide) ?_
      subst hex
      exact hret _ _ _ _ dX6_sign_23 hP hD hS

def rX6_forget : Room := { frames := 0, cells := 0, slots := 0, locals := 0 }
def sX6_forget (sg : Nat) : Int32 × (Int32) × (Nat) := (if (nI sg) = 0 then ((-2), 0, sg) else (nI (sg - 1), 0, sg - 1))
set_option maxHeartbeats 4000000 in
set_option maxRecDepth 100000 in
theorem kX6_forget (l : Launch) (dC : Nat → ClassId) (dI : Nat → Nat → Nat) (cI cQ cZ : ClassId) (ad : Nat → Nat) (th : Int32) (tr : Int64) (ru : Nat → Int32) (sh : Nat → Int32) (sn : Int32) (se : Nat → Int32) (dn : Nat) (kd : Nat → Int32) (ld : Nat → Int32) (tm : Nat → Int32) (pk : Nat → Int32) (ts : Nat → Int32) (wo : Nat → Int32) (io : Nat → Int32) (sg : Nat) (sd : Nat → Int32) (sl : Nat → Int32) (lv : Nat → Int32) (mt : Nat → Int32) (sz : Nat) (hI : mOk ru sh sn se dn sg sd) : Met l yX6_forget wsX6_forget rX6_forget (va_Pc [.ref (ad 0)] (cd_pre dC dI cI cQ cZ (wMd cI cZ ad th tr ru sh sn se dn kd ld tm pk ts wo io sg sd sl lv mt) sz)) (va_Qi (fun r _ => r = (sX6_forget sg).1) (cd_post dC dI (wMd cI cZ ad th tr ru sh sn se dn kd ld tm pk ts wo io sg sd sl lv mt) (wMd cI cZ ad ((sX6_forget sg).2.1) tr ru sh sn se dn kd ld tm pk ts wo io ((sX6_forget sg).2.2) sd sl lv mt) sz) (va_A (wMd cI cZ ad th tr ru sh sn se dn kd ld tm pk ts wo io sg sd sl lv mt) sz)) 0 0 (va_A (wMd cI cZ ad th tr ru sh sn se dn kd ld tm pk ts wo io sg sd sl lv mt) sz) := by
  have hiX6 : ∀ w ∈ u_ws RX6 TX6 19, w ∈ wsX6_forget := by decide +kernel
  generalize hex : sX6_forget sg = ex
  unfold sX6_forget at hex
  refine cd_mMi [.ref (ad 0)] (by decide) rfl (Nat.le_of_ble_eq_true rfl) ?_
  intro Q A p e s m args below meth c ls hx hb hml hown hts hA hret hK hP hD hS hl
  have hl : lv_has ls 1 [(0, .ref (ad 0))] := hl
  have hdn : dn ≤ 8 := hI.2.2.2.1
  have hsg : sg ≤ 12 := hI.2.2.2.2.1
  refine lv_aload_n hx hb dX6_forget_0 rfl (lv_at hl 0 rfl) ?_
  refine lv_iconst (v := 0) hx hb dX6_forget_1 (by decide) ?_
  refine va_put (D := (dC, dI)) (ci := 6) (v := .int 0) (ty := .int) (C := RX6) (T := TX6) (N := 19) hx hb hts hiX6 tyX6 tyX6_ok nmX6 hown hK.1 hP hD hS 0 rfl rfl 0 (by decide) (hts (.fieldLink RX6 57 "CellDaysModel" "thrown" "I") (by decide +kernel)) (fun _ h9 => h9) rfl (by decide +kernel) (rfl) (rfl) (Nat.le_of_ble_eq_true rfl) dX6_forget_2 (fun H locs hP hD hS => ?_)
  have hP : va_P (dC, dI) vwCl (wMd cI cZ ad 0 tr ru sh sn se dn kd ld tm pk ts wo io sg sd sl lv mt) H := hP
  have hD : va_D A (wMd cI cZ ad 0 tr ru sh sn se dn kd ld tm pk ts wo io sg sd sl lv mt) := hD
  refine lv_aload_n hx hb dX6_forget_5 rfl (lv_at hl 0 rfl) ?_
  refine va_get (D := (dC, dI)) (ci := 6) (v := .int (nI sg)) (C := RX6) (T := TX6) (N := 19) hx hb hts hiX6 hown hK.1 hP 0 rfl rfl 14 (by decide) (hts (.fieldLink RX6 114 "CellDaysModel" "signs" "I") (by decide +kernel)) (fun _ h9 => h9) rfl dX6_forget_6 ?_
  refine lv_if_ne (tgt := 15) hx hb dX6_forget_9 (by decide) (fun c_1 => ?_) (fun c_1 => ?_)
  · rw [if_neg c_1] at hex
    try have n_1 : ¬ sg = 0 := fun h9 => c_1 ((nI_eq (a := sg) (b := 0) (by omega) (by omega)).mpr h9)
    refine lv_aload_n hx hb dX6_forget_15 rfl (lv_at hl 0 rfl) ?_
    refine lv_dup hx hb dX6_forget_16 rfl ?_
    refine va_get (D := (dC, dI)) (ci := 6) (v := .int (nI sg)) (C := RX6) (T := TX6) (N := 19) hx hb hts hiX6 hown hK.1 hP 0 rfl rfl 14 (by decide) (hts (.fieldLink RX6 114 "CellDaysModel" "signs" "I") (by decide +kernel)) (fun _ h9 => h9) rfl dX6_forget_17 ?_
    refine lv_iconst (v := 1) hx hb dX6_forget_20 (by decide) ?_
    refine lv_isub hx hb dX6_forget_21 ?_
    refine W.eq (g2 := F0 m 22 ls [.int (nI (sg - 1)), .ref (ad 0)]) (by rw [cd_s1 (by omega)]) ?_
    refine va_put (D := (dC, dI)) (ci := 6) (v := .int (nI (sg - 1))) (ty := .int) (C := RX6) (T := TX6) (N := 19) hx hb hts hiX6 tyX6 tyX6_ok nmX6 hown hK.1 hP hD hS 0 rfl rfl 14 (by decide) (hts (.fieldLink RX6 114 "CellDaysModel" "signs" "I") (by decide +kernel)) (fun _ h9 => h9) rfl (by decide +kernel) (rfl) (rfl) (Nat.le_of_ble_eq_true rfl) dX6_forget_22 (fun H locs hP hD hS => ?_)
    have hP : va_P (dC, dI) vwCl (wMd cI cZ ad 0 tr ru sh sn se dn kd ld tm pk ts wo io (sg - 1) sd sl lv mt) H := hP
    have hD : va_D A (wMd cI cZ ad 0 tr ru sh sn se dn kd ld tm pk ts wo io (sg - 1) sd sl lv mt) := hD
    refine lv_aload_n hx hb dX6_forget_25 rfl (lv_at hl 0 rfl) ?_
    refine va_get (D := (dC, dI)) (ci := 6) (v := .int (nI (sg - 1))) (C := RX6) (T := TX6) (N := 19) hx hb hts hiX6 hown hK.1 hP 0 rfl rfl 14 (by decide) (hts (.fieldLink RX6 114 "CellDaysModel" "signs" "I") (by decide +kernel)) (fun _ h9 => h9) rfl dX6_forget_26 ?_
    subst hex
    exact hret _ _ _ _ dX6_forget_29 hP hD hS
  · rw [if_pos c_1] at hex
    try have n_1 : sg = 0 := (nI_eq (a := sg) (b := 0) (by omega) (by omega)).mp c_1
    refine lv_bipush (v := (-2)) hx hb dX6_forget_12 (by decide) ?_
    subst hex
    exact hret _ _ _ _ dX6_forget_14 hP hD hS
