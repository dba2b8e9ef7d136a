abbrev lvB (f : Nat → Int32) : Prop := ∀ j, j < 400 → 0 ≤ (f j).toInt ∧ (f j).toInt ≤ 9
theorem div_nn {x r : Int32} (h0 : 0 ≤ x.toInt) (h1 : 0 < r.toInt) : 0 ≤ (x / 100 / r).toInt := by
  obtain ⟨a, ha, rfl⟩ := nn_nI h0
  obtain ⟨b, hb, rfl⟩ := nn_nI (x := r) (by omega)
  rw [nI_toInt hb] at h1
  rw [show (100 : Int32) = nI 100 from rfl, pk_div ha (by decide) (by decide), pk_div (Nat.lt_of_le_of_lt (Nat.div_le_self _ _) ha) (by omega) hb]
  exact nI_nn _ (Nat.lt_of_le_of_lt (Nat.div_le_self _ _) (Nat.lt_of_le_of_lt (Nat.div_le_self _ _) ha))
theorem lev_b {cg r : Int32} (h1 : 0 < r.toInt) : 0 ≤ (if (if 0 ≤ cg then (cg / 100) / r else (0 : Int32)) ≤ 9 then if 0 ≤ cg then (cg / 100) / r else (0 : Int32) else (9 : Int32)).toInt ∧ (if (if 0 ≤ cg then (cg / 100) / r else (0 : Int32)) ≤ 9 then if 0 ≤ cg then (cg / 100) / r else (0 : Int32) else (9 : Int32)).toInt ≤ 9 := by
  have hv : 0 ≤ (if 0 ≤ cg then (cg / 100) / r else (0 : Int32)).toInt := by
    split
    · next h => exact div_nn (cd_le h) h1
    · decide
  generalize (if 0 ≤ cg then (cg / 100) / r else (0 : Int32)) = v at hv ⊢
  split
  · next h => exact ⟨hv, cd_le h⟩
  · decide
theorem emp_b {ru sh : Nat → Int32} {sn : Int32} {se : Nat → Int32} (h1 : 0 < (ru 0).toInt) : ∀ (n : Nat) (le sm fi cg : Int32) (k : Nat) (lvv : Nat → Int32), k ≤ 400 → 400 - k < n → (∀ j, j < k → 0 ≤ (lvv j).toInt ∧ (lvv j).toInt ≤ 9) → lvB (sX6_empties_L54 ru sh sn se n le sm fi cg k lvv) := by
  intro n
  induction n with
  | zero => intro le sm fi cg k lvv _ h; exact absurd h (Nat.not_lt_zero _)
  | succ n ih =>
    intro le sm fi cg k lvv hk hm hb
    rw [sX6_empties_L54]
    split
    · next h =>
      have : 400 ≤ k := (nI_leI (a := 400) (b := k) (by omega) (by omega)).mp h
      intro j hj
      exact hb j (by omega)
    · next h =>
      have hk2 : ¬ 400 ≤ k := fun q => h ((nI_leI (a := 400) (b := k) (by omega) (by omega)).mpr q)
      refine ih _ _ _ _ _ _ (by omega) (by omega) (fun j hj => ?_)
      by_cases e : j = k
      · subst e
        rw [pk_us]
        exact lev_b h1
      · rw [pk_un e]
        exact hb j (by omega)
theorem empties_b {ru sh : Nat → Int32} {sn : Int32} {se : Nat → Int32} {dn : Nat} {kd ld tm pk ts io lv : Nat → Int32} {nu : Int32} (h1 : 0 < (ru 0).toInt) : lvB (sX6_empties ru sh sn se dn kd ld tm pk ts io lv nu) := emp_b h1 _ _ _ _ _ _ _ (by omega) (by omega) (fun j hj => absurd hj (Nat.not_lt_zero _))
theorem isAgL_b {sg : Nat} {sd sl : Nat → Int32} : ∀ (n : Nat) (bz : Int32) (k : Nat) (lvv : Nat → Int32), lvB lvv → lvB (sX6_isAgreeing_L9 sg sd sl n bz k lvv).2 := by
  intro n
  induction n with
  | zero => intro bz k lvv _ j _; rw [sX6_isAgreeing_L9]; show 0 ≤ (0 : Int32).toInt ∧ (0 : Int32).toInt ≤ 9; decide
  | succ n ih =>
    intro bz k lvv h
    rw [sX6_isAgreeing_L9]
    split
    · exact h
    · exact ih _ _ _ h
theorem isAg_b {ru sh : Nat → Int32} {sn : Int32} {se : Nat → Int32} {dn : Nat} {kd ld tm pk ts io : Nat → Int32} {sg : Nat} {sd sl lv : Nat → Int32} {nu : Int32} (hI : mOk ru sh sn se dn sg sd) : lvB (sX6_isAgreeing ru sh sn se dn kd ld tm pk ts io sg sd sl lv nu).2 := isAgL_b _ _ _ _ (empties_b hI.2.2.2.2.2.1)
theorem idx_in {j : Nat} {x : Int32} (hj : j < 400) (hx : 0 ≤ x.toInt ∧ x.toInt ≤ 9) : vp_in (10 * nI j + x) 4000 := by
  obtain ⟨a, ha, rfl⟩ := nn_nI hx.1
  rw [nI_toInt ha] at hx
  rw [show (10 : Int32) = nI 10 from rfl, pk_mul, nI_add]
  exact vp_in_nI (by omega) (by decide)

def rX6_field : Room := { frames := 4, cells := 0, slots := 0, locals := 97 }
def sX6_field_L210 (mtv : Nat → Int32) (k : Nat) : Nat → Int32 → Nat → (Int32) × (Nat)
  | 0, mx, j => (mx, j)
  | n + 1, mx, j => (if 10 ≤ (nI j) then (mx, j) else sX6_field_L210 mtv k n (if (mtv (((10 * (nI k)) + (nI j)).toNatClampNeg)) ≤ mx then mx else mtv (((10 * (nI k)) + (nI j)).toNatClampNeg)) (j + 1))
def sX6_field_L191 (my : Nat) : Nat → Int32 → Int32 → Nat → (Nat → Int32) → (Nat → Int32) → Int32 × (Int32) × (Nat → Int32) × (Nat → Int32)
  | 0, bs, lst, k, lvv, mtv => (0, 0, (fun _ => 0), (fun _ => 0))
  | n + 1, bs, lst, k, lvv, mtv => (if 400 ≤ (nI k) then (bs, 0, lvv, mtv) else (if (nI my) ≤ 1 then (bs, 0, lvv, mtv) else (match sX6_field_L210 mtv k 11 0 0 with | (x_10, x_11) => (if bs = (-9) then sX6_field_L191 my n (nI k) x_10 (k + 1) lvv mtv else (if lst ≤ x_10 then sX6_field_L191 my n bs lst (k + 1) lvv mtv else sX6_field_L191 my n (nI k) x_10 (k + 1) lvv mtv)))))
def sX6_field_L102 : Nat → Nat → (Nat → Int32) → (Nat → Int32) → (Nat) × (Nat → Int32) × (Nat → Int32)
  | 0, j, lvw, mtw => (j, lvw, mtw)
  | n + 1, j, lvw, mtw => (if 400 ≤ (nI j) then (j, lvw, mtw) else sX6_field_L102 n (j + 1) lvw (upd mtw (((10 * (nI j)) + (lvw j)).toNatClampNeg) ((mtw (((10 * (nI j)) + (lvw j)).toNatClampNeg)) + 1)))
def sX6_field_L49 (ru : Nat → Int32) (sh : Nat → Int32) (sn : Int32) (se : Nat → Int32) (dn : Nat) (kd : Nat → Int32) (ld : Nat → Int32) (tm : Nat → Int32) (pk : Nat → Int32) (ts : Nat → Int32) (io : Nat → Int32) (sg : Nat) (sd : Nat → Int32) (sl : Nat → Int32) (wh : Int32) : Nat → Nat → Int32 → Int32 → Nat → (Nat → Int32) → (Nat → Int32) → Int32 × (Int32) × (Nat → Int32) × (Nat → Int32)
  | 0, my, fs, ip, k, lvv, mtv => (0, 0, (fun _ => 0), (fun _ => 0))
  | n + 1, my, fs, ip, k, lvv, mtv => (if 150 ≤ (nI k) then (if 3 ≤ wh then sX6_field_L191 my 401 (-9) 0 0 lvv mtv else (if wh = 0 then (nI my, 0, lvv, mtv) else (if wh = 1 then (fs, 0, lvv, mtv) else (if (nI my) ≤ 0 then (0, 0, lvv, mtv) else (if ip = 0 then (1, 0, lvv, mtv) else (0, 0, lvv, mtv)))))) else (if ((sX6_isAgreeing ru sh sn se dn kd ld tm pk ts io sg sd sl lvv (nI k)).1) = 0 then sX6_field_L49 ru sh sn se dn kd ld tm pk ts io sg sd sl wh n my fs ip (k + 1) ((sX6_isAgreeing ru sh sn se dn kd ld tm pk ts io sg sd sl lvv (nI k)).2) mtv else (match sX6_field_L102 401 0 ((sX6_isAgreeing ru sh sn se dn kd ld tm pk ts io sg sd sl lvv (nI k)).2) mtv with | (x_23, x_24, x_25) => sX6_field_L49 ru sh sn se dn kd ld tm pk ts io sg sd sl wh n (my + 1) (if fs = (-9) then nI k else fs) (ip ||| (if ((nI k) - (nI k) / 5 * 5) = 0 then (1 : Int32) else (0 : Int32))) (k + 1) x_24 x_25)))
def sX6_field_L18 (ru : Nat → Int32) (sh : Nat → Int32) (sn : Int32) (se : Nat → Int32) (dn : Nat) (kd : Nat → Int32) (ld : Nat → Int32) (tm : Nat → Int32) (pk : Nat → Int32) (ts : Nat → Int32) (io : Nat → Int32) (sg : Nat) (sd : Nat → Int32) (sl : Nat → Int32) (lv : Nat → Int32) (wh : Int32) : Nat → Nat → (Nat → Int32) → Int32 × (Int32) × (Nat → Int32) × (Nat → Int32)
  | 0, k, mtv => (0, 0, (fun _ => 0), (fun _ => 0))
  | n + 1, k, mtv => (if 4000 ≤ (nI k) then sX6_field_L49 ru sh sn se dn kd ld tm pk ts io sg sd sl wh 151 0 (-9) 0 0 lv mtv else sX6_field_L18 ru sh sn se dn kd ld tm pk ts io sg sd sl lv wh n (k + 1) (upd mtv k 0))
def sX6_field (ru : Nat → Int32) (sh : Nat → Int32) (sn : Int32) (se : Nat → Int32) (dn : Nat) (kd : Nat → Int32) (ld : Nat → Int32) (tm : Nat → Int32) (pk : Nat → Int32) (ts : Nat → Int32) (io : Nat → Int32) (sg : Nat) (sd : Nat → Int32) (sl : Nat → Int32) (lv : Nat → Int32) (mt : Nat → Int32) (wh : Int32) : Int32 × (Int32) × (Nat → Int32) × (Nat → Int32) := (if (sX6_in wh 0 3) = 0 then ((-1), 0, lv, mt) else sX6_field_L18 ru sh sn se dn kd ld tm pk ts io sg sd sl lv wh 4001 0 mt)
set_option maxHeartbeats 4000000 in
set_option maxRecDepth 100000 in
theorem kX6_field (l : Launch) (dC : Nat → ClassId) (dI : Nat → Nat → Nat) (cI cQ cZ : ClassId) (ad : Nat → Nat) (th : Int32) (tr : Int64) (ru : Nat → Int32) (sh : Nat → Int32) (sn : Int32) (se : Nat → Int32) (dn : Nat) (kd : Nat → Int32) (ld : Nat → Int32) (tm : Nat → Int32) (pk : Nat → Int32) (ts : Nat → Int32) (wo : Nat → Int32) (io : Nat → Int32) (sg : Nat) (sd : Nat → Int32) (sl : Nat → Int32) (lv : Nat → Int32) (mt : Nat → Int32) (wh : Int32) (sz : Nat) (hI : mOk ru sh sn se dn sg sd) : Met l yX6_field wsX6_field rX6_field (va_Pc [.ref (ad 0), .int wh] (cd_pre dC dI cI cQ cZ (wMd cI cZ ad th tr ru sh sn se dn kd ld tm pk ts wo io sg sd sl lv mt) sz)) (va_Qi (fun r _ => r = (sX6_field ru sh sn se dn kd ld tm pk ts io sg sd sl lv mt wh).1) (cd_post dC dI (wMd cI cZ ad th tr ru sh sn se dn kd ld tm pk ts wo io sg sd sl lv mt) (wMd cI cZ ad ((sX6_field ru sh sn se dn kd ld tm pk ts io sg sd sl lv mt wh).2.1) tr ru sh sn se dn kd ld tm pk ts wo io sg sd sl ((sX6_field ru sh sn se dn kd ld tm pk ts io sg sd sl lv mt wh).2.2.1) ((sX6_field ru sh sn se dn kd ld tm pk ts io sg sd sl lv mt wh).2.2.2)) sz) (va_A (wMd cI cZ ad th tr ru sh sn se dn kd ld tm pk ts wo io sg sd sl lv mt) sz)) 0 0 (va_A (wMd cI cZ ad th tr ru sh sn se dn kd ld tm pk ts wo io sg sd sl lv mt) sz) := by
  have hiX6 : ∀ w ∈ u_ws RX6 TX6 19, w ∈ wsX6_field := by decide +kernel
  generalize hex : sX6_field ru sh sn se dn kd ld tm pk ts io sg sd sl lv mt wh = ex
  unfold sX6_field at hex
  refine cd_mMi [.ref (ad 0), .int wh] (by decide) rfl (Nat.le_of_ble_eq_true rfl) ?_
  intro Q A p e s m args below meth c ls hx hb hml hown hts hA hret hK hP hD hS hl
  have hl : lv_has ls 10 [(0, .ref (ad 0)), (1, .int wh)] := hl
  have hdn : dn ≤ 8 := hI.2.2.2.1
  have hsg : sg ≤ 12 := hI.2.2.2.2.1
  refine lv_aload_n hx hb dX6_field_0 rfl (lv_at hl 0 rfl) ?_
  refine lv_iconst (v := 0) hx hb dX6_field_1 (by decide) ?_
  refine va_put (D := (dC, dI)) (ci := 6) (v := .int 0) (ty := .int) (C := RX6) (T := TX6) (N := 19) hx hb hts hiX6 tyX6 tyX6_ok nmX6 hown hK.1 hP hD hS 0 rfl rfl 0 (by decide) (hts (.fieldLink RX6 57 "CellDaysModel" "thrown" "I") (by decide +kernel)) (fun _ h9 => h9) rfl (by decide +kernel) (rfl) (rfl) (Nat.le_of_ble_eq_true rfl) dX6_field_2 (fun H locs hP hD hS => ?_)
  have hP : va_P (dC, dI) vwCl (wMd cI cZ ad 0 tr ru sh sn se dn kd ld tm pk ts wo io sg sd sl lv mt) H := hP
  have hD : va_D A (wMd cI cZ ad 0 tr ru sh sn se dn kd ld tm pk ts wo io sg sd sl lv mt) := hD
  refine lv_iload_n hx hb dX6_field_5 rfl (lv_at hl 1 rfl) ?_
  refine lv_iconst (v := 0) hx hb dX6_field_6 (by decide) ?_
  refine lv_iconst (v := 3) hx hb dX6_field_7 (by decide) ?_
  refine cd_rS (As := [.int wh, .int 0, .int 3]) (rest := []) ⟨hx, hb, hml, hown, hts⟩ (kX6_in l dC dI cI cQ cZ wh 0 3) (va_cwS 3 hts gX6_field_X6_in rfl rfl rfl (by decide +kernel) ⟨by decide, by decide⟩) hK cd_P0 rfl hl.1 rfl (Nat.le_of_ble_eq_true rfl) dX6_field_8 ⟨by decide, by decide⟩ ?_
  refine lv_if_ne (tgt := 16) hx hb dX6_field_11 (by decide) (fun c_1 => ?_) (fun c_1 => ?_)
  · rw [if_neg c_1] at hex
    refine lv_iconst (v := 0) hx hb dX6_field_16 (by decide) ?_
    refine lv_istore_n (lv' := [(2, .int 0), (0, .ref (ad 0)), (1, .int wh)]) hx hb dX6_field_17 rfl hl (by decide) rfl (fun ls hl => ?_)
    have L18 : ∀ (n : Nat) (k : Nat) (mtv : Nat → Int32), (k ≤ 4000) → 4000 - k < n → sX6_field_L18 ru sh sn se dn kd ld tm pk ts io sg sd sl lv wh n k mtv = ex → ∀ (ls : Array Slot) (H : Heap) (locs : List Loc), lv_has ls 10 [(2, .int (nI k)), (0, .ref (ad 0)), (1, .int wh)] → va_P (dC, dI) vwCl (wMd cI cZ ad 0 tr ru sh sn se dn kd ld tm pk ts wo io sg sd sl lv mtv) H → va_D A (wMd cI cZ ad 0 tr ru sh sn se dn kd ld tm pk ts wo io sg sd sl lv mtv) → va_S A s.heap H locs → W p l e rX6_field s m args below meth c H locs 0 0 Q (F0 m 18 ls []) := by
      intro n
      induction n with
      | zero => intro k mtv hk hm; exact absurd hm (Nat.not_lt_zero _)
      | succ n ih =>
        intro k mtv hk hm hex ls H locs hl hP hD hS
        rw [sX6_field_L18] at hex
        refine lv_iload_n hx hb dX6_field_18 rfl (lv_at hl 0 rfl) ?_
        refine lv_sipush (v := 4000) hx hb dX6_field_19 (by decide) ?_
        refine lv_icmp_ge (tgt := 38) hx hb dX6_field_22 (by decide) (fun c_2 => ?_) (fun c_2 => ?_)
        · rw [if_pos c_2] at hex
          try have n_2 : 4000 ≤ k := (nI_leI (a := 4000) (b := k) (by omega) (by omega)).mp c_2
          refine lv_iconst (v := 0) hx hb dX6_field_38 (by decide) ?_
          refine lv_istore_n (lv' := [(2, .int 0), (0, .ref (ad 0)), (1, .int wh)]) hx hb dX6_field_39 rfl hl (by decide) rfl (fun ls hl => ?_)
          refine lv_bipush (v := (-9)) hx hb dX6_field_40 (by decide) ?_
          refine lv_istore_n (lv' := [(3, .int (-9)), (2, .int 0), (0, .ref (ad 0)), (1, .int wh)]) hx hb dX6_field_42 rfl hl (by decide) rfl (fun ls hl => ?_)
          refine lv_iconst (v := 0) hx hb dX6_field_43 (by decide) ?_
          refine lv_istore (lv' := [(4, .int 0), (3, .int (-9)), (2, .int 0), (0, .ref (ad 0)), (1, .int wh)]) hx hb dX6_field_44 hl (by decide) rfl (fun ls hl => ?_)
          refine lv_iconst (v := 0) hx hb dX6_field_46 (by decide) ?_
          refine lv_istore (lv' := [(5, .int 0), (4, .int 0), (3, .int (-9)), (2, .int 0), (0, .ref (ad 0)), (1, .int wh)]) hx hb dX6_field_47 hl (by decide) rfl (fun ls hl => ?_)
          have L49 : ∀ (n : Nat) (my : Nat) (fs : Int32) (ip : Int32) (k : Nat) (lvv : Nat → Int32) (mtv : Nat → Int32), (k ≤ 150) → (my ≤ k) → 150 - k < n → sX6_field_L49 ru sh sn se dn kd ld tm pk ts io sg sd sl wh n my fs ip k lvv mtv = ex → ∀ (ls : Array Slot) (H : Heap) (locs : List Loc), lv_has ls 10 [(5, .int (nI k)), (4, .int ip), (3, .int fs), (2, .int (nI my)), (0, .ref (ad 0)), (1, .int wh)] → va_P (dC, dI) vwCl (wMd cI cZ ad 0 tr ru sh sn se dn kd ld tm pk ts wo io sg sd sl lvv mtv) H → va_D A (wMd cI cZ ad 0 tr ru sh sn se dn kd ld tm pk ts wo io sg sd sl lvv mtv) → va_S A s.heap H locs → W p l e rX6_field s m args below meth c H locs 0 0 Q (F0 m 49 ls []) := by
            intro n
            induction n with
            | zero => intro my fs ip k lvv mtv hk hmy hm; exact absurd hm (Nat.not_lt_zero _)
            | succ n ih =>
              intro my fs ip k lvv mtv hk hmy hm hex ls H locs hl hP hD hS
              rw [sX6_field_L49] at hex
              refine lv_iload hx hb dX6_field_49 (lv_at hl 0 rfl) ?_
              refine lv_sipush (v := 150) hx hb dX6_field_51 (by decide) ?_
              refine lv_icmp_ge (tgt := 144) hx hb dX6_field_54 (by decide) (fun c_3 => ?_) (fun c_3 => ?_)
              · rw [if_pos c_3] at hex
                try have n_3 : 150 ≤ k := (nI_leI (a := 150) (b := k) (by omega) (by omega)).mp c_3
                refine lv_iload_n hx hb dX6_field_144 rfl (lv_at hl 5 rfl) ?_
                refine lv_iconst (v := 3) hx hb dX6_field_145 (by decide) ?_
                refine lv_icmp_ge (tgt := 181) hx hb dX6_field_146 (by decide) (fun c_4 => ?_) (fun c_4 => ?_)
                · rw [if_pos c_4] at hex
                  refine lv_bipush (v := (-9)) hx hb dX6_field_181 (by decide) ?_
                  refine lv_istore (lv' := [(5, .int (-9)), (4, .int ip), (3, .int fs), (2, .int (nI my)), (0, .ref (ad 0)), (1, .int wh)]) hx hb dX6_field_183 hl (by decide) rfl (fun ls hl => ?_)
                  refine lv_iconst (v := 0) hx hb dX6_field_185 (by decide) ?_
                  refine lv_istore (lv' := [(6, .int 0), (5, .int (-9)), (4, .int ip), (3, .int fs), (2, .int (nI my)), (0, .ref (ad 0)), (1, .int wh)]) hx hb dX6_field_186 hl (by decide) rfl (fun ls hl => ?_)
                  refine lv_iconst (v := 0) hx hb dX6_field_188 (by decide) ?_
                  refine lv_istore (lv' := [(7, .int 0), (6, .int 0), (5, .int (-9)), (4, .int ip), (3, .int fs), (2, .int (nI my)), (0, .ref (ad 0)), (1, .int wh)]) hx hb dX6_field_189 hl (by decide) rfl (fun ls hl => ?_)
                  have L191 : ∀ (n : Nat) (bs : Int32) (lst : Int32) (k : Nat) (lvv : Nat → Int32) (mtv : Nat → Int32), (k ≤ 400) → 400 - k < n → sX6_field_L191 my n bs lst k lvv mtv = ex → ∀ (ls : Array Slot) (H : Heap) (locs : List Loc), lv_has ls 10 [(7, .int (nI k)), (6, .int lst), (5, .int bs), (4, .int ip), (3, .int fs), (2, .int (nI my)), (0, .ref (ad 0)), (1, .int wh)] → va_P (dC, dI) vwCl (wMd cI cZ ad 0 tr ru sh sn se dn kd ld tm pk ts wo io sg sd sl lvv mtv) H → va_D A (wMd cI cZ ad 0 tr ru sh sn se dn kd ld tm pk ts wo io sg sd sl lvv mtv) → va_S A s.heap H locs → W p l e rX6_field s m args below meth c H locs 0 0 Q (F0 m 191 ls []) := by
                    intro n
                    induction n with
                    | zero => intro bs lst k lvv mtv hk hm; exact absurd hm (Nat.not_lt_zero _)
                    | succ n ih =>
                      intro bs lst k lvv mtv hk hm hex ls H locs hl hP hD hS
                      rw [sX6_field_L191] at hex
                      refine lv_iload hx hb dX6_field_191 (lv_at hl 0 rfl) ?_
                      refine lv_sipush (v := 400) hx hb dX6_field_193 (by decide) ?_
                      refine lv_icmp_ge (tgt := 289) hx hb dX6_field_196 (by decide) (fun c_5 => ?_) (fun c_5 => ?_)
                      · rw [if_pos c_5] at hex
                        try have n_5 : 400 ≤ k := (nI_leI (a := 400) (b := k) (by omega) (by omega)).mp c_5
                        refine lv_iload hx hb dX6_field_289 (lv_at hl 2 rfl) ?_
                        subst hex
                        exact hret _ _ _ _ dX6_field_291 hP hD hS
                      · rw [if_neg c_5] at hex
                        try have n_5 : ¬ 400 ≤ k := fun h9 => c_5 ((nI_leI (a := 400) (b := k) (by omega) (by omega)).mpr h9)
                        refine lv_iload_n hx hb dX6_field_199 rfl (lv_at hl 5 rfl) ?_
                        refine lv_iconst (v := 1) hx hb dX6_field_200 (by decide) ?_
                        refine lv_icmp_le (tgt := 289) hx hb dX6_field_201 (by decide) (fun c_6 => ?_) (fun c_6 => ?_)
                        · rw [if_pos c_6] at hex
                          try have n_6 : my ≤ 1 := (nI_leI (a := my) (b := 1) (by omega) (by omega)).mp c_6
                          refine lv_iload hx hb dX6_field_289 (lv_at hl 2 rfl) ?_
                          subst hex
                          exact hret _ _ _ _ dX6_field_291 hP hD hS
                        · rw [if_neg c_6] at hex
                          try have n_6 : ¬ my ≤ 1 := fun h9 => c_6 ((nI_leI (a := my) (b := 1) (by omega) (by omega)).mpr h9)
                          refine lv_iconst (v := 0) hx hb dX6_field_204 (by decide) ?_
                          refine lv_istore (lv' := [(8, .int 0), (7, .int (nI k)), (6, .int lst), (5, .int bs), (4, .int ip), (3, .int fs), (2, .int (nI my)), (0, .ref (ad 0)), (1, .int wh)]) hx hb dX6_field_205 hl (by decide) rfl (fun ls hl => ?_)
                          refine lv_iconst (v := 0) hx hb dX6_field_207 (by decide) ?_
                          refine lv_istore (lv' := [(9, .int 0), (8, .int 0), (7, .int (nI k)), (6, .int lst), (5, .int bs), (4, .int ip), (3, .int fs), (2, .int (nI my)), (0, .ref (ad 0)), (1, .int wh)]) hx hb dX6_field_208 hl (by decide) rfl (fun ls hl => ?_)
                          have L210 : ∀ (n : Nat) (mx : Int32) (j : Nat), (j ≤ 10) → 10 - j < n → ∀ (ls : Array Slot), lv_has ls 10 [(9, .int (nI j)), (8, .int mx), (7, .int (nI k)), (6, .int lst), (5, .int bs), (4, .int ip), (3, .int fs), (2, .int (nI my)), (0, .ref (ad 0)), (1, .int wh)] → (∀ (mxx : Int32) (jx : Nat), sX6_field_L210 mtv k n mx j = (mxx, jx) → ∀ (ls : Array Slot), lv_has ls 10 [(9, .int (nI jx)), (8, .int mxx), (7, .int (nI k)), (6, .int lst), (5, .int bs), (4, .int ip), (3, .int fs), (2, .int (nI my)), (0, .ref (ad 0)), (1, .int wh)] → W p l e rX6_field s m args below meth c H locs 0 0 Q (F0 m 261 ls [])) → W p l e rX6_field s m args below meth c H locs 0 0 Q (F0 m 210 ls []) := by
                            intro n
                            induction n with
                            | zero => intro mx j hj hm; exact absurd hm (Nat.not_lt_zero _)
                            | succ n ih =>
                              intro mx j hj hm ls hl hk
                              refine lv_iload hx hb dX6_field_210 (lv_at hl 0 rfl) ?_
                              refine lv_bipush (v := 10) hx hb dX6_field_212 (by decide) ?_
                              refine lv_icmp_ge (tgt := 261) hx hb dX6_field_214 (by decide) (fun c_7 => ?_) (fun c_7 => ?_)
                              · skip
                                try have n_7 : 10 ≤ j := (nI_leI (a := 10) (b := j) (by omega) (by omega)).mp c_7
                                exact hk mx j (by rw [sX6_field_L210, if_pos c_7]) _ (lv_sub hl [0, 1, 2, 3, 4, 5, 6, 7, 8, 9] rfl)
                              · skip
                                try have n_7 : ¬ 10 ≤ j := fun h9 => c_7 ((nI_leI (a := 10) (b := j) (by omega) (by omega)).mpr h9)
                                refine lv_aload_n hx hb dX6_field_217 rfl (lv_at hl 8 rfl) ?_
                                refine va_get (D := (dC, dI)) (ci := 6) (v := .ref (ad 14)) (C := RX6) (T := TX6) (N := 19) hx hb hts hiX6 hown hK.1 hP 0 rfl rfl 18 (by decide) (hts (.fieldLink RX6 54 "CellDaysModel" "met" "[I") (by decide +kernel)) (fun _ h9 => h9) rfl dX6_field_218 ?_
                                refine lv_bipush (v := 10) hx hb dX6_field_221 (by decide) ?_
                                refine lv_iload hx hb dX6_field_223 (lv_at hl 2 rfl) ?_
                                refine lv_imul hx hb dX6_field_225 ?_
                                refine lv_iload hx hb dX6_field_226 (lv_at hl 0 rfl) ?_
                                refine lv_iadd hx hb dX6_field_228 ?_
                                refine va_iald hx hb hK.1 hP 14 0 rfl rfl ((idx_in (by omega) (by rw [nI_toInt (by omega)]; omega))) dX6_field_229 ?_
                                refine lv_iload hx hb dX6_field_230 (lv_at hl 1 rfl) ?_
                                have J_8 : W p l e rX6_field s m args below meth c H locs 0 0 Q (F0 m 253 ls [.int (if (mtv (((10 * (nI k)) + (nI j)).toNatClampNeg)) ≤ mx then mx else mtv (((10 * (nI k)) + (nI j)).toNatClampNeg))]) := by
                                  refine lv_istore (lv' := [(8, .int (if (mtv (((10 * (nI k)) + (nI j)).toNatClampNeg)) ≤ mx then mx else mtv (((10 * (nI k)) + (nI j)).toNatClampNeg))), (9, .int (nI j)), (7, .int (nI k)), (6, .int lst), (5, .int bs), (4, .int ip), (3, .int fs), (2, .int (nI my)), (0, .ref (ad 0)), (1, .int wh)]) hx hb dX6_field_253 hl (by decide) rfl (fun ls hl => ?_)
                                  refine lv_iinc (v := nI (j + 1)) (lv' := [(9, .int (nI (j + 1))), (8, .int (if (mtv (((10 * (nI k)) + (nI j)).toNatClampNeg)) ≤ mx then mx else mtv (((10 * (nI k)) + (nI j)).toNatClampNeg))), (7, .int (nI k)), (6, .int lst), (5, .int bs), (4, .int ip), (3, .int fs), (2, .int (nI my)), (0, .ref (ad 0)), (1, .int wh)]) hx hb dX6_field_255 hl (k := 1) rfl (nI_1 j) (by decide) rfl (fun ls hl => ?_)
                                  refine lv_goto (tgt := 210) hx hb dX6_field_258 (by decide) ?_
                                  exact ih (if (mtv (((10 * (nI k)) + (nI j)).toNatClampNeg)) ≤ mx then mx else mtv (((10 * (nI k)) + (nI j)).toNatClampNeg)) (j + 1) (by omega) (by omega) _ (lv_sub hl [0, 1, 2, 3, 4, 5, 6, 7, 8, 9] rfl) (fun mxx jx he => hk mxx jx (by rw [sX6_field_L210, if_neg c_7]; exact he))
                                refine lv_icmp_le (tgt := 251) hx hb dX6_field_232 (by decide) (fun c_9 => ?_) (fun c_9 => ?_)
                                · skip
                                  refine lv_iload hx hb dX6_field_251 (lv_at hl 1 rfl) ?_
                                  rw [if_pos c_9] at J_8
                                  exact J_8
                                · skip
                                  refine lv_aload_n hx hb dX6_field_235 rfl (lv_at hl 8 rfl) ?_
                                  refine va_get (D := (dC, dI)) (ci := 6) (v := .ref (ad 14)) (C := RX6) (T := TX6) (N := 19) hx hb hts hiX6 hown hK.1 hP 0 rfl rfl 18 (by decide) (hts (.fieldLink RX6 54 "CellDaysModel" "met" "[I") (by decide +kernel)) (fun _ h9 => h9) rfl dX6_field_236 ?_
                                  refine lv_bipush (v := 10) hx hb dX6_field_239 (by decide) ?_
                                  refine lv_iload hx hb dX6_field_241 (lv_at hl 2 rfl) ?_
                                  refine lv_imul hx hb dX6_field_243 ?_
                                  refine lv_iload hx hb dX6_field_244 (lv_at hl 0 rfl) ?_
                                  refine lv_iadd hx hb dX6_field_246 ?_
                                  refine va_iald hx hb hK.1 hP 14 0 rfl rfl ((idx_in (by omega) (by rw [nI_toInt (by omega)]; omega))) dX6_field_247 ?_
                                  refine lv_goto (tgt := 253) hx hb dX6_field_248 (by decide) ?_
                                  rw [if_neg c_9] at J_8
                                  exact J_8
                          refine L210 11 0 0 (by decide) (by decide) _ (lv_sub hl [0, 1, 2, 3, 4, 5, 6, 7, 8, 9] rfl) ?_
                          intro x_10 x_11 hb_12 ls hl
                          rw [hb_12] at hex
                          dsimp only at hex
                          refine lv_iload hx hb dX6_field_261 (lv_at hl 4 rfl) ?_
                          refine lv_bipush (v := (-9)) hx hb dX6_field_263 (by decide) ?_
                          refine lv_icmp_eq (tgt := 275) hx hb dX6_field_265 (by decide) (fun c_13 => ?_) (fun c_13 => ?_)
                          · rw [if_pos c_13] at hex
                            refine lv_iload hx hb dX6_field_275 (lv_at hl 2 rfl) ?_
                            refine lv_istore (lv' := [(5, .int (nI k)), (9, .int (nI x_11)), (8, .int x_10), (7, .int (nI k)), (6, .int lst), (4, .int ip), (3, .int fs), (2, .int (nI my)), (0, .ref (ad 0)), (1, .int wh)]) hx hb dX6_field_277 hl (by decide) rfl (fun ls hl => ?_)
                            refine lv_iload hx hb dX6_field_279 (lv_at hl 2 rfl) ?_
                            refine lv_istore (lv' := [(6, .int x_10), (5, .int (nI k)), (9, .int (nI x_11)), (8, .int x_10), (7, .int (nI k)), (4, .int ip), (3, .int fs), (2, .int (nI my)), (0, .ref (ad 0)), (1, .int wh)]) hx hb dX6_field_281 hl (by decide) rfl (fun ls hl => ?_)
                            refine lv_iinc (v := nI (k + 1)) (lv' := [(7, .int (nI (k + 1))), (6, .int x_10), (5, .int (nI k)), (9, .int (nI x_11)), (8, .int x_10), (4, .int ip), (3, .int fs), (2, .int (nI my)), (0, .ref (ad 0)), (1, .int wh)]) hx hb dX6_field_283 hl (k := 4) rfl (nI_1 k) (by decide) rfl (fun ls hl => ?_)
                            refine lv_goto (tgt := 191) hx hb dX6_field_286 (by decide) ?_
                            exact ih (nI k) x_10 (k + 1) lvv mtv (by omega) (by omega) hex _ _ _ (lv_sub hl [0, 1, 2, 5, 6, 7, 8, 9] rfl) hP hD hS
                          · rw [if_neg c_13] at hex
                            refine lv_iload hx hb dX6_field_268 (lv_at hl 1 rfl) ?_
                            refine lv_iload hx hb dX6_field_270 (lv_at hl 3 rfl) ?_
                            refine lv_icmp_ge (tgt := 283) hx hb dX6_field_272 (by decide) (fun c_14 => ?_) (fun c_14 => ?_)
                            · rw [if_pos c_14] at hex
                              refine lv_iinc (v := nI (k + 1)) (lv' := [(7, .int (nI (k + 1))), (9, .int (nI x_11)), (8, .int x_10), (6, .int lst), (5, .int bs), (4, .int ip), (3, .int fs), (2, .int (nI my)), (0, .ref (ad 0)), (1, .int wh)]) hx hb dX6_field_283 hl (k := 2) rfl (nI_1 k) (by decide) rfl (fun ls hl => ?_)
                              refine lv_goto (tgt := 191) hx hb dX6_field_286 (by decide) ?_
                              exact ih bs lst (k + 1) lvv mtv (by omega) (by omega) hex _ _ _ (lv_sub hl [0, 3, 4, 5, 6, 7, 8, 9] rfl) hP hD hS
                            · rw [if_neg c_14] at hex
                              refine lv_iload hx hb dX6_field_275 (lv_at hl 2 rfl) ?_
                              refine lv_istore (lv' := [(5, .int (nI k)), (9, .int (nI x_11)), (8, .int x_10), (7, .int (nI k)), (6, .int lst), (4, .int ip), (3, .int fs), (2, .int (nI my)), (0, .ref (ad 0)), (1, .int wh)]) hx hb dX6_field_277 hl (by decide) rfl (fun ls hl => ?_)
                              refine lv_iload hx hb dX6_field_279 (lv_at hl 2 rfl) ?_
                              refine lv_istore (lv' := [(6, .int x_10), (5, .int (nI k)), (9, .int (nI x_11)), (8, .int x_10), (7, .int (nI k)), (4, .int ip), (3, .int fs), (2, .int (nI my)), (0, .ref (ad 0)), (1, .int wh)]) hx hb dX6_field_281 hl (by decide) rfl (fun ls hl => ?_)
                              refine lv_iinc (v := nI (k + 1)) (lv' := [(7, .int (nI (k + 1))), (6, .int x_10), (5, .int (nI k)), (9, .int (nI x_11)), (8, .int x_10), (4, .int ip), (3, .int fs), (2, .int (nI my)), (0, .ref (ad 0)), (1, .int wh)]) hx hb dX6_field_283 hl (k := 4) rfl (nI_1 k) (by decide) rfl (fun ls hl => ?_)
                              refine lv_goto (tgt := 191) hx hb dX6_field_286 (by decide) ?_
                              exact ih (nI k) x_10 (k + 1) lvv mtv (by omega) (by omega) hex _ _ _ (lv_sub hl [0, 1, 2, 5, 6, 7, 8, 9] rfl) hP hD hS
                  exact L191 401 (-9) 0 0 lvv mtv (by decide) (by decide) hex _ _ _ (lv_sub hl [0, 1, 2, 3, 4, 5, 6, 7] rfl) hP hD hS
                · rw [if_neg c_4] at hex
                  refine lv_iload_n hx hb dX6_field_149 rfl (lv_at hl 5 rfl) ?_
                  refine lv_if_ne (tgt := 157) hx hb dX6_field_150 (by decide) (fun c_15 => ?_) (fun c_15 => ?_)
                  · rw [if_neg c_15] at hex
                    refine lv_iload_n hx hb dX6_field_157 rfl (lv_at hl 5 rfl) ?_
                    refine lv_iconst (v := 1) hx hb dX6_field_158 (by decide) ?_
                    refine lv_icmp_ne (tgt := 166) hx hb dX6_field_159 (by decide) (fun c_16 => ?_) (fun c_16 => ?_)
                    · rw [if_neg c_16] at hex
                      refine lv_iload_n hx hb dX6_field_166 rfl (lv_at hl 3 rfl) ?_
                      refine lv_if_le (tgt := 179) hx hb dX6_field_167 (by decide) (fun c_17 => ?_) (fun c_17 => ?_)
                      · rw [if_pos c_17] at hex
                        try have n_17 : my ≤ 0 := (nI_leI (a := my) (b := 0) (by omega) (by omega)).mp c_17
                        refine lv_iconst (v := 0) hx hb dX6_field_179 (by decide) ?_
                        subst hex
                        exact hret _ _ _ _ dX6_field_180 hP hD hS
                      · rw [if_neg c_17] at hex
                        try have n_17 : ¬ my ≤ 0 := fun h9 => c_17 ((nI_leI (a := my) (b := 0) (by omega) (by omega)).mpr h9)
                        refine lv_iload hx hb dX6_field_170 (lv_at hl 1 rfl) ?_
                        refine lv_if_ne (tgt := 179) hx hb dX6_field_172 (by decide) (fun c_18 => ?_) (fun c_18 => ?_)
                        · rw [if_neg c_18] at hex
                          refine lv_iconst (v := 0) hx hb dX6_field_179 (by decide) ?_
                          subst hex
                          exact hret _ _ _ _ dX6_field_180 hP hD hS
                        · rw [if_pos c_18] at hex
                          refine lv_iconst (v := 1) hx hb dX6_field_175 (by decide) ?_
                          refine lv_goto (tgt := 180) hx hb dX6_field_176 (by decide) ?_
                          subst hex
                          exact hret _ _ _ _ dX6_field_180 hP hD hS
                    · rw [if_pos c_16] at hex
                      refine lv_iload_n hx hb dX6_field_162 rfl (lv_at hl 2 rfl) ?_
                      refine lv_goto (tgt := 180) hx hb dX6_field_163 (by decide) ?_
                      subst hex
                      exact hret _ _ _ _ dX6_field_180 hP hD hS
                  · rw [if_pos c_15] at hex
                    refine lv_iload_n hx hb dX6_field_153 rfl (lv_at hl 3 rfl) ?_
                    refine lv_goto (tgt := 180) hx hb dX6_field_154 (by decide) ?_
                    subst hex
                    exact hret _ _ _ _ dX6_field_180 hP hD hS
              · rw [if_neg c_3] at hex
                try have n_3 : ¬ 150 ≤ k := fun h9 => c_3 ((nI_leI (a := 150) (b := k) (by omega) (by omega)).mpr h9)
                refine lv_aload_n hx hb dX6_field_57 rfl (lv_at hl 4 rfl) ?_
                refine lv_iload hx hb dX6_field_58 (lv_at hl 0 rfl) ?_
                have hDc : va_D A (wMd cI cZ ad 0 tr ru sh sn se dn kd ld tm pk ts wo io sg sd sl lvv mtv) := hD
                have hFc := cd_F hDc hS hA
                refine cd_wV (As := [.int (nI k)]) (b := (ad 0)) (ci := 6) (q := (RX6, TX6, 19)) (rest := []) ⟨hx, hb, hml, hown, hts⟩ (kX6_isAgreeing l dC dI cI cQ cZ ad 0 tr ru sh sn se dn kd ld tm pk ts wo io sg sd sl lvv mtv (nI k) H.size hI) (cwV 1 hts gX6_field_X6_isAgreeing rfl rfl rfl (by decide +kernel) ⟨by decide, by decide⟩) hK hP hDc hFc hS rfl rfl rfl hl.1 rfl (Nat.le_of_ble_eq_true rfl) dX6_field_60 ⟨by decide, by decide⟩ (fun H1 locs hP1 hD1 hk1 hS => ?_)
                have hP := hP1
                have hD := cd_DA hD1 hFc
                generalize H1 = H at hP hS ⊢
                have hP : va_P (dC, dI) vwCl (wMd cI cZ ad 0 tr ru sh sn se dn kd ld tm pk ts wo io sg sd sl ((sX6_isAgreeing ru sh sn se dn kd ld tm pk ts io sg sd sl lvv (nI k)).2) mtv) H := hP
                have hD : va_D A (wMd cI cZ ad 0 tr ru sh sn se dn kd ld tm pk ts wo io sg sd sl ((sX6_isAgreeing ru sh sn se dn kd ld tm pk ts io sg sd sl lvv (nI k)).2) mtv) := hD
                refine lv_if_eq (tgt := 138) hx hb dX6_field_63 (by decide) (fun c_19 => ?_) (fun c_19 => ?_)
                · rw [if_pos c_19] at hex
                  refine lv_iinc (v := nI (k + 1)) (lv' := [(5, .int (nI (k + 1))), (4, .int ip), (3, .int fs), (2, .int (nI my)), (0, .ref (ad 0)), (1, .int wh)]) hx hb dX6_field_138 hl (k := 0) rfl (nI_1 k) (by decide) rfl (fun ls hl => ?_)
                  refine lv_goto (tgt := 49) hx hb dX6_field_141 (by decide) ?_
                  exact ih my fs ip (k + 1) ((sX6_isAgreeing ru sh sn se dn kd ld tm pk ts io sg sd sl lvv (nI k)).2) mtv (by omega) (by omega) (by omega) hex _ _ _ (lv_sub hl [0, 1, 2, 3, 4, 5] rfl) hP hD hS
                · rw [if_neg c_19] at hex
                  refine lv_iinc (v := nI (my + 1)) (lv' := [(2, .int (nI (my + 1))), (5, .int (nI k)), (4, .int ip), (3, .int fs), (0, .ref (ad 0)), (1, .int wh)]) hx hb dX6_field_66 hl (k := 3) rfl (nI_1 my) (by decide) rfl (fun ls hl => ?_)
                  refine lv_iload_n hx hb dX6_field_69 rfl (lv_at hl 3 rfl) ?_
                  refine lv_bipush (v := (-9)) hx hb dX6_field_70 (by decide) ?_
                  have J_20 : W p l e rX6_field s m args below meth c H locs 0 0 Q (F0 m 81 ls [.int (if fs = (-9) then nI k else fs)]) := by
                    refine lv_istore_n (lv' := [(3, .int (if fs = (-9) then nI k else fs)), (2, .int (nI (my + 1))), (5, .int (nI k)), (4, .int ip), (0, .ref (ad 0)), (1, .int wh)]) hx hb dX6_field_81 rfl hl (by decide) rfl (fun ls hl => ?_)
                    refine lv_iload hx hb dX6_field_82 (lv_at hl 3 rfl) ?_
                    refine lv_iload hx hb dX6_field_84 (lv_at hl 2 rfl) ?_
                    refine lv_iconst (v := 5) hx hb dX6_field_86 (by decide) ?_
                    refine lv_irem hx hb dX6_field_87 (by decide) ?_
                    have J_21 : W p l e rX6_field s m args below meth c H locs 0 0 Q (F0 m 96 ls [.int (if ((nI k) - (nI k) / 5 * 5) = 0 then (1 : Int32) else (0 : Int32)), .int ip]) := by
                      refine lv_ior hx hb dX6_field_96 ?_
                      refine lv_istore (lv' := [(4, .int (ip ||| (if ((nI k) - (nI k) / 5 * 5) = 0 then (1 : Int32) else (0 : Int32)))), (3, .int (if fs = (-9) then nI k else fs)), (2, .int (nI (my + 1))), (5, .int (nI k)), (0, .ref (ad 0)), (1, .int wh)]) hx hb dX6_field_97 hl (by decide) rfl (fun ls hl => ?_)
                      refine lv_iconst (v := 0) hx hb dX6_field_99 (by decide) ?_
                      refine lv_istore (lv' := [(6, .int 0), (4, .int (ip ||| (if ((nI k) - (nI k) / 5 * 5) = 0 then (1 : Int32) else (0 : Int32)))), (3, .int (if fs = (-9) then nI k else fs)), (2, .int (nI (my + 1))), (5, .int (nI k)), (0, .ref (ad 0)), (1, .int wh)]) hx hb dX6_field_100 hl (by decide) rfl (fun ls hl => ?_)
                      have L102 : ∀ (n : Nat) (j : Nat) (lvw : Nat → Int32) (mtw : Nat → Int32), (j ≤ 400) → (lvB lvw) → 400 - j < n → ∀ (ls : Array Slot) (H : Heap) (locs : List Loc), lv_has ls 10 [(6, .int (nI j)), (4, .int (ip ||| (if ((nI k) - (nI k) / 5 * 5) = 0 then (1 : Int32) else (0 : Int32)))), (3, .int (if fs = (-9) then nI k else fs)), (2, .int (nI (my + 1))), (5, .int (nI k)), (0, .ref (ad 0)), (1, .int wh)] → va_P (dC, dI) vwCl (wMd cI cZ ad 0 tr ru sh sn se dn kd ld tm pk ts wo io sg sd sl lvw mtw) H → va_D A (wMd cI cZ ad 0 tr ru sh sn se dn kd ld tm pk ts wo io sg sd sl lvw mtw) → va_S A s.heap H locs → (∀ (jx : Nat) (lvwx : Nat → Int32) (mtwx : Nat → Int32), sX6_field_L102 n j lvw mtw = (jx, lvwx, mtwx) → ∀ (ls : Array Slot) (H : Heap) (locs : List Loc), lv_has ls 10 [(6, .int (nI jx)), (4, .int (ip ||| (if ((nI k) - (nI k) / 5 * 5) = 0 then (1 : Int32) else (0 : Int32)))), (3, .int (if fs = (-9) then nI k else fs)), (2, .int (nI (my + 1))), (5, .int (nI k)), (0, .ref (ad 0)), (1, .int wh)] → va_P (dC, dI) vwCl (wMd cI cZ ad 0 tr ru sh sn se dn kd ld tm pk ts wo io sg sd sl lvwx mtwx) H → va_D A (wMd cI cZ ad 0 tr ru sh sn se dn kd ld tm pk ts wo io sg sd sl lvwx mtwx) → va_S A s.heap H locs → W p l e rX6_field s m args below meth c H locs 0 0 Q (F0 m 138 ls [])) → W p l e rX6_field s m args below meth c H locs 0 0 Q (F0 m 102 ls []) := by
                        intro n
                        induction n with
                        | zero => intro j lvw mtw hj hlw hm; exact absurd hm (Nat.not_lt_zero _)
                        | succ n ih =>
                          intro j lvw mtw hj hlw hm ls H locs hl hP hD hS hk
                          refine lv_iload hx hb dX6_field_102 (lv_at hl 0 rfl) ?_
                          refine lv_sipush (v := 400) hx hb dX6_field_104 (by decide) ?_
                          refine lv_icmp_ge (tgt := 138) hx hb dX6_field_107 (by decide) (fun c_22 => ?_) (fun c_22 => ?_)
                          · skip
                            try have n_22 : 400 ≤ j := (nI_leI (a := 400) (b := j) (by omega) (by omega)).mp c_22
                            exact hk j lvw mtw (by rw [sX6_field_L102, if_pos c_22]) _ _ _ (lv_sub hl [0, 1, 2, 3, 4, 5, 6] rfl) hP hD hS
                          · skip
                            try have n_22 : ¬ 400 ≤ j := fun h9 => c_22 ((nI_leI (a := 400) (b := j) (by omega) (by omega)).mpr h9)
                            refine lv_aload_n hx hb dX6_field_110 rfl (lv_at hl 5 rfl) ?_
                            refine va_get (D := (dC, dI)) (ci := 6) (v := .ref (ad 14)) (C := RX6) (T := TX6) (N := 19) hx hb hts hiX6 hown hK.1 hP 0 rfl rfl 18 (by decide) (hts (.fieldLink RX6 54 "CellDaysModel" "met" "[I") (by decide +kernel)) (fun _ h9 => h9) rfl dX6_field_111 ?_
                            refine lv_bipush (v := 10) hx hb dX6_field_114 (by decide) ?_
                            refine lv_iload hx hb dX6_field_116 (lv_at hl 0 rfl) ?_
                            refine lv_imul hx hb dX6_field_118 ?_
                            refine lv_aload_n hx hb dX6_field_119 rfl (lv_at hl 5 rfl) ?_
                            refine va_get (D := (dC, dI)) (ci := 6) (v := .ref (ad 13)) (C := RX6) (T := TX6) (N := 19) hx hb hts hiX6 hown hK.1 hP 0 rfl rfl 17 (by decide) (hts (.fieldLink RX6 51 "CellDaysModel" "levels" "[I") (by decide +kernel)) (fun _ h9 => h9) rfl dX6_field_120 ?_
                            refine lv_iload hx hb dX6_field_123 (lv_at hl 0 rfl) ?_
                            refine va_iald hx hb hK.1 hP 13 0 rfl rfl (vp_in_nI (n := j) (N := 400) (by omega) (by omega)) dX6_field_125 ?_
                            refine W.eq (g2 := F0 m 126 ls [.int (lvw j), .int (10 * (nI j)), .ref (ad 14)]) (by rw [nI_clamp (show j < 2 ^ 31 by omega)]) ?_
                            refine lv_iadd hx hb dX6_field_126 ?_
                            refine lv_dup2_11 hx hb dX6_field_127 rfl rfl ?_
                            refine va_iald hx hb hK.1 hP 14 0 rfl rfl ((idx_in (by omega) (hlw _ (by omega)))) dX6_field_128 ?_
                            refine lv_iconst (v := 1) hx hb dX6_field_129 (by decide) ?_
                            refine lv_iadd hx hb dX6_field_130 ?_
                            refine va_iast hx hb hK.1 hP hD hS 14 0 rfl rfl ((idx_in (by omega) (hlw _ (by omega)))) dX6_field_131 (fun H locs hP hD hS => ?_)
                            have hP : va_P (dC, dI) vwCl (wMd cI cZ ad 0 tr ru sh sn se dn kd ld tm pk ts wo io sg sd sl lvw (upd mtw (((10 * (nI j)) + (lvw j)).toNatClampNeg) ((mtw (((10 * (nI j)) + (lvw j)).toNatClampNeg)) + 1))) H := hP
                            have hD : va_D A (wMd cI cZ ad 0 tr ru sh sn se dn kd ld tm pk ts wo io sg sd sl lvw (upd mtw (((10 * (nI j)) + (lvw j)).toNatClampNeg) ((mtw (((10 * (nI j)) + (lvw j)).toNatClampNeg)) + 1))) := hD
                            refine lv_iinc (v := nI (j + 1)) (lv' := [(6, .int (nI (j + 1))), (4, .int (ip ||| (if ((nI k) - (nI k) / 5 * 5) = 0 then (1 : Int32) else (0 : Int32)))), (3, .int (if fs = (-9) then nI k else fs)), (2, .int (nI (my + 1))), (5, .int (nI k)), (0, .ref (ad 0)), (1, .int wh)]) hx hb dX6_field_132 hl (k := 0) rfl (nI_1 j) (by decide) rfl (fun ls hl => ?_)
                            refine lv_goto (tgt := 102) hx hb dX6_field_135 (by decide) ?_
                            exact ih (j + 1) lvw (upd mtw (((10 * (nI j)) + (lvw j)).toNatClampNeg) ((mtw (((10 * (nI j)) + (lvw j)).toNatClampNeg)) + 1)) (by omega) hlw (by omega) _ _ _ (lv_sub hl [0, 1, 2, 3, 4, 5, 6] rfl) hP hD hS (fun jx lvwx mtwx he => hk jx lvwx mtwx (by rw [sX6_field_L102, if_neg c_22]; exact he))
                      refine L102 401 0 ((sX6_isAgreeing ru sh sn se dn kd ld tm pk ts io sg sd sl lvv (nI k)).2) mtv (by omega) (isAg_b hI) (by decide) _ _ _ (lv_sub hl [0, 1, 2, 3, 4, 5, 6] rfl) hP hD hS ?_
                      intro x_23 x_24 x_25 hb_26 ls H locs hl hP hD hS
                      rw [hb_26] at hex
                      dsimp only at hex
                      refine lv_iinc (v := nI (k + 1)) (lv' := [(5, .int (nI (k + 1))), (6, .int (nI x_23)), (4, .int (ip ||| (if ((nI k) - (nI k) / 5 * 5) = 0 then (1 : Int32) else (0 : Int32)))), (3, .int (if fs = (-9) then nI k else fs)), (2, .int (nI (my + 1))), (0, .ref (ad 0)), (1, .int wh)]) hx hb dX6_field_138 hl (k := 4) rfl (nI_1 k) (by decide) rfl (fun ls hl => ?_)
                      refine lv_goto (tgt := 49) hx hb dX6_field_141 (by decide) ?_
                      exact ih (my + 1) (if fs = (-9) then nI k else fs) (ip ||| (if ((nI k) - (nI k) / 5 * 5) = 0 then (1 : Int32) else (0 : Int32))) (k + 1) x_24 x_25 (by omega) (by omega) (by omega) hex _ _ _ (lv_sub hl [0, 2, 3, 4, 5, 6] rfl) hP hD hS
                    refine lv_if_ne (tgt := 95) hx hb dX6_field_88 (by decide) (fun c_27 => ?_) (fun c_27 => ?_)
                    · skip
                      refine lv_iconst (v := 0) hx hb dX6_field_95 (by decide) ?_
                      rw [if_neg c_27] at J_21
                      exact J_21
                    · skip
                      refine lv_iconst (v := 1) hx hb dX6_field_91 (by decide) ?_
                      refine lv_goto (tgt := 96) hx hb dX6_field_92 (by decide) ?_
                      rw [if_pos c_27] at J_21
                      exact J_21
                  refine lv_icmp_ne (tgt := 80) hx hb dX6_field_72 (by decide) (fun c_28 => ?_) (fun c_28 => ?_)
                  · skip
                    refine lv_iload_n hx hb dX6_field_80 rfl (lv_at hl 3 rfl) ?_
                    rw [if_neg c_28] at J_20
                    exact J_20
                  · skip
                    refine lv_iload hx hb dX6_field_75 (lv_at hl 1 rfl) ?_
                    refine lv_goto (tgt := 81) hx hb dX6_field_77 (by decide) ?_
                    rw [if_pos c_28] at J_20
                    exact J_20
          exact L49 151 0 (-9) 0 0 lv mtv (by decide) (by decide) (by decide) hex _ _ _ (lv_sub hl [0, 1, 2, 3, 4, 5] rfl) hP hD hS
        · rw [if_neg c_2] at hex
          try have n_2 : ¬ 4000 ≤ k := fun h9 => c_2 ((nI_leI (a := 4000) (b := k) (by omega) (by omega)).mpr h9)
          refine lv_aload_n hx hb dX6_field_25 rfl (lv_at hl 1 rfl) ?_
          refine va_get (D := (dC, dI)) (ci := 6) (v := .ref (ad 14)) (C := RX6) (T := TX6) (N := 19) hx hb hts hiX6 hown hK.1 hP 0 rfl rfl 18 (by decide) (hts (.fieldLink RX6 54 "CellDaysModel" "met" "[I") (by decide +kernel)) (fun _ h9 => h9) rfl dX6_field_26 ?_
          refine lv_iload_n hx hb dX6_field_29 rfl (lv_at hl 0 rfl) ?_
          refine lv_iconst (v := 0) hx hb dX6_field_30 (by decide) ?_
          refine va_iast hx hb hK.1 hP hD hS 14 0 rfl rfl (vp_in_nI (n := k) (N := 4000) (by omega) (by omega)) dX6_field_31 (fun H locs hP hD hS => ?_)
          rw [nI_clamp (show k < 2 ^ 31 by omega)] at hP hD
          have hP : va_P (dC, dI) vwCl (wMd cI cZ ad 0 tr ru sh sn se dn kd ld tm pk ts wo io sg sd sl lv (upd mtv k 0)) H := hP
          have hD : va_D A (wMd cI cZ ad 0 tr ru sh sn se dn kd ld tm pk ts wo io sg sd sl lv (upd mtv k 0)) := hD
          refine lv_iinc (v := nI (k + 1)) (lv' := [(2, .int (nI (k + 1))), (0, .ref (ad 0)), (1, .int wh)]) hx hb dX6_field_32 hl (k := 0) rfl (nI_1 k) (by decide) rfl (fun ls hl => ?_)
          refine lv_goto (tgt := 18) hx hb dX6_field_35 (by decide) ?_
          exact ih (k + 1) (upd mtv k 0) (by omega) (by omega) hex _ _ _ (lv_sub hl [0, 1, 2] rfl) hP hD hS
    exact L18 4001 0 mt (by decide) (by decide) hex _ _ _ (lv_sub hl [0, 1, 2] rfl) hP hD hS
  · rw [if_pos c_1] at hex
    refine lv_iconst (v := (-1)) hx hb dX6_field_14 (by decide) ?_
    subst hex
    exact hret _ _ _ _ dX6_field_15 hP hD hS
