def rX4_isFull : Room := { frames := 0, cells := 0, slots := 0, locals := 0 }
def sX4_isFull (sn : Nat) : Int32 := (if (nI sn) < 12 then 0 else 1)
set_option maxHeartbeats 4000000 in
set_option maxRecDepth 100000 in
theorem kX4_isFull (l : Launch) (dC : Nat → ClassId) (dI : Nat → Nat → Nat) (cI cQ cZ : ClassId) (g0 : Nat) (g1 : Nat) (g2 : Nat) (g3 : Nat) (dy : Nat → Int32) (lv : Nat → Int32) (od : Nat → Int32) (sn : Nat) : Met l yX4_isFull wsX4_isFull rX4_isFull (va_Pc [.ref g0] (cd_rp dC dI cI cQ cZ (wSg cI g0 g1 g2 g3 dy lv od sn))) (vp_Si (fun r => r = sX4_isFull sn)) 0 0 (fun _ => False) := by
  have hiX4 : ∀ w ∈ u_ws RX4 TX4 4, w ∈ wsX4_isFull := by decide +kernel
  generalize hex : sX4_isFull sn = ex
  unfold sX4_isFull at hex
  refine cd_mRz [.ref g0] (by decide) rfl (Nat.le_of_ble_eq_true rfl) ?_
  intro Q p e s m args below meth c ls hx hb hml hown hts hret ⟨hK, hP⟩ hl
  have hl : lv_has ls 1 [(0, .ref g0)] := hl
  refine lv_aload_n hx hb dX4_isFull_0 rfl (lv_at hl 0 rfl) ?_
  refine va_get (D := (dC, dI)) (ci := 4) (v := .int (nI sn)) (C := RX4) (T := TX4) (N := 4) hx hb hts hiX4 hown hK.1 hP 0 rfl rfl 3 (by decide) (hts (.fieldLink RX4 19 "CellDays$Signs" "size" "I") (by decide +kernel)) (fun _ h9 => h9) rfl dX4_isFull_1 ?_
  refine lv_bipush (v := 12) hx hb dX4_isFull_4 (by decide) ?_
  refine lv_icmp_lt (tgt := 13) hx hb dX4_isFull_6 (by decide) (fun c_1 => ?_) (fun c_1 => ?_)
  · rw [if_pos c_1] at hex
    try have n_1 : sn < 12 := (nI_ltI (a := sn) (b := 12) (by omega) (by omega)).mp c_1
    refine lv_iconst (v := 0) hx hb dX4_isFull_13 (by decide) ?_
    subst hex
    exact hret _ _ rfl dX4_isFull_14
  · rw [if_neg c_1] at hex
    try have n_1 : ¬ sn < 12 := fun h9 => c_1 ((nI_ltI (a := sn) (b := 12) (by omega) (by omega)).mpr h9)
    refine lv_iconst (v := 1) hx hb dX4_isFull_9 (by decide) ?_
    refine lv_goto (tgt := 14) hx hb dX4_isFull_10 (by decide) ?_
    subst hex
    exact hret _ _ rfl dX4_isFull_14

def rX4_dayInOrder : Room := { frames := 1, cells := 0, slots := 0, locals := 21 }
def sX4_dayInOrder (dy : Nat → Int32) (od : Nat → Int32) (i : Int32) : Int32 := (sX5_at 12 dy (sX5_at 12 od i))
set_option maxHeartbeats 4000000 in
set_option maxRecDepth 100000 in
theorem kX4_dayInOrder (l : Launch) (dC : Nat → ClassId) (dI : Nat → Nat → Nat) (cI cQ cZ : ClassId) (g0 : Nat) (g1 : Nat) (g2 : Nat) (g3 : Nat) (dy : Nat → Int32) (lv : Nat → Int32) (od : Nat → Int32) (sn : Nat) (i : Int32) : Met l yX4_dayInOrder wsX4_dayInOrder rX4_dayInOrder (va_Pc [.ref g0, .int i] (cd_rp dC dI cI cQ cZ (wSg cI g0 g1 g2 g3 dy lv od sn))) (vp_Si (fun r => r = sX4_dayInOrder dy od i)) 0 0 (fun _ => False) := by
  have hiX4 : ∀ w ∈ u_ws RX4 TX4 4, w ∈ wsX4_dayInOrder := by decide +kernel
  generalize hex : sX4_dayInOrder dy od i = ex
  unfold sX4_dayInOrder at hex
  refine cd_mRi [.ref g0, .int i] (by decide) rfl (Nat.le_of_ble_eq_true rfl) ?_
  intro Q p e s m args below meth c ls hx hb hml hown hts hret ⟨hK, hP⟩ hl
  have hl : lv_has ls 2 [(0, .ref g0), (1, .int i)] := hl
  refine lv_aload_n hx hb dX4_dayInOrder_0 rfl (lv_at hl 0 rfl) ?_
  refine va_get (D := (dC, dI)) (ci := 4) (v := .ref g1) (C := RX4) (T := TX4) (N := 4) hx hb hts hiX4 hown hK.1 hP 0 rfl rfl 0 (by decide) (hts (.fieldLink RX4 9 "CellDays$Signs" "days" "[I") (by decide +kernel)) (fun _ h9 => h9) rfl dX4_dayInOrder_1 ?_
  refine lv_aload_n hx hb dX4_dayInOrder_4 rfl (lv_at hl 0 rfl) ?_
  refine va_get (D := (dC, dI)) (ci := 4) (v := .ref g3) (C := RX4) (T := TX4) (N := 4) hx hb hts hiX4 hown hK.1 hP 0 rfl rfl 2 (by decide) (hts (.fieldLink RX4 16 "CellDays$Signs" "order" "[I") (by decide +kernel)) (fun _ h9 => h9) rfl dX4_dayInOrder_5 ?_
  refine lv_iload_n hx hb dX4_dayInOrder_8 rfl (lv_at hl 1 rfl) ?_
  refine cd_rSN (As := [.ref g3, .int i]) (rest := [.ref g1]) ⟨hx, hb, hml, hown, hts⟩ (kX5_at l dC dI cI cQ cZ g3 12 od i (by decide)) ⟨va_cnB 2 hts gX4_dayInOrder_X5_at_n36 rfl rfl rfl (hK.2.1 (.methodLinkNest RX4 36 yX5_at RX5) (by decide +kernel)) (hts (.initialized RX5) (by decide +kernel)) (by decide +kernel) ⟨by decide, by decide⟩, hts (.static yX5_at) (by decide +kernel), trivial⟩ hK (hP.sub (ws' := (wAr cI g3 12 od)) [3] rfl) rfl hl.1 rfl (Nat.le_of_ble_eq_true rfl) dX4_dayInOrder_9 ⟨by decide, by decide⟩ ?_
  refine cd_rSN (As := [.ref g1, .int (sX5_at 12 od i)]) (rest := []) ⟨hx, hb, hml, hown, hts⟩ (kX5_at l dC dI cI cQ cZ g1 12 dy (sX5_at 12 od i) (by decide)) ⟨va_cnB 2 hts gX4_dayInOrder_X5_at_n36 rfl rfl rfl (hK.2.1 (.methodLinkNest RX4 36 yX5_at RX5) (by decide +kernel)) (hts (.initialized RX5) (by decide +kernel)) (by decide +kernel) ⟨by decide, by decide⟩, hts (.static yX5_at) (by decide +kernel), trivial⟩ hK (hP.sub (ws' := (wAr cI g1 12 dy)) [1] rfl) rfl hl.1 rfl (Nat.le_of_ble_eq_true rfl) dX4_dayInOrder_12 ⟨by decide, by decide⟩ ?_
  subst hex
  exact hret _ _ dX4_dayInOrder_15

def rX4_levelInOrder : Room := { frames := 1, cells := 0, slots := 0, locals := 21 }
def sX4_levelInOrder (lv : Nat → Int32) (od : Nat → Int32) (i : Int32) : Int32 := (sX5_at 12 lv (sX5_at 12 od i))
set_option maxHeartbeats 4000000 in
set_option maxRecDepth 100000 in
theorem kX4_levelInOrder (l : Launch) (dC : Nat → ClassId) (dI : Nat → Nat → Nat) (cI cQ cZ : ClassId) (g0 : Nat) (g1 : Nat) (g2 : Nat) (g3 : Nat) (dy : Nat → Int32) (lv : Nat → Int32) (od : Nat → Int32) (sn : Nat) (i : Int32) : Met l yX4_levelInOrder wsX4_levelInOrder rX4_levelInOrder (va_Pc [.ref g0, .int i] (cd_rp dC dI cI cQ cZ (wSg cI g0 g1 g2 g3 dy lv od sn))) (vp_Si (fun r => r = sX4_levelInOrder lv od i)) 0 0 (fun _ => False) := by
  have hiX4 : ∀ w ∈ u_ws RX4 TX4 4, w ∈ wsX4_levelInOrder := by decide +kernel
  generalize hex : sX4_levelInOrder lv od i = ex
  unfold sX4_levelInOrder at hex
  refine cd_mRi [.ref g0, .int i] (by decide) rfl (Nat.le_of_ble_eq_true rfl) ?_
  intro Q p e s m args below meth c ls hx hb hml hown hts hret ⟨hK, hP⟩ hl
  have hl : lv_has ls 2 [(0, .ref g0), (1, .int i)] := hl
  refine lv_aload_n hx hb dX4_levelInOrder_0 rfl (lv_at hl 0 rfl) ?_
  refine va_get (D := (dC, dI)) (ci := 4) (v := .ref g2) (C := RX4) (T := TX4) (N := 4) hx hb hts hiX4 hown hK.1 hP 0 rfl rfl 1 (by decide) (hts (.fieldLink RX4 13 "CellDays$Signs" "levels" "[I") (by decide +kernel)) (fun _ h9 => h9) rfl dX4_levelInOrder_1 ?_
  refine lv_aload_n hx hb dX4_levelInOrder_4 rfl (lv_at hl 0 rfl) ?_
  refine va_get (D := (dC, dI)) (ci := 4) (v := .ref g3) (C := RX4) (T := TX4) (N := 4) hx hb hts hiX4 hown hK.1 hP 0 rfl rfl 2 (by decide) (hts (.fieldLink RX4 16 "CellDays$Signs" "order" "[I") (by decide +kernel)) (fun _ h9 => h9) rfl dX4_levelInOrder_5 ?_
  refine lv_iload_n hx hb dX4_levelInOrder_8 rfl (lv_at hl 1 rfl) ?_
  refine cd_rSN (As := [.ref g3, .int i]) (rest := [.ref g2]) ⟨hx, hb, hml, hown, hts⟩ (kX5_at l dC dI cI cQ cZ g3 12 od i (by decide)) ⟨va_cnB 2 hts gX4_levelInOrder_X5_at_n36 rfl rfl rfl (hK.2.1 (.methodLinkNest RX4 36 yX5_at RX5) (by decide +kernel)) (hts (.initialized RX5) (by decide +kernel)) (by decide +kernel) ⟨by decide, by decide⟩, hts (.static yX5_at) (by decide +kernel), trivial⟩ hK (hP.sub (ws' := (wAr cI g3 12 od)) [3] rfl) rfl hl.1 rfl (Nat.le_of_ble_eq_true rfl) dX4_levelInOrder_9 ⟨by decide, by decide⟩ ?_
  refine cd_rSN (As := [.ref g2, .int (sX5_at 12 od i)]) (rest := []) ⟨hx, hb, hml, hown, hts⟩ (kX5_at l dC dI cI cQ cZ g2 12 lv (sX5_at 12 od i) (by decide)) ⟨va_cnB 2 hts gX4_levelInOrder_X5_at_n36 rfl rfl rfl (hK.2.1 (.methodLinkNest RX4 36 yX5_at RX5) (by decide +kernel)) (hts (.initialized RX5) (by decide +kernel)) (by decide +kernel) ⟨by decide, by decide⟩, hts (.static yX5_at) (by decide +kernel), trivial⟩ hK (hP.sub (ws' := (wAr cI g2 12 lv)) [2] rfl) rfl hl.1 rfl (Nat.le_of_ble_eq_true rfl) dX4_levelInOrder_12 ⟨by decide, by decide⟩ ?_
  subst hex
  exact hret _ _ dX4_levelInOrder_15

def rX4_arrange : Room := { frames := 2, cells := 0, slots := 0, locals := 42 }
def sX4_arrange_L12 (dy : Nat → Int32) (k : Nat) : Nat → Nat → (Nat → Int32) → (Nat) × (Nat → Int32)
  | 0, pz, oi => (pz, oi)
  | n + 1, pz, oi => (if (nI pz) ≤ 0 then (pz, oi) else (if (sX4_dayInOrder dy oi (nI (pz - 1))) ≤ (sX5_at 12 dy (nI k)) then (pz, oi) else sX4_arrange_L12 dy k n (pz - 1) (sX5_put 12 oi (nI pz) (sX5_at 12 oi (nI (pz - 1))))))
def sX4_arrange_L2 (dy : Nat → Int32) (sn : Nat) : Nat → Nat → (Nat → Int32) → (Nat → Int32)
  | 0, k, ov => (fun _ => 0)
  | n + 1, k, ov => (if (nI sn) ≤ (nI k) then ov else (match sX4_arrange_L12 dy k 13 k ov with | (x_4, x_5) => sX4_arrange_L2 dy sn n (k + 1) (sX5_put 12 x_5 (nI x_4) (nI k))))
def sX4_arrange (dy : Nat → Int32) (od : Nat → Int32) (sn : Nat) : (Nat → Int32) := sX4_arrange_L2 dy sn 13 0 od
set_option maxHeartbeats 4000000 in
set_option maxRecDepth 100000 in
theorem kX4_arrange (l : Launch) (dC : Nat → ClassId) (dI : Nat → Nat → Nat) (cI cQ cZ : ClassId) (g0 : Nat) (g1 : Nat) (g2 : Nat) (g3 : Nat) (dy : Nat → Int32) (lv : Nat → Int32) (od : Nat → Int32) (sn : Nat) (sz : Nat) (hsn : sn ≤ 12) : Met l yX4_arrange wsX4_arrange rX4_arrange (va_Pc [.ref g0] (cd_pre dC dI cI cQ cZ (wSg cI g0 g1 g2 g3 dy lv od sn) sz)) (va_Qv (fun _ => True) (cd_post dC dI (wSg cI g0 g1 g2 g3 dy lv od sn) (wSg cI g0 g1 g2 g3 dy lv (sX4_arrange dy od sn) sn) sz) (va_A (wSg cI g0 g1 g2 g3 dy lv od sn) sz)) 0 0 (va_A (wSg cI g0 g1 g2 g3 dy lv od sn) sz) := by
  have hiX4 : ∀ w ∈ u_ws RX4 TX4 4, w ∈ wsX4_arrange := by decide +kernel
  generalize hex : sX4_arrange dy od sn = ex
  unfold sX4_arrange at hex
  refine cd_mMv [.ref g0] (by decide) rfl (Nat.le_of_ble_eq_true rfl) ?_
  intro Q A p e s m args below meth c ls hx hb hml hown hts hA hinit hret hK hP hD hS hl
  have hl : lv_has ls 3 [(0, .ref g0)] := hl
  refine lv_iconst (v := 0) hx hb dX4_arrange_0 (by decide) ?_
  refine lv_istore_n (lv' := [(1, .int 0), (0, .ref g0)]) hx hb dX4_arrange_1 rfl hl (by decide) rfl (fun ls hl => ?_)
  have L2 : ∀ (n : Nat) (k : Nat) (ov : Nat → Int32), (k ≤ 12) → 12 - k < n → sX4_arrange_L2 dy sn n k ov = ex → ∀ (ls : Array Slot) (H : Heap) (locs : List Loc), lv_has ls 3 [(1, .int (nI k)), (0, .ref g0)] → va_P (dC, dI) vwCl (wSg cI g0 g1 g2 g3 dy lv ov sn) H → va_D A (wSg cI g0 g1 g2 g3 dy lv ov sn) → va_S A s.heap H locs → W p l e rX4_arrange s m args below meth c H locs 0 0 Q (F0 m 2 ls []) := by
    intro n
    induction n with
    | zero => intro k ov hk hm; exact absurd hm (Nat.not_lt_zero _)
    | succ n ih =>
      intro k ov hk hm hex ls H locs hl hP hD hS
      rw [sX4_arrange_L2] at hex
      refine lv_iload_n hx hb dX4_arrange_2 rfl (lv_at hl 0 rfl) ?_
      refine lv_aload_n hx hb dX4_arrange_3 rfl (lv_at hl 1 rfl) ?_
      refine va_get (D := (dC, dI)) (ci := 4) (v := .int (nI sn)) (C := RX4) (T := TX4) (N := 4) hx hb hts hiX4 hown hK.1 hP 0 rfl rfl 3 (by decide) (hts (.fieldLink RX4 19 "CellDays$Signs" "size" "I") (by decide +kernel)) (fun _ h9 => h9) rfl dX4_arrange_4 ?_
      refine lv_icmp_ge (tgt := 73) hx hb dX4_arrange_7 (by decide) (fun c_1 => ?_) (fun c_1 => ?_)
      · rw [if_pos c_1] at hex
        try have n_1 : sn ≤ k := (nI_leI (a := sn) (b := k) (by omega) (by omega)).mp c_1
        subst hex
        exact hret _ _ _ _ dX4_arrange_73 hP hD hS
      · rw [if_neg c_1] at hex
        try have n_1 : ¬ sn ≤ k := fun h9 => c_1 ((nI_leI (a := sn) (b := k) (by omega) (by omega)).mpr h9)
        refine lv_iload_n hx hb dX4_arrange_10 rfl (lv_at hl 0 rfl) ?_
        refine lv_istore_n (lv' := [(2, .int (nI k)), (1, .int (nI k)), (0, .ref g0)]) hx hb dX4_arrange_11 rfl hl (by decide) rfl (fun ls hl => ?_)
        have L12 : ∀ (n : Nat) (pz : Nat) (oi : Nat → Int32), (pz ≤ 12) → pz < n → ∀ (ls : Array Slot) (H : Heap) (locs : List Loc), lv_has ls 3 [(2, .int (nI pz)), (1, .int (nI k)), (0, .ref g0)] → va_P (dC, dI) vwCl (wSg cI g0 g1 g2 g3 dy lv oi sn) H → va_D A (wSg cI g0 g1 g2 g3 dy lv oi sn) → va_S A s.heap H locs → (∀ (pzx : Nat) (oix : Nat → Int32), sX4_arrange_L12 dy k n pz oi = (pzx, oix) → ∀ (ls : Array Slot) (H : Heap) (locs : List Loc), lv_has ls 3 [(2, .int (nI pzx)), (1, .int (nI k)), (0, .ref g0)] → va_P (dC, dI) vwCl (wSg cI g0 g1 g2 g3 dy lv oix sn) H → va_D A (wSg cI g0 g1 g2 g3 dy lv oix sn) → va_S A s.heap H locs → W p l e rX4_arrange s m args below meth c H locs 0 0 Q (F0 m 58 ls [])) → W p l e rX4_arrange s m args below meth c H locs 0 0 Q (F0 m 12 ls []) := by
          intro n
          induction n with
          | zero => intro pz oi hp hm; exact absurd hm (Nat.not_lt_zero _)
          | succ n ih =>
            intro pz oi hp hm ls H locs hl hP hD hS hk
            refine lv_iload_n hx hb dX4_arrange_12 rfl (lv_at hl 0 rfl) ?_
            refine lv_if_le (tgt := 58) hx hb dX4_arrange_13 (by decide) (fun c_2 => ?_) (fun c_2 => ?_)
            · skip
              try have n_2 : pz ≤ 0 := (nI_leI (a := pz) (b := 0) (by omega) (by omega)).mp c_2
              exact hk pz oi (by rw [sX4_arrange_L12, if_pos c_2]) _ _ _ (lv_sub hl [0, 1, 2] rfl) hP hD hS
            · skip
              try have n_2 : ¬ pz ≤ 0 := fun h9 => c_2 ((nI_leI (a := pz) (b := 0) (by omega) (by omega)).mpr h9)
              refine lv_aload_n hx hb dX4_arrange_16 rfl (lv_at hl 2 rfl) ?_
              refine lv_iload_n hx hb dX4_arrange_17 rfl (lv_at hl 0 rfl) ?_
              refine lv_iconst (v := 1) hx hb dX4_arrange_18 (by decide) ?_
              refine lv_isub hx hb dX4_arrange_19 ?_
              refine W.eq (g2 := F0 m 20 ls [.int (nI (pz - 1)), .ref g0]) (by rw [cd_s1 (by omega)]) ?_
              refine cd_rV (As := [.int (nI (pz - 1))]) (b := g0) (ci := 4) (q := (RX4, TX4, 4)) (rest := []) ⟨hx, hb, hml, hown, hts⟩ (kX4_dayInOrder l dC dI cI cQ cZ g0 g1 g2 g3 dy lv oi sn (nI (pz - 1))) (cwV 1 hts gX4_arrange_X4_dayInOrder rfl rfl rfl (by decide +kernel) ⟨by decide, by decide⟩) hK hP rfl rfl rfl hl.1 rfl (Nat.le_of_ble_eq_true rfl) dX4_arrange_20 ⟨by decide, by decide⟩ ?_
              refine lv_aload_n hx hb dX4_arrange_23 rfl (lv_at hl 2 rfl) ?_
              refine va_get (D := (dC, dI)) (ci := 4) (v := .ref g1) (C := RX4) (T := TX4) (N := 4) hx hb hts hiX4 hown hK.1 hP 0 rfl rfl 0 (by decide) (hts (.fieldLink RX4 9 "CellDays$Signs" "days" "[I") (by decide +kernel)) (fun _ h9 => h9) rfl dX4_arrange_24 ?_
              refine lv_iload_n hx hb dX4_arrange_27 rfl (lv_at hl 1 rfl) ?_
              refine cd_rSN (As := [.ref g1, .int (nI k)]) (rest := [.int (sX4_dayInOrder dy oi (nI (pz - 1)))]) ⟨hx, hb, hml, hown, hts⟩ (kX5_at l dC dI cI cQ cZ g1 12 dy (nI k) (by decide)) ⟨va_cnB 2 hts gX4_arrange_X5_at_n36 rfl rfl rfl (hK.2.1 (.methodLinkNest RX4 36 yX5_at RX5) (by decide +kernel)) (hts (.initialized RX5) (by decide +kernel)) (by decide +kernel) ⟨by decide, by decide⟩, hts (.static yX5_at) (by decide +kernel), trivial⟩ hK (hP.sub (ws' := (wAr cI g1 12 dy)) [1] rfl) rfl hl.1 rfl (Nat.le_of_ble_eq_true rfl) dX4_arrange_28 ⟨by decide, by decide⟩ ?_
              refine lv_icmp_le (tgt := 58) hx hb dX4_arrange_31 (by decide) (fun c_3 => ?_) (fun c_3 => ?_)
              · skip
                exact hk pz oi (by rw [sX4_arrange_L12, if_neg c_2, if_pos c_3]) _ _ _ (lv_sub hl [0, 1, 2] rfl) hP hD hS
              · skip
                refine lv_aload_n hx hb dX4_arrange_34 rfl (lv_at hl 2 rfl) ?_
                refine va_get (D := (dC, dI)) (ci := 4) (v := .ref g3) (C := RX4) (T := TX4) (N := 4) hx hb hts hiX4 hown hK.1 hP 0 rfl rfl 2 (by decide) (hts (.fieldLink RX4 16 "CellDays$Signs" "order" "[I") (by decide +kernel)) (fun _ h9 => h9) rfl dX4_arrange_35 ?_
                refine lv_iload_n hx hb dX4_arrange_38 rfl (lv_at hl 0 rfl) ?_
                refine lv_aload_n hx hb dX4_arrange_39 rfl (lv_at hl 2 rfl) ?_
                refine va_get (D := (dC, dI)) (ci := 4) (v := .ref g3) (C := RX4) (T := TX4) (N := 4) hx hb hts hiX4 hown hK.1 hP 0 rfl rfl 2 (by decide) (hts (.fieldLink RX4 16 "CellDays$Signs" "order" "[I") (by decide +kernel)) (fun _ h9 => h9) rfl dX4_arrange_40 ?_
                refine lv_iload_n hx hb dX4_arrange_43 rfl (lv_at hl 0 rfl) ?_
                refine lv_iconst (v := 1) hx hb dX4_arrange_44 (by decide) ?_
                refine lv_isub hx hb dX4_arrange_45 ?_
                refine W.eq (g2 := F0 m 46 ls [.int (nI (pz - 1)), .ref g3, .int (nI pz), .ref g3]) (by rw [cd_s1 (by omega)]) ?_
                refine cd_rSN (As := [.ref g3, .int (nI (pz - 1))]) (rest := [.int (nI pz), .ref g3]) ⟨hx, hb, hml, hown, hts⟩ (kX5_at l dC dI cI cQ cZ g3 12 oi (nI (pz - 1)) (by decide)) ⟨va_cnB 2 hts gX4_arrange_X5_at_n36 rfl rfl rfl (hK.2.1 (.methodLinkNest RX4 36 yX5_at RX5) (by decide +kernel)) (hts (.initialized RX5) (by decide +kernel)) (by decide +kernel) ⟨by decide, by decide⟩, hts (.static yX5_at) (by decide +kernel), trivial⟩ hK (hP.sub (ws' := (wAr cI g3 12 oi)) [3] rfl) rfl hl.1 rfl (Nat.le_of_ble_eq_true rfl) dX4_arrange_46 ⟨by decide, by decide⟩ ?_
                have hDc : va_D A (wAr cI g3 12 oi) := (hD.sub (ws' := (wAr cI g3 12 oi)) [3] (by decide) rfl)
                have hFc := cd_F hDc hS hA
                refine cd_wSv (As := [.ref g3, .int (nI pz), .int (sX5_at 12 oi (nI (pz - 1)))]) (rest := []) ⟨hx, hb, hml, hown, hts⟩ (kX5_put l dC dI cI cQ cZ g3 12 oi (nI pz) (sX5_at 12 oi (nI (pz - 1))) H.size (by decide)) ⟨va_cnB 3 hts gX4_arrange_X5_put_n23 rfl rfl rfl (hK.2.1 (.methodLinkNest RX4 23 yX5_put RX5) (by decide +kernel)) (hts (.initialized RX5) (by decide +kernel)) (by decide +kernel) ⟨by decide, by decide⟩, hts (.static yX5_put) (by decide +kernel), trivial⟩ hK (hP.sub (ws' := (wAr cI g3 12 oi)) [3] rfl) hDc hFc hS rfl hl.1 rfl (Nat.le_of_ble_eq_true rfl) dX4_arrange_49 ⟨by decide, by decide⟩ (fun H1 locs hP1 hD1 hk1 hS => ?_)
                obtain ⟨hP, hD⟩ := va_join (ws := (wSg cI g0 g1 g2 g3 dy lv oi sn)) (wc := (wAr cI g3 12 oi)) (wr := [(g0, .inr (4, [.ref g1, .ref g2, .ref g3, .int (nI sn)])), (g1, .inl (cI, 12, .inl dy)), (g2, .inl (cI, 12, .inl lv))]) (w1 := (wAr cI g3 12 (sX5_put 12 oi (nI pz) (sX5_at 12 oi (nI (pz - 1)))))) hP hD [3] [0, 1, 2] rfl rfl (by decide) (by decide) hk1 hFc hP1 hD1
                have hP := hP.sub (ws' := (wSg cI g0 g1 g2 g3 dy lv (sX5_put 12 oi (nI pz) (sX5_at 12 oi (nI (pz - 1)))) sn)) [0, 1, 2, 3] rfl
                have hD := hD.sub (ws' := (wSg cI g0 g1 g2 g3 dy lv (sX5_put 12 oi (nI pz) (sX5_at 12 oi (nI (pz - 1)))) sn)) [0, 1, 2, 3] (by decide) rfl
                generalize H1 = H at hP hS ⊢
                have hP : va_P (dC, dI) vwCl (wSg cI g0 g1 g2 g3 dy lv (sX5_put 12 oi (nI pz) (sX5_at 12 oi (nI (pz - 1)))) sn) H := hP
                have hD : va_D A (wSg cI g0 g1 g2 g3 dy lv (sX5_put 12 oi (nI pz) (sX5_at 12 oi (nI (pz - 1)))) sn) := hD
                refine lv_iinc (v := nI (pz - 1)) (lv' := [(2, .int (nI (pz - 1))), (1, .int (nI k)), (0, .ref g0)]) hx hb dX4_arrange_52 hl (k := 0) rfl (cd_m1 (by omega)) (by decide) rfl (fun ls hl => ?_)
                refine lv_goto (tgt := 12) hx hb dX4_arrange_55 (by decide) ?_
                exact ih (pz - 1) (sX5_put 12 oi (nI pz) (sX5_at 12 oi (nI (pz - 1)))) (by omega) (by omega) _ _ _ (lv_sub hl [0, 1, 2] rfl) hP hD hS (fun pzx oix he => hk pzx oix (by rw [sX4_arrange_L12, if_neg c_2, if_neg c_3]; exact he))
        refine L12 13 k ov (by omega) (by omega) _ _ _ (lv_sub hl [0, 1, 2] rfl) hP hD hS ?_
        intro x_4 x_5 hb_6 ls H locs hl hP hD hS
        rw [hb_6] at hex
        dsimp only at hex
        refine lv_aload_n hx hb dX4_arrange_58 rfl (lv_at hl 2 rfl) ?_
        refine va_get (D := (dC, dI)) (ci := 4) (v := .ref g3) (C := RX4) (T := TX4) (N := 4) hx hb hts hiX4 hown hK.1 hP 0 rfl rfl 2 (by decide) (hts (.fieldLink RX4 16 "CellDays$Signs" "order" "[I") (by decide +kernel)) (fun _ h9 => h9) rfl dX4_arrange_59 ?_
        refine lv_iload_n hx hb dX4_arrange_62 rfl (lv_at hl 0 rfl) ?_
        refine lv_iload_n hx hb dX4_arrange_63 rfl (lv_at hl 1 rfl) ?_
        have hDc : va_D A (wAr cI g3 12 x_5) := (hD.sub (ws' := (wAr cI g3 12 x_5)) [3] (by decide) rfl)
        have hFc := cd_F hDc hS hA
        refine cd_wSv (As := [.ref g3, .int (nI x_4), .int (nI k)]) (rest := []) ⟨hx, hb, hml, hown, hts⟩ (kX5_put l dC dI cI cQ cZ g3 12 x_5 (nI x_4) (nI k) H.size (by decide)) ⟨va_cnB 3 hts gX4_arrange_X5_put_n23 rfl rfl rfl (hK.2.1 (.methodLinkNest RX4 23 yX5_put RX5) (by decide +kernel)) (hts (.initialized RX5) (by decide +kernel)) (by decide +kernel) ⟨by decide, by decide⟩, hts (.static yX5_put) (by decide +kernel), trivial⟩ hK (hP.sub (ws' := (wAr cI g3 12 x_5)) [3] rfl) hDc hFc hS rfl hl.1 rfl (Nat.le_of_ble_eq_true rfl) dX4_arrange_64 ⟨by decide, by decide⟩ (fun H1 locs hP1 hD1 hk1 hS => ?_)
        obtain ⟨hP, hD⟩ := va_join (ws := (wSg cI g0 g1 g2 g3 dy lv x_5 sn)) (wc := (wAr cI g3 12 x_5)) (wr := [(g0, .inr (4, [.ref g1, .ref g2, .ref g3, .int (nI sn)])), (g1, .inl (cI, 12, .inl dy)), (g2, .inl (cI, 12, .inl lv))]) (w1 := (wAr cI g3 12 (sX5_put 12 x_5 (nI x_4) (nI k)))) hP hD [3] [0, 1, 2] rfl rfl (by decide) (by decide) hk1 hFc hP1 hD1
        have hP := hP.sub (ws' := (wSg cI g0 g1 g2 g3 dy lv (sX5_put 12 x_5 (nI x_4) (nI k)) sn)) [0, 1, 2, 3] rfl
        have hD := hD.sub (ws' := (wSg cI g0 g1 g2 g3 dy lv (sX5_put 12 x_5 (nI x_4) (nI k)) sn)) [0, 1, 2, 3] (by decide) rfl
        generalize H1 = H at hP hS ⊢
        have hP : va_P (dC, dI) vwCl (wSg cI g0 g1 g2 g3 dy lv (sX5_put 12 x_5 (nI x_4) (nI k)) sn) H := hP
        have hD : va_D A (wSg cI g0 g1 g2 g3 dy lv (sX5_put 12 x_5 (nI x_4) (nI k)) sn) := hD
        refine lv_iinc (v := nI (k + 1)) (lv' := [(1, .int (nI (k + 1))), (2, .int (nI x_4)), (0, .ref g0)]) hx hb dX4_arrange_67 hl (k := 1) rfl (nI_1 k) (by decide) rfl (fun ls hl => ?_)
        refine lv_goto (tgt := 2) hx hb dX4_arrange_70 (by decide) ?_
        exact ih (k + 1) (sX5_put 12 x_5 (nI x_4) (nI k)) (by omega) (by omega) hex _ _ _ (lv_sub hl [0, 2] rfl) hP hD hS
  exact L2 13 0 od (by decide) (by decide) hex _ _ _ (lv_sub hl [0, 1] rfl) hP hD hS

def rX4_add : Room := { frames := 3, cells := 0, slots := 0, locals := 64 }
def sX4_add (dy : Nat → Int32) (lv : Nat → Int32) (od : Nat → Int32) (sn : Nat) (d0 : Int32) (l0 : Int32) : Int32 × (Nat → Int32) × (Nat → Int32) × (Nat → Int32) × (Nat) := (nI (sn + 1), sX5_put 12 dy (nI sn) d0, sX5_put 12 lv (nI sn) l0, sX4_arrange (sX5_put 12 dy (nI sn) d0) od (sn + 1), sn + 1)
set_option maxHeartbeats 4000000 in
set_option maxRecDepth 100000 in
theorem kX4_add (l : Launch) (dC : Nat → ClassId) (dI : Nat → Nat → Nat) (cI cQ cZ : ClassId) (g0 : Nat) (g1 : Nat) (g2 : Nat) (g3 : Nat) (dy : Nat → Int32) (lv : Nat → Int32) (od : Nat → Int32) (sn : Nat) (d0 : Int32) (l0 : Int32) (sz : Nat) (hsn : sn < 12) : Met l yX4_add wsX4_add rX4_add (va_Pc [.ref g0, .int d0, .int l0] (cd_pre dC dI cI cQ cZ (wSg cI g0 g1 g2 g3 dy lv od sn) sz)) (va_Qi (fun r _ => r = (sX4_add dy lv od sn d0 l0).1) (cd_post dC dI (wSg cI g0 g1 g2 g3 dy lv od sn) (wSg cI g0 g1 g2 g3 ((sX4_add dy lv od sn d0 l0).2.1) ((sX4_add dy lv od sn d0 l0).2.2.1) ((sX4_add dy lv od sn d0 l0).2.2.2.1) ((sX4_add dy lv od sn d0 l0).2.2.2.2)) sz) (va_A (wSg cI g0 g1 g2 g3 dy lv od sn) sz)) 0 0 (va_A (wSg cI g0 g1 g2 g3 dy lv od sn) sz) := by
  have hiX4 : ∀ w ∈ u_ws RX4 TX4 4, w ∈ wsX4_add := by decide +kernel
  generalize hex : sX4_add dy lv od sn d0 l0 = ex
  unfold sX4_add at hex
  refine cd_mMi [.ref g0, .int d0, .int l0] (by decide) rfl (Nat.le_of_ble_eq_true rfl) ?_
  intro Q A p e s m args below meth c ls hx hb hml hown hts hA hret hK hP hD hS hl
  have hl : lv_has ls 3 [(0, .ref g0), (1, .int d0), (2, .int l0)] := hl
  refine lv_aload_n hx hb dX4_add_0 rfl (lv_at hl 0 rfl) ?_
  refine va_get (D := (dC, dI)) (ci := 4) (v := .ref g1) (C := RX4) (T := TX4) (N := 4) hx hb hts hiX4 hown hK.1 hP 0 rfl rfl 0 (by decide) (hts (.fieldLink RX4 9 "CellDays$Signs" "days" "[I") (by decide +kernel)) (fun _ h9 => h9) rfl dX4_add_1 ?_
  refine lv_aload_n hx hb dX4_add_4 rfl (lv_at hl 0 rfl) ?_
  refine va_get (D := (dC, dI)) (ci := 4) (v := .int (nI sn)) (C := RX4) (T := TX4) (N := 4) hx hb hts hiX4 hown hK.1 hP 0 rfl rfl 3 (by decide) (hts (.fieldLink RX4 19 "CellDays$Signs" "size" "I") (by decide +kernel)) (fun _ h9 => h9) rfl dX4_add_5 ?_
  refine lv_iload_n hx hb dX4_add_8 rfl (lv_at hl 1 rfl) ?_
  have hDc : va_D A (wAr cI g1 12 dy) := (hD.sub (ws' := (wAr cI g1 12 dy)) [1] (by decide) rfl)
  have hFc := cd_F hDc hS hA
  refine cd_wSv (As := [.ref g1, .int (nI sn), .int d0]) (rest := []) ⟨hx, hb, hml, hown, hts⟩ (kX5_put l dC dI cI cQ cZ g1 12 dy (nI sn) d0 s.heap.size (by decide)) ⟨va_cnB 3 hts gX4_add_X5_put_n23 rfl rfl rfl (hK.2.1 (.methodLinkNest RX4 23 yX5_put RX5) (by decide +kernel)) (hts (.initialized RX5) (by decide +kernel)) (by decide +kernel) ⟨by decide, by decide⟩, hts (.static yX5_put) (by decide +kernel), trivial⟩ hK (hP.sub (ws' := (wAr cI g1 12 dy)) [1] rfl) hDc hFc hS rfl hl.1 rfl (Nat.le_of_ble_eq_true rfl) dX4_add_9 ⟨by decide, by decide⟩ (fun H1 locs hP1 hD1 hk1 hS => ?_)
  obtain ⟨hP, hD⟩ := va_join (ws := (wSg cI g0 g1 g2 g3 dy lv od sn)) (wc := (wAr cI g1 12 dy)) (wr := [(g0, .inr (4, [.ref g1, .ref g2, .ref g3, .int (nI sn)])), (g2, .inl (cI, 12, .inl lv)), (g3, .inl (cI, 12, .inl od))]) (w1 := (wAr cI g1 12 (sX5_put 12 dy (nI sn) d0))) hP hD [1] [0, 2, 3] rfl rfl (by decide) (by decide) hk1 hFc hP1 hD1
  have hP := hP.sub (ws' := (wSg cI g0 g1 g2 g3 (sX5_put 12 dy (nI sn) d0) lv od sn)) [0, 3, 1, 2] rfl
  have hD := hD.sub (ws' := (wSg cI g0 g1 g2 g3 (sX5_put 12 dy (nI sn) d0) lv od sn)) [0, 3, 1, 2] (by decide) rfl
  generalize H1 = H at hP hS ⊢
  have hP : va_P (dC, dI) vwCl (wSg cI g0 g1 g2 g3 (sX5_put 12 dy (nI sn) d0) lv od sn) H := hP
  have hD : va_D A (wSg cI g0 g1 g2 g3 (sX5_put 12 dy (nI sn) d0) lv od sn) := hD
  refine lv_aload_n hx hb dX4_add_12 rfl (lv_at hl 0 rfl) ?_
  refine va_get (D := (dC, dI)) (ci := 4) (v := .ref g2) (C := RX4) (T := TX4) (N := 4) hx hb hts hiX4 hown hK.1 hP 0 rfl rfl 1 (by decide) (hts (.fieldLink RX4 13 "CellDays$Signs" "levels" "[I") (by decide +kernel)) (fun _ h9 => h9) rfl dX4_add_13 ?_
  refine lv_aload_n hx hb dX4_add_16 rfl (lv_at hl 0 rfl) ?_
  refine va_get (D := (dC, dI)) (ci := 4) (v := .int (nI sn)) (C := RX4) (T := TX4) (N := 4) hx hb hts hiX4 hown hK.1 hP 0 rfl rfl 3 (by decide) (hts (.fieldLink RX4 19 "CellDays$Signs" "size" "I") (by decide +kernel)) (fun _ h9 => h9) rfl dX4_add_17 ?_
  refine lv_iload_n hx hb dX4_add_20 rfl (lv_at hl 2 rfl) ?_
  have hDc : va_D A (wAr cI g2 12 lv) := (hD.sub (ws' := (wAr cI g2 12 lv)) [2] (by decide) rfl)
  have hFc := cd_F hDc hS hA
  refine cd_wSv (As := [.ref g2, .int (nI sn), .int l0]) (rest := []) ⟨hx, hb, hml, hown, hts⟩ (kX5_put l dC dI cI cQ cZ g2 12 lv (nI sn) l0 H.size (by decide)) ⟨va_cnB 3 hts gX4_add_X5_put_n23 rfl rfl rfl (hK.2.1 (.methodLinkNest RX4 23 yX5_put RX5) (by decide +kernel)) (hts (.initialized RX5) (by decide +kernel)) (by decide +kernel) ⟨by decide, by decide⟩, hts (.static yX5_put) (by decide +kernel), trivial⟩ hK (hP.sub (ws' := (wAr cI g2 12 lv)) [2] rfl) hDc hFc hS rfl hl.1 rfl (Nat.le_of_ble_eq_true rfl) dX4_add_21 ⟨by decide, by decide⟩ (fun H1 locs hP1 hD1 hk1 hS => ?_)
  obtain ⟨hP, hD⟩ := va_join (ws := (wSg cI g0 g1 g2 g3 (sX5_put 12 dy (nI sn) d0) lv od sn)) (wc := (wAr cI g2 12 lv)) (wr := [(g0, .inr (4, [.ref g1, .ref g2, .ref g3, .int (nI sn)])), (g1, .inl (cI, 12, .inl (sX5_put 12 dy (nI sn) d0))), (g3, .inl (cI, 12, .inl od))]) (w1 := (wAr cI g2 12 (sX5_put 12 lv (nI sn) l0))) hP hD [2] [0, 1, 3] rfl rfl (by decide) (by decide) hk1 hFc hP1 hD1
  have hP := hP.sub (ws' := (wSg cI g0 g1 g2 g3 (sX5_put 12 dy (nI sn) d0) (sX5_put 12 lv (nI sn) l0) od sn)) [0, 1, 3, 2] rfl
  have hD := hD.sub (ws' := (wSg cI g0 g1 g2 g3 (sX5_put 12 dy (nI sn) d0) (sX5_put 12 lv (nI sn) l0) od sn)) [0, 1, 3, 2] (by decide) rfl
  generalize H1 = H at hP hS ⊢
  have hP : va_P (dC, dI) vwCl (wSg cI g0 g1 g2 g3 (sX5_put 12 dy (nI sn) d0) (sX5_put 12 lv (nI sn) l0) od sn) H := hP
  have hD : va_D A (wSg cI g0 g1 g2 g3 (sX5_put 12 dy (nI sn) d0) (sX5_put 12 lv (nI sn) l0) od sn) := hD
  refine lv_aload_n hx hb dX4_add_24 rfl (lv_at hl 0 rfl) ?_
  refine lv_dup hx hb dX4_add_25 rfl ?_
  refine va_get (D := (dC, dI)) (ci := 4) (v := .int (nI sn)) (C := RX4) (T := TX4) (N := 4) hx hb hts hiX4 hown hK.1 hP 0 rfl rfl 3 (by decide) (hts (.fieldLink RX4 19 "CellDays$Signs" "size" "I") (by decide +kernel)) (fun _ h9 => h9) rfl dX4_add_26 ?_
  refine lv_iconst (v := 1) hx hb dX4_add_29 (by decide) ?_
  refine lv_iadd hx hb dX4_add_30 ?_
  refine W.eq (g2 := F0 m 31 ls [.int (nI (sn + 1)), .ref g0]) (by rw [nI_1]) ?_
  refine va_put (D := (dC, dI)) (ci := 4) (v := .int (nI (sn + 1))) (ty := .int) (C := RX4) (T := TX4) (N := 4) hx hb hts hiX4 tyX4 tyX4_ok nmX4 hown hK.1 hP hD hS 0 rfl rfl 3 (by decide) (hts (.fieldLink RX4 19 "CellDays$Signs" "size" "I") (by decide +kernel)) (fun _ h9 => h9) rfl (by decide +kernel) (rfl) (rfl) (Nat.le_of_ble_eq_true rfl) dX4_add_31 (fun H locs hP hD hS => ?_)
  have hP : va_P (dC, dI) vwCl (wSg cI g0 g1 g2 g3 (sX5_put 12 dy (nI sn) d0) (sX5_put 12 lv (nI sn) l0) od (sn + 1)) H := hP
  have hD : va_D A (wSg cI g0 g1 g2 g3 (sX5_put 12 dy (nI sn) d0) (sX5_put 12 lv (nI sn) l0) od (sn + 1)) := hD
  refine lv_aload_n hx hb dX4_add_34 rfl (lv_at hl 0 rfl) ?_
  have hDc : va_D A (wSg cI g0 g1 g2 g3 (sX5_put 12 dy (nI sn) d0) (sX5_put 12 lv (nI sn) l0) od (sn + 1)) := hD
  have hFc := cd_F hDc hS hA
  refine cd_wVv (As := []) (b := g0) (ci := 4) (q := (RX4, TX4, 4)) (rest := []) ⟨hx, hb, hml, hown, hts⟩ (kX4_arrange l dC dI cI cQ cZ g0 g1 g2 g3 (sX5_put 12 dy (nI sn) d0) (sX5_put 12 lv (nI sn) l0) od (sn + 1) H.size (by omega)) (cwV 0 hts gX4_add_X4_arrange rfl rfl rfl (by decide +kernel) ⟨by decide, by decide⟩) hK hP hDc hFc hS rfl rfl rfl hl.1 rfl (Nat.le_of_ble_eq_true rfl) dX4_add_35 ⟨by decide, by decide⟩ (fun H1 locs hP1 hD1 hk1 hS => ?_)
  have hP := hP1
  have hD := cd_DA hD1 hFc
  generalize H1 = H at hP hS ⊢
  have hP : va_P (dC, dI) vwCl (wSg cI g0 g1 g2 g3 (sX5_put 12 dy (nI sn) d0) (sX5_put 12 lv (nI sn) l0) (sX4_arrange (sX5_put 12 dy (nI sn) d0) od (sn + 1)) (sn + 1)) H := hP
  have hD : va_D A (wSg cI g0 g1 g2 g3 (sX5_put 12 dy (nI sn) d0) (sX5_put 12 lv (nI sn) l0) (sX4_arrange (sX5_put 12 dy (nI sn) d0) od (sn + 1)) (sn + 1)) := hD
  refine lv_aload_n hx hb dX4_add_38 rfl (lv_at hl 0 rfl) ?_
  refine va_get (D := (dC, dI)) (ci := 4) (v := .int (nI (sn + 1))) (C := RX4) (T := TX4) (N := 4) hx hb hts hiX4 hown hK.1 hP 0 rfl rfl 3 (by decide) (hts (.fieldLink RX4 19 "CellDays$Signs" "size" "I") (by decide +kernel)) (fun _ h9 => h9) rfl dX4_add_39 ?_
  subst hex
  exact hret _ _ _ _ dX4_add_42 hP hD hS

def rX4_removeLatest : Room := { frames := 3, cells := 0, slots := 0, locals := 64 }
def sX4_removeLatest (dy : Nat → Int32) (od : Nat → Int32) (sn : Nat) : Int32 × (Nat → Int32) × (Nat) := (nI (sn - 1), sX4_arrange dy od (sn - 1), sn - 1)
set_option maxHeartbeats 4000000 in
set_option maxRecDepth 100000 in
theorem kX4_removeLatest (l : Launch) (dC : Nat → ClassId) (dI : Nat → Nat → Nat) (cI cQ cZ : ClassId) (g0 : Nat) (g1 : Nat) (g2 : Nat) (g3 : Nat) (dy : Nat → Int32) (lv : Nat → Int32) (od : Nat → Int32) (sn : Nat) (sz : Nat) (hsn : sn ≤ 12) (hs0 : 0 < sn) : Met l yX4_removeLatest wsX4_removeLatest rX4_removeLatest (va_Pc [.ref g0] (cd_pre dC dI cI cQ cZ (wSg cI g0 g1 g2 g3 dy lv od sn) sz)) (va_Qi (fun r _ => r = (sX4_removeLatest dy od sn).1) (cd_post dC dI (wSg cI g0 g1 g2 g3 dy lv od sn) (wSg cI g0 g1 g2 g3 dy lv ((sX4_removeLatest dy od sn).2.1) ((sX4_removeLatest dy od sn).2.2)) sz) (va_A (wSg cI g0 g1 g2 g3 dy lv od sn) sz)) 0 0 (va_A (wSg cI g0 g1 g2 g3 dy lv od sn) sz) := by
  have hiX4 : ∀ w ∈ u_ws RX4 TX4 4, w ∈ wsX4_removeLatest := by decide +kernel
  generalize hex : sX4_removeLatest dy od sn = ex
  unfold sX4_removeLatest at hex
  refine cd_mMi [.ref g0] (by decide) rfl (Nat.le_of_ble_eq_true rfl) ?_
  intro Q A p e s m args below meth c ls hx hb hml hown hts hA hret hK hP hD hS hl
  have hl : lv_has ls 1 [(0, .ref g0)] := hl
  refine lv_aload_n hx hb dX4_removeLatest_0 rfl (lv_at hl 0 rfl) ?_
  refine lv_dup hx hb dX4_removeLatest_1 rfl ?_
  refine va_get (D := (dC, dI)) (ci := 4) (v := .int (nI sn)) (C := RX4) (T := TX4) (N := 4) hx hb hts hiX4 hown hK.1 hP 0 rfl rfl 3 (by decide) (hts (.fieldLink RX4 19 "CellDays$Signs" "size" "I") (by decide +kernel)) (fun _ h9 => h9) rfl dX4_removeLatest_2 ?_
  refine lv_iconst (v := 1) hx hb dX4_removeLatest_5 (by decide) ?_
  refine lv_isub hx hb dX4_removeLatest_6 ?_
  refine W.eq (g2 := F0 m 7 ls [.int (nI (sn - 1)), .ref g0]) (by rw [cd_s1 hs0]) ?_
  refine va_put (D := (dC, dI)) (ci := 4) (v := .int (nI (sn - 1))) (ty := .int) (C := RX4) (T := TX4) (N := 4) hx hb hts hiX4 tyX4 tyX4_ok nmX4 hown hK.1 hP hD hS 0 rfl rfl 3 (by decide) (hts (.fieldLink RX4 19 "CellDays$Signs" "size" "I") (by decide +kernel)) (fun _ h9 => h9) rfl (by decide +kernel) (rfl) (rfl) (Nat.le_of_ble_eq_true rfl) dX4_removeLatest_7 (fun H locs hP hD hS => ?_)
  have hP : va_P (dC, dI) vwCl (wSg cI g0 g1 g2 g3 dy lv od (sn - 1)) H := hP
  have hD : va_D A (wSg cI g0 g1 g2 g3 dy lv od (sn - 1)) := hD
  refine lv_aload_n hx hb dX4_removeLatest_10 rfl (lv_at hl 0 rfl) ?_
  have hDc : va_D A (wSg cI g0 g1 g2 g3 dy lv od (sn - 1)) := hD
  have hFc := cd_F hDc hS hA
  refine cd_wVv (As := []) (b := g0) (ci := 4) (q := (RX4, TX4, 4)) (rest := []) ⟨hx, hb, hml, hown, hts⟩ (kX4_arrange l dC dI cI cQ cZ g0 g1 g2 g3 dy lv od (sn - 1) H.size (by omega)) (cwV 0 hts gX4_removeLatest_X4_arrange rfl rfl rfl (by decide +kernel) ⟨by decide, by decide⟩) hK hP hDc hFc hS rfl rfl rfl hl.1 rfl (Nat.le_of_ble_eq_true rfl) dX4_removeLatest_11 ⟨by decide, by decide⟩ (fun H1 locs hP1 hD1 hk1 hS => ?_)
  have hP := hP1
  have hD := cd_DA hD1 hFc
  generalize H1 = H at hP hS ⊢
  have hP : va_P (dC, dI) vwCl (wSg cI g0 g1 g2 g3 dy lv (sX4_arrange dy od (sn - 1)) (sn - 1)) H := hP
  have hD : va_D A (wSg cI g0 g1 g2 g3 dy lv (sX4_arrange dy od (sn - 1)) (sn - 1)) := hD
  refine lv_aload_n hx hb dX4_removeLatest_14 rfl (lv_at hl 0 rfl) ?_
  refine va_get (D := (dC, dI)) (ci := 4) (v := .int (nI (sn - 1))) (C := RX4) (T := TX4) (N := 4) hx hb hts hiX4 hown hK.1 hP 0 rfl rfl 3 (by decide) (hts (.fieldLink RX4 19 "CellDays$Signs" "size" "I") (by decide +kernel)) (fun _ h9 => h9) rfl dX4_removeLatest_15 ?_
  subst hex
  exact hret _ _ _ _ dX4_removeLatest_18 hP hD hS
