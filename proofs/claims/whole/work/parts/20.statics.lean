def rX5_within : Room := { frames := 0, cells := 0, slots := 0, locals := 0 }
def sX5_within (v : Int32) (lo : Int32) (hi : Int32) : Int32 := (if v < lo then 0 else (if hi < v then 0 else 1))
set_option maxHeartbeats 4000000 in
set_option maxRecDepth 100000 in
theorem kX5_within (l : Launch) (dC : Nat → ClassId) (dI : Nat → Nat → Nat) (cI cQ cZ : ClassId) (v : Int32) (lo : Int32) (hi : Int32) : Met l yX5_within wsX5_within rX5_within (va_Pc [.int v, .int lo, .int hi] (cd_rp dC dI cI cQ cZ [])) (vp_Si (fun r => r = sX5_within v lo hi)) 0 0 (fun _ => False) := by
  generalize hex : sX5_within v lo hi = ex
  unfold sX5_within at hex
  refine cd_mRz [.int v, .int lo, .int hi] (by decide) rfl (Nat.le_of_ble_eq_true rfl) ?_
  intro Q p e s m args below meth c ls hx hb hml hown hts hret ⟨hK, hP⟩ hl
  have hl : lv_has ls 3 [(0, .int v), (1, .int lo), (2, .int hi)] := hl
  refine lv_iload_n hx hb dX5_within_0 rfl (lv_at hl 0 rfl) ?_
  refine lv_iload_n hx hb dX5_within_1 rfl (lv_at hl 1 rfl) ?_
  refine lv_icmp_lt (tgt := 14) hx hb dX5_within_2 (by decide) (fun c_1 => ?_) (fun c_1 => ?_)
  · rw [if_pos c_1] at hex
    refine lv_iconst (v := 0) hx hb dX5_within_14 (by decide) ?_
    subst hex
    exact hret _ _ rfl dX5_within_15
  · rw [if_neg c_1] at hex
    refine lv_iload_n hx hb dX5_within_5 rfl (lv_at hl 0 rfl) ?_
    refine lv_iload_n hx hb dX5_within_6 rfl (lv_at hl 2 rfl) ?_
    refine lv_icmp_gt (tgt := 14) hx hb dX5_within_7 (by decide) (fun c_2 => ?_) (fun c_2 => ?_)
    · rw [if_pos c_2] at hex
      refine lv_iconst (v := 0) hx hb dX5_within_14 (by decide) ?_
      subst hex
      exact hret _ _ rfl dX5_within_15
    · rw [if_neg c_2] at hex
      refine lv_iconst (v := 1) hx hb dX5_within_10 (by decide) ?_
      refine lv_goto (tgt := 15) hx hb dX5_within_11 (by decide) ?_
      subst hex
      exact hret _ _ rfl dX5_within_15

theorem nb_within (v lo hi : Int32) : narrow .boolean (.int (sX5_within v lo hi)) = .int (sX5_within v lo hi) := by
  unfold sX5_within
  split <;> (try split) <;> rfl

def rX5_isDay : Room := { frames := 1, cells := 0, slots := 0, locals := 22 }
def sX5_isDay (d : Int32) : Int32 := (sX5_within d 0 399)
set_option maxHeartbeats 4000000 in
set_option maxRecDepth 100000 in
theorem kX5_isDay (l : Launch) (dC : Nat → ClassId) (dI : Nat → Nat → Nat) (cI cQ cZ : ClassId) (d : Int32) : Met l yX5_isDay wsX5_isDay rX5_isDay (va_Pc [.int d] (cd_rp dC dI cI cQ cZ [])) (vp_Si (fun r => r = sX5_isDay d)) 0 0 (fun _ => False) := by
  generalize hex : sX5_isDay d = ex
  unfold sX5_isDay at hex
  refine cd_mRz [.int d] (by decide) rfl (Nat.le_of_ble_eq_true rfl) ?_
  intro Q p e s m args below meth c ls hx hb hml hown hts hret ⟨hK, hP⟩ hl
  have hl : lv_has ls 1 [(0, .int d)] := hl
  refine lv_iload_n hx hb dX5_isDay_0 rfl (lv_at hl 0 rfl) ?_
  refine lv_iconst (v := 0) hx hb dX5_isDay_1 (by decide) ?_
  refine lv_sipush (v := 399) hx hb dX5_isDay_2 (by decide) ?_
  refine cd_rS (As := [.int d, .int 0, .int 399]) (rest := []) ⟨hx, hb, hml, hown, hts⟩ (kX5_within l dC dI cI cQ cZ d 0 399) (va_cwS 3 hts gX5_isDay_X5_within rfl rfl rfl (by decide +kernel) ⟨by decide, by decide⟩) hK cd_P0 rfl hl.1 rfl (by decide) dX5_isDay_5 ⟨by decide, by decide⟩ ?_
  subst hex
  exact hret _ _ (nb_within _ _ _) dX5_isDay_8

def rX5_isTries : Room := { frames := 1, cells := 0, slots := 0, locals := 22 }
def sX5_isTries (t : Int32) : Int32 := (sX5_within t 1 5)
set_option maxHeartbeats 4000000 in
set_option maxRecDepth 100000 in
theorem kX5_isTries (l : Launch) (dC : Nat → ClassId) (dI : Nat → Nat → Nat) (cI cQ cZ : ClassId) (t : Int32) : Met l yX5_isTries wsX5_isTries rX5_isTries (va_Pc [.int t] (cd_rp dC dI cI cQ cZ [])) (vp_Si (fun r => r = sX5_isTries t)) 0 0 (fun _ => False) := by
  generalize hex : sX5_isTries t = ex
  unfold sX5_isTries at hex
  refine cd_mRz [.int t] (by decide) rfl (Nat.le_of_ble_eq_true rfl) ?_
  intro Q p e s m args below meth c ls hx hb hml hown hts hret ⟨hK, hP⟩ hl
  have hl : lv_has ls 1 [(0, .int t)] := hl
  refine lv_iload_n hx hb dX5_isTries_0 rfl (lv_at hl 0 rfl) ?_
  refine lv_iconst (v := 1) hx hb dX5_isTries_1 (by decide) ?_
  refine lv_iconst (v := 5) hx hb dX5_isTries_2 (by decide) ?_
  refine cd_rS (As := [.int t, .int 1, .int 5]) (rest := []) ⟨hx, hb, hml, hown, hts⟩ (kX5_within l dC dI cI cQ cZ t 1 5) (va_cwS 3 hts gX5_isTries_X5_within rfl rfl rfl (by decide +kernel) ⟨by decide, by decide⟩) hK cd_P0 rfl hl.1 rfl (by decide) dX5_isTries_3 ⟨by decide, by decide⟩ ?_
  subst hex
  exact hret _ _ (nb_within _ _ _) dX5_isTries_6

def rX5_powerOfThree : Room := { frames := 0, cells := 0, slots := 0, locals := 0 }
def sX5_powerOfThree_L4 (n0 : Int32) : Nat → Int32 → Nat → Int32
  | 0, pw, k => 0
  | n + 1, pw, k => (if n0 ≤ (nI k) then pw else (if 12 ≤ (nI k) then pw else sX5_powerOfThree_L4 n0 n (pw * 3) (k + 1)))
def sX5_powerOfThree (n0 : Int32) : Int32 := sX5_powerOfThree_L4 n0 13 1 0
set_option maxHeartbeats 4000000 in
set_option maxRecDepth 100000 in
theorem kX5_powerOfThree (l : Launch) (dC : Nat → ClassId) (dI : Nat → Nat → Nat) (cI cQ cZ : ClassId) (n0 : Int32) : Met l yX5_powerOfThree wsX5_powerOfThree rX5_powerOfThree (va_Pc [.int n0] (cd_rp dC dI cI cQ cZ [])) (vp_Si (fun r => r = sX5_powerOfThree n0)) 0 0 (fun _ => False) := by
  generalize hex : sX5_powerOfThree n0 = ex
  unfold sX5_powerOfThree at hex
  refine cd_mRi [.int n0] (by decide) rfl (Nat.le_of_ble_eq_true rfl) ?_
  intro Q p e s m args below meth c ls hx hb hml hown hts hret ⟨hK, hP⟩ hl
  have hl : lv_has ls 3 [(0, .int n0)] := hl
  refine lv_iconst (v := 1) hx hb dX5_powerOfThree_0 (by decide) ?_
  refine lv_istore_n (lv' := [(1, .int 1), (0, .int n0)]) hx hb dX5_powerOfThree_1 rfl hl (by decide) rfl (fun ls hl => ?_)
  refine lv_iconst (v := 0) hx hb dX5_powerOfThree_2 (by decide) ?_
  refine lv_istore_n (lv' := [(2, .int 0), (1, .int 1), (0, .int n0)]) hx hb dX5_powerOfThree_3 rfl hl (by decide) rfl (fun ls hl => ?_)
  have L4 : ∀ (n : Nat) (pw : Int32) (k : Nat), (k ≤ 12) → 12 - k < n → sX5_powerOfThree_L4 n0 n pw k = ex → ∀ (ls : Array Slot), lv_has ls 3 [(2, .int (nI k)), (1, .int pw), (0, .int n0)] → W p l e rX5_powerOfThree s m args below meth c s.heap [] 0 0 Q (F0 m 4 ls []) := by
    intro n
    induction n with
    | zero => intro pw k hk hm; exact absurd hm (Nat.not_lt_zero _)
    | succ n ih =>
      intro pw k hk hm hex ls hl
      rw [sX5_powerOfThree_L4] at hex
      refine lv_iload_n hx hb dX5_powerOfThree_4 rfl (lv_at hl 0 rfl) ?_
      refine lv_iload_n hx hb dX5_powerOfThree_5 rfl (lv_at hl 2 rfl) ?_
      refine lv_icmp_ge (tgt := 25) hx hb dX5_powerOfThree_6 (by decide) (fun c_1 => ?_) (fun c_1 => ?_)
      · rw [if_pos c_1] at hex
        refine lv_iload_n hx hb dX5_powerOfThree_25 rfl (lv_at hl 1 rfl) ?_
        subst hex
        exact hret _ _ dX5_powerOfThree_26
      · rw [if_neg c_1] at hex
        refine lv_iload_n hx hb dX5_powerOfThree_9 rfl (lv_at hl 0 rfl) ?_
        refine lv_bipush (v := 12) hx hb dX5_powerOfThree_10 (by decide) ?_
        refine lv_icmp_ge (tgt := 25) hx hb dX5_powerOfThree_12 (by decide) (fun c_2 => ?_) (fun c_2 => ?_)
        · rw [if_pos c_2] at hex
          try have n_2 : 12 ≤ k := (nI_leI (a := 12) (b := k) (by omega) (by omega)).mp c_2
          refine lv_iload_n hx hb dX5_powerOfThree_25 rfl (lv_at hl 1 rfl) ?_
          subst hex
          exact hret _ _ dX5_powerOfThree_26
        · rw [if_neg c_2] at hex
          try have n_2 : ¬ 12 ≤ k := fun h9 => c_2 ((nI_leI (a := 12) (b := k) (by omega) (by omega)).mpr h9)
          refine lv_iload_n hx hb dX5_powerOfThree_15 rfl (lv_at hl 1 rfl) ?_
          refine lv_iconst (v := 3) hx hb dX5_powerOfThree_16 (by decide) ?_
          refine lv_imul hx hb dX5_powerOfThree_17 ?_
          refine lv_istore_n (lv' := [(1, .int (pw * 3)), (2, .int (nI k)), (0, .int n0)]) hx hb dX5_powerOfThree_18 rfl hl (by decide) rfl (fun ls hl => ?_)
          refine lv_iinc (v := nI (k + 1)) (lv' := [(2, .int (nI (k + 1))), (1, .int (pw * 3)), (0, .int n0)]) hx hb dX5_powerOfThree_19 hl (k := 1) rfl (nI_1 k) (by decide) rfl (fun ls hl => ?_)
          refine lv_goto (tgt := 4) hx hb dX5_powerOfThree_22 (by decide) ?_
          exact ih (pw * 3) (k + 1) (by omega) (by omega) hex _ (lv_sub hl [0, 1, 2] rfl)
  exact L4 13 1 0 (by decide) (by decide) hex _ (lv_sub hl [0, 1, 2] rfl)

def rX5_at : Room := { frames := 0, cells := 0, slots := 0, locals := 0 }
def sX5_at (n : Nat) (f : Nat → Int32) (i : Int32) : Int32 := (if i < 0 then 0 else (if (nI n) ≤ i then 0 else (f i.toNatClampNeg)))
set_option maxHeartbeats 4000000 in
set_option maxRecDepth 100000 in
theorem kX5_at (l : Launch) (dC : Nat → ClassId) (dI : Nat → Nat → Nat) (cI cQ cZ : ClassId) (a : Nat) (n : Nat) (f : Nat → Int32) (i : Int32) (hn : n < 2 ^ 31) : Met l yX5_at wsX5_at rX5_at (va_Pc [.ref a, .int i] (cd_rp dC dI cI cQ cZ (wAr cI a n f))) (vp_Si (fun r => r = sX5_at n f i)) 0 0 (fun _ => False) := by
  generalize hex : sX5_at n f i = ex
  unfold sX5_at at hex
  refine cd_mRi [.ref a, .int i] (by decide) rfl (Nat.le_of_ble_eq_true rfl) ?_
  intro Q p e s m args below meth c ls hx hb hml hown hts hret ⟨hK, hP⟩ hl
  have hl : lv_has ls 2 [(0, .ref a), (1, .int i)] := hl
  refine lv_iload_n hx hb dX5_at_0 rfl (lv_at hl 1 rfl) ?_
  refine lv_if_lt (tgt := 16) hx hb dX5_at_1 (by decide) (fun c_1 => ?_) (fun c_1 => ?_)
  · rw [if_pos c_1] at hex
    refine lv_iconst (v := 0) hx hb dX5_at_16 (by decide) ?_
    subst hex
    exact hret _ _ dX5_at_17
  · rw [if_neg c_1] at hex
    refine lv_iload_n hx hb dX5_at_4 rfl (lv_at hl 1 rfl) ?_
    refine lv_aload_n hx hb dX5_at_5 rfl (lv_at hl 0 rfl) ?_
    refine va_alen (v := nI n) hx hb hK.1 hP 0 0 rfl rfl rfl dX5_at_6 ?_
    refine lv_icmp_ge (tgt := 16) hx hb dX5_at_7 (by decide) (fun c_2 => ?_) (fun c_2 => ?_)
    · rw [if_pos c_2] at hex
      refine lv_iconst (v := 0) hx hb dX5_at_16 (by decide) ?_
      subst hex
      exact hret _ _ dX5_at_17
    · rw [if_neg c_2] at hex
      refine lv_aload_n hx hb dX5_at_10 rfl (lv_at hl 0 rfl) ?_
      refine lv_iload_n hx hb dX5_at_11 rfl (lv_at hl 1 rfl) ?_
      refine va_iald hx hb hK.1 hP 0 0 rfl rfl ((cd_in hn c_1 c_2)) dX5_at_12 ?_
      refine lv_goto (tgt := 17) hx hb dX5_at_13 (by decide) ?_
      subst hex
      exact hret _ _ dX5_at_17

def rX5_put : Room := { frames := 0, cells := 0, slots := 0, locals := 0 }
def sX5_put (n : Nat) (f : Nat → Int32) (i : Int32) (x : Int32) : (Nat → Int32) := (if i < 0 then f else (if (nI n) ≤ i then f else (upd f i.toNatClampNeg x)))
set_option maxHeartbeats 4000000 in
set_option maxRecDepth 100000 in
theorem kX5_put (l : Launch) (dC : Nat → ClassId) (dI : Nat → Nat → Nat) (cI cQ cZ : ClassId) (a : Nat) (n : Nat) (f : Nat → Int32) (i : Int32) (x : Int32) (sz : Nat) (hn : n < 2 ^ 31) : Met l yX5_put wsX5_put rX5_put (va_Pc [.ref a, .int i, .int x] (cd_pre dC dI cI cQ cZ (wAr cI a n f) sz)) (va_Qv (fun _ => True) (cd_post dC dI (wAr cI a n f) (wAr cI a n (sX5_put n f i x)) sz) (va_A (wAr cI a n f) sz)) 0 0 (va_A (wAr cI a n f) sz) := by
  generalize hex : sX5_put n f i x = ex
  unfold sX5_put at hex
  refine cd_mMv [.ref a, .int i, .int x] (by decide) rfl (Nat.le_of_ble_eq_true rfl) ?_
  intro Q A p e s m args below meth c ls hx hb hml hown hts hA hinit hret hK hP hD hS hl
  have hl : lv_has ls 3 [(0, .ref a), (1, .int i), (2, .int x)] := hl
  refine lv_iload_n hx hb dX5_put_0 rfl (lv_at hl 1 rfl) ?_
  refine lv_if_lt (tgt := 14) hx hb dX5_put_1 (by decide) (fun c_1 => ?_) (fun c_1 => ?_)
  · rw [if_pos c_1] at hex
    subst hex
    exact hret _ _ _ _ dX5_put_14 hP hD hS
  · rw [if_neg c_1] at hex
    refine lv_iload_n hx hb dX5_put_4 rfl (lv_at hl 1 rfl) ?_
    refine lv_aload_n hx hb dX5_put_5 rfl (lv_at hl 0 rfl) ?_
    refine va_alen (v := nI n) hx hb hK.1 hP 0 0 rfl rfl rfl dX5_put_6 ?_
    refine lv_icmp_ge (tgt := 14) hx hb dX5_put_7 (by decide) (fun c_2 => ?_) (fun c_2 => ?_)
    · rw [if_pos c_2] at hex
      subst hex
      exact hret _ _ _ _ dX5_put_14 hP hD hS
    · rw [if_neg c_2] at hex
      refine lv_aload_n hx hb dX5_put_10 rfl (lv_at hl 0 rfl) ?_
      refine lv_iload_n hx hb dX5_put_11 rfl (lv_at hl 1 rfl) ?_
      refine lv_iload_n hx hb dX5_put_12 rfl (lv_at hl 2 rfl) ?_
      refine va_iast hx hb hK.1 hP hD hS 0 0 rfl rfl ((cd_in hn c_1 c_2)) dX5_put_13 (fun H locs hP hD hS => ?_)
      have hP : va_P (dC, dI) vwCl (wAr cI a n (upd f i.toNatClampNeg x)) H := hP
      have hD : va_D A (wAr cI a n (upd f i.toNatClampNeg x)) := hD
      subst hex
      exact hret _ _ _ _ dX5_put_14 hP hD hS
