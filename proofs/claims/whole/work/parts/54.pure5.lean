/-! PURE, 5: counts, prices, plans -/
theorem i_addT {a b : Int32} (ha : 0 ≤ a.toInt ∧ a.toInt ≤ 100000000) (hb : 0 ≤ b.toInt ∧ b.toInt ≤ 100000000) : (a + b).toInt = a.toInt + b.toInt := by
  obtain ⟨x, hx, rfl⟩ := nn_nI ha.1
  obtain ⟨y, hy, rfl⟩ := nn_nI hb.1
  rw [nI_toInt hx] at ha ⊢
  rw [nI_toInt hy] at hb ⊢
  rw [nI_add, nI_toInt (by omega)]
  omega
set_option maxRecDepth 100000 in
theorem bit_or : ∀ (k : Fin 8) (B : Fin 128), B.val < 2 ^ k.val → (nI B.val ||| ((1 : Int32) <<< (nI k.val &&& 31))) = nI (B.val + 2 ^ k.val) ∧ sJ6_bitCount_0f7a4 (nI (B.val + 2 ^ k.val)) = sJ6_bitCount_0f7a4 (nI B.val) + 1 := by decide +kernel
set_option maxRecDepth 100000 in
theorem bit_sub : ∀ (k : Fin 8) (B : Fin 256), (nI B.val ||| ((1 : Int32) <<< (nI k.val &&& 31))) - ((1 : Int32) <<< (nI k.val &&& 31)) = (nI B.val &&& (((1 : Int32) <<< (nI k.val &&& 31)) ^^^ (-1))) := by decide +kernel
section OPS5
variable {ru sh : Nat → Int32} {pl : Int32} {wa : Nat → Int32} {dn sn : Nat} {dy od : Nat → Int32} {row : Nat → Option Nat} {L : List Nat} {pd : Nat → DT} {kd ld tm pk ts wo io : Nat → Int32}
theorem bits_val (hdn : dn ≤ 8) : ∀ (n k B : Nat), k ≤ dn → B < 2 ^ k → dn - k < n → ∃ B', B' < 2 ^ dn ∧ sX6_bits_L4 dn io n (nI B) k = nI B' ∧ (sX6_count_L9 ru dn io sn 1 n (sJ6_bitCount_0f7a4 (nI B)) k).1 = sJ6_bitCount_0f7a4 (nI B') := by
  intro n
  induction n with
  | zero => intro k B _ _ hm; exact absurd hm (Nat.not_lt_zero _)
  | succ n ih =>
    intro k B hk hB hm
    rw [sX6_bits_L4, sX6_count_L9]
    by_cases c : dn ≤ k
    · have e : k = dn := by omega
      subst e
      rw [if_pos (ylit (by omega) (by omega) c), if_pos (ylit (by omega) (by omega) c), if_neg (show ¬ (1 : Int32) = 0 by decide), if_pos rfl]
      exact ⟨B, hB, rfl, rfl⟩
    · have hc : ¬ nI dn ≤ nI k := nlit (by omega) (by omega) c
      have h2 : 2 ^ (k + 1) = 2 ^ k * 2 := Nat.pow_succ ..
      rw [if_neg hc, if_neg hc]
      by_cases z : io k = 0
      · rw [if_pos z, if_pos z, i_or0, cd_add0]
        exact ih (k + 1) B (by omega) (by omega) (by omega)
      · have hp : 2 ^ k ≤ 128 := by
          have : k ≤ 7 := by omega
          calc 2 ^ k ≤ 2 ^ 7 := Nat.pow_le_pow_right (by decide) this
            _ = 128 := by decide
        obtain ⟨e1, e2⟩ := bit_or ⟨k, by omega⟩ ⟨B, by omega⟩ hB
        rw [if_neg z, if_neg z]
        dsimp only at e1 e2
        rw [e1, ← e2]
        exact ih (k + 1) (B + 2 ^ k) (by omega) (by omega) (by omega)
theorem count_L (hdn : dn ≤ 8) (wh : Int32) : ∀ (n : Nat) (cn : Int32) (k : Nat), k ≤ dn → dn - k < n → sX6_count_L9 ru dn io sn wh n cn k = (if wh = 0 then (nI dn, 0) else (if wh = 1 then ((sX6_count_L9 ru dn io sn 1 n cn k).1, 0) else (if wh = 2 then (nI sn, 0) else (if (sX6_in wh 3 5) = 0 then ((-1), 0) else (ru ((wh - 3).toNatClampNeg), 0))))) := by
  intro n
  induction n with
  | zero => intro cn k _ hm; exact absurd hm (Nat.not_lt_zero _)
  | succ n ih =>
    intro cn k hk hm
    rw [sX6_count_L9, sX6_count_L9]
    by_cases c : nI dn ≤ nI k
    · rw [if_pos c, if_pos c]
      rfl
    · have : ¬ dn ≤ k := fun q => c (ylit (by omega) (by omega) q)
      rw [if_neg c, if_neg c]
      exact ih _ _ (by omega) (by omega)
theorem op_count (h : LI ru sh pl wa dn sn dy od row L pd kd ld tm pk ts wo io) (wh : Int32) : sX5_count (ru 0) (ru 1) (ru 2) row dn sn pd wh = (sX6_count ru dn io sn wh).1 := by
  have hdn : dn ≤ 8 := h.1.2.2.2.1
  unfold sX5_count sX6_count
  rw [count_L hdn wh 9 0 0 (by omega) (by omega), set_eq h]
  by_cases e0 : wh = 0
  · rw [if_pos e0, if_pos e0]
  rw [if_neg e0, if_neg e0]
  by_cases e1 : wh = 1
  · rw [if_pos e1, if_pos e1]
    obtain ⟨B, hB, b1, b2⟩ := bits_val (ru := ru) (io := io) (sn := sn) hdn 9 0 0 (by omega) (by decide) (by omega)
    have z : sX6_bits dn io = nI B := b1
    have z2 : sJ6_bitCount_0f7a4 (nI 0) = 0 := by decide
    rw [z2] at b2
    rw [z]
    exact b2.symm
  rw [if_neg e1, if_neg e1]
  by_cases e2 : wh = 2
  · rw [if_pos e2, if_pos e2]
  rw [if_neg e2, if_neg e2]
  by_cases e3 : wh = 3
  · subst e3
    rfl
  rw [if_neg e3]
  by_cases e4 : wh = 4
  · subst e4
    rfl
  rw [if_neg e4]
  by_cases e5 : wh = 5
  · subst e5
    rfl
  rw [if_neg e5]
  have hw : sX6_in wh 3 5 = 0 := by
    apply Classical.byContradiction
    intro q
    have a : 3 ≤ wh.toInt := (in6_b q).1
    have b : wh.toInt ≤ 5 := (in6_b q).2
    have z0 := lv_neT e3 (a := 3) (by decide)
    have z1 := lv_neT e4 (a := 4) (by decide)
    have z2 := lv_neT e5 (a := 5) (by decide)
    omega
  rw [if_pos hw]
theorem sure_eq (h : LI ru sh pl wa dn sn dy od row L pd kd ld tm pk ts wo io) (st : Int32) : sX5_sureBy sh wa pl (ru 0) (ru 1) (ru 2) row dn pd st = sX6_lifeOf ru sh pl wa dn kd ld tm pk ts st 5 400 := days_eq h st (by decide)
theorem op_price (h : LI ru sh pl wa dn sn dy od row L pd kd ld tm pk ts wo io) (du : Int32) : sX5_price sh wa pl (ru 0) (ru 1) (ru 2) row dn pd du = (sX6_price ru sh pl wa dn kd ld tm pk ts io du).1 := by
  have hdn : dn ≤ 8 := h.1.2.2.2.1
  unfold sX5_price sX6_price
  rcases duty_cases (row := row) hdn du with ⟨e1, e2⟩ | ⟨k, hk, rfl, e1, e2⟩
  · rw [e1, if_pos e2]
  · obtain ⟨y, hy, hDR⟩ := h.2.2.2.2.1 k hk
    rw [e1, if_neg e2, hy]
    dsimp only
    rw [sure_eq h, sure_eq h, set_eq h]
    obtain ⟨B, hB, b1, b2⟩ := bits_val (ru := ru) (io := io) (sn := sn) hdn 9 0 0 (by omega) (by decide) (by omega)
    have z : sX6_bits dn io = nI B := b1
    have hp := pow_8 hdn
    have hb := bit_sub ⟨k, by omega⟩ ⟨B, by omega⟩
    dsimp only at hb
    rw [z, hb]
theorem worth_nn (h : LI ru sh pl wa dn sn dy od row L pd kd ld tm pk ts wo io) (st : Int32) : ∀ (n : Nat) (vv : Int32) (k : Nat), k ≤ 8 → 0 ≤ vv.toInt ∧ vv.toInt ≤ 100 * k → 0 ≤ (sX6_worthOf_L4 dn wo st n vv k).toInt := by
  have hdn : dn ≤ 8 := h.1.2.2.2.1
  intro n
  induction n with
  | zero => intro vv k _ _; rw [sX6_worthOf_L4]; decide
  | succ n ih =>
    intro vv k hk hv
    rw [sX6_worthOf_L4]
    by_cases c : nI dn ≤ nI k
    · rw [if_pos c]
      exact hv.1
    · have hlt : k < dn := by
        rcases Nat.lt_or_ge k dn with q | q
        · exact q
        · exact absurd (ylit (by omega) (by omega) q) c
      rw [if_neg c]
      have hw := (h.2.2.2.2.2.1 k hlt).2.2.2.2.2.1
      have hx : 0 ≤ (if ((st >>> ((nI k) &&& 31)) &&& 1) = 1 then wo k else (0 : Int32)).toInt ∧ (if ((st >>> ((nI k) &&& 31)) &&& 1) = 1 then wo k else (0 : Int32)).toInt ≤ 100 := by
        split
        · exact hw
        · decide
      refine ih _ _ (by omega) ?_
      rw [i_addT (by omega) (by omega)]
      omega
theorem life_D (sm : Int32) : ∀ (n : Nat) (cg : Int32) (k : Nat), ¬ cg < 0 → k ≤ 400 → 401 - k < n → ∃ D, k ≤ D ∧ D ≤ 400 ∧ sX6_lifeOf_L23 ru sh pl wa 400 n sm cg k = nI D ∧ ∀ N, k ≤ N → N ≤ 400 → sX6_lifeOf_L23 ru sh pl wa (nI N) n sm cg k = nI (min N D) := by
  intro n
  induction n with
  | zero => intro cg k _ _ hm; exact absurd hm (Nat.not_lt_zero _)
  | succ n ih =>
    intro cg k hc hk hm
    rw [sX6_lifeOf_L23]
    by_cases c : 400 ≤ k
    · have e : k = 400 := by omega
      subst e
      refine ⟨400, by omega, by omega, by rw [if_pos (show (400 : Int32) ≤ nI 400 by decide)], fun N h1 h2 => ?_⟩
      have e : N = 400 := by omega
      subst e
      rw [sX6_lifeOf_L23, if_pos (ylit (by omega) (by omega) (by omega))]
      rfl
    · have c4 : ¬ (400 : Int32) ≤ nI k := nlit (a := 400) (by omega) (by omega) c
      rw [if_neg c4, if_neg hc]
      by_cases b : sX6_behind sh pl wa cg (nI k) (ru 1) sm < 0
      · obtain ⟨n', rfl⟩ : ∃ n', n = n' + 1 := ⟨n - 1, by omega⟩
        refine ⟨k, by omega, by omega, by rw [if_pos b, sX6_lifeOf_L23, if_neg c4, if_pos b], fun N h1 h2 => ?_⟩
        rw [sX6_lifeOf_L23, Nat.min_eq_right h1]
        by_cases cN : N ≤ k
        · rw [if_pos (ylit (by omega) (by omega) cN)]
        · have cN' : ¬ nI N ≤ nI k := nlit (by omega) (by omega) cN
          rw [if_neg cN', if_neg hc, if_pos b, sX6_lifeOf_L23, if_neg cN', if_pos b]
      · obtain ⟨D, d1, d2, d3, d4⟩ := ih (sX6_behind sh pl wa cg (nI k) (ru 1) sm) (k + 1) b (by omega) (by omega)
        refine ⟨D, by omega, d2, by rw [if_neg b]; exact d3, fun N h1 h2 => ?_⟩
        rw [sX6_lifeOf_L23]
        by_cases cN : N ≤ k
        · have : N = k := by omega
          subst this
          rw [if_pos (ylit (by omega) (by omega) cN), Nat.min_eq_left (by omega)]
        · have cN' : ¬ nI N ≤ nI k := nlit (by omega) (by omega) cN
          rw [if_neg cN', if_neg hc, if_neg b]
          exact d4 N (by omega) h2
theorem sure_iff (h : LI ru sh pl wa dn sn dy od row L pd kd ld tm pk ts wo io) (st : Int32) {N : Nat} (hN : N ≤ 400) : (sX6_lifeOf ru sh pl wa dn kd ld tm pk ts st 5 (nI N) = nI N) ↔ ¬ sX6_lifeOf ru sh pl wa dn kd ld tm pk ts st 5 400 < nI N := by
  obtain ⟨D, d1, d2, d3, d4⟩ := life_D (ru := ru) (sh := sh) (pl := pl) (wa := wa) (sX6_drains ru dn kd ld tm pk ts st 5) 402 (1000 * ru 0) 0 (first_nn h.2.1).1 (by omega) (by omega)
  unfold sX6_lifeOf
  rw [d3, d4 N (by omega) hN]
  constructor
  · intro q
    have := (nI_eq (a := min N D) (b := N) (by omega) (by omega)).mp q
    exact nI_nlt (by omega) (by omega)
  · intro q
    have : N ≤ D := by
      rcases Nat.lt_or_ge D N with z | z
      · exact absurd (nI_lt z (by omega)) q
      · exact z
    rw [Nat.min_eq_left this]
theorem plan_L (h : LI ru sh pl wa dn sn dy od row L pd kd ld tm pk ts wo io) {N : Nat} (hN : N ≤ 400) (wh : Int32) : ∀ (n : Nat) (fd : Int32) (k : Nat), k ≤ 256 → 256 - k < n → sX6_plan_L33 ru sh pl wa dn kd ld tm pk ts wo (nI N) wh n fd k = (if (sX5_worthiestSet_L19 sh wa pl (ru 0) (ru 1) (ru 2) row dn pd (nI N) n fd (if fd = (-9) then (-1) else sX6_worthOf dn wo fd) k) = (-9) then ((-9), 0) else (if wh = 0 then (sX5_worthiestSet_L19 sh wa pl (ru 0) (ru 1) (ru 2) row dn pd (nI N) n fd (if fd = (-9) then (-1) else sX6_worthOf dn wo fd) k, 0) else (if wh = 1 then (sX6_worthOf dn wo (sX5_worthiestSet_L19 sh wa pl (ru 0) (ru 1) (ru 2) row dn pd (nI N) n fd (if fd = (-9) then (-1) else sX6_worthOf dn wo fd) k), 0) else (sX6_lifeOf ru sh pl wa dn kd ld tm pk ts (sX5_worthiestSet_L19 sh wa pl (ru 0) (ru 1) (ru 2) row dn pd (nI N) n fd (if fd = (-9) then (-1) else sX6_worthOf dn wo fd) k) 5 400, 0)))) := by
  have hdn : dn ≤ 8 := h.1.2.2.2.1
  have hp := pow_8 hdn
  intro n
  induction n with
  | zero => intro fd k _ hm; exact absurd hm (Nat.not_lt_zero _)
  | succ n ih =>
    intro fd k hk hm
    rw [sX6_plan_L33, sX5_worthiestSet_L19]
    by_cases c : nI (2 ^ dn) ≤ nI k
    · rw [if_pos c, if_pos c]
    · have hlt : ¬ 2 ^ dn ≤ k := fun q => c (ylit (by omega) (by omega) q)
      rw [if_neg c, if_neg c, worth_eq h, sure_eq h]
      have hk9 : ¬ nI k = (-9 : Int32) := by
        intro q
        have := congrArg Int32.toInt q
        rw [nI_toInt (by omega), show (-9 : Int32).toInt = -9 from rfl] at this
        omega
      have ihk := ih (nI k) (k + 1) (by omega) (by omega)
      rw [if_neg hk9] at ihk
      have ihf := ih fd (k + 1) (by omega) (by omega)
      by_cases f9 : fd = (-9)
      · rw [if_pos f9] at ihf
        have w0 : ¬ sX6_worthOf dn wo (nI k) ≤ (-1 : Int32) := by
          intro q
          have h1 := cd_le q
          have h2 := worth_nn h (nI k) 9 0 0 (by omega) (by decide)
          have h3 : (sX6_worthOf dn wo (nI k)).toInt = (sX6_worthOf_L4 dn wo (nI k) 9 0 0).toInt := rfl
          rw [show (-1 : Int32).toInt = -1 from rfl] at h1
          omega
        rw [if_pos f9, if_pos f9, if_neg w0]
        by_cases s1 : sX6_lifeOf ru sh pl wa dn kd ld tm pk ts (nI k) 5 400 < nI N
        · rw [if_pos s1, if_neg (fun q => ((sure_iff h (nI k) hN).mp q) s1)]
          exact ihf
        · rw [if_neg s1, if_pos ((sure_iff h (nI k) hN).mpr s1)]
          exact ihk
      · rw [if_neg f9] at ihf
        rw [if_neg f9, if_neg f9]
        by_cases w1 : sX6_worthOf dn wo (nI k) ≤ sX6_worthOf dn wo fd
        · rw [if_pos w1, if_pos w1]
          exact ihf
        · rw [if_neg w1, if_neg w1]
          by_cases s1 : sX6_lifeOf ru sh pl wa dn kd ld tm pk ts (nI k) 5 400 < nI N
          · rw [if_pos s1, if_neg (fun q => ((sure_iff h (nI k) hN).mp q) s1)]
            exact ihf
          · rw [if_neg s1, if_pos ((sure_iff h (nI k) hN).mpr s1)]
            exact ihk
theorem op_plan (h : LI ru sh pl wa dn sn dy od row L pd kd ld tm pk ts wo io) (nn wh : Int32) : sX5_plan sh wa pl (ru 0) (ru 1) (ru 2) row dn pd nn wh = (sX6_plan ru sh pl wa dn kd ld tm pk ts wo nn wh).1 := by
  unfold sX5_plan sX6_plan
  rw [wi_eq, wi_eq]
  by_cases c : sX6_in nn 1 400 = 0
  · rw [if_pos c, if_pos c]
  rw [if_neg c, if_neg c]
  by_cases c2 : sX6_in wh 0 2 = 0
  · rw [if_pos c2, if_pos c2]
  rw [if_neg c2, if_neg c2]
  have hn : 1 ≤ nn.toInt ∧ nn.toInt ≤ 400 := in6_b c
  obtain ⟨N, hN, rfl⟩ := nn_nI (x := nn) (by omega)
  rw [nI_toInt hN] at hn
  rw [plan_L h (by omega) wh 257 (-9) 0 (by omega) (by omega), if_pos rfl, worth_eq h, sure_eq h]
  unfold sX5_worthiestSet
  split
  · rfl
  · split
    · rfl
    · split <;> rfl
end OPS5
