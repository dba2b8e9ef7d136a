/-! PURE, 4: a day's charge; lives, charges -/
theorem i_999 (x : Int32) : x + 1000 - 1 = x + 999 := by
  apply Int32.toBitVec_inj.mp
  simp only [Int32.toBitVec_add, Int32.toBitVec_sub]
  rw [BitVec.sub_eq_add_neg, BitVec.add_assoc]
  congr 1
theorem i_mulC (a b : Int32) : a * b = b * a := by
  apply Int32.toBitVec_inj.mp
  simp [BitVec.mul_comm]
theorem i_pos {x : Int32} (h : 0 < x.toInt) : (0 : Int32) < x := Int32.lt_iff_toInt_lt.mpr (by rw [show (0 : Int32).toInt = 0 from rfl]; exact h)
section OPS4
variable {ru sh : Nat → Int32} {pl : Int32} {wa : Nat → Int32} {dn sn : Nat} {dy od : Nat → Int32} {row : Nat → Option Nat} {L : List Nat} {pd : Nat → DT} {kd ld tm pk ts wo io : Nat → Int32}
theorem share_pos (h : mOk ru sh pl wa dn sn dy) (dd : Int32) : 0 < (sX6_shareOf sh pl wa dd).toInt := by
  unfold sX6_shareOf
  exact h.2.2.1 _ (cl_lt (h.2.1 _).1 (h.2.1 _).2)
theorem behind_eq (h : mOk ru sh pl wa dn sn dy) {cg dd le sm : Int32} (hc : ¬ cg < 0) (hd : 0 ≤ dd.toInt) : sX1_chargeBehind cg (sX1_shareOn sh wa pl dd) le sm = sX6_behind sh pl wa cg dd le sm := by
  unfold sX1_chargeBehind sX6_behind sX6_up
  rw [shareOn_eq h hd, if_neg hc, if_pos (i_pos (share_pos h dd)), i_999, i_mulC 100 sm]
theorem first_nn (hR : RU ru) : ¬ (1000 * ru 0) < 0 ∧ (1000 * ru 0).toInt = 1000 * (ru 0).toInt := by
  obtain ⟨r, hr, e⟩ := nn_nI (x := ru 0) (by have := hR.1; omega)
  have hb := hR.1
  rw [e, nI_toInt hr] at hb
  rw [e, show (1000 : Int32) = nI 1000 from rfl, pk_mul, nI_toInt (by omega), nI_toInt hr]
  exact ⟨nI_pos (by omega), by omega⟩
theorem life_L (h : mOk ru sh pl wa dn sn dy) (sm : Int32) : ∀ (n : Nat) (cg : Int32) (k : Nat), ¬ cg < 0 → k ≤ 400 → 400 - k < n → sX1_daysLasted_L7 sh wa pl (ru 1) sm n cg k = sX6_lifeOf_L23 ru sh pl wa 400 (n + 1) sm cg k := by
  intro n
  induction n with
  | zero => intro cg k _ _ hm; exact absurd hm (Nat.not_lt_zero _)
  | succ n ih =>
    intro cg k hc hk hm
    rw [sX1_daysLasted_L7, sX6_lifeOf_L23]
    by_cases c : (400 : Int32) ≤ nI k
    · have : 400 ≤ k := (nI_leI (a := 400) (b := k) (by omega) (by omega)).mp c
      have e : k = 400 := by omega
      subst e
      rw [if_pos c, if_pos c]
      rfl
    · have hk2 : ¬ 400 ≤ k := fun q => c (ylit (a := 400) (by omega) (by omega) q)
      rw [if_neg c, if_neg c, if_neg hc, behind_eq h hc (nI_nn _ (by omega))]
      by_cases b : sX6_behind sh pl wa cg (nI k) (ru 1) sm < 0
      · rw [if_pos b, if_neg (fun q => by have := cd_lt b; have := cd_le q; omega)]
        rw [sX6_lifeOf_L23, if_neg c, if_pos b]
      · rw [if_neg b, if_pos (Int32.le_iff_toInt_le.mpr (cd_nlt b))]
        exact ih _ _ b (by omega) (by omega)
theorem days_eq (h : LI ru sh pl wa dn sn dy od row L pd kd ld tm pk ts wo io) (st : Int32) {t : Int32} (ht : 1 ≤ t.toInt) : sX1_daysLasted sh wa pl (ru 0) (ru 1) (sX2_loadOf row dn pd st t (ru 2)) = sX6_lifeOf ru sh pl wa dn kd ld tm pk ts st t 400 := by
  unfold sX1_daysLasted sX6_lifeOf sX1_chargeAtFirst
  rw [load_eq h st ht, i_mulC (ru 0) 1000]
  exact life_L h.1 _ 401 _ 0 (first_nn h.2.1).1 (by omega) (by omega)
theorem op_life (h : LI ru sh pl wa dn sn dy od row L pd kd ld tm pk ts wo io) (t : Int32) : sX5_life sh wa pl (ru 0) (ru 1) (ru 2) row dn pd t = (sX6_life ru sh pl wa dn kd ld tm pk ts io t).1 := by
  unfold sX5_life sX6_life
  by_cases c : sX6_isTries t = 0
  · rw [if_pos (show sX5_isTries t = 0 from c), if_pos c]
  · have ht : 1 ≤ t.toInt ∧ t.toInt ≤ 5 := in6_b c
    rw [if_neg (show ¬ sX5_isTries t = 0 from c), if_neg c, days_eq h _ ht.1, set_eq h]
theorem charge_L (h : mOk ru sh pl wa dn sn dy) (sm : Int32) {d : Nat} (hd : d < 400) : ∀ (n : Nat) (cg : Int32) (k : Nat), k ≤ 400 → 400 - k < n → (if 0 < sX1_chargeFrom_L6 sh wa pl (nI d + 1) (ru 1) sm n cg (nI k) then sX1_chargeFrom_L6 sh wa pl (nI d + 1) (ru 1) sm n cg (nI k) else 0) = (sX6_charge_L46 ru sh pl wa (nI d) n sm cg k).1 := by
  have hz : ∀ cg : Int32, (if 0 < cg then cg else 0) = ((if 0 ≤ cg then (cg, (0 : Int32)) else (0, 0)) : Int32 × Int32).1 := by
    intro cg
    by_cases c : 0 < cg
    · rw [if_pos c, if_pos (Int32.le_iff_toInt_le.mpr (by have := cd_lt c; omega))]
    · rw [if_neg c]
      by_cases e : 0 ≤ cg
      · rw [if_pos e]
        show (0 : Int32) = cg
        exact i_eqn (by have := cd_le e; have := cd_nlt c; omega)
      · rw [if_neg e]
  intro n
  induction n with
  | zero => intro cg k _ hm; exact absurd hm (Nat.not_lt_zero _)
  | succ n ih =>
    intro cg k hk hm
    rw [sX1_chargeFrom_L6, sX6_charge_L46]
    by_cases c : d < k
    · rw [if_pos (show nI d + 1 ≤ nI k by rw [nI_1]; exact ylit (by omega) (by omega) (by omega)), if_pos (show nI d < nI k from nI_lt c (by omega))]
      exact hz cg
    · rw [if_neg (show ¬ nI d + 1 ≤ nI k by rw [nI_1]; exact nlit (by omega) (by omega) (by omega)), if_neg (show ¬ nI d < nI k from nI_nlt (by omega) (by omega))]
      by_cases b : cg < 0
      · rw [if_pos b, if_pos b]
        exact hz cg
      · rw [if_neg b, if_neg b, behind_eq h b (nI_nn _ (by omega)), nI_1 k]
        exact ih _ _ (by omega) (by omega)
theorem op_charge (h : LI ru sh pl wa dn sn dy od row L pd kd ld tm pk ts wo io) (dd t : Int32) : sX5_charge sh wa pl (ru 0) (ru 1) (ru 2) row dn pd dd t = (sX6_charge ru sh pl wa dn kd ld tm pk ts io dd t).1 := by
  unfold sX5_charge sX6_charge
  by_cases c : sX6_isDay dd = 0
  · rw [if_pos (show sX5_isDay dd = 0 from c), if_pos c]
  rw [if_neg (show ¬ sX5_isDay dd = 0 from c), if_neg c]
  by_cases c2 : sX6_isTries t = 0
  · rw [if_pos (show sX5_isTries t = 0 from c2), if_pos c2]
  have ht : 1 ≤ t.toInt ∧ t.toInt ≤ 5 := in6_b c2
  rw [if_neg (show ¬ sX5_isTries t = 0 from c2), if_neg c2]
  have hd := isDay6_b c
  obtain ⟨d, hd1, rfl⟩ := nn_nI hd.1
  rw [nI_toInt hd1] at hd
  unfold sX1_chargeAhead sX1_chargeFrom sX1_chargeAtFirst
  rw [load_eq h _ ht.1, set_eq h, i_mulC (ru 0) 1000]
  exact charge_L h.1 _ (by omega) 401 _ 0 (by omega) (by omega)
end OPS4
