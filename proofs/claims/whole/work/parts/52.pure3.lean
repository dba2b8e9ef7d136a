/-! PURE, 3: drains, sets of duties -/
theorem i_mul1 (x : Int32) : x * 1 = x := by
  apply Int32.toBitVec_inj.mp
  simp
theorem i_or0 (x : Int32) : x ||| 0 = x := by
  apply Int32.toBitVec_inj.mp
  simp
theorem i_addA (a b c : Int32) : a + b + c = a + (b + c) := by
  apply Int32.toBitVec_inj.mp
  simp [BitVec.add_assoc]
theorem i_eq0 {x : Int32} (h : x.toInt = 0) : x = 0 := Int32.toInt_inj.mp (by rw [h]; rfl)
theorem i_eqn {x y : Int32} (h : x.toInt = y.toInt) : x = y := Int32.toInt_inj.mp h
theorem i_min {x t : Int32} : (if x < t then x else t) = (if x ≤ t then x else t) := by
  by_cases c : x < t
  · rw [if_pos c, if_pos (Int32.le_iff_toInt_le.mpr (by have := cd_lt c; omega))]
  · rw [if_neg c]
    by_cases d : x ≤ t
    · rw [if_pos d]
      exact i_eqn (by have := cd_le d; have := cd_nlt c; omega)
    · rw [if_neg d]
theorem i_max {p b : Int32} (hp : 0 ≤ p.toInt ∧ p.toInt ≤ 100) (hb : 1 ≤ b.toInt ∧ b.toInt ≤ 500) : (if 0 < p - b then p - b else 0) = (if p ≤ b then (0 : Int32) else p - b) := by
  obtain ⟨x, hx, rfl⟩ := nn_nI hp.1
  obtain ⟨y, hy, rfl⟩ := nn_nI (x := b) (by omega)
  rw [nI_toInt hx] at hp
  rw [nI_toInt hy] at hb
  have e := pk_sub_toInt (a := x) (b := y) (by omega) (by omega)
  by_cases c : nI x ≤ nI y
  · have c2 := (nI_leI hx hy).mp c
    rw [if_pos c, if_neg]
    intro q
    have := cd_lt q
    rw [e, show (0 : Int32).toInt = 0 from rfl] at this
    omega
  · have c2 : ¬ x ≤ y := fun q => c ((nI_leI hx hy).mpr q)
    rw [if_neg c, if_pos]
    apply Int32.lt_iff_toInt_lt.mpr
    rw [e, show (0 : Int32).toInt = 0 from rfl]
    omega
section OPS3
variable {ru sh : Nat → Int32} {pl : Int32} {wa : Nat → Int32} {dn sn : Nat} {dy od : Nat → Int32} {row : Nat → Option Nat} {L : List Nat} {pd : Nat → DT} {kd ld tm pk ts wo io : Nat → Int32}
theorem drain_eq {d : DT} {i : Nat} {t : Int32} (hi : i < 8) (hR : RU ru) (hd : DR d kd ld tm pk ts wo io i) (hb : DB kd ld tm pk ts wo io i) (ht : 1 ≤ t.toInt) : sX3_drainBy d t (ru 2) = sX6_drainOf ru kd ld tm pk ts (nI i) t := by
  obtain ⟨d1, d2, d3, d4, d5, d6, d7, d8⟩ := hd
  obtain ⟨b1, b2, b3, b4, b5, b6, b7⟩ := hb
  unfold sX3_drainBy sX6_drainOf
  rw [d1, d2, d3, d4, d5, nI_clamp (by omega), i_max b4 hR.2.2]
  by_cases z2 : kd i = 2
  · rw [z2, if_neg (show ¬ (2 : Int32) = 0 by decide), if_pos rfl, if_neg (show ¬ (2 : Int32) ≤ 0 by decide), if_pos rfl, i_min, i_addA]
  · have e1 := d6 z2
    have m1 : (if ts i ≤ t then ts i else t) = 1 := by
      rw [e1, if_pos]
      apply Int32.le_iff_toInt_le.mpr
      rw [show (1 : Int32).toInt = 1 from rfl]
      exact ht
    rw [m1, if_neg z2, i_mul1, i_mul1, if_neg z2]
    by_cases z0 : kd i = 0
    · rw [if_pos z0, if_pos (show kd i ≤ 0 by rw [z0]; decide)]
    · have nz : ¬ kd i ≤ 0 := by
        intro q
        have := cd_le q
        rw [show (0 : Int32).toInt = 0 from rfl] at this
        exact z0 (i_eq0 (by omega))
      rw [if_neg z0, if_neg nz, i_addA]
theorem bits_eq (h : LI ru sh pl wa dn sn dy od row L pd kd ld tm pk ts wo io) : ∀ (n : Nat) (vv : Int32) (k : Nat), k ≤ 8 → sX2_setOfOn_L4 row dn pd n vv k = sX6_bits_L4 dn io n vv k := by
  have hdn : dn ≤ 8 := h.1.2.2.2.1
  intro n
  induction n with
  | zero => intro vv k _; rw [sX2_setOfOn_L4, sX6_bits_L4]
  | succ n ih =>
    intro vv k hk
    rw [sX2_setOfOn_L4, sX6_bits_L4]
    by_cases c : nI dn ≤ nI k
    · rw [if_pos c, if_pos c]
    · have hlt : k < dn := by
        rcases Nat.lt_or_ge k dn with q | q
        · exact q
        · exact absurd (ylit (by omega) (by omega) q) c
      obtain ⟨y, hy, hDR⟩ := h.2.2.2.2.1 k hlt
      rw [if_neg c, if_neg c, numbered_nI hdn hlt, hy]
      dsimp only
      rw [hDR.2.2.2.2.2.2.2]
      by_cases z : io k = 0
      · rw [if_pos z, if_pos z, i_or0]
        exact ih _ _ (by omega)
      · rw [if_neg z, if_neg z]
        exact ih _ _ (by omega)
theorem set_eq (h : LI ru sh pl wa dn sn dy od row L pd kd ld tm pk ts wo io) : sX2_setOfOn row dn pd = sX6_bits dn io := bits_eq h 9 0 0 (by omega)
theorem load_eqL (h : LI ru sh pl wa dn sn dy od row L pd kd ld tm pk ts wo io) (st : Int32) {t : Int32} (ht : 1 ≤ t.toInt) : ∀ (n : Nat) (vv : Int32) (k : Nat), k ≤ 8 → sX2_loadOf_L6 row dn pd st t (ru 2) n vv k = sX6_drains_L5 ru dn kd ld tm pk ts st t n vv k := by
  have hdn : dn ≤ 8 := h.1.2.2.2.1
  intro n
  induction n with
  | zero => intro vv k _; rw [sX2_loadOf_L6, sX6_drains_L5]
  | succ n ih =>
    intro vv k hk
    rw [sX2_loadOf_L6, sX6_drains_L5]
    by_cases c : nI dn ≤ nI k
    · rw [if_pos c, if_pos c]
    · have hlt : k < dn := by
        rcases Nat.lt_or_ge k dn with q | q
        · exact q
        · exact absurd (ylit (by omega) (by omega) q) c
      obtain ⟨y, hy, hDR⟩ := h.2.2.2.2.1 k hlt
      rw [if_neg c, if_neg c]
      unfold sX2_numberedIn
      by_cases z : (st >>> (nI k &&& 31)) &&& 1 = 1
      · rw [if_pos z, if_pos z, numbered_nI hdn hlt, hy]
        dsimp only
        rw [drain_eq (by omega) h.2.1 hDR (h.2.2.2.2.2.1 k hlt) ht]
        exact ih _ _ (by omega)
      · rw [if_neg z, if_neg z, cd_add0]
        dsimp only
        exact ih _ _ (by omega)
theorem load_eq (h : LI ru sh pl wa dn sn dy od row L pd kd ld tm pk ts wo io) (st : Int32) {t : Int32} (ht : 1 ≤ t.toInt) : sX2_loadOf row dn pd st t (ru 2) = sX6_drains ru dn kd ld tm pk ts st t := load_eqL h st ht 9 0 0 (by omega)
theorem worth_eqL (h : LI ru sh pl wa dn sn dy od row L pd kd ld tm pk ts wo io) (st : Int32) : ∀ (n : Nat) (vv : Int32) (k : Nat), k ≤ 8 → sX2_worthOf_L4 row dn pd st n vv k = sX6_worthOf_L4 dn wo st n vv k := by
  have hdn : dn ≤ 8 := h.1.2.2.2.1
  intro n
  induction n with
  | zero => intro vv k _; rw [sX2_worthOf_L4, sX6_worthOf_L4]
  | succ n ih =>
    intro vv k hk
    rw [sX2_worthOf_L4, sX6_worthOf_L4]
    by_cases c : nI dn ≤ nI k
    · rw [if_pos c, if_pos c]
    · have hlt : k < dn := by
        rcases Nat.lt_or_ge k dn with q | q
        · exact q
        · exact absurd (ylit (by omega) (by omega) q) c
      obtain ⟨y, hy, hDR⟩ := h.2.2.2.2.1 k hlt
      rw [if_neg c, if_neg c]
      unfold sX2_numberedIn
      by_cases z : (st >>> (nI k &&& 31)) &&& 1 = 1
      · rw [if_pos z, if_pos z, numbered_nI hdn hlt, hy]
        dsimp only
        rw [hDR.2.2.2.2.2.2.1]
        exact ih _ _ (by omega)
      · rw [if_neg z, if_neg z, cd_add0]
        dsimp only
        exact ih _ _ (by omega)
theorem worth_eq (h : LI ru sh pl wa dn sn dy od row L pd kd ld tm pk ts wo io) (st : Int32) : sX2_worthOf row dn pd st = sX6_worthOf dn wo st := worth_eqL h st 9 0 0 (by omega)
theorem op_drain (h : LI ru sh pl wa dn sn dy od row L pd kd ld tm pk ts wo io) (tq : Int64) (du t : Int32) : (sX5_drain tq (ru 2) row dn pd du t).1 = (sX6_drain tq ru dn kd ld tm pk ts du t).1 ∧ (sX5_drain tq (ru 2) row dn pd du t).2 = (sX6_drain tq ru dn kd ld tm pk ts du t).2.2 := by
  have hdn : dn ≤ 8 := h.1.2.2.2.1
  unfold sX5_drain sX6_drain
  rcases duty_cases (row := row) hdn du with ⟨e1, e2⟩ | ⟨k, hk, rfl, e1, e2⟩
  · rw [e1, if_pos e2]
    exact ⟨rfl, rfl⟩
  · obtain ⟨y, hy, hDR⟩ := h.2.2.2.2.1 k hk
    have hDB := h.2.2.2.2.2.1 k hk
    rw [e1, if_neg e2, nI_clamp (by omega), hy]
    dsimp only
    by_cases c : sX6_in t 1 5 = 0
    · rw [if_pos (show sX5_isTries t = 0 from c), if_pos c]
      exact ⟨rfl, rfl⟩
    · have ht : 1 ≤ t.toInt ∧ t.toInt ≤ 5 := in6_b c
      rw [if_neg (show ¬ sX5_isTries t = 0 from c), if_neg c]
      have eB : (sX3_drainBy (pd y) t (ru 2), tq + ((sX3_traceOfOneAsk (pd y)).toInt64)) = ((sX6_drain_B44 tq ru kd ld tm pk ts (nI k) t).1, (sX6_drain_B44 tq ru kd ld tm pk ts (nI k) t).2.2) := by
        unfold sX6_drain_B44 sX3_traceOfOneAsk
        rw [drain_eq (by omega) h.2.1 hDR hDB ht.1, hDR.1, nI_clamp (by omega)]
        congr 2
        split
        · rfl
        · split <;> rfl
      obtain ⟨d1, d2, d3, d4, d5, d6, d7, d8⟩ := hDR
      rw [d5]
      by_cases z : kd k = 2
      · rw [if_pos z, if_pos z]
        by_cases le : t ≤ ts k
        · rw [if_pos le, if_pos le, eB]
          exact ⟨rfl, rfl⟩
        · rw [if_neg le, if_neg le]
          exact ⟨rfl, rfl⟩
      · rw [if_neg z, if_neg z, if_pos (show t ≤ (5 : Int32) from Int32.le_iff_toInt_le.mpr ht.2), eB]
        exact ⟨rfl, rfl⟩
end OPS3
