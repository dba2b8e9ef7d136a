/-! PURE, 7: charges ahead of days, levels, cases, which agree -/
def chg (sh : Nat → Int32) (pl : Int32) (wa : Nat → Int32) (le sm fi : Int32) : Nat → Int32
  | 0 => fi
  | k + 1 => if chg sh pl wa le sm fi k < 0 then chg sh pl wa le sm fi k else sX6_behind sh pl wa (chg sh pl wa le sm fi k) (nI k) le sm
def lev (r cg : Int32) : Int32 := if (if 0 ≤ cg then (cg / 100) / r else (0 : Int32)) ≤ 9 then if 0 ≤ cg then (cg / 100) / r else (0 : Int32) else (9 : Int32)
theorem i_subsub (a b c : Int32) : a - b - c = a - (b + c) := by
  apply Int32.toBitVec_inj.mp
  simp only [Int32.toBitVec_sub, Int32.toBitVec_add]
  rw [BitVec.sub_eq_add_neg, BitVec.sub_eq_add_neg, BitVec.sub_eq_add_neg, BitVec.neg_add, BitVec.sub_eq_add_neg, BitVec.add_assoc]
theorem not0 {x : Int32} : (¬ x < 0) ↔ 0 ≤ x := by
  constructor
  · intro h; exact Int32.le_iff_toInt_le.mpr (cd_nlt h)
  · intro h q; have := cd_le h; have := cd_lt q; omega
theorem chg_stick {sh : Nat → Int32} {pl : Int32} {wa : Nat → Int32} {le sm fi : Int32} {a : Nat} (h : chg sh pl wa le sm fi a < 0) : ∀ j, chg sh pl wa le sm fi (a + j) = chg sh pl wa le sm fi a := by
  intro j
  induction j with
  | zero => rfl
  | succ j ih =>
    rw [show a + (j + 1) = (a + j) + 1 from rfl, chg, ih, if_pos h]
section OPS7
variable {ru sh : Nat → Int32} {pl : Int32} {wa : Nat → Int32} {dn sn : Nat} {dy od : Nat → Int32} {row : Nat → Option Nat} {L : List Nat} {pd : Nat → DT} {kd ld tm pk ts wo io : Nat → Int32}
theorem emp_val {le sm fi f0 : Int32} : ∀ (n k : Nat) (lvv : Nat → Int32), k ≤ 400 → 400 - k < n → (∀ j, j < k → lvv j = lev (ru 0) (chg sh pl wa le sm fi j)) → ∀ j, j < 400 → sX6_empties_L54 ru sh pl wa n le sm f0 (chg sh pl wa le sm fi k) k lvv j = lev (ru 0) (chg sh pl wa le sm fi j) := by
  intro n
  induction n with
  | zero => intro k lvv _ hm; exact absurd hm (Nat.not_lt_zero _)
  | succ n ih =>
    intro k lvv hk hm hv
    rw [sX6_empties_L54]
    by_cases c : 400 ≤ k
    · rw [if_pos (show (400 : Int32) ≤ nI k from ylit (a := 400) (by omega) (by omega) c)]
      intro j hj
      exact hv j (by omega)
    · rw [if_neg (show ¬ (400 : Int32) ≤ nI k from nlit (a := 400) (by omega) (by omega) c)]
      have e : (if 0 ≤ chg sh pl wa le sm fi k then sX6_behind sh pl wa (chg sh pl wa le sm fi k) (nI k) le sm else chg sh pl wa le sm fi k) = chg sh pl wa le sm fi (k + 1) := by
        rw [chg]
        by_cases z : chg sh pl wa le sm fi k < 0
        · rw [if_pos z, if_neg (fun q => (not0.mpr q) z)]
        · rw [if_neg z, if_pos (not0.mp z)]
      rw [e]
      refine ih (k + 1) _ (by omega) (by omega) (fun j hj => ?_)
      by_cases ej : j = k
      · subst ej
        rw [pk_us]
        rfl
      · rw [pk_un ej]
        exact hv j (by omega)
/-- a case's leak and load -/
def caL (ru : Nat → Int32) (nu : Int32) : Int32 := ru 1 + nu / 25
def caS (ru : Nat → Int32) (dn : Nat) (kd ld tm pk ts io : Nat → Int32) (nu : Int32) : Int32 := (sX6_drains ru dn kd ld tm pk ts (sX6_bits dn io) (((nu / 5) - (nu / 5) / 5 * 5) + 1)) + (20 * (nu - nu / 5 * 5))
/-- a case's charge ahead of a day -/
def caC (ru sh : Nat → Int32) (pl : Int32) (wa : Nat → Int32) (dn : Nat) (kd ld tm pk ts io : Nat → Int32) (nu : Int32) : Nat → Int32 := chg sh pl wa (caL ru nu) (caS ru dn kd ld tm pk ts io nu) (1000 * ru 0)
theorem emp_eq (lv : Nat → Int32) (nu : Int32) : ∀ j, j < 400 → sX6_empties ru sh pl wa dn kd ld tm pk ts io lv nu j = lev (ru 0) (caC ru sh pl wa dn kd ld tm pk ts io nu j) := emp_val 401 0 lv (by omega) (by omega) (fun j hj => absurd hj (Nat.not_lt_zero _))
theorem from_eq (h : mOk ru sh pl wa dn sn dy) {le sm fi : Int32} {b : Nat} (hb : b ≤ 400) : ∀ (n a : Nat), a ≤ b → 400 - a < n → sX1_chargeFrom_L6 sh wa pl (nI b) le sm n (chg sh pl wa le sm fi a) (nI a) = chg sh pl wa le sm fi b := by
  intro n
  induction n with
  | zero => intro a _ hm; exact absurd hm (Nat.not_lt_zero _)
  | succ n ih =>
    intro a ha hm
    rw [sX1_chargeFrom_L6]
    by_cases c : b ≤ a
    · have e : a = b := by omega
      subst e
      rw [if_pos (ylit (by omega) (by omega) c)]
    · rw [if_neg (nlit (by omega) (by omega) c)]
      by_cases z : chg sh pl wa le sm fi a < 0
      · rw [if_pos z]
        have := chg_stick z (b - a)
        rw [show a + (b - a) = b by omega] at this
        exact this.symm
      · rw [if_neg z, behind_eq h z (nI_nn _ (by omega)), nI_1]
        have e : sX6_behind sh pl wa (chg sh pl wa le sm fi a) (nI a) le sm = chg sh pl wa le sm fi (a + 1) := by
          rw [chg, if_neg z]
        rw [e]
        exact ih (a + 1) (by omega) (by omega)
theorem level_eq (hR : RU ru) {c : Int32} (hc : c.toInt ≤ 1000 * (ru 0).toInt) : sX1_levelOf (ru 0) c = lev (ru 0) c := by
  unfold sX1_levelOf lev sX1_chargeAtFirst
  by_cases z : c < 0
  · rw [if_pos z, if_neg (fun q => (not0.mpr q) z), if_pos (show (0 : Int32) ≤ 9 by decide)]
  · have z' := not0.mp z
    have z2 := cd_le z'
    rw [show (0 : Int32).toInt = 0 from rfl] at z2
    obtain ⟨a, ha, rfl⟩ := nn_nI z2
    obtain ⟨r, hr, e⟩ := nn_nI (x := ru 0) (by have := hR.1; omega)
    have hb := hR.1
    rw [e, nI_toInt hr] at hb
    rw [e, nI_toInt hr, nI_toInt ha] at hc
    rw [if_neg z, if_pos z', e]
    rw [show (1000 : Int32) = nI 1000 from rfl, show (10 : Int32) = nI 10 from rfl, show (100 : Int32) = nI 100 from rfl, show (9 : Int32) = nI 9 from rfl, pk_mul, pk_mul]
    have hd1 : a / 100 ≤ a := Nat.div_le_self _ _
    rw [if_pos (show (0 : Int32) < nI (r * 1000) from i_pos (by rw [nI_toInt (by omega)]; omega)), pk_div (by omega) (by omega) (by omega), pk_div ha (by decide) (by decide), pk_div (by omega) (by omega) hr]
    have e2 : 10 * a / (r * 1000) = a / 100 / r := by
      rw [Nat.div_div_eq_div_mul, show r * 1000 = 10 * (100 * r) by omega, Nat.mul_div_mul_left _ _ (by decide)]
    rw [e2]
    have hd2 : a / 100 / r ≤ a / 100 := Nat.div_le_self _ _
    by_cases q : a / 100 / r < 9
    · rw [if_pos (nI_lt q (by omega)), if_pos (nI_le (by omega) (by omega))]
    · rw [if_neg (nI_nlt (by omega) (by omega))]
      by_cases q2 : a / 100 / r ≤ 9
      · have : a / 100 / r = 9 := by omega
        rw [this, if_pos (nI_le (by omega) (by omega))]
      · rw [if_neg (nlit (by omega) (by omega) q2)]
theorem behind_b (h : LI ru sh pl wa dn sn dy od row L pd kd ld tm pk ts wo io) {c le sm : Int32} (k : Nat) (hc : 0 ≤ c.toInt ∧ c.toInt ≤ 5000000) (hl : 0 ≤ le.toInt ∧ le.toInt ≤ 25) (hs : 0 ≤ sm.toInt ∧ sm.toInt ≤ 100000) : (sX6_behind sh pl wa c (nI k) le sm).toInt ≤ c.toInt := by
  have hp := share_pos h.1 (nI k)
  have hm : (sX6_shareOf sh pl wa (nI k)).toInt ≤ 100 := by
    unfold sX6_shareOf
    exact (h.2.2.1 _ (cl_lt (h.1.2.1 _).1 (h.1.2.1 _).2)).2
  unfold sX6_behind
  generalize sX6_shareOf sh pl wa (nI k) = w at hp hm ⊢
  obtain ⟨a, ha, rfl⟩ := nn_nI hc.1
  obtain ⟨b, hb, rfl⟩ := nn_nI hl.1
  obtain ⟨d, hd, rfl⟩ := nn_nI hs.1
  obtain ⟨v, hv, rfl⟩ := nn_nI (x := w) (by omega)
  rw [nI_toInt ha] at hc ⊢
  rw [nI_toInt hb] at hl
  rw [nI_toInt hd] at hs
  rw [nI_toInt hv] at hp hm
  have hab : a * b ≤ 5000000 * 25 := Nat.mul_le_mul (by omega) (by omega)
  unfold sX6_up
  rw [i_999, show (1000 : Int32) = nI 1000 from rfl, show (999 : Int32) = nI 999 from rfl, show (100 : Int32) = nI 100 from rfl, pk_mul, pk_mul, nI_add, nI_add]
  rw [cd_s1 (by omega), pk_div (by omega) (by decide) (by decide), pk_div (by omega) (by omega) (by omega), i_subsub, nI_add]
  have q1 : (a * b + 999) / 1000 ≤ a * b + 999 := Nat.div_le_self _ _
  have q2 : (100 * d + v - 1) / v ≤ 100 * d + v - 1 := Nat.div_le_self _ _
  generalize (a * b + 999) / 1000 = X at q1 ⊢
  generalize (100 * d + v - 1) / v = Y at q2 ⊢
  rw [pk_sub_toInt (by omega) (by omega)]
  omega
theorem chg_b (h : LI ru sh pl wa dn sn dy od row L pd kd ld tm pk ts wo io) {le sm fi : Int32} (hf : fi.toInt ≤ 5000000) (hl : 0 ≤ le.toInt ∧ le.toInt ≤ 25) (hs : 0 ≤ sm.toInt ∧ sm.toInt ≤ 100000) : ∀ k, (chg sh pl wa le sm fi (k + 1)).toInt ≤ (chg sh pl wa le sm fi k).toInt ∧ (chg sh pl wa le sm fi k).toInt ≤ fi.toInt := by
  intro k
  have key : ∀ j, (chg sh pl wa le sm fi j).toInt ≤ fi.toInt → (chg sh pl wa le sm fi (j + 1)).toInt ≤ (chg sh pl wa le sm fi j).toInt := by
    intro j hj
    rw [chg]
    by_cases z : chg sh pl wa le sm fi j < 0
    · rw [if_pos z]
      exact Int.le_refl _
    · rw [if_neg z]
      have := cd_nlt z
      rw [show (0 : Int32).toInt = 0 from rfl] at this
      exact behind_b h j (by omega) hl hs
  have all : ∀ j, (chg sh pl wa le sm fi j).toInt ≤ fi.toInt := by
    intro j
    induction j with
    | zero => rw [chg]; exact Int.le_refl _
    | succ j ih => have := key j ih; omega
  exact ⟨key k (all k), all k⟩
theorem i_mulT {a b : Int32} {m n : Nat} (ha : 0 ≤ a.toInt ∧ a.toInt ≤ m) (hb : 0 ≤ b.toInt ∧ b.toInt ≤ n) (hmn : m * n ≤ 100000000) : 0 ≤ (a * b).toInt ∧ (a * b).toInt ≤ m * n := by
  obtain ⟨x, hx, rfl⟩ := nn_nI ha.1
  obtain ⟨y, hy, rfl⟩ := nn_nI hb.1
  rw [nI_toInt hx] at ha
  rw [nI_toInt hy] at hb
  have h1 : x * y ≤ m * n := Nat.mul_le_mul (by omega) (by omega)
  rw [pk_mul, nI_toInt (by omega)]
  exact ⟨by omega, by exact_mod_cast h1⟩
theorem drainOf_b (hR : RU ru) {i : Nat} {t : Int32} (hi : i < 8) (hb : DB kd ld tm pk ts wo io i) (ht : 1 ≤ t.toInt ∧ t.toInt ≤ 5) : 0 ≤ (sX6_drainOf ru kd ld tm pk ts (nI i) t).toInt ∧ (sX6_drainOf ru kd ld tm pk ts (nI i) t).toInt ≤ 11000 := by
  obtain ⟨b1, b2, b3, b4, b5, b6, b7⟩ := hb
  unfold sX6_drainOf
  rw [nI_clamp (by omega)]
  have hm : 0 ≤ (if ts i ≤ t then ts i else t).toInt ∧ (if ts i ≤ t then ts i else t).toInt ≤ (5 : Nat) := by
    split <;> omega
  have hv := i_mulT (a := ld i) (b := tm i) (m := 100) (n := 20) (by omega) (by omega) (by decide)
  by_cases z : kd i ≤ 0
  · rw [if_pos z]
    have := i_mulT (a := ld i * tm i) (m := 2000) (n := 5) (by omega) hm (by decide)
    omega
  · rw [if_neg z]
    have hx : 0 ≤ (if pk i ≤ ru 2 then (0 : Int32) else pk i - ru 2).toInt ∧ (if pk i ≤ ru 2 then (0 : Int32) else pk i - ru 2).toInt ≤ 100 := by
      by_cases q : pk i ≤ ru 2
      · rw [if_pos q]; decide
      · rw [if_neg q]
        have q2 := cd_nle q
        obtain ⟨x, hx, ex⟩ := nn_nI b4.1
        obtain ⟨y, hy, ey⟩ := nn_nI (x := ru 2) (by have := hR.2.2; omega)
        have hr2 := hR.2.2
        rw [ex, ey, nI_toInt hx, nI_toInt hy] at q2
        rw [ex, nI_toInt hx] at b4
        rw [ey, nI_toInt hy] at hr2
        rw [ex, ey, pk_sub_toInt (by omega) (by omega)]
        omega
    have s1 := i_addT (a := ld i * tm i) (b := pk i) (by omega) (by omega)
    have s2 := i_addT (a := ld i * tm i + pk i) (b := (if pk i ≤ ru 2 then (0 : Int32) else pk i - ru 2)) (by omega) (by omega)
    have := i_mulT (a := ld i * tm i + pk i + (if pk i ≤ ru 2 then (0 : Int32) else pk i - ru 2)) (m := 2200) (n := 5) (by omega) hm (by decide)
    omega
theorem drains_b (h : LI ru sh pl wa dn sn dy od row L pd kd ld tm pk ts wo io) (st : Int32) {t : Int32} (ht : 1 ≤ t.toInt ∧ t.toInt ≤ 5) : ∀ (n : Nat) (vv : Int32) (k : Nat), k ≤ 8 → 0 ≤ vv.toInt ∧ vv.toInt ≤ 11000 * k → 0 ≤ (sX6_drains_L5 ru dn kd ld tm pk ts st t n vv k).toInt ∧ (sX6_drains_L5 ru dn kd ld tm pk ts st t n vv k).toInt ≤ 88000 := by
  have hdn : dn ≤ 8 := h.1.2.2.2.1
  intro n
  induction n with
  | zero => intro vv k _ _; rw [sX6_drains_L5]; decide
  | succ n ih =>
    intro vv k hk hv
    rw [sX6_drains_L5]
    by_cases c : nI dn ≤ nI k
    · rw [if_pos c]
      omega
    · have hlt : k < dn := by
        rcases Nat.lt_or_ge k dn with q | q
        · exact q
        · exact absurd (ylit (by omega) (by omega) q) c
      rw [if_neg c]
      have hx : 0 ≤ (if ((st >>> ((nI k) &&& 31)) &&& 1) = 1 then sX6_drainOf ru kd ld tm pk ts (nI k) t else (0 : Int32)).toInt ∧ (if ((st >>> ((nI k) &&& 31)) &&& 1) = 1 then sX6_drainOf ru kd ld tm pk ts (nI k) t else (0 : Int32)).toInt ≤ 11000 := by
        split
        · exact drainOf_b h.2.1 (by omega) (h.2.2.2.2.2.1 k hlt) ht
        · decide
      refine ih _ _ (by omega) ?_
      rw [i_addT (by omega) (by omega)]
      omega
/-- a case's numbers -/
theorem case_n {nu : Int32} (hn : 0 ≤ nu.toInt ∧ nu.toInt ≤ 149) : (0 ≤ (nu / 25).toInt ∧ (nu / 25).toInt ≤ 5) ∧ (1 ≤ (((nu / 5) - (nu / 5) / 5 * 5) + 1).toInt ∧ (((nu / 5) - (nu / 5) / 5 * 5) + 1).toInt ≤ 5) ∧ (0 ≤ (20 * (nu - nu / 5 * 5)).toInt ∧ (20 * (nu - nu / 5 * 5)).toInt ≤ 80) := by
  obtain ⟨x, hx, rfl⟩ := nn_nI hn.1
  rw [nI_toInt hx] at hn
  have h5 : x / 5 ≤ x := Nat.div_le_self _ _
  have m1 := Nat.mod_lt (x / 5) (show 0 < 5 by decide)
  have m2 := Nat.mod_lt x (show 0 < 5 by decide)
  rw [show (25 : Int32) = nI 25 from rfl, show (5 : Int32) = nI 5 from rfl, show (20 : Int32) = nI 20 from rfl, pk_div hx (by decide) (by decide), pk_div hx (by decide) (by decide), pk_rem (by omega) (by decide) (by decide), nI_1]
  have r2 := pk_rem (a := x) (d := 5) hx (by decide) (by decide)
  rw [pk_div hx (by decide) (by decide)] at r2
  rw [r2, pk_mul, nI_toInt (by omega), nI_toInt (by omega), nI_toInt (by omega)]
  omega
theorem caS_b (h : LI ru sh pl wa dn sn dy od row L pd kd ld tm pk ts wo io) {nu : Int32} (hn : 0 ≤ nu.toInt ∧ nu.toInt ≤ 149) : 0 ≤ (caS ru dn kd ld tm pk ts io nu).toInt ∧ (caS ru dn kd ld tm pk ts io nu).toInt ≤ 100000 := by
  obtain ⟨c1, c2, c3⟩ := case_n hn
  have hd := drains_b h (sX6_bits dn io) c2 9 0 0 (by omega) (by decide)
  unfold caS
  have hd2 : 0 ≤ (sX6_drains ru dn kd ld tm pk ts (sX6_bits dn io) (((nu / 5) - (nu / 5) / 5 * 5) + 1)).toInt ∧ (sX6_drains ru dn kd ld tm pk ts (sX6_bits dn io) (((nu / 5) - (nu / 5) / 5 * 5) + 1)).toInt ≤ 88000 := hd
  rw [i_addT (by omega) (by omega)]
  omega
theorem caL_b (hR : RU ru) {nu : Int32} (hn : 0 ≤ nu.toInt ∧ nu.toInt ≤ 149) : 0 ≤ (caL ru nu).toInt ∧ (caL ru nu).toInt ≤ 25 := by
  obtain ⟨c1, c2, c3⟩ := case_n hn
  have := hR.2.1
  unfold caL
  rw [i_addT (by omega) (by omega)]
  omega
theorem caC_b (h : LI ru sh pl wa dn sn dy od row L pd kd ld tm pk ts wo io) {nu : Int32} (hn : 0 ≤ nu.toInt ∧ nu.toInt ≤ 149) (k : Nat) : (caC ru sh pl wa dn kd ld tm pk ts io nu (k + 1)).toInt ≤ (caC ru sh pl wa dn kd ld tm pk ts io nu k).toInt ∧ (caC ru sh pl wa dn kd ld tm pk ts io nu k).toInt ≤ 1000 * (ru 0).toInt := by
  have hf := (first_nn h.2.1).2
  have hr := h.2.1.1
  have := chg_b h (fi := 1000 * ru 0) (by omega) (caL_b h.2.1 hn) (caS_b h hn) k
  rw [hf] at this
  exact this
theorem load_ca (h : LI ru sh pl wa dn sn dy od row L pd kd ld tm pk ts wo io) {nu : Int32} (hn : 0 ≤ nu.toInt ∧ nu.toInt ≤ 149) : sX0_loadOfCase (ru 2) row dn pd nu = caS ru dn kd ld tm pk ts io nu := by
  unfold sX0_loadOfCase caS sX0_oddOf
  rw [load_eq h _ (case_n hn).2.1.1, set_eq h]
theorem op_level (h : LI ru sh pl wa dn sn dy od row L pd kd ld tm pk ts wo io) (mlv : Nat → Int32) (nu dd : Int32) : sX5_level sh wa pl (ru 0) (ru 1) (ru 2) row dn pd nu dd = (sX6_level ru sh pl wa dn kd ld tm pk ts io mlv nu dd).1 := by
  unfold sX5_level sX6_level
  by_cases c : sX6_isCase nu = 0
  · rw [if_pos (show sX0_isNumber nu = 0 from c), if_pos c]
  rw [if_neg (show ¬ sX0_isNumber nu = 0 from c), if_neg c]
  by_cases c2 : sX6_isDay dd = 0
  · rw [if_pos (show sX5_isDay dd = 0 from c2), if_pos c2]
  rw [if_neg (show ¬ sX5_isDay dd = 0 from c2), if_neg c2]
  have hn : 0 ≤ nu.toInt ∧ nu.toInt ≤ 149 := in6_b c
  have hd := isDay6_b c2
  obtain ⟨d, hd1, rfl⟩ := nn_nI hd.1
  rw [nI_toInt hd1] at hd
  rw [nI_clamp hd1, emp_eq mlv nu d (by omega)]
  unfold sX0_levelAhead sX1_chargeAhead sX1_chargeFrom sX1_chargeAtFirst
  rw [load_ca h hn, i_mulC (ru 0) 1000]
  have e := from_eq h.1 (le := caL ru nu) (sm := caS ru dn kd ld tm pk ts io nu) (fi := 1000 * ru 0) (b := d) (by omega) 401 0 (by omega) (by omega)
  have e2 : sX1_chargeFrom_L6 sh wa pl (nI d) (sX0_leakOf (ru 1) nu) (caS ru dn kd ld tm pk ts io nu) 401 (1000 * ru 0) 0 = caC ru sh pl wa dn kd ld tm pk ts io nu d := e
  rw [e2]
  exact level_eq h.2.1 (caC_b h hn d).2
end OPS7
