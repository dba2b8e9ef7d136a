/-! PURE, 9: the field: the cases that agree, counted -/
def agl (F : Nat → Int32) (k : Nat) : List Nat := (List.range k).filter (fun j => decide (¬ F j = 0))
theorem agl_s0 {F : Nat → Int32} {k : Nat} (h : F k = 0) : agl F (k + 1) = agl F k := by
  unfold agl
  rw [List.range_succ, List.filter_append]
  simp [h]
theorem agl_s1 {F : Nat → Int32} {k : Nat} (h : ¬ F k = 0) : agl F (k + 1) = agl F k ++ [k] := by
  unfold agl
  rw [List.range_succ, List.filter_append]
  simp [h]
theorem agl_len (F : Nat → Int32) (k : Nat) : (agl F k).length ≤ k := by
  unfold agl
  exact Nat.le_trans (List.length_filter_le _ _) (by simp)
theorem agl_lt {F : Nat → Int32} {k j : Nat} (h : j ∈ agl F k) : j < k := by
  unfold agl at h
  exact List.mem_range.mp (List.mem_filter.mp h).1
abbrev nth (A : List Nat) (i : Nat) : Nat := A.getD i 0
theorem nth_l {A : List Nat} {k i : Nat} (h : i < A.length) : nth (A ++ [k]) i = nth A i := by
  simp [nth, List.getD_eq_getElem?_getD, List.getElem?_append_left h]
theorem nth_r {A : List Nat} {k : Nat} : nth (A ++ [k]) A.length = k := by
  simp [nth, List.getD_eq_getElem?_getD]
theorem nth_mem {A : List Nat} {i : Nat} (h : i < A.length) : nth A i ∈ A := by
  simp only [nth, List.getD_eq_getElem?_getD, List.getElem?_eq_getElem h, Option.getD_some]
  exact List.getElem_mem h
/-- how many of the first m have the level v -/
def cntI (e : Nat → Int32) : Nat → Nat → Nat
  | 0, _ => 0
  | m + 1, v => cntI e m v + (if e m = nI v then 1 else 0)
theorem cntI_congr {e f : Nat → Int32} : ∀ (m v : Nat), (∀ i, i < m → e i = f i) → cntI e m v = cntI f m v := by
  intro m v
  induction m with
  | zero => intro _; rfl
  | succ m ih =>
    intro h
    rw [cntI, cntI, ih (fun i hi => h i (by omega)), h m (by omega)]
theorem cntI_le (e : Nat → Int32) : ∀ m v, cntI e m v ≤ m := by
  intro m v
  induction m with
  | zero => exact Nat.le_refl _
  | succ m ih =>
    rw [cntI]
    split <;> omega
def mxf (f : Nat → Nat) : Nat → Nat
  | 0 => 0
  | n + 1 => max (mxf f n) (f n)
theorem mxf_ge (f : Nat → Nat) : ∀ n v, v < n → f v ≤ mxf f n := by
  intro n
  induction n with
  | zero => intro v h; exact absurd h (Nat.not_lt_zero _)
  | succ n ih =>
    intro v h
    rw [mxf]
    by_cases e : v = n
    · subst e; exact Nat.le_max_right _ _
    · exact Nat.le_trans (ih v (by omega)) (Nat.le_max_left _ _)
theorem mxf_le {f : Nat → Nat} {b : Nat} : ∀ n, (∀ v, v < n → f v ≤ b) → mxf f n ≤ b := by
  intro n
  induction n with
  | zero => intro _; exact Nat.zero_le _
  | succ n ih =>
    intro h
    rw [mxf]
    exact Nat.max_le.mpr ⟨ih (fun v hv => h v (by omega)), h n (by omega)⟩
theorem mxf_up {f g : Nat → Nat} {l : Nat} (hl : g l = f l + 1) (ho : ∀ v, v ≠ l → g v = f v) : ∀ n, mxf g n = if l < n then max (mxf f n) (f l + 1) else mxf f n := by
  intro n
  induction n with
  | zero => rfl
  | succ n ih =>
    rw [mxf, mxf, ih]
    by_cases c : l < n
    · rw [if_pos c, if_pos (by omega), ho n (by omega)]
      omega
    · rw [if_neg c]
      by_cases d : l = n
      · subst d
        rw [if_pos (by omega), hl]
        omega
      · rw [if_neg (by omega), ho n (fun q => d q.symm)]
section OPS9
variable {ru sh : Nat → Int32} {pl : Int32} {wa : Nat → Int32} {dn sn : Nat} {dy od : Nat → Int32} {row : Nat → Option Nat} {L : List Nat} {pd : Nat → DT} {kd ld tm pk ts wo io : Nat → Int32}
theorem gather_val {lv : Nat → Int32} {rm lk br : Int32} {F : Nat → Int32} (hF : ∀ k, k < 150 → sX0_fitsSigns sh wa pl rm lk br row dn dy lv od sn pd (nI k) = F k) : ∀ (n k : Nat) (agv : Nat → Int32) (anv : Nat), k ≤ 150 → 150 - k < n → anv = (agl F k).length → (∀ i, i < anv → agv i = nI (nth (agl F k) i)) → ∃ ag', sX0_gatherAgreeing_L7 sh wa pl rm lk br row dn dy lv od sn pd n k agv anv = (ag', (agl F 150).length) ∧ ∀ i, i < (agl F 150).length → ag' i = nI (nth (agl F 150) i) := by
  intro n
  induction n with
  | zero => intro k agv anv _ hm; exact absurd hm (Nat.not_lt_zero _)
  | succ n ih =>
    intro k agv anv hk hm ha hv
    rw [sX0_gatherAgreeing_L7]
    by_cases c : 150 ≤ k
    · have e : k = 150 := by omega
      subst e
      rw [if_pos (show (150 : Int32) ≤ nI 150 by decide)]
      exact ⟨agv, by rw [ha], fun i hi => hv i (by omega)⟩
    · rw [if_neg (show ¬ (150 : Int32) ≤ nI k from nlit (a := 150) (by omega) (by omega) c), hF k (by omega)]
      have hlen := agl_len F k
      by_cases z : F k = 0
      · rw [if_pos z]
        exact ih (k + 1) _ _ (by omega) (by omega) (by rw [agl_s0 z]; exact ha) (fun i hi => by rw [agl_s0 z]; exact hv i hi)
      · rw [if_neg z, put_nI (by omega) (by decide)]
        refine ih (k + 1) _ _ (by omega) (by omega) (by rw [agl_s1 z, List.length_append, ha]; rfl) (fun i hi => ?_)
        rw [agl_s1 z]
        by_cases e : i = anv
        · rw [e, pk_us, ha, nth_r]
        · rw [pk_un e, nth_l (by omega)]
          exact hv i (by omega)
theorem clear_val {lv : Nat → Int32} {wh : Int32} : ∀ (n k : Nat) (mtv : Nat → Int32), k ≤ 4000 → 4000 - k < n → (∀ j, j < k → mtv j = 0) → ∃ mt', (∀ j, j < 4000 → mt' j = 0) ∧ sX6_field_L18 ru sh pl wa dn kd ld tm pk ts io sn dy od lv wh n k mtv = sX6_field_L49 ru sh pl wa dn kd ld tm pk ts io sn dy od wh 151 0 (-9) 0 0 lv mt' := by
  intro n
  induction n with
  | zero => intro k mtv _ hm; exact absurd hm (Nat.not_lt_zero _)
  | succ n ih =>
    intro k mtv hk hm hz
    rw [sX6_field_L18]
    by_cases c : 4000 ≤ k
    · rw [if_pos (show (4000 : Int32) ≤ nI k from ylit (a := 4000) (by omega) (by omega) c)]
      exact ⟨mtv, fun j hj => hz j (by omega), rfl⟩
    · rw [if_neg (show ¬ (4000 : Int32) ≤ nI k from nlit (a := 4000) (by omega) (by omega) c)]
      refine ih (k + 1) _ (by omega) (by omega) (fun j hj => ?_)
      by_cases e : j = k
      · subst e; rw [pk_us]
      · rw [pk_un e]; exact hz j (by omega)
theorem add_val (lvw : Nat → Int32) (hl : lvB lvw) : ∀ (n j : Nat) (mtw : Nat → Int32), j ≤ 400 → 400 - j < n → ∃ mt', sX6_field_L102 n j lvw mtw = (400, lvw, mt') ∧ ∀ d v, d < 400 → v < 10 → mt' (10 * d + v) = (if j ≤ d ∧ lvw d = nI v then mtw (10 * d + v) + 1 else mtw (10 * d + v)) := by
  intro n
  induction n with
  | zero => intro j mtw _ hm; exact absurd hm (Nat.not_lt_zero _)
  | succ n ih =>
    intro j mtw hj hm
    rw [sX6_field_L102]
    by_cases c : 400 ≤ j
    · have e : j = 400 := by omega
      subst e
      rw [if_pos (show (400 : Int32) ≤ nI 400 by decide)]
      exact ⟨mtw, rfl, fun d v hd hv => by rw [if_neg (by omega)]⟩
    · rw [if_neg (show ¬ (400 : Int32) ≤ nI j from nlit (a := 400) (by omega) (by omega) c)]
      obtain ⟨x, hx, ex⟩ := nn_nI (hl j (by omega)).1
      have hb := (hl j (by omega)).2
      rw [ex, nI_toInt hx] at hb
      rw [ex, show (10 : Int32) = nI 10 from rfl, pk_mul, nI_add, nI_clamp (by omega)]
      obtain ⟨mt', e1, e2⟩ := ih (j + 1) (upd mtw (10 * j + x) (mtw (10 * j + x) + 1)) (by omega) (by omega)
      refine ⟨mt', e1, fun d v hd hv => ?_⟩
      rw [e2 d v hd hv]
      by_cases z : d = j
      · subst z
        rw [if_neg (by omega)]
        by_cases zv : v = x
        · subst zv
          rw [pk_us, if_pos ⟨Nat.le_refl _, ex⟩]
        · rw [pk_un (by omega), if_neg]
          intro q
          have q2 := q.2
          rw [ex] at q2
          exact zv ((nI_eq (a := x) (b := v) (by omega) (by omega)).mp q2).symm
      · rw [pk_un (by omega)]
        by_cases q : j + 1 ≤ d ∧ lvw d = nI v
        · rw [if_pos q, if_pos ⟨by omega, q.2⟩]
        · rw [if_neg q, if_neg (fun q' => q ⟨by omega, q'.2⟩)]
/-- the reference's loop over the cases: what it has counted at its end -/
theorem cases_val {lv : Nat → Int32} {wh : Int32} {F : Nat → Int32} {E : Nat → Nat → Int32} (hI : mOk ru sh pl wa dn sn dy) (hF : ∀ k mlv, k < 150 → (sX6_isAgreeing ru sh pl wa dn kd ld tm pk ts io sn dy lv mlv (nI k)).1 = F k) (hE : ∀ k mlv d, k < 150 → d < 400 → (sX6_isAgreeing ru sh pl wa dn kd ld tm pk ts io sn dy lv mlv (nI k)).2 d = E k d) :
    ∀ (n k my : Nat) (fs ip : Int32) (lvv mtv : Nat → Int32), k ≤ 150 → 150 - k < n → my = (agl F k).length → fs = (if (agl F k).length = 0 then (-9) else nI (nth (agl F k) 0)) → (ip = 0 ∨ ip = 1) → (ip = 0 ↔ ∀ i, i < (agl F k).length → ¬ nth (agl F k) i % 5 = 0) → (∀ d v, d < 400 → v < 10 → mtv (10 * d + v) = nI (cntI (fun i => E (nth (agl F k) i) d) (agl F k).length v)) →
    ∃ (ip' : Int32) (lvv' mtv' : Nat → Int32), (ip' = 0 ↔ ∀ i, i < (agl F 150).length → ¬ nth (agl F 150) i % 5 = 0) ∧ (∀ d v, d < 400 → v < 10 → mtv' (10 * d + v) = nI (cntI (fun i => E (nth (agl F 150) i) d) (agl F 150).length v)) ∧
      sX6_field_L49 ru sh pl wa dn kd ld tm pk ts io sn dy lv wh n my fs ip k lvv mtv = (if 3 ≤ wh then sX6_field_L191 (agl F 150).length 401 (-9) 0 0 lvv' mtv' else (if wh = 0 then (nI (agl F 150).length, 0, lvv', mtv') else (if wh = 1 then ((if (agl F 150).length = 0 then (-9) else nI (nth (agl F 150) 0)), 0, lvv', mtv') else (if (nI (agl F 150).length) ≤ 0 then (0, 0, lvv', mtv') else (if ip' = 0 then (1, 0, lvv', mtv') else (0, 0, lvv', mtv')))))) := by
  intro n
  induction n with
  | zero => intro k my fs ip lvv mtv _ hm; exact absurd hm (Nat.not_lt_zero _)
  | succ n ih =>
    intro k my fs ip lvv mtv hk hm hmy hfs hip0 hip hmt
    rw [sX6_field_L49]
    have hlen := agl_len F k
    by_cases c : 150 ≤ k
    · have e : k = 150 := by omega
      subst e
      rw [if_pos (show (150 : Int32) ≤ nI 150 by decide), hmy, hfs]
      exact ⟨ip, lvv, mtv, hip, hmt, rfl⟩
    · rw [if_neg (show ¬ (150 : Int32) ≤ nI k from nlit (a := 150) (by omega) (by omega) c), hF k lvv (by omega)]
      by_cases z : F k = 0
      · rw [if_pos z]
        exact ih (k + 1) my fs ip _ mtv (by omega) (by omega) (by rw [agl_s0 z]; exact hmy) (by rw [agl_s0 z]; exact hfs) hip0 (by rw [agl_s0 z]; exact hip) (by rw [agl_s0 z]; exact hmt)
      · rw [if_neg z]
        obtain ⟨mt', e1, e2⟩ := add_val (sX6_isAgreeing ru sh pl wa dn kd ld tm pk ts io sn dy lv lvv (nI k)).2 (isAg_b hI) 401 0 mtv (by omega) (by omega)
        rw [e1]
        dsimp only
        have hr : (nI k) - (nI k) / 5 * 5 = nI (k % 5) := pk_rem (a := k) (d := 5) (by omega) (by decide) (by decide)
        rw [hr]
        refine ih (k + 1) _ _ _ _ _ (by omega) (by omega) (by rw [agl_s1 z, List.length_append, hmy]; rfl) ?_ ?_ ?_ ?_
        · rw [agl_s1 z, List.length_append, if_neg (show ¬ (agl F k).length + [k].length = 0 by simp), hfs]
          by_cases l0 : (agl F k).length = 0
          · rw [if_pos l0, if_pos rfl]
            have := nth_r (A := agl F k) (k := k)
            rw [l0] at this
            rw [this]
          · rw [if_neg l0, if_neg, nth_l (by omega)]
            intro q
            have q2 := congrArg Int32.toInt q
            have hlt := agl_lt (nth_mem (A := agl F k) (i := 0) (by omega))
            rw [nI_toInt (by omega), show (-9 : Int32).toInt = -9 from rfl] at q2
            omega
        · split <;> rcases hip0 with rfl | rfl <;> decide
        · rw [agl_s1 z, List.length_append]
          by_cases m5 : k % 5 = 0
          · rw [m5, if_pos (show nI 0 = 0 from rfl)]
            constructor
            · intro q
              exfalso
              rcases hip0 with rfl | rfl <;> exact absurd q (by decide)
            · intro q
              exact absurd m5 (by have := q (agl F k).length (by simp); rw [nth_r] at this; exact this)
          · rw [if_neg (show ¬ nI (k % 5) = 0 from fun q => m5 ((nI_eq (a := k % 5) (b := 0) (by omega) (by omega)).mp q)), i_or0, hip]
            constructor
            · intro q i hi
              have hi : i < (agl F k).length + 1 := hi
              by_cases e : i = (agl F k).length
              · rw [e, nth_r]; exact m5
              · rw [nth_l (by omega)]; exact q i (by omega)
            · intro q i hi
              have := q i (by simp; omega)
              rw [nth_l hi] at this
              exact this
        · intro d v hd hv
          rw [agl_s1 z, List.length_append, e2 d v hd hv, hE k lvv d (by omega) hd, hmt d v hd hv]
          show _ = nI (cntI _ ((agl F k).length + 1) v)
          rw [cntI]
          rw [nth_r, cntI_congr (e := fun i => E (nth (agl F k ++ [k]) i) d) (f := fun i => E (nth (agl F k) i) d) _ _ (fun i hi => by rw [nth_l hi])]
          by_cases q : E k d = nI v
          · rw [if_pos ⟨Nat.zero_le _, q⟩, if_pos q, nI_1]
          · rw [if_neg (fun q' => q q'.2), if_neg q, Nat.add_zero]
end OPS9
