/-! PURE, 10: the day that tells most; the field -/
theorem cntI_all {e : Nat → Int32} {v : Nat} : ∀ m, (∀ i, i < m → e i = nI v) → cntI e m v = m := by
  intro m
  induction m with
  | zero => intro _; rfl
  | succ m ih =>
    intro h
    rw [cntI, ih (fun i hi => h i (by omega)), if_pos (h m (by omega))]
theorem cntI_full {e : Nat → Int32} {v : Nat} : ∀ m, cntI e m v = m → ∀ i, i < m → e i = nI v := by
  intro m
  induction m with
  | zero => intro _ i hi; exact absurd hi (Nat.not_lt_zero _)
  | succ m ih =>
    intro h i hi
    rw [cntI] at h
    have hl := cntI_le e m v
    by_cases c : e m = nI v
    · rw [if_pos c] at h
      by_cases d : i = m
      · subst d; exact c
      · exact ih (by omega) i (by omega)
    · rw [if_neg c] at h
      omega
theorem mxf_upb {f g : Nat → Nat} {l : Nat} (hl : g l = f l + 1) : ∀ n, (∀ v, v < n → v ≠ l → g v = f v) → mxf g n = if l < n then max (mxf f n) (f l + 1) else mxf f n := by
  intro n
  induction n with
  | zero => intro _; rfl
  | succ n ih =>
    intro ho
    rw [mxf, mxf, ih (fun v hv => ho v (by omega))]
    by_cases c : l < n
    · rw [if_pos c, if_pos (by omega), ho n (by omega) (by omega)]
      omega
    · rw [if_neg c]
      by_cases d : l = n
      · subst d
        rw [if_pos (by omega), hl]
        omega
      · rw [if_neg (by omega), ho n (by omega) (fun q => d q.symm)]
/-- the same, or both empty -/
def rel0 (a b : Int32) : Prop := a = b ∨ (a < 0 ∧ b < 0)
theorem lev_rel {r a b : Int32} (h : rel0 a b) : sX1_levelOf r a = sX1_levelOf r b := by
  rcases h with h | ⟨h1, h2⟩
  · rw [h]
  · unfold sX1_levelOf
    rw [if_pos h1, if_pos h2]
theorem gr28_val {chv e : Nat → Int32} {r : Int32} {m : Nat} (hm : m ≤ 150) (he : ∀ j, j < m → sX1_levelOf r (chv j) = e j) (hx : ∀ j, j < m → ∃ x, x < 10 ∧ e j = nI x) : ∀ (n j : Nat) (gr : Int32) (alw : Nat → Int32), j ≤ m → m - j < n → gr = nI (mxf (cntI e j) 10) → (∀ v, v < 10 → alw v = nI (cntI e j v)) → (sX0_greatestAtOneLevel_L28 chv r m n gr j alw).1 = nI (mxf (cntI e m) 10) ∧ ∀ v, v < 10 → (sX0_greatestAtOneLevel_L28 chv r m n gr j alw).2 v = nI (cntI e m v) := by
  intro n
  induction n with
  | zero => intro j gr alw _ h; exact absurd h (Nat.not_lt_zero _)
  | succ n ih =>
    intro j gr alw hj hn hg hv
    rw [sX0_greatestAtOneLevel_L28]
    by_cases c : m ≤ j
    · have q : j = m := by omega
      subst q
      rw [if_pos (ylit (by omega) (by omega) c)]
      exact ⟨hg, hv⟩
    · rw [if_neg (nlit (by omega) (by omega) c)]
      obtain ⟨x, hx1, hx2⟩ := hx j (by omega)
      have hle := cntI_le e j x
      have hmx : mxf (cntI e j) 10 ≤ j := mxf_le 10 (fun v _ => cntI_le e j v)
      rw [at_nI (n := 150) (by omega) (by decide), he j (by omega), hx2, at_nI hx1 (by decide), put_nI hx1 (by decide), hv x hx1, nI_1]
      have ho : ∀ v, v < 10 → v ≠ x → cntI e (j + 1) v = cntI e j v := by
        intro v hv1 hv2
        rw [cntI, if_neg, Nat.add_zero]
        intro w
        rw [hx2] at w
        exact hv2 ((nI_eq (by omega) (by omega)).mp w).symm
      have hs : cntI e (j + 1) x = cntI e j x + 1 := by rw [cntI, if_pos hx2]
      have hup := mxf_upb (f := cntI e j) (g := cntI e (j + 1)) (l := x) hs 10 ho
      rw [if_pos hx1] at hup
      refine ih (j + 1) _ _ (by omega) (by omega) ?_ (fun v hv1 => ?_)
      · rw [hup, hg]
        by_cases w : mxf (cntI e j) 10 < cntI e j x + 1
        · rw [if_pos (nI_lt w (by omega)), Nat.max_eq_right (by omega)]
        · rw [if_neg (nI_nlt (by omega) (by omega)), Nat.max_eq_left (by omega)]
      · by_cases w : v = x
        · subst w
          rw [pk_us, hs]
        · rw [pk_un w, ho v hv1 w, hv v hv1]
theorem gr_val {chv e : Nat → Int32} {r : Int32} {m : Nat} (hm : m ≤ 150) (he : ∀ j, j < m → sX1_levelOf r (chv j) = e j) (hx : ∀ j, j < m → ∃ x, x < 10 ∧ e j = nI x) : ∀ (n k : Nat) (alv : Nat → Int32), k ≤ 10 → 10 - k < n → (∀ j, j < k → alv j = 0) → (sX0_greatestAtOneLevel_L2 chv r m n k alv).1 = nI (mxf (cntI e m) 10) ∧ ∀ v, v < 10 → (sX0_greatestAtOneLevel_L2 chv r m n k alv).2 v = nI (cntI e m v) := by
  intro n
  induction n with
  | zero => intro k alv _ h; exact absurd h (Nat.not_lt_zero _)
  | succ n ih =>
    intro k alv hk hn hz
    rw [sX0_greatestAtOneLevel_L2]
    by_cases c : 10 ≤ k
    · rw [if_pos (show (10 : Int32) ≤ nI k from ylit (a := 10) (by omega) (by omega) c)]
      exact gr28_val hm he hx 151 0 0 alv (by omega) (by omega) rfl (fun v hv => hz v (by omega))
    · rw [if_neg (show ¬ (10 : Int32) ≤ nI k from nlit (a := 10) (by omega) (by omega) c)]
      refine ih (k + 1) _ (by omega) (by omega) (fun j hj => ?_)
      by_cases w : j = k
      · subst w; rw [pk_us]
      · rw [pk_un w]; exact hz j (by omega)
theorem met_val {mtv : Nat → Int32} {k : Nat} {f : Nat → Nat} (hk : k < 400) (hf : ∀ v, v < 10 → mtv (10 * k + v) = nI (f v)) (hb : ∀ v, v < 10 → f v ≤ 150) : ∀ (n j : Nat) (mx : Int32), j ≤ 10 → 10 - j < n → mx = nI (mxf f j) → (sX6_field_L210 mtv k n mx j).1 = nI (mxf f 10) := by
  intro n
  induction n with
  | zero => intro j mx _ h; exact absurd h (Nat.not_lt_zero _)
  | succ n ih =>
    intro j mx hj hn hm
    rw [sX6_field_L210]
    by_cases c : 10 ≤ j
    · have q : j = 10 := by omega
      subst q
      rw [if_pos (show (10 : Int32) ≤ nI 10 by decide)]
      exact hm
    · rw [if_neg (show ¬ (10 : Int32) ≤ nI j from nlit (a := 10) (by omega) (by omega) c)]
      have hmx : mxf f j ≤ 150 := mxf_le j (fun v hv => hb v (by omega))
      have hfj := hb j (by omega)
      rw [show (10 : Int32) = nI 10 from rfl, pk_mul, nI_add, nI_clamp (by omega), hf j (by omega), hm]
      refine ih (j + 1) _ (by omega) (by omega) ?_
      rw [mxf]
      by_cases w : f j ≤ mxf f j
      · rw [if_pos (nI_le w (by omega)), Nat.max_eq_left w]
      · rw [if_neg (nlit (by omega) (by omega) w), Nat.max_eq_right (by omega)]
/-- the reference's best day stays, where no later day is told better -/
theorem stay_val {m : Nat} {lvv mtv : Nat → Int32} {G : Nat → Int32} (hG : ∀ d, d < 400 → (sX6_field_L210 mtv d 11 0 0).1 = G d) {bs lst : Int32} (hb : ¬ bs = -9) : ∀ (n d : Nat), d ≤ 400 → 400 - d < n → (∀ d', d ≤ d' → d' < 400 → lst ≤ G d') → (sX6_field_L191 m n bs lst d lvv mtv).1 = bs := by
  intro n
  induction n with
  | zero => intro d _ h; exact absurd h (Nat.not_lt_zero _)
  | succ n ih =>
    intro d hd hn hl
    rw [sX6_field_L191]
    by_cases c : 400 ≤ d
    · rw [if_pos (show (400 : Int32) ≤ nI d from ylit (a := 400) (by omega) (by omega) c)]
    · rw [if_neg (show ¬ (400 : Int32) ≤ nI d from nlit (a := 400) (by omega) (by omega) c)]
      by_cases c2 : nI m ≤ 1
      · rw [if_pos c2]
      · rw [if_neg c2]
        have e := hG d (by omega)
        generalize sX6_field_L210 mtv d 11 0 0 = X at e ⊢
        obtain ⟨x1, x2⟩ := X
        have e : x1 = G d := e
        subst e
        show (if bs = -9 then _ else (if lst ≤ G d then _ else _) : Int32 × _).1 = bs
        rw [if_neg hb, if_pos (hl d (Nat.le_refl _) (by omega))]
        exact ih (d + 1) (by omega) (by omega) (fun d' h1 h2 => hl d' (by omega) h2)
section OPS10
variable {ru sh : Nat → Int32} {pl : Int32} {wa : Nat → Int32} {dn sn : Nat} {dy od : Nat → Int32} {row : Nat → Option Nat} {L : List Nat} {pd : Nat → DT} {kd ld tm pk ts wo io : Nat → Int32}
theorem lev_x (h : LI ru sh pl wa dn sn dy od row L pd kd ld tm pk ts wo io) (nu : Int32) {d : Nat} (hd : d < 400) : ∃ x, x < 10 ∧ lev (ru 0) (caC ru sh pl wa dn kd ld tm pk ts io nu d) = nI x := by
  have hb := empties_b (ru := ru) (sh := sh) (sn := pl) (se := wa) (dn := dn) (kd := kd) (ld := ld) (tm := tm) (pk := pk) (ts := ts) (io := io) (lv := fun _ => 0) (nu := nu) (by have := h.2.1.1; omega) d hd
  rw [emp_eq _ nu d hd] at hb
  obtain ⟨x, hx, e⟩ := nn_nI hb.1
  rw [e, nI_toInt hx] at hb
  exact ⟨x, by omega, e⟩
theorem lev_0 (hR : RU ru) {c c' : Int32} (hc : lev (ru 0) c = nI 0) (hl : c'.toInt ≤ c.toInt) : lev (ru 0) c' = nI 0 := by
  unfold lev at hc ⊢
  by_cases z : 0 ≤ c'
  · have z1 := cd_le z
    rw [show (0 : Int32).toInt = 0 from rfl] at z1
    have z2 : 0 ≤ c := Int32.le_iff_toInt_le.mpr (by rw [show (0 : Int32).toInt = 0 from rfl]; omega)
    rw [if_pos z]
    rw [if_pos z2] at hc
    obtain ⟨a', ha', rfl⟩ := nn_nI z1
    obtain ⟨a, ha, rfl⟩ := nn_nI (x := c) (by omega)
    obtain ⟨r, hr, e⟩ := nn_nI (x := ru 0) (by have := hR.1; omega)
    have hb := hR.1
    rw [e, nI_toInt hr] at hb
    rw [nI_toInt ha, nI_toInt ha'] at hl
    have hd1 : a / 100 ≤ a := Nat.div_le_self _ _
    have hd2 : a / 100 / r ≤ a / 100 := Nat.div_le_self _ _
    have hd1' : a' / 100 ≤ a' := Nat.div_le_self _ _
    have hd2' : a' / 100 / r ≤ a' / 100 := Nat.div_le_self _ _
    rw [e, show (100 : Int32) = nI 100 from rfl, pk_div ha (by decide) (by decide), pk_div (by omega) (by omega) hr] at hc
    rw [e, show (100 : Int32) = nI 100 from rfl, pk_div ha' (by decide) (by decide), pk_div (by omega) (by omega) hr]
    have h0 : a / 100 / r = 0 := by
      by_cases q : a / 100 / r ≤ 9
      · rw [if_pos (show nI (a / 100 / r) ≤ 9 from nI_le q (by decide))] at hc
        exact (nI_eq (by omega) (by omega)).mp hc
      · rw [if_neg (show ¬ nI (a / 100 / r) ≤ 9 from nlit (k := 9) (by omega) (by omega) q)] at hc
        exact absurd hc (by decide)
    have h1 : a' / 100 / r ≤ a / 100 / r := Nat.div_le_div_right (Nat.div_le_div_right (by omega))
    rw [show a' / 100 / r = 0 from Nat.le_zero.mp (h0 ▸ h1), if_pos (show nI 0 ≤ (9 : Int32) by decide)]
  · rw [if_neg z, if_pos (show (0 : Int32) ≤ 9 by decide)]
    rfl
theorem caC_m (h : LI ru sh pl wa dn sn dy od row L pd kd ld tm pk ts wo io) {nu : Int32} (hn : 0 ≤ nu.toInt ∧ nu.toInt ≤ 149) (k : Nat) : ∀ j, (caC ru sh pl wa dn kd ld tm pk ts io nu (k + j)).toInt ≤ (caC ru sh pl wa dn kd ld tm pk ts io nu k).toInt := by
  intro j
  induction j with
  | zero => exact Int.le_refl _
  | succ j ih =>
    have := (caC_b h hn (k + j)).1
    rw [show k + (j + 1) = k + j + 1 from rfl]
    omega
theorem start_val (h : LI ru sh pl wa dn sn dy od row L pd kd ld tm pk ts wo io) {A : Nat → Nat} {m : Nat} (hm : m ≤ 150) (hA : ∀ i, i < m → A i < 150) {ag : Nat → Int32} (hag : ∀ i, i < m → ag i = nI (A i)) : ∀ (n k : Nat) (lov chv : Nat → Int32), k ≤ m → m - k < n → (∀ i, i < k → lov i = caS ru dn kd ld tm pk ts io (nI (A i)) ∧ chv i = 1000 * ru 0) → ∀ i, i < m → (sX0_startAgreeing_L2 ag m (ru 0) (ru 2) row dn pd n k lov chv).1 i = caS ru dn kd ld tm pk ts io (nI (A i)) ∧ (sX0_startAgreeing_L2 ag m (ru 0) (ru 2) row dn pd n k lov chv).2 i = 1000 * ru 0 := by
  intro n
  induction n with
  | zero => intro k lov chv _ hn; exact absurd hn (Nat.not_lt_zero _)
  | succ n ih =>
    intro k lov chv hk hn hi
    rw [sX0_startAgreeing_L2]
    by_cases c : m ≤ k
    · rw [if_pos (ylit (by omega) (by omega) c)]
      exact fun i hi2 => hi i (by omega)
    · rw [if_neg (nlit (by omega) (by omega) c), at_nI (n := 150) (by omega) (by decide), put_nI (n := 150) (by omega) (by decide), put_nI (n := 150) (by omega) (by decide), hag k (by omega)]
      have hAk := hA k (by omega)
      rw [load_ca h (nu := nI (A k)) (by rw [nI_toInt (by omega)]; omega)]
      refine ih (k + 1) _ _ (by omega) (by omega) (fun i hi2 => ?_)
      by_cases w : i = k
      · subst w
        rw [pk_us, pk_us]
        exact ⟨rfl, i_mulC _ _⟩
      · rw [pk_un w, pk_un w]
        exact hi i (by omega)
theorem pass_val (h : LI ru sh pl wa dn sn dy od row L pd kd ld tm pk ts wo io) {A : Nat → Nat} {m d : Nat} (hm : m ≤ 150) (hd : d < 400) {ag lo : Nat → Int32} (hag : ∀ i, i < m → ag i = nI (A i)) (hlo : ∀ i, i < m → lo i = caS ru dn kd ld tm pk ts io (nI (A i))) : ∀ (n k : Nat) (chv : Nat → Int32), k ≤ m → m - k < n → (∀ i, i < k → rel0 (chv i) (caC ru sh pl wa dn kd ld tm pk ts io (nI (A i)) (d + 1))) → (∀ i, k ≤ i → i < m → rel0 (chv i) (caC ru sh pl wa dn kd ld tm pk ts io (nI (A i)) d)) → ∀ i, i < m → rel0 (sX0_passDay_L11 ag lo m (ru 1) n (sX1_shareOn sh wa pl (nI d)) k chv i) (caC ru sh pl wa dn kd ld tm pk ts io (nI (A i)) (d + 1)) := by
  intro n
  induction n with
  | zero => intro k chv _ hn; exact absurd hn (Nat.not_lt_zero _)
  | succ n ih =>
    intro k chv hk hn h1 h2
    rw [sX0_passDay_L11]
    by_cases c : m ≤ k
    · rw [if_pos (ylit (by omega) (by omega) c)]
      exact fun i hi => h1 i (by omega)
    · rw [if_neg (nlit (by omega) (by omega) c), at_nI (n := 150) (by omega) (by decide), at_nI (n := 150) (by omega) (by decide), at_nI (n := 150) (by omega) (by decide), put_nI (n := 150) (by omega) (by decide), hag k (by omega), hlo k (by omega)]
      refine ih (k + 1) _ (by omega) (by omega) (fun i hi => ?_) (fun i hi1 hi2 => ?_)
      · by_cases w : i = k
        · subst w
          rw [pk_us]
          have hr := h2 i (Nat.le_refl _) (by omega)
          have hs : caC ru sh pl wa dn kd ld tm pk ts io (nI (A i)) (d + 1) = if caC ru sh pl wa dn kd ld tm pk ts io (nI (A i)) d < 0 then caC ru sh pl wa dn kd ld tm pk ts io (nI (A i)) d else sX6_behind sh pl wa (caC ru sh pl wa dn kd ld tm pk ts io (nI (A i)) d) (nI d) (caL ru (nI (A i))) (caS ru dn kd ld tm pk ts io (nI (A i))) := rfl
          rw [hs]
          by_cases z : chv i < 0
          · have z2 : caC ru sh pl wa dn kd ld tm pk ts io (nI (A i)) d < 0 := by
              rcases hr with hr | hr
              · rw [← hr]; exact z
              · exact hr.2
            rw [if_pos z2]
            unfold sX1_chargeBehind
            rw [if_pos z]
            exact Or.inr ⟨by decide, z2⟩
          · have hr2 : chv i = caC ru sh pl wa dn kd ld tm pk ts io (nI (A i)) d := by
              rcases hr with hr | hr
              · exact hr
              · exact absurd hr.1 z
            rw [behind_eq h.1 z (nI_nn _ (by omega)), ← hr2, if_neg z]
            exact Or.inl rfl
        · rw [pk_un w]
          exact h1 i (by omega)
      · rw [pk_un (by omega)]
        exact h2 i (by omega) hi2
/-- the class's loop over the days against the reference's -/
theorem tell_val (h : LI ru sh pl wa dn sn dy od row L pd kd ld tm pk ts wo io) {A : Nat → Nat} {m : Nat} (hm : m ≤ 150) (hm2 : 2 ≤ m) (hA : ∀ i, i < m → A i < 150) {ag lo : Nat → Int32} (hag : ∀ i, i < m → ag i = nI (A i)) (hlo : ∀ i, i < m → lo i = caS ru dn kd ld tm pk ts io (nI (A i))) {lvv mtv : Nat → Int32} (hmt : ∀ d v, d < 400 → v < 10 → mtv (10 * d + v) = nI (cntI (fun i => lev (ru 0) (caC ru sh pl wa dn kd ld tm pk ts io (nI (A i)) d)) m v)) : ∀ (n k : Nat) (bs lst bs' lst' : Int32) (chv alv : Nat → Int32), k ≤ 400 → 400 - k < n → (∀ i, i < m → rel0 (chv i) (caC ru sh pl wa dn kd ld tm pk ts io (nI (A i)) k)) → ((k = 0 ∧ bs' = -9 ∧ lst = 151) ∨ (bs' = bs ∧ lst' = lst ∧ ¬ bs = -9)) → (sX0_dayThatTellsMost_L23 ag m sh wa pl (ru 0) (ru 1) n bs lst k lo chv alv).1 = (sX6_field_L191 m n bs' lst' k lvv mtv).1 := by
  have hcn : ∀ d v, cntI (fun i => lev (ru 0) (caC ru sh pl wa dn kd ld tm pk ts io (nI (A i)) d)) m v ≤ m := fun d v => cntI_le _ _ _
  have hGm : ∀ d, mxf (cntI (fun i => lev (ru 0) (caC ru sh pl wa dn kd ld tm pk ts io (nI (A i)) d)) m) 10 ≤ m := fun d => mxf_le 10 (fun v _ => hcn d v)
  have hG : ∀ d, d < 400 → (sX6_field_L210 mtv d 11 0 0).1 = nI (mxf (cntI (fun i => lev (ru 0) (caC ru sh pl wa dn kd ld tm pk ts io (nI (A i)) d)) m) 10) := fun d hd => met_val hd (fun v hv => hmt d v hd hv) (fun v _ => by have := hcn d v; omega) 11 0 0 (by omega) (by omega) rfl
  have hstop : ∀ k d, k ≤ d → cntI (fun i => lev (ru 0) (caC ru sh pl wa dn kd ld tm pk ts io (nI (A i)) k)) m 0 = m → mxf (cntI (fun i => lev (ru 0) (caC ru sh pl wa dn kd ld tm pk ts io (nI (A i)) d)) m) 10 = m := by
    intro k d hkd hc
    have h1 : cntI (fun i => lev (ru 0) (caC ru sh pl wa dn kd ld tm pk ts io (nI (A i)) d)) m 0 = m := by
      refine cntI_all m (fun i hi => ?_)
      have hAi := hA i hi
      have := caC_m h (nu := nI (A i)) (by rw [nI_toInt (by omega)]; omega) k (d - k)
      rw [show k + (d - k) = d by omega] at this
      exact lev_0 h.2.1 (cntI_full m hc i hi) this
    have h2 := mxf_ge (cntI (fun i => lev (ru 0) (caC ru sh pl wa dn kd ld tm pk ts io (nI (A i)) d)) m) 10 0 (by decide)
    have h3 := hGm d
    omega
  have n9 : ∀ k, k < 400 → ¬ nI k = -9 := by
    intro k hk q
    have q2 := congrArg Int32.toInt q
    rw [nI_toInt (by omega), show (-9 : Int32).toInt = -9 from rfl] at q2
    omega
  intro n
  induction n with
  | zero => intro k bs lst bs' lst' chv alv _ hn; exact absurd hn (Nat.not_lt_zero _)
  | succ n ih =>
    intro k bs lst bs' lst' chv alv hk hn hr hb
    rw [sX0_dayThatTellsMost_L23, sX6_field_L191]
    by_cases c : 400 ≤ k
    · rw [if_pos (show (400 : Int32) ≤ nI k from ylit (a := 400) (by omega) (by omega) c), if_pos (show (400 : Int32) ≤ nI k from ylit (a := 400) (by omega) (by omega) c)]
      rcases hb with ⟨b1, _, _⟩ | ⟨b1, _, _⟩
      · omega
      · exact b1.symm
    · have hk4 : k < 400 := by omega
      rw [if_neg (show ¬ (400 : Int32) ≤ nI k from nlit (a := 400) (by omega) (by omega) c), if_neg (show ¬ (400 : Int32) ≤ nI k from nlit (a := 400) (by omega) (by omega) c), if_neg (show ¬ nI m ≤ 1 from nlit (k := 1) (by omega) (by omega) (by omega))]
      have hgr := gr_val (chv := chv) (e := fun i => lev (ru 0) (caC ru sh pl wa dn kd ld tm pk ts io (nI (A i)) k)) (r := ru 0) hm (fun j hj => by
        have hAj := hA j hj
        rw [lev_rel (hr j hj), level_eq h.2.1 (caC_b h (nu := nI (A j)) (by rw [nI_toInt (by omega)]; omega) k).2]) (fun j hj => lev_x h _ hk4) 11 0 alv (by omega) (by omega) (fun j hj => absurd hj (Nat.not_lt_zero _))
      have hgr1 : (sX0_greatestAtOneLevel chv alv m (ru 0)).1 = nI (mxf (cntI (fun i => lev (ru 0) (caC ru sh pl wa dn kd ld tm pk ts io (nI (A i)) k)) m) 10) := hgr.1
      have hgr2 : sX5_at 10 (sX0_greatestAtOneLevel chv alv m (ru 0)).2 0 = nI (cntI (fun i => lev (ru 0) (caC ru sh pl wa dn kd ld tm pk ts io (nI (A i)) k)) m 0) := by
        rw [show (0 : Int32) = nI 0 from rfl, at_nI (by decide) (by decide)]
        exact hgr.2 0 (by decide)
      rw [hgr1, hgr2]
      have hps := pass_val h (d := k) hm hk4 hag hlo 151 0 chv (by omega) (by omega) (fun i hi => absurd hi (Nat.not_lt_zero _)) (fun i _ hi => hr i hi)
      have hps : ∀ i, i < m → rel0 (sX0_passDay ag lo chv m sh wa pl (ru 1) (nI k) i) (caC ru sh pl wa dn kd ld tm pk ts io (nI (A i)) (k + 1)) := hps
      have e := hG k hk4
      have hst := hstop k
      have hgm := hGm k
      have hc0 := hcn k 0
      have hstay := fun (b l : Int32) (hb : ¬ b = -9) => stay_val (m := m) (lvv := lvv) hG (bs := b) (lst := l) hb n (k + 1) (by omega) (by omega)
      generalize sX6_field_L210 mtv k 11 0 0 = X at e ⊢
      obtain ⟨x1, x2⟩ := X
      have e : x1 = _ := e
      subst e
      dsimp only
      generalize hgk : mxf (cntI (fun i => lev (ru 0) (caC ru sh pl wa dn kd ld tm pk ts io (nI (A i)) k)) m) 10 = g at hgm hst ⊢
      generalize hck : cntI (fun i => lev (ru 0) (caC ru sh pl wa dn kd ld tm pk ts io (nI (A i)) k)) m 0 = ck at hc0 hst ⊢
      rcases hb with ⟨b1, b2, b3⟩ | ⟨b1, b2, b3⟩
      · subst b2 b3
        rw [if_neg (show ¬ (151 : Int32) ≤ nI g from nlit (a := 151) (by omega) (by omega) (by omega)), if_pos rfl]
        by_cases z : ck = m
        · rw [if_pos (by rw [z])]
          refine (hstay (nI k) (nI g) (n9 k hk4) (fun d' h1 h2 => ?_)).symm
          rw [hst d' (by omega) z]
          exact nI_le hgm (by omega)
        · rw [if_neg (fun q => z ((nI_eq (by omega) (by omega)).mp q))]
          exact ih (k + 1) _ _ _ _ _ _ (by omega) (by omega) hps (Or.inr ⟨rfl, rfl, n9 k hk4⟩)
      · subst b1 b2
        rw [if_neg b3]
        by_cases w : lst' ≤ nI g
        · rw [if_pos w, if_pos w]
          by_cases z : ck = m
          · rw [if_pos (by rw [z])]
            refine (hstay bs' lst' b3 (fun d' h1 h2 => ?_)).symm
            rw [hst d' (by omega) z]
            have hkk := hst k (Nat.le_refl _) z
            rw [hgk] at hkk
            rw [← hkk]
            exact w
          · rw [if_neg (fun q => z ((nI_eq (by omega) (by omega)).mp q))]
            exact ih (k + 1) _ _ _ _ _ _ (by omega) (by omega) hps (Or.inr ⟨rfl, rfl, b3⟩)
        · rw [if_neg w, if_neg w]
          by_cases z : ck = m
          · rw [if_pos (by rw [z])]
            refine (hstay (nI k) (nI g) (n9 k hk4) (fun d' h1 h2 => ?_)).symm
            rw [hst d' (by omega) z]
            exact nI_le hgm (by omega)
          · rw [if_neg (fun q => z ((nI_eq (by omega) (by omega)).mp q))]
            exact ih (k + 1) _ _ _ _ _ _ (by omega) (by omega) hps (Or.inr ⟨rfl, rfl, n9 k hk4⟩)
theorem odd_val {A : Nat → Nat} {m : Nat} (hm : m ≤ 150) (hA : ∀ i, i < m → A i < 150) {ag : Nat → Int32} (hag : ∀ i, i < m → ag i = nI (A i)) : ∀ (n k : Nat), k ≤ m → m - k < n → (∀ i, i < k → ¬ A i % 5 = 0) → (sX0_isOdd_L2 ag m n k = 0 ∧ (m = 0 ∨ ∃ i, i < m ∧ A i % 5 = 0)) ∨ (sX0_isOdd_L2 ag m n k = 1 ∧ ¬ m = 0 ∧ ∀ i, i < m → ¬ A i % 5 = 0) := by
  intro n
  induction n with
  | zero => intro k _ hn; exact absurd hn (Nat.not_lt_zero _)
  | succ n ih =>
    intro k hk hn hi
    rw [sX0_isOdd_L2]
    by_cases c : m ≤ k
    · rw [if_pos (ylit (by omega) (by omega) c)]
      by_cases z : m = 0
      · subst z
        rw [if_pos (show nI 0 ≤ (0 : Int32) by decide)]
        exact Or.inl ⟨rfl, Or.inl rfl⟩
      · rw [if_neg (show ¬ nI m ≤ 0 from nlit (k := 0) (by omega) (by omega) (by omega))]
        exact Or.inr ⟨rfl, z, fun i h2 => hi i (by omega)⟩
    · rw [if_neg (nlit (by omega) (by omega) c), at_nI (n := 150) (by omega) (by decide), hag k (by omega)]
      have hAk := hA k (by omega)
      have ho : sX0_oddOf (nI (A k)) = nI (A k % 5) := pk_rem (a := A k) (d := 5) (by omega) (by decide) (by decide)
      rw [ho]
      by_cases z : A k % 5 = 0
      · rw [z, if_pos (show nI 0 = 0 from rfl)]
        exact Or.inl ⟨rfl, Or.inr ⟨k, by omega, z⟩⟩
      · rw [if_neg (show ¬ nI (A k % 5) = 0 from fun q => z ((nI_eq (a := A k % 5) (b := 0) (by omega) (by omega)).mp q))]
        refine ih (k + 1) (by omega) (by omega) (fun i h2 => ?_)
        by_cases w : i = k
        · subst w; exact z
        · exact hi i (by omega)
theorem op_field (h : LI ru sh pl wa dn sn dy od row L pd kd ld tm pk ts wo io) (lv mlv mmt ag lo ch al : Nat → Int32) (an : Nat) (wh : Int32) : (sX5_field ag lo ch al an sh wa pl (ru 0) (ru 1) (ru 2) row dn dy lv od sn pd wh).1 = (sX6_field ru sh pl wa dn kd ld tm pk ts io sn dy lv mlv mmt wh).1 := by
  unfold sX5_field sX6_field
  by_cases c : sX6_in wh 0 3 = 0
  · rw [if_pos (show sX5_within wh 0 3 = 0 from c), if_pos c]
  rw [if_neg (show ¬ sX5_within wh 0 3 = 0 from c), if_neg c]
  have hw : 0 ≤ wh.toInt ∧ wh.toInt ≤ 3 := in6_b c
  have hnu : ∀ k, k < 150 → 0 ≤ (nI k).toInt ∧ (nI k).toInt ≤ 149 := fun k hk => by rw [nI_toInt (by omega)]; omega
  obtain ⟨ag', eg, hg⟩ := gather_val (sh := sh) (wa := wa) (pl := pl) (rm := ru 0) (lk := ru 1) (br := ru 2) (row := row) (dn := dn) (dy := dy) (lv := lv) (od := od) (sn := sn) (pd := pd) (F := fun k => sX0_fitsSigns sh wa pl (ru 0) (ru 1) (ru 2) row dn dy lv od sn pd (nI k)) (fun k _ => rfl) 151 0 ag 0 (by omega) (by omega) rfl (fun i hi => absurd hi (Nat.not_lt_zero _))
  have eG : sX0_gatherAgreeing ag sh wa pl (ru 0) (ru 1) (ru 2) row dn dy lv od sn pd = _ := eg
  rw [eG]
  clear eG eg
  obtain ⟨mt', hz, e1⟩ := clear_val (ru := ru) (sh := sh) (pl := pl) (wa := wa) (dn := dn) (kd := kd) (ld := ld) (tm := tm) (pk := pk) (ts := ts) (io := io) (sn := sn) (dy := dy) (od := lv) (lv := mlv) (wh := wh) 4001 0 mmt (by omega) (by omega) (fun j hj => absurd hj (Nat.not_lt_zero _))
  rw [e1]
  obtain ⟨ip', lvv', mtv', hip, hmt, e2⟩ := cases_val (kd := kd) (ld := ld) (tm := tm) (pk := pk) (ts := ts) (io := io) (lv := lv) (wh := wh) (F := fun k => sX0_fitsSigns sh wa pl (ru 0) (ru 1) (ru 2) row dn dy lv od sn pd (nI k)) (E := fun k d => lev (ru 0) (caC ru sh pl wa dn kd ld tm pk ts io (nI k) d)) h.1 (fun k q hk => (fit_eq h lv q (hnu k hk)).symm) (fun k q d hk hd => by
      have e3 : (sX6_isAgreeing ru sh pl wa dn kd ld tm pk ts io sn dy lv q (nI k)).2 = sX6_empties ru sh pl wa dn kd ld tm pk ts io q (nI k) := (isAg_L h.1.2.2.2.2.1 _ 13 1 0 (Or.inr rfl) (by omega) (by have := h.1.2.2.2.2.1; omega)).1
      rw [e3, emp_eq q (nI k) d hd]) 151 0 0 (-9) 0 mlv mt' (by omega) (by omega) rfl rfl (Or.inl rfl) ⟨fun _ i hi => absurd hi (Nat.not_lt_zero _), fun _ => rfl⟩ (fun d v hd hv => hz _ (by omega))
  rw [e2]
  clear e1 e2
  have hm := agl_len (fun k => sX0_fitsSigns sh wa pl (ru 0) (ru 1) (ru 2) row dn dy lv od sn pd (nI k)) 150
  have hA : ∀ i, i < (agl (fun k => sX0_fitsSigns sh wa pl (ru 0) (ru 1) (ru 2) row dn dy lv od sn pd (nI k)) 150).length → nth (agl (fun k => sX0_fitsSigns sh wa pl (ru 0) (ru 1) (ru 2) row dn dy lv od sn pd (nI k)) 150) i < 150 := fun i hi => agl_lt (nth_mem hi)
  generalize agl (fun k => sX0_fitsSigns sh wa pl (ru 0) (ru 1) (ru 2) row dn dy lv od sn pd (nI k)) 150 = B at hm hA hg hip hmt ⊢
  obtain ⟨w, hw1, rfl⟩ := nn_nI hw.1
  rw [nI_toInt hw1] at hw
  have hw4 : w = 0 ∨ w = 1 ∨ w = 2 ∨ w = 3 := by omega
  dsimp only
  rcases hw4 with rfl | rfl | rfl | rfl
  · rw [if_pos (show nI 0 = 0 from rfl), if_neg (show ¬ (3 : Int32) ≤ nI 0 by decide), if_pos (show nI 0 = 0 from rfl)]
  · rw [if_neg (show ¬ nI 1 = 0 by decide), if_pos (show nI 1 = 1 from rfl), if_neg (show ¬ (3 : Int32) ≤ nI 1 by decide), if_neg (show ¬ nI 1 = 0 by decide), if_pos (show nI 1 = 1 from rfl)]
    show sX0_leastAgreeing ag' B.length = _
    unfold sX0_leastAgreeing
    by_cases z : B.length = 0
    · rw [if_pos z, z, if_pos (show nI 0 ≤ (0 : Int32) by decide)]
    · rw [if_neg z, if_neg (show ¬ nI B.length ≤ 0 from nlit (k := 0) (by omega) (by omega) (by omega)), show (0 : Int32) = nI 0 from rfl, at_nI (by decide) (by decide), hg 0 (by omega)]
  · rw [if_neg (show ¬ nI 2 = 0 by decide), if_neg (show ¬ nI 2 = 1 by decide), if_pos (show nI 2 = 2 from rfl), if_neg (show ¬ (3 : Int32) ≤ nI 2 by decide), if_neg (show ¬ nI 2 = 0 by decide), if_neg (show ¬ nI 2 = 1 by decide)]
    rcases odd_val hm hA hg 151 0 (by omega) (by omega) (fun i hi => absurd hi (Nat.not_lt_zero _)) with ⟨o1, o2⟩ | ⟨o1, o2, o3⟩
    · rw [if_pos (show sX0_isOdd ag' B.length = 0 from o1)]
      by_cases z : B.length = 0
      · rw [z, if_pos (show nI 0 ≤ (0 : Int32) by decide)]
      · rw [if_neg (show ¬ nI B.length ≤ 0 from nlit (k := 0) (by omega) (by omega) (by omega)), if_neg]
        intro q
        rcases o2 with o2 | ⟨i, o2, o3⟩
        · exact z o2
        · exact hip.mp q i o2 o3
    · rw [if_neg (show ¬ sX0_isOdd ag' B.length = 0 from fun q => by rw [show sX0_isOdd ag' B.length = 1 from o1] at q; exact absurd q (by decide)), if_neg (show ¬ nI B.length ≤ 0 from nlit (k := 0) (by omega) (by omega) (by omega)), if_pos (hip.mpr o3)]
  · rw [if_neg (show ¬ nI 3 = 0 by decide), if_neg (show ¬ nI 3 = 1 by decide), if_neg (show ¬ nI 3 = 2 by decide), if_pos (show (3 : Int32) ≤ nI 3 by decide)]
    show (sX0_dayThatTellsMost ag' lo ch al B.length sh wa pl (ru 0) (ru 1) (ru 2) row dn pd).1 = _
    unfold sX0_dayThatTellsMost
    by_cases z : 2 ≤ B.length
    · rw [if_pos (show (2 : Int32) ≤ nI B.length from ylit (a := 2) (by omega) (by omega) z)]
      have hs := start_val h (A := nth B) hm hA hg 151 0 lo ch (by omega) (by omega) (fun i hi => absurd hi (Nat.not_lt_zero _))
      exact tell_val h (A := nth B) hm z hA hg (fun i hi => (hs i hi).1) hmt 401 0 0 151 (-9) 0 _ al (by omega) (by omega) (fun i hi => Or.inl (hs i hi).2) (Or.inl ⟨rfl, rfl, rfl⟩)
    · rw [if_neg (show ¬ (2 : Int32) ≤ nI B.length from nlit (a := 2) (by omega) (by omega) z)]
      rw [sX6_field_L191, if_neg (show ¬ (400 : Int32) ≤ nI 0 by decide), if_pos (show nI B.length ≤ 1 from ylit (k := 1) (by omega) (by omega) (by omega))]
end OPS10
theorem op_trace (tq : Int64) : sX5_trace tq = (sX6_trace tq).1 := rfl
