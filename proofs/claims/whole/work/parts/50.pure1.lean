/-! PURE, 1: rows of numbers, shares, seasons, duties one by one -/
theorem wi_eq (v lo hi : Int32) : sX5_within v lo hi = sX6_in v lo hi := rfl
theorem put_nI {n k : Nat} {f : Nat → Int32} {v : Int32} (h : k < n) (hn : n < 2 ^ 31) : sX5_put n f (nI k) v = upd f k v := by
  unfold sX5_put
  rw [if_neg (nI_pos (by omega)), if_neg (fun q => absurd ((nI_leI (a := n) (b := k) hn (by omega)).mp q) (by omega)), nI_clamp (by omega)]
theorem at_nI {n k : Nat} {f : Nat → Int32} (h : k < n) (hn : n < 2 ^ 31) : sX5_at n f (nI k) = f k := by
  unfold sX5_at
  rw [if_neg (nI_pos (by omega)), if_neg (fun q => absurd ((nI_leI (a := n) (b := k) hn (by omega)).mp q) (by omega)), nI_clamp (by omega)]
theorem at_in {n : Nat} {f : Nat → Int32} {i : Int32} (h0 : 0 ≤ i.toInt) (h1 : i.toInt < n) (hn : n < 2 ^ 31) : sX5_at n f i = f i.toNatClampNeg := by
  obtain ⟨k, hk, rfl⟩ := nn_nI h0
  rw [nI_toInt hk] at h1
  rw [at_nI (by omega) hn, nI_clamp hk]
theorem in_iff {v lo hi : Int32} : (¬ sX6_in v lo hi = 0) ↔ lo.toInt ≤ v.toInt ∧ v.toInt ≤ hi.toInt := by
  refine ⟨in6_b, fun h => ?_⟩
  unfold sX6_in
  rw [if_neg (fun q => by have := cd_lt q; omega), if_neg (fun q => by have := cd_lt q; omega)]
  decide
theorem nlit {a k : Nat} (ha : a < 2 ^ 31) (hk : k < 2 ^ 31) (h : ¬ a ≤ k) : ¬ nI a ≤ nI k := fun q => h ((nI_leI ha hk).mp q)
theorem ylit {a k : Nat} (ha : a < 2 ^ 31) (hk : k < 2 ^ 31) (h : a ≤ k) : nI a ≤ nI k := (nI_leI ha hk).mpr h
section OPS1
variable {ru sh : Nat → Int32} {pl : Int32} {wa : Nat → Int32} {dn sn : Nat} {dy od : Nat → Int32} {row : Nat → Option Nat} {L : List Nat} {pd : Nat → DT} {kd ld tm pk ts wo io : Nat → Int32}
theorem op_set (h : LI ru sh pl wa dn sn dy od row L pd kd ld tm pk ts wo io) (wh v : Int32) : (sX5_set (ru 0) (ru 1) (ru 2) wh v).1 = (sX6_set ru wh v).1 ∧ (sX5_set (ru 0) (ru 1) (ru 2) wh v).2.1 = (sX6_set ru wh v).2.2 0 ∧ (sX5_set (ru 0) (ru 1) (ru 2) wh v).2.2.1 = (sX6_set ru wh v).2.2 1 ∧ (sX5_set (ru 0) (ru 1) (ru 2) wh v).2.2.2 = (sX6_set ru wh v).2.2 2 ∧ LI ((sX6_set ru wh v).2.2) sh pl wa dn sn dy od row L pd kd ld tm pk ts wo io := by
  have key : ∀ (j : Nat) (lo hi : Int32), j < 3 → (j = 0 → 1 ≤ lo.toInt ∧ hi.toInt ≤ 5000) → (j = 1 → 0 ≤ lo.toInt ∧ hi.toInt ≤ 20) → (j = 2 → 1 ≤ lo.toInt ∧ hi.toInt ≤ 500) → ¬ sX6_in v lo hi = 0 → LI (upd ru j v) sh pl wa dn sn dy od row L pd kd ld tm pk ts wo io := by
    intro j lo hi hj b0 b1 b2 hv
    have hv := in6_b hv
    obtain ⟨⟨m1, m2, m3, m4, m5, m6, m7⟩, ⟨r0, r1, r2⟩, hh⟩ := h
    rcases (show j = 0 ∨ j = 1 ∨ j = 2 by omega) with rfl | rfl | rfl
    · have := b0 rfl
      refine ⟨⟨m1, m2, m3, m4, m5, ?_, m7⟩, ⟨?_, ?_, ?_⟩, hh⟩
      · rw [pk_us]; omega
      · rw [pk_us]; omega
      · rw [pk_un (by decide)]; exact r1
      · rw [pk_un (by decide)]; exact r2
    · have := b1 rfl
      refine ⟨⟨m1, m2, m3, m4, m5, ?_, m7⟩, ⟨?_, ?_, ?_⟩, hh⟩
      · rw [pk_un (by decide)]; exact m6
      · rw [pk_un (by decide)]; exact r0
      · rw [pk_us]; omega
      · rw [pk_un (by decide)]; exact r2
    · have := b2 rfl
      refine ⟨⟨m1, m2, m3, m4, m5, ?_, m7⟩, ⟨?_, ?_, ?_⟩, hh⟩
      · rw [pk_un (by decide)]; exact m6
      · rw [pk_un (by decide)]; exact r0
      · rw [pk_un (by decide)]; exact r1
      · rw [pk_us]; omega
  unfold sX5_set sX6_set
  by_cases e0 : wh = 0
  · subst e0
    rw [if_pos rfl, if_neg (show ¬ sX6_in 0 0 2 = 0 by decide), if_neg (show ¬ (0 : Int32) = 1 by decide), if_pos rfl]
    by_cases hv : sX6_in v 1 5000 = 0
    · rw [wi_eq, if_pos hv, if_pos hv]
      exact ⟨rfl, rfl, rfl, rfl, h⟩
    · rw [wi_eq, if_neg hv, if_neg hv]
      exact ⟨rfl, rfl, rfl, rfl, key 0 1 5000 (by decide) (fun _ => by decide) (fun q => absurd q (by decide)) (fun q => absurd q (by decide)) hv⟩
  · rw [if_neg e0]
    by_cases e1 : wh = 1
    · subst e1
      rw [if_pos rfl, if_neg (show ¬ sX6_in 1 0 2 = 0 by decide), if_pos rfl, if_neg (show ¬ (1 : Int32) = 0 by decide), if_pos rfl]
      by_cases hv : sX6_in v 0 20 = 0
      · rw [wi_eq, if_pos hv, if_pos hv]
        exact ⟨rfl, rfl, rfl, rfl, h⟩
      · rw [wi_eq, if_neg hv, if_neg hv]
        exact ⟨rfl, rfl, rfl, rfl, key 1 0 20 (by decide) (fun q => absurd q (by decide)) (fun _ => by decide) (fun q => absurd q (by decide)) hv⟩
    · rw [if_neg e1]
      by_cases e2 : wh = 2
      · subst e2
        rw [if_pos rfl, if_neg (show ¬ sX6_in 2 0 2 = 0 by decide), if_neg (show ¬ (2 : Int32) = 1 by decide), if_neg (show ¬ (2 : Int32) = 0 by decide), if_neg (show ¬ (2 : Int32) = 1 by decide)]
        by_cases hv : sX6_in v 1 500 = 0
        · rw [wi_eq, if_pos hv, if_pos hv]
          exact ⟨rfl, rfl, rfl, rfl, h⟩
        · rw [wi_eq, if_neg hv, if_neg hv]
          exact ⟨rfl, rfl, rfl, rfl, key 2 1 500 (by decide) (fun q => absurd q (by decide)) (fun q => absurd q (by decide)) (fun _ => by decide) hv⟩
      · rw [if_neg e2]
        have hw : sX6_in wh 0 2 = 0 := by
          apply Classical.byContradiction
          intro q
          have a : 0 ≤ wh.toInt := (in6_b q).1
          have b : wh.toInt ≤ 2 := (in6_b q).2
          have z0 := lv_neT e0 (a := 0) (by decide)
          have z1 := lv_neT e1 (a := 1) (by decide)
          have z2 := lv_neT e2 (a := 2) (by decide)
          omega
        rw [if_pos hw]
        exact ⟨rfl, rfl, rfl, rfl, h⟩
theorem op_shares (h : LI ru sh pl wa dn sn dy od row L pd kd ld tm pk ts wo io) (v1 v2 v3 : Int32) : (sX5_shares sh v1 v2 v3).1 = (sX6_shares sh v1 v2 v3).1 ∧ (sX5_shares sh v1 v2 v3).2 = (sX6_shares sh v1 v2 v3).2.2 ∧ LI ru ((sX6_shares sh v1 v2 v3).2.2) pl wa dn sn dy od row L pd kd ld tm pk ts wo io := by
  unfold sX5_shares sX6_shares
  rw [wi_eq, wi_eq, wi_eq]
  split
  · exact ⟨rfl, rfl, h⟩
  · next h1 =>
    split
    · exact ⟨rfl, rfl, h⟩
    · next h2 =>
      split
      · exact ⟨rfl, rfl, h⟩
      · next h3 =>
        refine ⟨rfl, ?_, ?_⟩
        · show sX1_changeShares sh v1 v2 v3 = _
          unfold sX1_changeShares
          rw [show (0 : Int32) = nI 0 from rfl, show (1 : Int32) = nI 1 from rfl, show (2 : Int32) = nI 2 from rfl, put_nI (by decide) (by decide), put_nI (by decide) (by decide), put_nI (by decide) (by decide)]
        · have a1 : 10 ≤ v1.toInt ∧ v1.toInt ≤ 100 := in6_b h1
          have a2 : 10 ≤ v2.toInt ∧ v2.toInt ≤ v1.toInt := in6_b h2
          have a3 : 10 ≤ v3.toInt ∧ v3.toInt ≤ v2.toInt := in6_b h3
          have hv : ∀ j, j < 3 → 10 ≤ ((upd (upd (upd sh 0 v1) 1 v2) 2 v3) j).toInt ∧ ((upd (upd (upd sh 0 v1) 1 v2) 2 v3) j).toInt ≤ 100 := by
            intro j hj
            rcases (show j = 0 ∨ j = 1 ∨ j = 2 by omega) with rfl | rfl | rfl
            · rw [pk_un (by decide), pk_un (by decide), pk_us]; omega
            · rw [pk_un (by decide), pk_us]; omega
            · rw [pk_us]; omega
          obtain ⟨⟨m1, m2, m3, m4, m5, m6, m7⟩, r, s3, hh⟩ := h
          exact ⟨⟨m1, m2, fun j hj => by have := hv j hj; show 0 < ((upd (upd (upd sh 0 v1) 1 v2) 2 v3) j).toInt; omega, m4, m5, m6, m7⟩, r, hv, hh⟩
theorem pow_eq {pl : Int32} {wa : Nat → Int32} {nn dg : Int32} (hn : nn.toInt ≤ 12) : ∀ (n : Nat) (mo : Int32) (k : Nat), k ≤ 12 → 12 - k < n → sX6_season_L22 pl wa nn dg n mo k = (if (sX6_in dg 0 ((sX5_powerOfThree_L4 nn n mo k) - 1)) = 0 then ((-1), 0, pl, wa) else sX6_season_L62 nn 13 dg 0 wa) := by
  intro n
  induction n with
  | zero => intro mo k _ h; exact absurd h (Nat.not_lt_zero _)
  | succ n ih =>
    intro mo k hk hm
    rw [sX6_season_L22, sX5_powerOfThree_L4]
    by_cases c : nn ≤ nI k
    · rw [if_pos c, if_pos c]
    · have hk2 := lt12 (N := 12) (by decide) hn c hk
      rw [if_neg c, if_neg c, if_neg (show ¬ (12 : Int32) ≤ nI k from nlit (a := 12) (by omega) (by omega) (by omega))]
      exact ih _ _ (by omega) (by omega)
theorem sea_eq {nn : Int32} (hn : nn.toInt ≤ 12) : ∀ (n : Nat) (rs : Int32) (k : Nat) (wv : Nat → Int32), k ≤ 12 → 12 - k < n → sX6_season_L62 nn n rs k wv = (nn, 0, nn, (sX1_changeSeason_L5 nn n rs k wv).1) ∧ (sX1_changeSeason_L5 nn n rs k wv).2 = nn := by
  intro n
  induction n with
  | zero => intro rs k wv _ h; exact absurd h (Nat.not_lt_zero _)
  | succ n ih =>
    intro rs k wv hk hm
    rw [sX6_season_L62, sX1_changeSeason_L5]
    by_cases c : nn ≤ nI k
    · rw [if_pos c, if_pos c]
      exact ⟨rfl, rfl⟩
    · have hk2 := lt12 (N := 12) (by decide) hn c hk
      rw [if_neg c, if_neg c, if_neg (show ¬ (12 : Int32) ≤ nI k from nlit (a := 12) (by omega) (by omega) (by omega)), put_nI (by omega) (by decide)]
      exact ih _ _ _ (by omega) (by omega)
theorem rem3 {x : Int32} (h : 0 ≤ x.toInt) : (0 ≤ (x - x / 3 * 3).toInt ∧ (x - x / 3 * 3).toInt < 3) ∧ 0 ≤ (x / 3).toInt := by
  obtain ⟨a, ha, rfl⟩ := nn_nI h
  rw [show (3 : Int32) = nI 3 from rfl, pk_rem ha (by decide) (by decide), pk_div ha (by decide) (by decide)]
  have := Nat.mod_lt a (show 0 < 3 by decide)
  have h2 : a / 3 ≤ a := Nat.div_le_self _ _
  rw [nI_toInt (by omega), nI_toInt (by omega)]
  omega
theorem sea_b {nn : Int32} : ∀ (n : Nat) (rs : Int32) (k : Nat) (wv : Nat → Int32), 0 ≤ rs.toInt → (∀ j, 0 ≤ (wv j).toInt ∧ (wv j).toInt < 3) → ∀ j, 0 ≤ ((sX6_season_L62 nn n rs k wv).2.2.2 j).toInt ∧ ((sX6_season_L62 nn n rs k wv).2.2.2 j).toInt < 3 := by
  intro n
  induction n with
  | zero => intro rs k wv _ _ j; rw [sX6_season_L62]; show 0 ≤ (0 : Int32).toInt ∧ (0 : Int32).toInt < 3; decide
  | succ n ih =>
    intro rs k wv hr hw j
    rw [sX6_season_L62]
    split
    · exact hw j
    · refine ih _ _ _ (rem3 hr).2 (fun i => ?_) j
      by_cases e : i = k
      · subst e; rw [pk_us]; exact (rem3 hr).1
      · rw [pk_un e]; exact hw i
theorem op_season (h : LI ru sh pl wa dn sn dy od row L pd kd ld tm pk ts wo io) (nn dg : Int32) : (sX5_season wa pl nn dg).1 = (sX6_season pl wa nn dg).1 ∧ (sX5_season wa pl nn dg).2.1 = (sX6_season pl wa nn dg).2.2.2 ∧ (sX5_season wa pl nn dg).2.2 = (sX6_season pl wa nn dg).2.2.1 ∧ LI ru sh ((sX6_season pl wa nn dg).2.2.1) ((sX6_season pl wa nn dg).2.2.2) dn sn dy od row L pd kd ld tm pk ts wo io := by
  unfold sX5_season sX6_season
  rw [wi_eq]
  by_cases c : sX6_in nn 1 12 = 0
  · rw [if_pos c, if_pos c]
    exact ⟨rfl, rfl, rfl, h⟩
  · have hn : 1 ≤ nn.toInt ∧ nn.toInt ≤ 12 := in6_b c
    rw [if_neg c, if_neg c, pow_eq hn.2 13 1 0 (by omega) (by omega), wi_eq]
    unfold sX5_powerOfThree
    by_cases d : sX6_in dg 0 (sX5_powerOfThree_L4 nn 13 1 0 - 1) = 0
    · rw [if_pos d, if_pos d]
      exact ⟨rfl, rfl, rfl, h⟩
    · have hd : 0 ≤ dg.toInt := (in6_b d).1
      rw [if_neg d, if_neg d]
      obtain ⟨⟨m1, m2, m3, m4, m5, m6, m7⟩, hh⟩ := h
      have hb := sea_b (nn := nn) 13 dg 0 wa hd m2
      obtain ⟨e1, e2⟩ := sea_eq hn.2 13 dg 0 wa (by omega) (by omega)
      rw [e1] at hb ⊢
      exact ⟨rfl, rfl, e2, ⟨⟨by show 0 < nn.toInt; omega, hn.2⟩, hb, m3, m4, m5, m6, m7⟩, hh⟩
theorem shareOn_eq (h : mOk ru sh pl wa dn sn dy) {dd : Int32} (hd : 0 ≤ dd.toInt) : sX1_shareOn sh wa pl dd = sX6_shareOf sh pl wa dd := by
  unfold sX1_shareOn sX6_shareOf
  rw [if_neg (fun q => by have := cd_le q; have h1 := h.1.1; rw [show (0 : Int32).toInt = 0 from rfl] at this; omega)]
  have h12 := vp_in_iff.mp (rem_in hd h.1.1 h.1.2)
  rw [at_in h12.1 h12.2 (by decide), at_in (h.2.1 _).1 (h.2.1 _).2 (by decide)]
theorem op_share (h : LI ru sh pl wa dn sn dy od row L pd kd ld tm pk ts wo io) (dd : Int32) : sX5_share sh wa pl dd = (sX6_share sh pl wa dd).1 := by
  unfold sX5_share sX6_share
  show (if sX6_isDay dd = 0 then _ else _) = _
  by_cases c : sX6_isDay dd = 0
  · rw [if_pos c, if_pos c]
  · rw [if_neg c, if_neg c]
    exact shareOn_eq h.1 (isDay6_b c).1
end OPS1
