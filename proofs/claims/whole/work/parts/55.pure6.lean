/-! PURE, 6: the signs' order -/
theorem arr_in {dy : Nat → Int32} {k : Nat} (hk : k < 12) (g : Nat → Nat) (hg : ∀ i, i < k → g i < k) : ∀ (n pz : Nat) (oi : Nat → Int32), pz ≤ k → pz < n → (∀ i, i < pz → oi i = nI (g i)) → (∀ i, pz ≤ i → i < k → oi (i + 1) = nI (g i) ∧ (dy k).toInt < (dy (g i)).toInt) → ∃ pz' oi', sX4_arrange_L12 dy k n pz oi = (pz', oi') ∧ pz' ≤ k ∧ (∀ i, i < pz' → oi' i = nI (g i)) ∧ (∀ i, pz' ≤ i → i < k → oi' (i + 1) = nI (g i) ∧ (dy k).toInt < (dy (g i)).toInt) ∧ (pz' = 0 ∨ (dy (g (pz' - 1))).toInt ≤ (dy k).toInt) := by
  intro n
  induction n with
  | zero => intro pz oi _ hm; exact absurd hm (Nat.not_lt_zero _)
  | succ n ih =>
    intro pz oi hp hm h1 h2
    rw [sX4_arrange_L12]
    by_cases c : pz = 0
    · subst c
      rw [if_pos (show nI 0 ≤ (0 : Int32) by decide)]
      exact ⟨0, oi, rfl, by omega, h1, h2, Or.inl rfl⟩
    · have hlt := hg (pz - 1) (by omega)
      have e1 : sX5_at 12 oi (nI (pz - 1)) = nI (g (pz - 1)) := by rw [at_nI (by omega) (by decide)]; exact h1 _ (by omega)
      have e2 : sX4_dayInOrder dy oi (nI (pz - 1)) = dy (g (pz - 1)) := by
        unfold sX4_dayInOrder
        rw [e1, at_nI (by omega) (by decide)]
      rw [if_neg (show ¬ nI pz ≤ (0 : Int32) from nI_nle (by omega) (by omega)), e2, e1, at_nI hk (by decide)]
      by_cases d : dy (g (pz - 1)) ≤ dy k
      · rw [if_pos d]
        exact ⟨pz, oi, rfl, hp, h1, h2, Or.inr (cd_le d)⟩
      · rw [if_neg d, put_nI (by omega) (by decide)]
        refine ih (pz - 1) _ (by omega) (by omega) (fun i hi => ?_) (fun i hi hik => ?_)
        · rw [pk_un (by omega)]
          exact h1 i (by omega)
        · by_cases e : i + 1 = pz
          · rw [e, pk_us]
            have : i = pz - 1 := by omega
            subst this
            exact ⟨rfl, cd_nle d⟩
          · rw [pk_un e]
            exact h2 i (by omega) hik
theorem arr_step {dy ov : Nat → Int32} {k : Nat} (hk : k < 12) (h : SO dy ov k) : SO dy (match sX4_arrange_L12 dy k 13 k ov with | (x4, x5) => sX5_put 12 x5 (nI x4) (nI k)) (k + 1) := by
  obtain ⟨g, g1, g2, g3⟩ := h
  obtain ⟨z, oi, e, hz, h1, h2, h3⟩ := arr_in (dy := dy) hk g (fun i hi => (g1 i hi).2) 13 k ov (Nat.le_refl _) (by omega) (fun i hi => (g1 i hi).1) (fun i hi hik => absurd hik (by omega))
  rw [e]
  dsimp only
  rw [put_nI (by omega) (by decide)]
  have day : ∀ i j, i < z → z ≤ j → j < k → (dy (g i)).toInt ≤ (dy k).toInt := by
    intro i j hi _ _
    rcases h3 with q | q
    · omega
    · have := g3 i (z - 1) (by omega) (by omega)
      omega
  have day' : ∀ i, i < z → (dy (g i)).toInt ≤ (dy k).toInt := by
    intro i hi
    rcases h3 with q | q
    · omega
    · have := g3 i (z - 1) (by omega) (by omega)
      omega
  refine ⟨fun i => if i < z then g i else if i = z then k else g (i - 1), fun i hi => ?_, fun j hj => ?_, fun i j hij hj => ?_⟩
  · dsimp only
    by_cases c1 : i < z
    · rw [if_pos c1, pk_un (by omega)]
      exact ⟨h1 i c1, by have := (g1 i (by omega)).2; omega⟩
    · rw [if_neg c1]
      by_cases c2 : i = z
      · rw [if_pos c2, c2, pk_us]
        exact ⟨rfl, by omega⟩
      · rw [if_neg c2, pk_un c2]
        have := h2 (i - 1) (by omega) (by omega)
        rw [show i - 1 + 1 = i by omega] at this
        exact ⟨this.1, by have := (g1 (i - 1) (by omega)).2; omega⟩
  · by_cases c : j = k
    · refine ⟨z, by omega, ?_⟩
      dsimp only
      rw [if_neg (by omega), if_pos rfl, c]
    · obtain ⟨i, hi, he⟩ := g2 j (by omega)
      by_cases c1 : i < z
      · refine ⟨i, by omega, ?_⟩
        dsimp only
        rw [if_pos c1, he]
      · refine ⟨i + 1, by omega, ?_⟩
        dsimp only
        rw [if_neg (by omega), if_neg (by omega), Nat.add_sub_cancel, he]
  · dsimp only
    by_cases a1 : i < z
    · rw [if_pos a1]
      by_cases b1 : j < z
      · rw [if_pos b1]
        exact g3 i j hij (by omega)
      · rw [if_neg b1]
        by_cases b2 : j = z
        · rw [if_pos b2]
          exact day' i a1
        · rw [if_neg b2]
          exact g3 i (j - 1) (by omega) (by omega)
    · rw [if_neg a1, if_neg (show ¬ j < z by omega)]
      by_cases a2 : i = z
      · rw [if_pos a2]
        by_cases b2 : j = z
        · rw [if_pos b2]
          exact Int.le_refl _
        · rw [if_neg b2]
          have := (h2 (j - 1) (by omega) (by omega)).2
          omega
      · rw [if_neg a2, if_neg (show ¬ j = z by omega)]
        exact g3 (i - 1) (j - 1) (by omega) (by omega)
theorem arr_L {dy : Nat → Int32} {sn : Nat} (hsn : sn ≤ 12) : ∀ (n k : Nat) (ov : Nat → Int32), k ≤ sn → sn - k < n → SO dy ov k → SO dy (sX4_arrange_L2 dy sn n k ov) sn := by
  intro n
  induction n with
  | zero => intro k ov _ hm; exact absurd hm (Nat.not_lt_zero _)
  | succ n ih =>
    intro k ov hk hm h
    rw [sX4_arrange_L2]
    by_cases c : sn ≤ k
    · have e : k = sn := by omega
      subst e
      rw [if_pos (ylit (by omega) (by omega) c)]
      exact h
    · rw [if_neg (nlit (by omega) (by omega) c)]
      have hs := arr_step (by omega) h
      revert hs
      cases sX4_arrange_L12 dy k 13 k ov with
      | mk x4 x5 =>
        intro hs
        exact ih (k + 1) _ (by omega) (by omega) hs
theorem arr_SO {dy od : Nat → Int32} {sn : Nat} (hsn : sn ≤ 12) : SO dy (sX4_arrange dy od sn) sn := arr_L hsn 13 0 od (by omega) (by omega) ⟨fun _ => 0, fun i hi => absurd hi (Nat.not_lt_zero _), fun i hi => absurd hi (Nat.not_lt_zero _), fun i j _ hj => absurd hj (Nat.not_lt_zero _)⟩
section OPS6
variable {ru sh : Nat → Int32} {pl : Int32} {wa : Nat → Int32} {dn sn : Nat} {dy od : Nat → Int32} {row : Nat → Option Nat} {L : List Nat} {pd : Nat → DT} {kd ld tm pk ts wo io : Nat → Int32}
theorem op_sign (h : LI ru sh pl wa dn sn dy od row L pd kd ld tm pk ts wo io) (lv : Nat → Int32) (dd lw : Int32) : (sX5_sign dy lv od sn dd lw).1 = (sX6_sign sn dy lv dd lw).1 ∧ (sX5_sign dy lv od sn dd lw).2.1 = (sX6_sign sn dy lv dd lw).2.2.1 ∧ (sX5_sign dy lv od sn dd lw).2.2.1 = (sX6_sign sn dy lv dd lw).2.2.2.1 ∧ (sX5_sign dy lv od sn dd lw).2.2.2.2 = (sX6_sign sn dy lv dd lw).2.2.2.2 ∧ LI ru sh pl wa dn ((sX6_sign sn dy lv dd lw).2.2.2.2) ((sX6_sign sn dy lv dd lw).2.2.1) ((sX5_sign dy lv od sn dd lw).2.2.2.1) row L pd kd ld tm pk ts wo io := by
  have hsn : sn ≤ 12 := h.1.2.2.2.2.1
  unfold sX5_sign sX6_sign
  rw [wi_eq]
  by_cases c : sX6_isDay dd = 0
  · rw [if_pos (show sX5_isDay dd = 0 from c), if_pos c]
    exact ⟨rfl, rfl, rfl, rfl, h⟩
  rw [if_neg (show ¬ sX5_isDay dd = 0 from c), if_neg c]
  by_cases c2 : sX6_in lw 0 9 = 0
  · rw [if_pos c2, if_pos c2]
    exact ⟨rfl, rfl, rfl, rfl, h⟩
  rw [if_neg c2, if_neg c2]
  by_cases f : sn = 12
  · subst f
    rw [if_neg (show ¬ sX4_isFull 12 = 0 by decide), if_pos (show nI 12 = 12 from rfl)]
    exact ⟨rfl, rfl, rfl, rfl, h⟩
  · have hf : sX4_isFull sn = 0 := by
      unfold sX4_isFull
      rw [if_pos (show nI sn < (12 : Int32) from (nI_ltI (a := sn) (b := 12) (by omega) (by omega)).mpr (by omega))]
    rw [if_pos hf, if_neg (show ¬ nI sn = (12 : Int32) from fun q => absurd ((nI_eq (a := sn) (b := 12) (by omega) (by omega)).mp q) f)]
    unfold sX4_add
    rw [put_nI (by omega) (by decide), put_nI (by omega) (by decide)]
    obtain ⟨⟨m1, m2, m3, m4, m5, m6, m7⟩, r, s3, a1, a2, a3, a4, a5⟩ := h
    refine ⟨rfl, rfl, rfl, rfl, ⟨m1, m2, m3, m4, by show sn + 1 ≤ 12; omega, m6, fun j => ?_⟩, r, s3, a1, a2, a3, a4, arr_SO (by omega)⟩
    show 0 ≤ (upd dy sn dd j).toInt ∧ (upd dy sn dd j).toInt ≤ 399
    by_cases e : j = sn
    · subst e; rw [pk_us]; exact isDay6_b c
    · rw [pk_un e]; exact m7 j
theorem op_forget (h : LI ru sh pl wa dn sn dy od row L pd kd ld tm pk ts wo io) : (sX5_forget dy od sn).1 = (sX6_forget sn).1 ∧ (sX5_forget dy od sn).2.2 = (sX6_forget sn).2.2 ∧ LI ru sh pl wa dn ((sX6_forget sn).2.2) dy ((sX5_forget dy od sn).2.1) row L pd kd ld tm pk ts wo io := by
  have hsn : sn ≤ 12 := h.1.2.2.2.2.1
  unfold sX5_forget sX6_forget
  by_cases c : nI sn = 0
  · rw [if_pos c, if_pos c]
    exact ⟨rfl, rfl, h⟩
  · rw [if_neg c, if_neg c]
    unfold sX4_removeLatest
    obtain ⟨⟨m1, m2, m3, m4, m5, m6, m7⟩, r, s3, a1, a2, a3, a4, a5⟩ := h
    exact ⟨rfl, rfl, ⟨m1, m2, m3, m4, by show sn - 1 ≤ 12; omega, m6, m7⟩, r, s3, a1, a2, a3, a4, arr_SO (by omega)⟩
end OPS6
