/-! PURE, 8: which cases agree -/
section OPS8
variable {ru sh : Nat → Int32} {pl : Int32} {wa : Nat → Int32} {dn sn : Nat} {dy od : Nat → Int32} {row : Nat → Option Nat} {L : List Nat} {pd : Nat → DT} {kd ld tm pk ts wo io : Nat → Int32}
theorem isAg_L {lv : Nat → Int32} (hsn : sn ≤ 12) (lvv : Nat → Int32) : ∀ (n : Nat) (bz : Int32) (k : Nat), (bz = 0 ∨ bz = 1) → k ≤ sn → sn - k < n → (sX6_isAgreeing_L9 sn dy lv n bz k lvv).2 = lvv ∧ (((sX6_isAgreeing_L9 sn dy lv n bz k lvv).1 = 1 ∧ bz = 1 ∧ ∀ j, k ≤ j → j < sn → lvv (dy j).toNatClampNeg = lv j) ∨ ((sX6_isAgreeing_L9 sn dy lv n bz k lvv).1 = 0 ∧ (bz = 0 ∨ ∃ j, k ≤ j ∧ j < sn ∧ ¬ lvv (dy j).toNatClampNeg = lv j))) := by
  intro n
  induction n with
  | zero => intro bz k _ _ hm; exact absurd hm (Nat.not_lt_zero _)
  | succ n ih =>
    intro bz k hb hk hm
    rw [sX6_isAgreeing_L9]
    by_cases c : sn ≤ k
    · rw [if_pos (ylit (by omega) (by omega) c)]
      refine ⟨rfl, ?_⟩
      rcases hb with hb | hb
      · exact Or.inr ⟨hb, Or.inl hb⟩
      · exact Or.inl ⟨hb, hb, fun j h1 h2 => absurd h2 (by omega)⟩
    · rw [if_neg (nlit (by omega) (by omega) c)]
      by_cases e : lvv (dy k).toNatClampNeg = lv k
      · rw [if_pos e, show bz &&& (1 : Int32) = bz by rcases hb with rfl | rfl <;> decide]
        obtain ⟨a1, a2⟩ := ih bz (k + 1) hb (by omega) (by omega)
        refine ⟨a1, ?_⟩
        rcases a2 with ⟨q1, q2, q3⟩ | ⟨q1, q2⟩
        · refine Or.inl ⟨q1, q2, fun j h1 h2 => ?_⟩
          by_cases z : j = k
          · subst z; exact e
          · exact q3 j (by omega) h2
        · refine Or.inr ⟨q1, ?_⟩
          rcases q2 with q2 | ⟨j, h1, h2, h3⟩
          · exact Or.inl q2
          · exact Or.inr ⟨j, by omega, h2, h3⟩
      · rw [if_neg e, show bz &&& (0 : Int32) = 0 by rcases hb with rfl | rfl <;> decide]
        obtain ⟨a1, a2⟩ := ih 0 (k + 1) (Or.inl rfl) (by omega) (by omega)
        refine ⟨a1, Or.inr ⟨?_, Or.inr ⟨k, by omega, by omega, e⟩⟩⟩
        rcases a2 with ⟨q1, q2, q3⟩ | ⟨q1, q2⟩
        · exact absurd q2 (by decide)
        · exact q1
theorem fit_L (h : LI ru sh pl wa dn sn dy od row L pd kd ld tm pk ts wo io) (lv : Nat → Int32) {nu : Int32} (hn : 0 ≤ nu.toInt ∧ nu.toInt ≤ 149) (g : Nat → Nat) (g1 : ∀ i, i < sn → od i = nI (g i) ∧ g i < sn) (g3 : ∀ i j, i ≤ j → j < sn → (dy (g i)).toInt ≤ (dy (g j)).toInt) : ∀ (n i a : Nat), i ≤ sn → sn - i < n → a ≤ 400 → (∀ j, i ≤ j → j < sn → (a : Int) ≤ (dy (g j)).toInt) →
    (sX0_fitsSigns_L27 sh wa pl (ru 0) dy lv od sn n (caL ru nu) (caS ru dn kd ld tm pk ts io nu) (caC ru sh pl wa dn kd ld tm pk ts io nu a) (nI a) i = 1 ∧ ∀ j, i ≤ j → j < sn → lev (ru 0) (caC ru sh pl wa dn kd ld tm pk ts io nu (dy (g j)).toNatClampNeg) = lv (g j)) ∨ (sX0_fitsSigns_L27 sh wa pl (ru 0) dy lv od sn n (caL ru nu) (caS ru dn kd ld tm pk ts io nu) (caC ru sh pl wa dn kd ld tm pk ts io nu a) (nI a) i = 0 ∧ ∃ j, i ≤ j ∧ j < sn ∧ ¬ lev (ru 0) (caC ru sh pl wa dn kd ld tm pk ts io nu (dy (g j)).toNatClampNeg) = lv (g j)) := by
  have hsn : sn ≤ 12 := h.1.2.2.2.2.1
  have hdy := h.1.2.2.2.2.2.2
  intro n
  induction n with
  | zero => intro i a _ hm; exact absurd hm (Nat.not_lt_zero _)
  | succ n ih =>
    intro i a hi hm ha hs
    rw [sX0_fitsSigns_L27]
    by_cases c : sn ≤ i
    · rw [if_pos (ylit (by omega) (by omega) c)]
      exact Or.inl ⟨rfl, fun j h1 h2 => absurd h2 (by omega)⟩
    · rw [if_neg (nlit (by omega) (by omega) c)]
      obtain ⟨o1, o2⟩ := g1 i (by omega)
      obtain ⟨d, hd, ed⟩ := nn_nI (hdy (g i)).1
      have hd2 := (hdy (g i)).2
      have has := hs i (Nat.le_refl _) (by omega)
      rw [ed, nI_toInt hd] at hd2 has
      have e1 : sX4_dayInOrder dy od (nI i) = nI d := by
        unfold sX4_dayInOrder
        rw [at_nI (by omega) (by decide), o1, at_nI (by omega) (by decide), ed]
      have e2 : sX4_levelInOrder lv od (nI i) = lv (g i) := by
        unfold sX4_levelInOrder
        rw [at_nI (by omega) (by decide), o1, at_nI (by omega) (by decide)]
      have e3 : sX1_chargeFrom sh wa pl (caC ru sh pl wa dn kd ld tm pk ts io nu a) (nI a) (nI d) (caL ru nu) (caS ru dn kd ld tm pk ts io nu) = caC ru sh pl wa dn kd ld tm pk ts io nu d := from_eq h.1 (by omega) 401 a (by omega) (by omega)
      have e4 : (dy (g i)).toNatClampNeg = d := by rw [ed, nI_clamp hd]
      rw [e1, e2, e3, level_eq h.2.1 (caC_b h hn d).2]
      by_cases q : lev (ru 0) (caC ru sh pl wa dn kd ld tm pk ts io nu d) = lv (g i)
      · rw [if_pos q]
        rcases ih (i + 1) d (by omega) (by omega) (by omega) (fun j h1 h2 => by have := g3 i j (by omega) h2; rw [ed, nI_toInt hd] at this; exact this) with ⟨r1, r2⟩ | ⟨r1, j, r2, r3, r4⟩
        · refine Or.inl ⟨r1, fun j h1 h2 => ?_⟩
          by_cases z : j = i
          · subst z; rw [e4]; exact q
          · exact r2 j (by omega) h2
        · exact Or.inr ⟨r1, j, by omega, r3, r4⟩
      · rw [if_neg q]
        exact Or.inr ⟨rfl, i, Nat.le_refl _, by omega, by rw [e4]; exact q⟩
theorem fit_eq (h : LI ru sh pl wa dn sn dy od row L pd kd ld tm pk ts wo io) (lv mlv : Nat → Int32) {nu : Int32} (hn : 0 ≤ nu.toInt ∧ nu.toInt ≤ 149) : sX0_fitsSigns sh wa pl (ru 0) (ru 1) (ru 2) row dn dy lv od sn pd nu = (sX6_isAgreeing ru sh pl wa dn kd ld tm pk ts io sn dy lv mlv nu).1 := by
  have hsn : sn ≤ 12 := h.1.2.2.2.2.1
  have hdy := h.1.2.2.2.2.2.2
  obtain ⟨g, g1, g2, g3⟩ := h.2.2.2.2.2.2.2
  have hL := fit_L h lv hn g g1 g3 13 0 0 (by omega) (by omega) (by omega) (fun j _ _ => (hdy (g j)).1)
  have hM := (isAg_L (dy := dy) (lv := lv) hsn (sX6_empties ru sh pl wa dn kd ld tm pk ts io mlv nu) 13 1 0 (Or.inr rfl) (by omega) (by omega)).2
  have hday : ∀ j, (dy j).toNatClampNeg < 400 := fun j => cl_lt (hdy j).1 (by have := (hdy j).2; omega)
  have eC : sX0_fitsSigns sh wa pl (ru 0) (ru 1) (ru 2) row dn dy lv od sn pd nu = sX0_fitsSigns_L27 sh wa pl (ru 0) dy lv od sn 13 (caL ru nu) (caS ru dn kd ld tm pk ts io nu) (caC ru sh pl wa dn kd ld tm pk ts io nu 0) (nI 0) 0 := by
    unfold sX0_fitsSigns sX1_chargeAtFirst
    rw [load_ca h hn, i_mulC (ru 0) 1000]
    rfl
  have eM : (sX6_isAgreeing ru sh pl wa dn kd ld tm pk ts io sn dy lv mlv nu).1 = (sX6_isAgreeing_L9 sn dy lv 13 1 0 (sX6_empties ru sh pl wa dn kd ld tm pk ts io mlv nu)).1 := rfl
  rw [eC, eM]
  rcases hL with ⟨l1, l2⟩ | ⟨l1, j, l2, l3, l4⟩
  · rw [l1]
    rcases hM with ⟨m1, m2, m3⟩ | ⟨m1, m2⟩
    · exact m1.symm
    · rcases m2 with m2 | ⟨j, m2, m3, m4⟩
      · exact absurd m2 (by decide)
      · obtain ⟨i, hi, rfl⟩ := g2 j m3
        rw [emp_eq mlv nu _ (hday _)] at m4
        exact absurd (l2 i (by omega) hi) m4
  · rw [l1]
    rcases hM with ⟨m1, m2, m3⟩ | ⟨m1, m2⟩
    · have := m3 (g j) (by omega) (g1 j l3).2
      rw [emp_eq mlv nu _ (hday _)] at this
      exact absurd this l4
    · exact m1.symm
theorem op_agrees (h : LI ru sh pl wa dn sn dy od row L pd kd ld tm pk ts wo io) (lv mlv : Nat → Int32) (nu : Int32) : sX5_agrees sh wa pl (ru 0) (ru 1) (ru 2) row dn dy lv od sn pd nu = (sX6_agrees ru sh pl wa dn kd ld tm pk ts io sn dy lv mlv nu).1 := by
  unfold sX5_agrees sX6_agrees
  by_cases c : sX6_isCase nu = 0
  · rw [if_pos (show sX0_isNumber nu = 0 from c), if_pos c]
  have hn : 0 ≤ nu.toInt ∧ nu.toInt ≤ 149 := in6_b c
  rw [if_neg (show ¬ sX0_isNumber nu = 0 from c), if_neg c, fit_eq h lv mlv hn]
  split <;> rfl
end OPS8
