/-! PURE, 2: duties -/
theorem numbered_nI {row : Nat → Option Nat} {dn k : Nat} (hdn : dn ≤ 8) (hk : k < dn) : sX2_numbered row dn (nI k) = row k := by
  unfold sX2_numbered
  rw [if_neg (nI_pos (by omega)), if_neg (nlit (by omega) (by omega) (by omega)), if_neg (show ¬ (8 : Int32) ≤ nI k from nlit (a := 8) (by omega) (by omega) (by omega)), nI_clamp (by omega)]
/-- a duty's number: one of those there are, or none for both -/
theorem duty_cases {row : Nat → Option Nat} {dn : Nat} (hdn : dn ≤ 8) (du : Int32) : (sX2_numbered row dn du = none ∧ sX6_isDuty dn du = 0) ∨ (∃ k, k < dn ∧ du = nI k ∧ sX2_numbered row dn du = row k ∧ ¬ sX6_isDuty dn du = 0) := by
  by_cases c : du < 0
  · left
    refine ⟨by unfold sX2_numbered; rw [if_pos c], ?_⟩
    unfold sX6_isDuty sX6_in
    rw [if_pos c]
  · obtain ⟨k, hk, rfl⟩ := nI_of c
    rcases Nat.lt_or_ge k dn with hlt | hge
    · right
      refine ⟨k, hlt, rfl, numbered_nI hdn hlt, ?_⟩
      refine in_iff.mpr ⟨?_, ?_⟩
      · exact nI_nn k hk
      · rw [cd_s1 (by omega), nI_toInt hk, nI_toInt (by omega)]
        omega
    · left
      refine ⟨?_, ?_⟩
      · unfold sX2_numbered
        rw [if_neg c, if_pos (ylit (by omega) hk hge)]
      · apply Classical.byContradiction
        intro q
        have h2 := (in6_b q).2
        rcases Nat.eq_zero_or_pos dn with rfl | hp
        · have e : (nI 0 - 1).toInt = -1 := by decide
          rw [nI_toInt hk] at h2
          omega
        · rw [cd_s1 hp, nI_toInt hk, nI_toInt (by omega)] at h2
          omega
section OPS2
variable {ru sh : Nat → Int32} {pl : Int32} {wa : Nat → Int32} {dn sn : Nat} {dy od : Nat → Int32} {row : Nat → Option Nat} {L : List Nat} {pd : Nat → DT} {kd ld tm pk ts wo io : Nat → Int32}
theorem op_on (h : LI ru sh pl wa dn sn dy od row L pd kd ld tm pk ts wo io) (du iz : Int32) (hiz : iz = 0 ∨ iz = 1) : (sX5_on row dn pd du iz).1 = (sX6_on dn io du iz).1 ∧ LI ru sh pl wa dn sn dy od row L ((sX5_on row dn pd du iz).2) kd ld tm pk ts wo ((sX6_on dn io du iz).2.2) := by
  have hdn : dn ≤ 8 := h.1.2.2.2.1
  unfold sX5_on sX6_on
  rcases duty_cases (row := row) hdn du with ⟨e1, e2⟩ | ⟨k, hk, rfl, e1, e2⟩
  · rw [e1, if_pos e2]
    exact ⟨rfl, h⟩
  · obtain ⟨m, r, s3, hrw, hdr, hdb, hinj, hso⟩ := h
    obtain ⟨y, hy, hDR⟩ := hdr k hk
    rw [e1, if_neg e2, nI_clamp (by omega)]
    rw [hy]
    dsimp only
    obtain ⟨d1, d2, d3, d4, d5, d6, d7, d8⟩ := id hDR
    refine ⟨by rw [d8], m, r, s3, hrw, fun i hi => ?_, fun i hi => ?_, hinj, hso⟩
    · obtain ⟨y2, hy2, hDR2⟩ := hdr i hi
      refine ⟨y2, hy2, ?_⟩
      by_cases e : i = k
      · subst e
        have : y2 = y := Option.some.inj (hy2.symm.trans hy)
        subst this
        rw [va_up_self]
        exact ⟨d1, d2, d3, d4, d5, d6, d7, by show iz = upd io i iz i; rw [pk_us]⟩
      · have hne : y2 ≠ y := by
          intro q
          subst q
          exact e (hinj i k y2 hi hk hy2 hy)
        rw [va_up_ne _ _ hne]
        obtain ⟨f1, f2, f3, f4, f5, f6, f7, f8⟩ := hDR2
        exact ⟨f1, f2, f3, f4, f5, f6, f7, by rw [pk_un e]; exact f8⟩
    · obtain ⟨b1, b2, b3, b4, b5, b6, b7⟩ := hdb i hi
      refine ⟨b1, b2, b3, b4, b5, b6, ?_⟩
      by_cases e : i = k
      · subst e; rw [pk_us]; exact hiz
      · rw [pk_un e]; exact b7
theorem op_drop (h : LI ru sh pl wa dn sn dy od row L pd kd ld tm pk ts wo io) : (sX5_drop row dn).1 = (sX6_drop dn).1 ∧ (sX5_drop row dn).2.2 = (sX6_drop dn).2.2 ∧ LI ru sh pl wa ((sX6_drop dn).2.2) sn dy od ((sX5_drop row dn).2.1) L pd kd ld tm pk ts wo io := by
  have hdn : dn ≤ 8 := h.1.2.2.2.1
  unfold sX5_drop sX6_drop
  by_cases c : nI dn = 0
  · rw [if_pos c, if_pos c]
    exact ⟨rfl, rfl, h⟩
  · have h0 : 0 < dn := by
      rcases Nat.eq_zero_or_pos dn with rfl | hp
      · exact absurd rfl c
      · exact hp
    have e : sX2_removeLatest row dn = (nI (dn - 1), va_up row (dn - 1) none, dn - 1) := by
      unfold sX2_removeLatest
      rw [if_neg (nI_pos (by omega)), if_neg (show ¬ (8 : Int32) ≤ nI (dn - 1) from nlit (a := 8) (by omega) (by omega) (by omega))]
    rw [if_neg c, if_neg c, e]
    obtain ⟨⟨m1, m2, m3, m4, m5, m6, m7⟩, r, s3, hrw, hdr, hdb, hinj, hso⟩ := h
    have hrow : ∀ j, j ≠ dn - 1 → va_up row (dn - 1) none j = row j := fun j hj => va_up_ne _ _ hj
    refine ⟨rfl, rfl, ⟨m1, m2, m3, by show dn - 1 ≤ 8; omega, m5, m6, m7⟩, r, s3, fun j y hj => ?_, fun i hi => ?_, fun i hi => ?_, fun i j y hi hj h1 h2 => ?_, hso⟩
    · have hj : va_up row (dn - 1) none j = some y := hj
      by_cases ej : j = dn - 1
      · subst ej; rw [va_up_self] at hj; cases hj
      · exact hrw j y (by rw [← hrow j ej]; exact hj)
    · have hi : i < dn - 1 := hi
      show ∃ y, va_up row (dn - 1) none i = some y ∧ _
      rw [hrow i (by omega)]
      exact hdr i (by omega)
    · have hi : i < dn - 1 := hi
      exact hdb i (by omega)
    · have hi : i < dn - 1 := hi
      have hj : j < dn - 1 := hj
      have h1 : va_up row (dn - 1) none i = some y := h1
      have h2 : va_up row (dn - 1) none j = some y := h2
      rw [hrow i (by omega)] at h1
      rw [hrow j (by omega)] at h2
      exact hinj i j y (by omega) (by omega) h1 h2
theorem op_duty (h : LI ru sh pl wa dn sn dy od row L pd kd ld tm pk ts wo io) (k1 k2 k3 k4 k5 k6 : Int32) (q9 : Nat) (hq : (sX5_duty row dn L pd k1 k2 k3 k4 k5 k6 q9).2.2.2.1 = L ++ [q9] → q9 ∉ L) : (sX5_duty row dn L pd k1 k2 k3 k4 k5 k6 q9).1 = (sX6_duty dn kd ld tm pk ts wo io k1 k2 k3 k4 k5 k6).1 ∧ (sX5_duty row dn L pd k1 k2 k3 k4 k5 k6 q9).2.2.1 = (sX6_duty dn kd ld tm pk ts wo io k1 k2 k3 k4 k5 k6).2.2.2.2.2.2.2.2.2 ∧ LI ru sh pl wa ((sX6_duty dn kd ld tm pk ts wo io k1 k2 k3 k4 k5 k6).2.2.2.2.2.2.2.2.2) sn dy od ((sX5_duty row dn L pd k1 k2 k3 k4 k5 k6 q9).2.1) ((sX5_duty row dn L pd k1 k2 k3 k4 k5 k6 q9).2.2.2.1) ((sX5_duty row dn L pd k1 k2 k3 k4 k5 k6 q9).2.2.2.2) ((sX6_duty dn kd ld tm pk ts wo io k1 k2 k3 k4 k5 k6).2.2.1) ((sX6_duty dn kd ld tm pk ts wo io k1 k2 k3 k4 k5 k6).2.2.2.1) ((sX6_duty dn kd ld tm pk ts wo io k1 k2 k3 k4 k5 k6).2.2.2.2.1) ((sX6_duty dn kd ld tm pk ts wo io k1 k2 k3 k4 k5 k6).2.2.2.2.2.1) ((sX6_duty dn kd ld tm pk ts wo io k1 k2 k3 k4 k5 k6).2.2.2.2.2.2.1) ((sX6_duty dn kd ld tm pk ts wo io k1 k2 k3 k4 k5 k6).2.2.2.2.2.2.2.1) ((sX6_duty dn kd ld tm pk ts wo io k1 k2 k3 k4 k5 k6).2.2.2.2.2.2.2.2.1) := by
  have hdn : dn ≤ 8 := h.1.2.2.2.1
  by_cases ok : (¬ sX6_in k1 0 2 = 0) ∧ (¬ sX6_in k2 1 100 = 0) ∧ (¬ sX6_in k3 1 20 = 0) ∧ (k1 = 0 ∨ ¬ sX6_in k4 0 100 = 0) ∧ (¬ k1 = 2 ∨ ¬ sX6_in k5 1 5 = 0) ∧ ¬ sX6_in k6 0 100 = 0
  · obtain ⟨o1, o2, o3, o4, o5, o6⟩ := ok
    have a1 : 0 ≤ k1.toInt ∧ k1.toInt ≤ 2 := in6_b o1
    have a2 : 1 ≤ k2.toInt ∧ k2.toInt ≤ 100 := in6_b o2
    have a3 : 1 ≤ k3.toInt ∧ k3.toInt ≤ 20 := in6_b o3
    have a6 : 0 ≤ k6.toInt ∧ k6.toInt ≤ 100 := in6_b o6
    have k1le : k1 ≤ 0 ↔ k1 = 0 := by
      constructor
      · intro q
        have := cd_le q
        rw [show (0 : Int32).toInt = 0 from rfl] at this
        exact Int32.toInt_inj.mp (by rw [show (0 : Int32).toInt = 0 from rfl]; omega)
      · intro q; subst q; decide
    have eM : sX6_duty dn kd ld tm pk ts wo io k1 k2 k3 k4 k5 k6 = sX6_duty_B64 kd ld tm pk ts wo io dn k1 k2 k3 k4 k5 k6 := by
      have e49 : sX6_duty_B49 kd ld tm pk ts wo io dn k1 k2 k3 k4 k5 k6 = sX6_duty_B64 kd ld tm pk ts wo io dn k1 k2 k3 k4 k5 k6 := by
        unfold sX6_duty_B49
        split
        · next q =>
          rcases o5 with o5 | o5
          · exact absurd q o5
          · rw [if_neg o5]
        · rfl
      unfold sX6_duty
      rw [if_neg o1, if_neg o2, if_neg o3, e49]
      split
      · rfl
      · next q =>
        rcases o4 with o4 | o4
        · exact absurd (k1le.mpr o4) q
        · rw [if_neg o4]
    rw [eM]
    have eC : sX5_duty row dn L pd k1 k2 k3 k4 k5 k6 q9 = (if (sX2_isFull dn) = 0 then ((sX2_add row dn q9).1, (sX2_add row dn q9).2.1, (sX2_add row dn q9).2.2, L ++ [q9], va_up (va_up pd q9 (0, 0, 0, 0, 0, 0, 0)) q9 (sX3_init k1 k2 k3 k4 k5 k6)) else ((-3), row, dn, L, pd)) := by
      unfold sX5_duty
      rw [wi_eq, wi_eq, wi_eq, wi_eq, wi_eq, if_neg o1, if_neg o2, if_neg o3, if_neg o6, if_neg (show ¬ (1 : Int32) = 0 by decide)]
      rw [if_neg (show ¬ (if k1 = 0 then (1 : Int32) else (if (sX6_in k4 0 100) = 0 then 0 else 1)) = 0 by
        rcases o4 with o4 | o4
        · rw [if_pos o4]; decide
        · rw [if_neg o4]; split <;> decide)]
      rw [if_neg (show ¬ (if k1 = 2 then (if (sX5_isTries k5) = 0 then (0 : Int32) else 1) else 1) = 0 by
        rcases o5 with o5 | o5
        · rw [if_neg o5]; decide
        · have : ¬ sX5_isTries k5 = 0 := o5
          rw [if_neg this]; split <;> decide)]
    rw [eC] at hq ⊢
    unfold sX6_duty_B64
    rw [if_neg o6]
    by_cases full : dn = 8
    · subst full
      rw [if_neg (show ¬ sX2_isFull 8 = 0 by decide), if_pos (show nI 8 = 8 from rfl)]
      exact ⟨rfl, rfl, h⟩
    · have hf : sX2_isFull dn = 0 := by
        unfold sX2_isFull
        rw [if_pos (show nI dn < (8 : Int32) from (nI_ltI (a := dn) (b := 8) (by omega) (by omega)).mpr (by omega))]
      have ha : sX2_add row dn q9 = (nI dn, va_up row dn (some q9), dn + 1) := by
        unfold sX2_add
        rw [if_neg (nI_pos (by omega)), if_neg (show ¬ (8 : Int32) ≤ nI dn from nlit (a := 8) (by omega) (by omega) (by omega))]
      rw [if_pos hf] at hq ⊢
      rw [ha] at hq ⊢
      rw [if_neg (show ¬ nI dn = (8 : Int32) from fun q => absurd ((nI_eq (a := dn) (b := 8) (by omega) (by omega)).mp q) full)]
      have hqL : q9 ∉ L := hq rfl
      obtain ⟨⟨m1, m2, m3, m4, m5, m6, m7⟩, r, s3, hrw, hdr, hdb, hinj, hso⟩ := h
      have hne : ∀ (j y : Nat), row j = some y → y ≠ q9 := fun j y hj q => hqL (by rw [← q]; exact hrw j y hj)
      refine ⟨rfl, rfl, ⟨m1, m2, m3, by show dn + 1 ≤ 8; omega, m5, m6, m7⟩, r, s3, fun j y hj => ?_, fun i hi => ?_, fun i hi => ?_, fun i j y hi hj h1 h2 => ?_, hso⟩
      · have hj : va_up row dn (some q9) j = some y := hj
        show y ∈ L ++ [q9]
        by_cases e : j = dn
        · subst e
          rw [va_up_self] at hj
          cases hj
          simp
        · rw [va_up_ne _ _ e] at hj
          exact List.mem_append_left _ (hrw j y hj)
      · have hi : i < dn + 1 := hi
        show ∃ y, va_up row dn (some q9) i = some y ∧ DR (va_up (va_up pd q9 (0, 0, 0, 0, 0, 0, 0)) q9 (sX3_init k1 k2 k3 k4 k5 k6) y) _ _ _ _ _ _ _ i
        by_cases e : i = dn
        · subst e
          refine ⟨q9, va_up_self _ _ _, ?_⟩
          rw [va_up_self]
          unfold sX3_init
          refine ⟨?_, ?_, ?_, ?_, ?_, ?_, ?_, ?_⟩
          · show k1 = upd kd i k1 i; rw [pk_us]
          · show k2 = upd ld i k2 i; rw [pk_us]
          · show k3 = upd tm i k3 i; rw [pk_us]
          · show (if k1 = 0 then 0 else k4) = upd pk i (if k1 ≤ 0 then (0 : Int32) else k4) i
            rw [pk_us]
            by_cases z : k1 = 0
            · rw [if_pos z, if_pos (k1le.mpr z)]
            · rw [if_neg z, if_neg (fun q => z (k1le.mp q))]
          · show (if k1 = 2 then k5 else 5) = (if upd kd i k1 i = 2 then upd ts i (if k1 = 2 then k5 else (1 : Int32)) i else 5)
            rw [pk_us, pk_us]
            split <;> rfl
          · show ¬ upd kd i k1 i = 2 → upd ts i (if k1 = 2 then k5 else (1 : Int32)) i = 1
            rw [pk_us, pk_us]
            intro q
            rw [if_neg q]
          · show k6 = upd wo i k6 i; rw [pk_us]
          · show 1 = upd io i 1 i; rw [pk_us]
        · obtain ⟨y, hy, f1, f2, f3, f4, f5, f6, f7, f8⟩ := hdr i (by omega)
          refine ⟨y, by rw [va_up_ne _ _ e]; exact hy, ?_⟩
          rw [va_up_ne _ _ (hne i y hy), va_up_ne _ _ (hne i y hy)]
          have hg : DR (pd y) (upd kd dn k1) (upd ld dn k2) (upd tm dn k3) (upd pk dn (if k1 ≤ 0 then (0 : Int32) else k4)) (upd ts dn (if k1 = 2 then k5 else (1 : Int32))) (upd wo dn k6) (upd io dn 1) i := by
            unfold DR
            rw [pk_un e, pk_un e, pk_un e, pk_un e, pk_un e, pk_un e, pk_un e]
            exact ⟨f1, f2, f3, f4, f5, f6, f7, f8⟩
          exact hg
      · have hi : i < dn + 1 := hi
        show DB (upd kd dn k1) (upd ld dn k2) (upd tm dn k3) (upd pk dn (if k1 ≤ 0 then (0 : Int32) else k4)) (upd ts dn (if k1 = 2 then k5 else (1 : Int32))) (upd wo dn k6) (upd io dn 1) i
        by_cases e : i = dn
        · subst e
          unfold DB
          rw [pk_us, pk_us, pk_us, pk_us, pk_us, pk_us, pk_us]
          refine ⟨a1, a2, a3, ?_, ?_, a6, Or.inr rfl⟩
          · split
            · decide
            · next q =>
              rcases o4 with o4 | o4
              · exact absurd (k1le.mpr o4) q
              · exact in6_b o4
          · split
            · next q =>
              rcases o5 with o5 | o5
              · exact absurd q o5
              · exact in6_b o5
            · decide
        · have := hdb i (by omega)
          unfold DB at this ⊢
          rw [pk_un e, pk_un e, pk_un e, pk_un e, pk_un e, pk_un e, pk_un e]
          exact this
      · have hi : i < dn + 1 := hi
        have hj : j < dn + 1 := hj
        have h1 : va_up row dn (some q9) i = some y := h1
        have h2 : va_up row dn (some q9) j = some y := h2
        by_cases ei : i = dn
        · by_cases ej : j = dn
          · omega
          · subst ei
            rw [va_up_self] at h1
            rw [va_up_ne _ _ ej] at h2
            cases h1
            exact absurd rfl (hne j q9 h2)
        · by_cases ej : j = dn
          · subst ej
            rw [va_up_self] at h2
            rw [va_up_ne _ _ ei] at h1
            cases h2
            exact absurd rfl (hne i q9 h1)
          · rw [va_up_ne _ _ ei] at h1
            rw [va_up_ne _ _ ej] at h2
            exact hinj i j y (by omega) (by omega) h1 h2
  · have eC : sX5_duty row dn L pd k1 k2 k3 k4 k5 k6 q9 = ((-1), row, dn, L, pd) := by
      unfold sX5_duty
      rw [wi_eq, wi_eq, wi_eq, wi_eq, wi_eq]
      by_cases g1 : (if sX6_in k1 0 2 = 0 then (0 : Int32) else if sX6_in k2 1 100 = 0 then 0 else if sX6_in k3 1 20 = 0 then 0 else if sX6_in k6 0 100 = 0 then 0 else 1) = 0
      · rw [if_pos g1]
      · rw [if_neg g1]
        by_cases g2 : (if k1 = 0 then (1 : Int32) else if sX6_in k4 0 100 = 0 then 0 else 1) = 0
        · rw [if_pos g2]
        · rw [if_neg g2]
          by_cases g3 : (if k1 = 2 then (if sX5_isTries k5 = 0 then (0 : Int32) else 1) else 1) = 0
          · rw [if_pos g3]
          · exfalso
            apply ok
            have c1 : ¬ sX6_in k1 0 2 = 0 := fun q => g1 (by rw [if_pos q])
            rw [if_neg c1] at g1
            have c2 : ¬ sX6_in k2 1 100 = 0 := fun q => g1 (by rw [if_pos q])
            rw [if_neg c2] at g1
            have c3 : ¬ sX6_in k3 1 20 = 0 := fun q => g1 (by rw [if_pos q])
            rw [if_neg c3] at g1
            have c6 : ¬ sX6_in k6 0 100 = 0 := fun q => g1 (by rw [if_pos q])
            refine ⟨c1, c2, c3, ?_, ?_, c6⟩
            · by_cases z : k1 = 0
              · exact Or.inl z
              · rw [if_neg z] at g2
                exact Or.inr (fun q => g2 (by rw [if_pos q]))
            · by_cases z : k1 = 2
              · rw [if_pos z] at g3
                have : ¬ sX5_isTries k5 = 0 := fun q => g3 (by rw [if_pos q])
                exact Or.inr this
              · exact Or.inl z
    have eM : sX6_duty dn kd ld tm pk ts wo io k1 k2 k3 k4 k5 k6 = ((-1), 0, kd, ld, tm, pk, ts, wo, io, dn) := by
      unfold sX6_duty
      by_cases c1 : sX6_in k1 0 2 = 0
      · rw [if_pos c1]
      rw [if_neg c1]
      by_cases c2 : sX6_in k2 1 100 = 0
      · rw [if_pos c2]
      rw [if_neg c2]
      by_cases c3 : sX6_in k3 1 20 = 0
      · rw [if_pos c3]
      rw [if_neg c3]
      have e64 : sX6_in k6 0 100 = 0 → sX6_duty_B64 kd ld tm pk ts wo io dn k1 k2 k3 k4 k5 k6 = ((-1), 0, kd, ld, tm, pk, ts, wo, io, dn) := by
        intro q
        unfold sX6_duty_B64
        rw [if_pos q]
      have e49 : ((¬ k1 = 2 ∨ ¬ sX6_in k5 1 5 = 0) → sX6_in k6 0 100 = 0) → sX6_duty_B49 kd ld tm pk ts wo io dn k1 k2 k3 k4 k5 k6 = ((-1), 0, kd, ld, tm, pk, ts, wo, io, dn) := by
        intro q
        unfold sX6_duty_B49
        by_cases z : k1 = 2
        · rw [if_pos z]
          by_cases z5 : sX6_in k5 1 5 = 0
          · rw [if_pos z5]
          · rw [if_neg z5]; exact e64 (q (Or.inr z5))
        · rw [if_neg z]; exact e64 (q (Or.inl z))
      by_cases z : k1 ≤ 0
      · rw [if_pos z]
        have z0 : k1 = 0 := by
          have a1 : 0 ≤ k1.toInt ∧ k1.toInt ≤ 2 := in6_b c1
          have := cd_le z
          rw [show (0 : Int32).toInt = 0 from rfl] at this
          exact Int32.toInt_inj.mp (by rw [show (0 : Int32).toInt = 0 from rfl]; omega)
        exact e49 (fun q => Classical.byContradiction (fun n6 => ok ⟨c1, c2, c3, Or.inl z0, q, n6⟩))
      · rw [if_neg z]
        by_cases c4 : sX6_in k4 0 100 = 0
        · rw [if_pos c4]
        · rw [if_neg c4]
          exact e49 (fun q => Classical.byContradiction (fun n6 => ok ⟨c1, c2, c3, Or.inr c4, q, n6⟩))
    rw [eC, eM]
    exact ⟨rfl, rfl, h⟩
end OPS2
