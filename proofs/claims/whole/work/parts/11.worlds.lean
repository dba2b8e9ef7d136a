/-! WORLDS: the cells of the class and of the reference, as lists by their components -/
abbrev DT : Type := Int32 × Int32 × Int32 × Int32 × Int32 × Int32 × Int32
def dvl (d : DT) : List Value := [.int d.1, .int d.2.1, .int d.2.2.1, .int d.2.2.2.1, .int d.2.2.2.2.1, .int d.2.2.2.2.2.1, .int d.2.2.2.2.2.2]
abbrev dpl (L : List Nat) (pd : Nat → DT) : va_W := va_pl L (fun a => .inr (3, dvl (pd a)))
abbrev wAr (cI : ClassId) (a : Nat) (n : Nat) (f : Nat → Int32) : va_W := [(a, .inl (cI, n, .inl f))]
abbrev wDu (a : Nat) (d : DT) : va_W := [(a, .inr (3, dvl d))]
abbrev wCl (cI : ClassId) (a0 : Nat) (a1 : Nat) (a2 : Nat) (sh : Nat → Int32) (wa : Nat → Int32) (pl : Int32) (rm : Int32) (lk : Int32) (br : Int32) : va_W := [(a0, .inr (1, [.ref a1, .ref a2, .int pl, .int rm, .int lk, .int br])), (a1, .inl (cI, 3, .inl sh)), (a2, .inl (cI, 12, .inl wa))]
abbrev wDs (cQ : ClassId) (b0 : Nat) (b1 : Nat) (row : Nat → Option Nat) (dn : Nat) : va_W := [(b0, .inr (2, [.ref b1, .int (nI dn)])), (b1, .inl (cQ, 8, .inr (.inr (.inr (.inr row)))))]
abbrev wSg (cI : ClassId) (g0 : Nat) (g1 : Nat) (g2 : Nat) (g3 : Nat) (dy : Nat → Int32) (lv : Nat → Int32) (od : Nat → Int32) (sn : Nat) : va_W := [(g0, .inr (4, [.ref g1, .ref g2, .ref g3, .int (nI sn)])), (g1, .inl (cI, 12, .inl dy)), (g2, .inl (cI, 12, .inl lv)), (g3, .inl (cI, 12, .inl od))]
abbrev wKx (cI : ClassId) (cQ : ClassId) (ad : Nat → Nat) (ag : Nat → Int32) (lo : Nat → Int32) (ch : Nat → Int32) (al : Nat → Int32) (an : Nat) (sh : Nat → Int32) (wa : Nat → Int32) (pl : Int32) (rm : Int32) (lk : Int32) (br : Int32) (row : Nat → Option Nat) (dn : Nat) (dy : Nat → Int32) (lv : Nat → Int32) (od : Nat → Int32) (sn : Nat) : va_W := [(ad 1, .inr (0, [.ref (ad 6), .ref (ad 9), .ref (ad 11), .ref (ad 2), .ref (ad 3), .ref (ad 4), .ref (ad 5), .int (nI an)])), (ad 2, .inl (cI, 150, .inl ag)), (ad 3, .inl (cI, 150, .inl lo)), (ad 4, .inl (cI, 150, .inl ch)), (ad 5, .inl (cI, 10, .inl al)), (ad 6, .inr (1, [.ref (ad 7), .ref (ad 8), .int pl, .int rm, .int lk, .int br])), (ad 7, .inl (cI, 3, .inl sh)), (ad 8, .inl (cI, 12, .inl wa)), (ad 9, .inr (2, [.ref (ad 10), .int (nI dn)])), (ad 10, .inl (cQ, 8, .inr (.inr (.inr (.inr row))))), (ad 11, .inr (4, [.ref (ad 12), .ref (ad 13), .ref (ad 14), .int (nI sn)])), (ad 12, .inl (cI, 12, .inl dy)), (ad 13, .inl (cI, 12, .inl lv)), (ad 14, .inl (cI, 12, .inl od))]
abbrev wCx (cI : ClassId) (cQ : ClassId) (ad : Nat → Nat) (tq : Int64) (ag : Nat → Int32) (lo : Nat → Int32) (ch : Nat → Int32) (al : Nat → Int32) (an : Nat) (sh : Nat → Int32) (wa : Nat → Int32) (pl : Int32) (rm : Int32) (lk : Int32) (br : Int32) (row : Nat → Option Nat) (dn : Nat) (dy : Nat → Int32) (lv : Nat → Int32) (od : Nat → Int32) (sn : Nat) : va_W := [(ad 0, .inr (5, [.ref (ad 6), .ref (ad 9), .ref (ad 11), .ref (ad 1), .long tq])), (ad 1, .inr (0, [.ref (ad 6), .ref (ad 9), .ref (ad 11), .ref (ad 2), .ref (ad 3), .ref (ad 4), .ref (ad 5), .int (nI an)])), (ad 2, .inl (cI, 150, .inl ag)), (ad 3, .inl (cI, 150, .inl lo)), (ad 4, .inl (cI, 150, .inl ch)), (ad 5, .inl (cI, 10, .inl al)), (ad 6, .inr (1, [.ref (ad 7), .ref (ad 8), .int pl, .int rm, .int lk, .int br])), (ad 7, .inl (cI, 3, .inl sh)), (ad 8, .inl (cI, 12, .inl wa)), (ad 9, .inr (2, [.ref (ad 10), .int (nI dn)])), (ad 10, .inl (cQ, 8, .inr (.inr (.inr (.inr row))))), (ad 11, .inr (4, [.ref (ad 12), .ref (ad 13), .ref (ad 14), .int (nI sn)])), (ad 12, .inl (cI, 12, .inl dy)), (ad 13, .inl (cI, 12, .inl lv)), (ad 14, .inl (cI, 12, .inl od))]
abbrev wMd (cI : ClassId) (cZ : ClassId) (ad : Nat → Nat) (th : Int32) (tr : Int64) (ru : Nat → Int32) (sh : Nat → Int32) (sn : Int32) (se : Nat → Int32) (dn : Nat) (kd : Nat → Int32) (ld : Nat → Int32) (tm : Nat → Int32) (pk : Nat → Int32) (ts : Nat → Int32) (wo : Nat → Int32) (io : Nat → Int32) (sg : Nat) (sd : Nat → Int32) (sl : Nat → Int32) (lv : Nat → Int32) (mt : Nat → Int32) : va_W := [(ad 0, .inr (6, [.int th, .long tr, .ref (ad 1), .ref (ad 2), .int sn, .ref (ad 3), .int (nI dn), .ref (ad 4), .ref (ad 5), .ref (ad 6), .ref (ad 7), .ref (ad 8), .ref (ad 9), .ref (ad 10), .int (nI sg), .ref (ad 11), .ref (ad 12), .ref (ad 13), .ref (ad 14)])), (ad 1, .inl (cI, 3, .inl ru)), (ad 2, .inl (cI, 3, .inl sh)), (ad 3, .inl (cI, 12, .inl se)), (ad 4, .inl (cI, 8, .inl kd)), (ad 5, .inl (cI, 8, .inl ld)), (ad 6, .inl (cI, 8, .inl tm)), (ad 7, .inl (cI, 8, .inl pk)), (ad 8, .inl (cI, 8, .inl ts)), (ad 9, .inl (cI, 8, .inl wo)), (ad 10, .inl (cZ, 8, .inl io)), (ad 11, .inl (cI, 12, .inl sd)), (ad 12, .inl (cI, 12, .inl sl)), (ad 13, .inl (cI, 400, .inl lv)), (ad 14, .inl (cI, 4000, .inl mt))]
theorem cd_P0 {D : va_G} {cl : List vw_C} {H : Heap} : va_P D cl [] H := fun k q h => by simp at h
theorem cd_D0 {A : Nat → Prop} : va_D A [] := ⟨fun i j p q h => by simp at h, fun k q h => by simp at h⟩
theorem cd_one {D : va_G} {cl : List vw_C} {X : va_W} {L : List Nat} {pd : Nat → DT} {H : Heap} {y : Nat} (hP : va_P D cl (X ++ dpl L pd) H) (hy : y ∈ L) : va_P D cl (wDu y (pd y)) H := by
  obtain ⟨k, hk⟩ := va_pl_get (X := X) (f := fun a => .inr (3, dvl (pd a))) hy
  intro j q hj
  have h1 : j < 1 := (List.getElem?_eq_some_iff.mp hj).1
  have h2 : j = 0 := by omega
  subst h2
  cases hj
  exact hP k _ hk
theorem cd_F {A : Nat → Prop} {W0 : va_W} {H0 H : Heap} {locs : List Loc} (hD : va_D A W0) (hS : va_S A H0 H locs) (hA : ∀ q, H0.size ≤ q → A q) : ∀ q, va_A W0 H.size q → A q := by
  intro q h
  rcases h with ⟨k, e, h⟩ | h
  · exact hD.2 k (q, e) h
  · exact hA q (Nat.le_trans hS.1 h)
theorem cd_ne0 {x : Int32} (h : 0 < x) : ¬ x = 0 := by
  intro e
  subst e
  exact absurd h (by decide)
theorem cd_nle0 {x : Int32} (h : ¬ x ≤ 0) : ¬ x = 0 := by
  intro e
  subst e
  exact h (by decide)
theorem cd_in {i : Int32} {n : Nat} (hn : n < 2 ^ 31) (h0 : ¬ i < 0) (h1 : ¬ nI n ≤ i) : vp_in i n := by
  obtain ⟨j, hj, rfl⟩ := nI_of h0
  have : j < n := by
    rcases Nat.lt_or_ge j n with h | h
    · exact h
    · exact absurd (nI_le h hj) h1
  exact vp_in_nI this hn
theorem cd_in' {i : Int32} {n : Nat} (hn : n < 2 ^ 31) (h0 : 0 ≤ i) (h1 : i < nI n) : vp_in i n := cd_in hn (by
  intro h
  have a := Int32.le_iff_toInt_le.mp h0
  have b := Int32.lt_iff_toInt_lt.mp h
  omega) (by
  intro h
  have a := Int32.le_iff_toInt_le.mp h
  have b := Int32.lt_iff_toInt_lt.mp h1
  omega)
theorem cd_m1 {k : Nat} (h : 0 < k) : nI k + Int32.ofInt (-1) = nI (k - 1) := by
  obtain ⟨j, rfl⟩ : ∃ j, k = j + 1 := ⟨k - 1, by omega⟩
  rw [Nat.add_sub_cancel]
  exact pk_m1 j
theorem cd_s1 {k : Nat} (h : 0 < k) : nI k - 1 = nI (k - 1) := by
  obtain ⟨j, rfl⟩ : ∃ j, k = j + 1 := ⟨k - 1, by omega⟩
  rw [Nat.add_sub_cancel]
  exact nI_pred j
