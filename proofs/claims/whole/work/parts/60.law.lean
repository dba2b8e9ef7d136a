theorem law_b {L0 i : Nat} (hL : L0 ≤ 3584) (hi : i ≤ 4000) (h : ¬ (nI L0 - 7 < nI i)) : i + 7 ≤ L0 := by
  have h7 := cd_nlt h
  rw [show (7 : Int32) = nI 7 from rfl, pk_sub_toInt (by omega) (by omega), nI_toInt (by omega)] at h7
  omega
theorem cd_fresh9 {A : Nat → Prop} {X : va_W} {L L2 : List Nat} {pd : Nat → DT} {q : Nat} (hD : va_D A (X ++ dpl L2 pd)) : L2 = L ++ [q] → q ∉ L := by
  intro e hq
  subst e
  obtain ⟨i, hi⟩ := List.getElem?_of_mem hq
  have hlt := (List.getElem?_eq_some_iff.mp hi).1
  have h1 : (X ++ dpl (L ++ [q]) pd)[X.length + i]? = some (q, .inr (3, dvl (pd q))) := by
    rw [List.getElem?_append_right (by omega), Nat.add_sub_cancel_left]
    simp only [dpl, va_pl, List.getElem?_map, List.getElem?_append_left hlt, hi]
    rfl
  have h2 : (X ++ dpl (L ++ [q]) pd)[X.length + L.length]? = some (q, .inr (3, dvl (pd q))) := by
    rw [List.getElem?_append_right (by omega), Nat.add_sub_cancel_left]
    simp [dpl, va_pl]
  have := hD.1 _ _ _ _ h1 h2 rfl
  omega
section LWQ
variable {p : Program} {l : Launch} {e : Env} {R : Room} {s : State} {m : MethodId} {args : Array Value} {below : List Frame} {meth : Method} {c : Code} {H : Heap} {locs : List Loc} {cells slots : Nat} {Q : State → Prop}
variable {pc : Nat} {ls : Array Slot} {rest st0 : List Value} {cc bytes : ByteArray} {nL maxL index n b ci mc ms : Nat} {Ts ws ws' : List Cond} {own C host : String} {y : MethodName} {rm : Room} {ret : Option FieldType} {As : List Value} {W0 : va_W} {W1 : Nat → va_W} {dC : Nat → ClassId} {dI : Nat → Nat → Nat} {cI cQ cZ : ClassId} {q : vw_C} {fs : List Value} {A0 : Nat → Prop}
theorem cd_wVQ {r0 : Nat → Int32} (S : CallFix p m c cc nL s args Ts own) (hM : Met l y ws rm (va_Pc (.ref b :: As) (cd_pre dC dI cI cQ cZ W0 H.size)) (va_Qi (fun r q9 => r = r0 q9) (fun (q9 : Nat) t => va_P (dC, dI) vwCl (W1 q9) t.heap ∧ va_D (va_A W0 H.size) (W1 q9)) (va_A W0 H.size)) mc ms (va_A W0 H.size)) (cw : CallW R s args own q.1 index y bytes maxL ret ws rm mc ms n) (hK : kE dC dI cI cQ cZ s) (hP : va_P (dC, dI) vwCl W0 H) (hD : va_D A0 W0) (hF : ∀ q, va_A W0 H.size q → A0 q) (hS : va_S A0 s.heap H locs) (hc : vwCl[ci]? = some q) (he : W0[0]? = some (b, .inr (ci, fs))) (hn : As.length = n) (hsz : ls.size = nL) (hst : st0 = As.reverse ++ .ref b :: rest) (hW : (rest.map fun v => v.category).sum ≤ 8) (hdg : decode cc pc = .ok (.invokevirtual index, 3)) (hf : cells + mc ≤ R.cells ∧ slots + ms ≤ R.slots)
    (kk : ∀ (q9 : Nat) (H1 : Heap) (locs1 : List Loc), va_P (dC, dI) vwCl (W1 q9) H1 → va_D (va_A W0 H.size) (W1 q9) → (∀ q : Nat, q < H.size → ¬ va_A W0 H.size q → H1[q]? = H[q]?) → va_S A0 s.heap H1 locs1 → W p l e R s m args below meth c H1 locs1 (cells + mc) (slots + ms) Q (F0 m (pc + 3) ls (.int (r0 q9) :: rest))) : W p l e R s m args below meth c H locs cells slots Q (F0 m pc ls st0) :=
  va_calli (va_runV S hM cw (cd_pVM hK hP hD hc he) rfl hn hsz hst (lv_room hW) hdg hf) hS (fun q _ h => hF q h) hF (fun r u t H1 locs1 ht hvm hr hB hz hk hS1 => by subst hr; subst ht; exact kk u _ locs1 hB.1 hB.2 hk hS1)
end LWQ
set_option maxHeartbeats 40000000 in
set_option maxRecDepth 100000 in
theorem law_loop {p : Program} {l : Launch} {e : Env} {s : State} {m : MethodId} {below : List Frame} {meth : Method} {c : Code} {dC : Nat → ClassId} {dI : Nat → Nat → Nat} {cI cQ cZ : ClassId} {b L0 : Nat} {xs : Nat → Int32} (hL : L0 ≤ 3584) (C0 : lw_At p s m meth c b L0 xs) (hK : kE dC dI cI cQ cZ s) :
    ∀ (n i cells slots : Nat) (tq : Int64) (ag : Nat → Int32) (lo : Nat → Int32) (ch : Nat → Int32) (al : Nat → Int32) (an : Nat) (sh : Nat → Int32) (wa : Nat → Int32) (pl : Int32) (ru : Nat → Int32) (row : Nat → Option Nat) (dn : Nat) (dy : Nat → Int32) (lv : Nat → Int32) (od : Nat → Int32) (sn : Nat) (L : List Nat) (pd : Nat → DT) (th : Int32) (kd : Nat → Int32) (ld : Nat → Int32) (tm : Nat → Int32) (pk : Nat → Int32) (ts : Nat → Int32) (wo : Nat → Int32) (io : Nat → Int32) (mlv : Nat → Int32) (mmt : Nat → Int32) (ad bd : Nat → Nat), i ≤ 4000 → L0 + 1 ≤ i + n → cells ≤ 100 + i → slots ≤ 10000 + i → LI ru sh pl wa dn sn dy od row L pd kd ld tm pk ts wo io → ∀ (H : Heap) (locs : List Loc), va_P (dC, dI) vwCl ((wMd cI cZ bd th tq ru sh pl wa dn kd ld tm pk ts wo io sn dy lv mlv mmt ++ wCx cI cQ ad tq ag lo ch al an sh wa pl (ru 0) (ru 1) (ru 2) row dn dy lv od sn) ++ dpl L pd) H → va_D (fun q : Nat => s.heap.size ≤ q) ((wMd cI cZ bd th tq ru sh pl wa dn kd ld tm pk ts wo io sn dy lv mlv mmt ++ wCx cI cQ ad tq ag lo ch al an sh wa pl (ru 0) (ru 1) (ru 2) row dn dy lv od sn) ++ dpl L pd) → va_S (fun q : Nat => s.heap.size ≤ q) s.heap H locs → ∀ (ls : Array Slot), lv_has ls 4 [(0, .ref b), (1, .ref (ad 0)), (2, .ref (bd 0)), (3, .int (nI i))] → W p l e room_1 s m #[Value.ref b] below meth c H locs cells slots (lw_Z below #[Value.ref b] s) (F0 m 18 ls []) := by
  obtain ⟨hx, hb, hr, hml, hown, hts, hX, hbl, hlocks, hgv⟩ := C0
  have hts : ∀ w ∈ wsL_law, w.before #[Value.ref b] s = true := fun w h => hts w (wsL_law_in w h)
  have hA : ∀ q : Nat, s.heap.size ≤ q → (fun q : Nat => s.heap.size ≤ q) q := fun _ h => h
  have hbA : ¬ (fun q : Nat => s.heap.size ≤ q) b := Nat.not_le.mpr hbl
  intro n
  induction n with
  | zero =>
    intro i cells slots tq ag lo ch al an sh wa pl ru row dn dy lv od sn L pd th kd ld tm pk ts wo io mlv mmt ad bd hi0 hin hc1 hs1 hLI H locs hP hD hS ls hl
    refine lv_iload_n hx hb dL_law_18 rfl (lv_at hl 3 rfl) ?_
    refine lv_aload_n hx hb dL_law_19 rfl (lv_at hl 0 rfl) ?_
    refine va_slen hx hb hX hbl hbA hS dL_law_20 ?_
    refine lv_bipush (v := 7) hx hb dL_law_21 (by decide) ?_
    refine lv_isub hx hb dL_law_23 ?_
    refine lv_icmp_gt (tgt := 706) hx hb dL_law_24 (by decide) (fun c_0 => ?_) (fun c_0 => ?_)
    · refine lv_iconst (v := 1) hx hb dL_law_706 (by decide) ?_
      refine va_forget (fun q hq => hS.2.2 q hq) ?_
      refine W.widen (k := 600000) (n := 7302250) (by omega) (by omega) ?_
      exact lw_ret hx hb hr hlocks dL_law_707
    · have hlt : i + 7 ≤ L0 := law_b hL hi0 c_0
      omega
  | succ n ih =>
    intro i cells slots tq ag lo ch al an sh wa pl ru row dn dy lv od sn L pd th kd ld tm pk ts wo io mlv mmt ad bd hi0 hin hc1 hs1 hLI H locs hP hD hS ls hl
    refine lv_iload_n hx hb dL_law_18 rfl (lv_at hl 3 rfl) ?_
    refine lv_aload_n hx hb dL_law_19 rfl (lv_at hl 0 rfl) ?_
    refine va_slen hx hb hX hbl hbA hS dL_law_20 ?_
    refine lv_bipush (v := 7) hx hb dL_law_21 (by decide) ?_
    refine lv_isub hx hb dL_law_23 ?_
    refine lv_icmp_gt (tgt := 706) hx hb dL_law_24 (by decide) (fun c_0 => ?_) (fun c_0 => ?_)
    · refine lv_iconst (v := 1) hx hb dL_law_706 (by decide) ?_
      refine va_forget (fun q hq => hS.2.2 q hq) ?_
      refine W.widen (k := 600000) (n := 7302250) (by omega) (by omega) ?_
      exact lw_ret hx hb hr hlocks dL_law_707
    have hlt : i + 7 ≤ L0 := law_b hL hi0 c_0
    refine lv_aload_n hx hb dL_law_27 rfl (lv_at hl 0 rfl) ?_
    refine lv_iload_n hx hb dL_law_28 rfl (lv_at hl 3 rfl) ?_
    refine va_sld hx hb hX hbl hbA hS (vp_in_nI (n := i) (by omega) (by omega)) dL_law_29 ?_
    refine lv_bipush (v := 31) hx hb dL_law_30 (by decide) ?_
    refine lv_iand hx hb dL_law_32 ?_
    generalize (xs (nI i).toNatClampNeg &&& 31) = sel
    by_cases z0 : sel = 0
    · refine lv_tableIn (tgt := 124) hx hb dL_law_33 (off := 91) (by rw [z0] <;> decide) (by rw [z0] <;> decide) (by rw [z0] <;> decide +kernel) (by decide) ?_
      refine lv_aload_n hx hb dL_law_124 rfl (lv_at hl 1 rfl) ?_
      refine lv_aload_n hx hb dL_law_125 rfl (lv_at hl 0 rfl) ?_
      refine lv_iload_n hx hb dL_law_126 rfl (lv_at hl 3 rfl) ?_
      refine lv_iconst (v := 1) hx hb dL_law_127 (by decide) ?_
      refine lv_iadd hx hb dL_law_128 ?_
      refine W.eq (g2 := F0 m 129 ls [.int (nI (i + 1)), .ref b, .ref (ad 0)]) (by rw [show (1 : Int32) = nI 1 from rfl, nI_add]) ?_
      refine va_sld hx hb hX hbl hbA hS (vp_in_nI (n := i + 1) (by omega) (by omega)) dL_law_129 ?_
      refine W.eq (g2 := F0 m 130 ls [.int (xs (i + 1)), .ref (ad 0)]) (by rw [nI_clamp (show i + 1 < 2 ^ 31 by omega)]) ?_
      refine lv_aload_n hx hb dL_law_130 rfl (lv_at hl 0 rfl) ?_
      refine lv_iload_n hx hb dL_law_131 rfl (lv_at hl 3 rfl) ?_
      refine lv_iconst (v := 2) hx hb dL_law_132 (by decide) ?_
      refine lv_iadd hx hb dL_law_133 ?_
      refine W.eq (g2 := F0 m 134 ls [.int (nI (i + 2)), .ref b, .int (xs (i + 1)), .ref (ad 0)]) (by rw [show (2 : Int32) = nI 2 from rfl, nI_add]) ?_
      refine va_sld hx hb hX hbl hbA hS (vp_in_nI (n := i + 2) (by omega) (by omega)) dL_law_134 ?_
      refine W.eq (g2 := F0 m 135 ls [.int (xs (i + 2)), .int (xs (i + 1)), .ref (ad 0)]) (by rw [nI_clamp (show i + 2 < 2 ^ 31 by omega)]) ?_
      have hDc : va_D (fun q : Nat => s.heap.size ≤ q) (wCx cI cQ ad tq ag lo ch al an sh wa pl (ru 0) (ru 1) (ru 2) row dn dy lv od sn ++ dpl L pd) := (hD.part (cx := wCx cI cQ ad tq ag lo ch al an sh wa pl (ru 0) (ru 1) (ru 2) row dn dy lv od sn) [15, 16, 17, 18, 19, 20, 21, 22, 23, 24, 25, 26, 27, 28, 29] (by decide) rfl)
      have hFc := cd_F hDc hS hA
      refine cd_wV (As := [.int (xs (i + 1)), .int (xs (i + 2))]) (b := (ad 0)) (ci := 5) (q := (RX5, TX5, 5)) (rest := []) ⟨hx, hb, hml, hown, hts⟩ (kX5_set l dC dI cI cQ cZ ad tq ag lo ch al an sh wa pl (ru 0) (ru 1) (ru 2) row dn dy lv od sn L pd (xs (i + 1)) (xs (i + 2)) H.size) (cwV 2 hts gL_law_X5_set rfl rfl rfl (by decide +kernel) ⟨by decide, by decide⟩) hK (hP.part (cx := wCx cI cQ ad tq ag lo ch al an sh wa pl (ru 0) (ru 1) (ru 2) row dn dy lv od sn) [15, 16, 17, 18, 19, 20, 21, 22, 23, 24, 25, 26, 27, 28, 29] rfl) hDc hFc hS rfl rfl rfl hl.1 rfl (Nat.le_of_ble_eq_true rfl) dL_law_135 ⟨show _ ≤ 600000 by omega, show _ ≤ 7302250 by omega⟩ (fun H1 locs hP1 hD1 hk1 hS => ?_)
      obtain ⟨hP, hD⟩ := va_joinP (X := wMd cI cZ bd th tq ru sh pl wa dn kd ld tm pk ts wo io sn dy lv mlv mmt ++ wCx cI cQ ad tq ag lo ch al an sh wa pl (ru 0) (ru 1) (ru 2) row dn dy lv od sn) (cx := wCx cI cQ ad tq ag lo ch al an sh wa pl (ru 0) (ru 1) (ru 2) row dn dy lv od sn) (wr := wMd cI cZ bd th tq ru sh pl wa dn kd ld tm pk ts wo io sn dy lv mlv mmt) (rx := wCx cI cQ ad tq ag lo ch al an sh wa pl ((sX5_set (ru 0) (ru 1) (ru 2) (xs (i + 1)) (xs (i + 2))).2.1) ((sX5_set (ru 0) (ru 1) (ru 2) (xs (i + 1)) (xs (i + 2))).2.2.1) ((sX5_set (ru 0) (ru 1) (ru 2) (xs (i + 1)) (xs (i + 2))).2.2.2) row dn dy lv od sn) hP hD [15, 16, 17, 18, 19, 20, 21, 22, 23, 24, 25, 26, 27, 28, 29] [0, 1, 2, 3, 4, 5, 6, 7, 8, 9, 10, 11, 12, 13, 14] rfl rfl (by decide) (by decide) hk1 hFc hP1 hD1
      generalize H1 = H at hP hS ⊢
      have hP : va_P (dC, dI) vwCl ((wMd cI cZ bd th tq ru sh pl wa dn kd ld tm pk ts wo io sn dy lv mlv mmt ++ wCx cI cQ ad tq ag lo ch al an sh wa pl ((sX5_set (ru 0) (ru 1) (ru 2) (xs (i + 1)) (xs (i + 2))).2.1) ((sX5_set (ru 0) (ru 1) (ru 2) (xs (i + 1)) (xs (i + 2))).2.2.1) ((sX5_set (ru 0) (ru 1) (ru 2) (xs (i + 1)) (xs (i + 2))).2.2.2) row dn dy lv od sn) ++ dpl L pd) H := hP
      have hD : va_D (fun q : Nat => s.heap.size ≤ q) ((wMd cI cZ bd th tq ru sh pl wa dn kd ld tm pk ts wo io sn dy lv mlv mmt ++ wCx cI cQ ad tq ag lo ch al an sh wa pl ((sX5_set (ru 0) (ru 1) (ru 2) (xs (i + 1)) (xs (i + 2))).2.1) ((sX5_set (ru 0) (ru 1) (ru 2) (xs (i + 1)) (xs (i + 2))).2.2.1) ((sX5_set (ru 0) (ru 1) (ru 2) (xs (i + 1)) (xs (i + 2))).2.2.2) row dn dy lv od sn) ++ dpl L pd) := hD
      refine lv_aload_n hx hb dL_law_138 rfl (lv_at hl 2 rfl) ?_
      refine lv_aload_n hx hb dL_law_139 rfl (lv_at hl 0 rfl) ?_
      refine lv_iload_n hx hb dL_law_140 rfl (lv_at hl 3 rfl) ?_
      refine lv_iconst (v := 1) hx hb dL_law_141 (by decide) ?_
      refine lv_iadd hx hb dL_law_142 ?_
      refine W.eq (g2 := F0 m 143 ls [.int (nI (i + 1)), .ref b, .ref (bd 0), .int ((sX5_set (ru 0) (ru 1) (ru 2) (xs (i + 1)) (xs (i + 2))).1)]) (by rw [show (1 : Int32) = nI 1 from rfl, nI_add]) ?_
      refine va_sld hx hb hX hbl hbA hS (vp_in_nI (n := i + 1) (by omega) (by omega)) dL_law_143 ?_
      refine W.eq (g2 := F0 m 144 ls [.int (xs (i + 1)), .ref (bd 0), .int ((sX5_set (ru 0) (ru 1) (ru 2) (xs (i + 1)) (xs (i + 2))).1)]) (by rw [nI_clamp (show i + 1 < 2 ^ 31 by omega)]) ?_
      refine lv_aload_n hx hb dL_law_144 rfl (lv_at hl 0 rfl) ?_
      refine lv_iload_n hx hb dL_law_145 rfl (lv_at hl 3 rfl) ?_
      refine lv_iconst (v := 2) hx hb dL_law_146 (by decide) ?_
      refine lv_iadd hx hb dL_law_147 ?_
      refine W.eq (g2 := F0 m 148 ls [.int (nI (i + 2)), .ref b, .int (xs (i + 1)), .ref (bd 0), .int ((sX5_set (ru 0) (ru 1) (ru 2) (xs (i + 1)) (xs (i + 2))).1)]) (by rw [show (2 : Int32) = nI 2 from rfl, nI_add]) ?_
      refine va_sld hx hb hX hbl hbA hS (vp_in_nI (n := i + 2) (by omega) (by omega)) dL_law_148 ?_
      refine W.eq (g2 := F0 m 149 ls [.int (xs (i + 2)), .int (xs (i + 1)), .ref (bd 0), .int ((sX5_set (ru 0) (ru 1) (ru 2) (xs (i + 1)) (xs (i + 2))).1)]) (by rw [nI_clamp (show i + 2 < 2 ^ 31 by omega)]) ?_
      have hDc : va_D (fun q : Nat => s.heap.size ≤ q) (wMd cI cZ bd th tq ru sh pl wa dn kd ld tm pk ts wo io sn dy lv mlv mmt) := (hD.sub (ws' := wMd cI cZ bd th tq ru sh pl wa dn kd ld tm pk ts wo io sn dy lv mlv mmt) [0, 1, 2, 3, 4, 5, 6, 7, 8, 9, 10, 11, 12, 13, 14] (by decide) rfl)
      have hFc := cd_F hDc hS hA
      refine cd_wV (As := [.int (xs (i + 1)), .int (xs (i + 2))]) (b := (bd 0)) (ci := 6) (q := (RX6, TX6, 19)) (rest := [.int ((sX5_set (ru 0) (ru 1) (ru 2) (xs (i + 1)) (xs (i + 2))).1)]) ⟨hx, hb, hml, hown, hts⟩ (kX6_set l dC dI cI cQ cZ bd th tq ru sh pl wa dn kd ld tm pk ts wo io sn dy lv mlv mmt (xs (i + 1)) (xs (i + 2)) H.size) (cwV 2 hts gL_law_X6_set rfl rfl rfl (by decide +kernel) ⟨by decide, by decide⟩) hK (hP.sub (ws' := wMd cI cZ bd th tq ru sh pl wa dn kd ld tm pk ts wo io sn dy lv mlv mmt) [0, 1, 2, 3, 4, 5, 6, 7, 8, 9, 10, 11, 12, 13, 14] rfl) hDc hFc hS rfl rfl rfl hl.1 rfl (Nat.le_of_ble_eq_true rfl) dL_law_149 ⟨show _ ≤ 600000 by omega, show _ ≤ 7302250 by omega⟩ (fun H1 locs hP1 hD1 hk1 hS => ?_)
      obtain ⟨hP, hD⟩ := va_joinQ (X := wMd cI cZ bd th tq ru sh pl wa dn kd ld tm pk ts wo io sn dy lv mlv mmt ++ wCx cI cQ ad tq ag lo ch al an sh wa pl ((sX5_set (ru 0) (ru 1) (ru 2) (xs (i + 1)) (xs (i + 2))).2.1) ((sX5_set (ru 0) (ru 1) (ru 2) (xs (i + 1)) (xs (i + 2))).2.2.1) ((sX5_set (ru 0) (ru 1) (ru 2) (xs (i + 1)) (xs (i + 2))).2.2.2) row dn dy lv od sn) (cx := wMd cI cZ bd th tq ru sh pl wa dn kd ld tm pk ts wo io sn dy lv mlv mmt) (wr := wCx cI cQ ad tq ag lo ch al an sh wa pl ((sX5_set (ru 0) (ru 1) (ru 2) (xs (i + 1)) (xs (i + 2))).2.1) ((sX5_set (ru 0) (ru 1) (ru 2) (xs (i + 1)) (xs (i + 2))).2.2.1) ((sX5_set (ru 0) (ru 1) (ru 2) (xs (i + 1)) (xs (i + 2))).2.2.2) row dn dy lv od sn) (w1 := wMd cI cZ bd ((sX6_set ru (xs (i + 1)) (xs (i + 2))).2.1) tq ((sX6_set ru (xs (i + 1)) (xs (i + 2))).2.2) sh pl wa dn kd ld tm pk ts wo io sn dy lv mlv mmt) hP hD [0, 1, 2, 3, 4, 5, 6, 7, 8, 9, 10, 11, 12, 13, 14] [15, 16, 17, 18, 19, 20, 21, 22, 23, 24, 25, 26, 27, 28, 29] rfl rfl (by decide) (by decide) hk1 hFc hP1 hD1
      have hP := hP.part (cx := wMd cI cZ bd ((sX6_set ru (xs (i + 1)) (xs (i + 2))).2.1) tq ((sX6_set ru (xs (i + 1)) (xs (i + 2))).2.2) sh pl wa dn kd ld tm pk ts wo io sn dy lv mlv mmt ++ wCx cI cQ ad tq ag lo ch al an sh wa pl ((sX5_set (ru 0) (ru 1) (ru 2) (xs (i + 1)) (xs (i + 2))).2.1) ((sX5_set (ru 0) (ru 1) (ru 2) (xs (i + 1)) (xs (i + 2))).2.2.1) ((sX5_set (ru 0) (ru 1) (ru 2) (xs (i + 1)) (xs (i + 2))).2.2.2) row dn dy lv od sn) [15, 16, 17, 18, 19, 20, 21, 22, 23, 24, 25, 26, 27, 28, 29, 0, 1, 2, 3, 4, 5, 6, 7, 8, 9, 10, 11, 12, 13, 14] rfl
      have hD := hD.part (cx := wMd cI cZ bd ((sX6_set ru (xs (i + 1)) (xs (i + 2))).2.1) tq ((sX6_set ru (xs (i + 1)) (xs (i + 2))).2.2) sh pl wa dn kd ld tm pk ts wo io sn dy lv mlv mmt ++ wCx cI cQ ad tq ag lo ch al an sh wa pl ((sX5_set (ru 0) (ru 1) (ru 2) (xs (i + 1)) (xs (i + 2))).2.1) ((sX5_set (ru 0) (ru 1) (ru 2) (xs (i + 1)) (xs (i + 2))).2.2.1) ((sX5_set (ru 0) (ru 1) (ru 2) (xs (i + 1)) (xs (i + 2))).2.2.2) row dn dy lv od sn) [15, 16, 17, 18, 19, 20, 21, 22, 23, 24, 25, 26, 27, 28, 29, 0, 1, 2, 3, 4, 5, 6, 7, 8, 9, 10, 11, 12, 13, 14] (by decide) rfl
      generalize H1 = H at hP hS ⊢
      have hP : va_P (dC, dI) vwCl ((wMd cI cZ bd ((sX6_set ru (xs (i + 1)) (xs (i + 2))).2.1) tq ((sX6_set ru (xs (i + 1)) (xs (i + 2))).2.2) sh pl wa dn kd ld tm pk ts wo io sn dy lv mlv mmt ++ wCx cI cQ ad tq ag lo ch al an sh wa pl ((sX5_set (ru 0) (ru 1) (ru 2) (xs (i + 1)) (xs (i + 2))).2.1) ((sX5_set (ru 0) (ru 1) (ru 2) (xs (i + 1)) (xs (i + 2))).2.2.1) ((sX5_set (ru 0) (ru 1) (ru 2) (xs (i + 1)) (xs (i + 2))).2.2.2) row dn dy lv od sn) ++ dpl L pd) H := hP
      have hD : va_D (fun q : Nat => s.heap.size ≤ q) ((wMd cI cZ bd ((sX6_set ru (xs (i + 1)) (xs (i + 2))).2.1) tq ((sX6_set ru (xs (i + 1)) (xs (i + 2))).2.2) sh pl wa dn kd ld tm pk ts wo io sn dy lv mlv mmt ++ wCx cI cQ ad tq ag lo ch al an sh wa pl ((sX5_set (ru 0) (ru 1) (ru 2) (xs (i + 1)) (xs (i + 2))).2.1) ((sX5_set (ru 0) (ru 1) (ru 2) (xs (i + 1)) (xs (i + 2))).2.2.1) ((sX5_set (ru 0) (ru 1) (ru 2) (xs (i + 1)) (xs (i + 2))).2.2.2) row dn dy lv od sn) ++ dpl L pd) := hD
      obtain ⟨ea, e1, e2, e3, hLI2⟩ := op_set hLI  (xs (i + 1)) (xs (i + 2))
      refine lv_icmp_eq (tgt := 700) hx hb dL_law_152 (by decide) (fun c_1 => ?_) (fun c_1 => ?_)
      · skip
        rw [e1, e2, e3] at hP hD
        refine lv_iinc (v := nI (i + 7)) (lv' := [(3, .int (nI (i + 7))), (0, .ref b), (1, .ref (ad 0)), (2, .ref (bd 0))]) hx hb dL_law_700 hl (k := 3) rfl (by show nI i + nI 7 = _; rw [nI_add]) (by decide) rfl (fun ls hl => ?_)
        refine lv_goto (tgt := 18) hx hb dL_law_703 (by decide) ?_
        refine W.widen (k := cells + 1) (n := slots + 7) (by omega) (by omega) ?_
        exact ih (i + 7) (cells + 1) (slots + 7) tq ag lo ch al an sh wa pl ((sX6_set ru (xs (i + 1)) (xs (i + 2))).2.2) row dn dy lv od sn L pd ((sX6_set ru (xs (i + 1)) (xs (i + 2))).2.1) kd ld tm pk ts wo io mlv mmt ad bd (by omega) (by omega) (by omega) (by omega) hLI2 _ _ hP hD hS ls (lv_sub hl [1, 2, 3, 0] rfl)
      · exact absurd ea c_1
    by_cases z1 : sel = 1
    · refine lv_tableIn (tgt := 157) hx hb dL_law_33 (off := 124) (by rw [z1] <;> decide) (by rw [z1] <;> decide) (by rw [z1] <;> decide +kernel) (by decide) ?_
      refine lv_aload_n hx hb dL_law_157 rfl (lv_at hl 1 rfl) ?_
      refine lv_aload_n hx hb dL_law_158 rfl (lv_at hl 0 rfl) ?_
      refine lv_iload_n hx hb dL_law_159 rfl (lv_at hl 3 rfl) ?_
      refine lv_iconst (v := 1) hx hb dL_law_160 (by decide) ?_
      refine lv_iadd hx hb dL_law_161 ?_
      refine W.eq (g2 := F0 m 162 ls [.int (nI (i + 1)), .ref b, .ref (ad 0)]) (by rw [show (1 : Int32) = nI 1 from rfl, nI_add]) ?_
      refine va_sld hx hb hX hbl hbA hS (vp_in_nI (n := i + 1) (by omega) (by omega)) dL_law_162 ?_
      refine W.eq (g2 := F0 m 163 ls [.int (xs (i + 1)), .ref (ad 0)]) (by rw [nI_clamp (show i + 1 < 2 ^ 31 by omega)]) ?_
      refine lv_aload_n hx hb dL_law_163 rfl (lv_at hl 0 rfl) ?_
      refine lv_iload_n hx hb dL_law_164 rfl (lv_at hl 3 rfl) ?_
      refine lv_iconst (v := 2) hx hb dL_law_165 (by decide) ?_
      refine lv_iadd hx hb dL_law_166 ?_
      refine W.eq (g2 := F0 m 167 ls [.int (nI (i + 2)), .ref b, .int (xs (i + 1)), .ref (ad 0)]) (by rw [show (2 : Int32) = nI 2 from rfl, nI_add]) ?_
      refine va_sld hx hb hX hbl hbA hS (vp_in_nI (n := i + 2) (by omega) (by omega)) dL_law_167 ?_
      refine W.eq (g2 := F0 m 168 ls [.int (xs (i + 2)), .int (xs (i + 1)), .ref (ad 0)]) (by rw [nI_clamp (show i + 2 < 2 ^ 31 by omega)]) ?_
      refine lv_aload_n hx hb dL_law_168 rfl (lv_at hl 0 rfl) ?_
      refine lv_iload_n hx hb dL_law_169 rfl (lv_at hl 3 rfl) ?_
      refine lv_iconst (v := 3) hx hb dL_law_170 (by decide) ?_
      refine lv_iadd hx hb dL_law_171 ?_
      refine W.eq (g2 := F0 m 172 ls [.int (nI (i + 3)), .ref b, .int (xs (i + 2)), .int (xs (i + 1)), .ref (ad 0)]) (by rw [show (3 : Int32) = nI 3 from rfl, nI_add]) ?_
      refine va_sld hx hb hX hbl hbA hS (vp_in_nI (n := i + 3) (by omega) (by omega)) dL_law_172 ?_
      refine W.eq (g2 := F0 m 173 ls [.int (xs (i + 3)), .int (xs (i + 2)), .int (xs (i + 1)), .ref (ad 0)]) (by rw [nI_clamp (show i + 3 < 2 ^ 31 by omega)]) ?_
      have hDc : va_D (fun q : Nat => s.heap.size ≤ q) (wCx cI cQ ad tq ag lo ch al an sh wa pl (ru 0) (ru 1) (ru 2) row dn dy lv od sn ++ dpl L pd) := (hD.part (cx := wCx cI cQ ad tq ag lo ch al an sh wa pl (ru 0) (ru 1) (ru 2) row dn dy lv od sn) [15, 16, 17, 18, 19, 20, 21, 22, 23, 24, 25, 26, 27, 28, 29] (by decide) rfl)
      have hFc := cd_F hDc hS hA
      refine cd_wV (As := [.int (xs (i + 1)), .int (xs (i + 2)), .int (xs (i + 3))]) (b := (ad 0)) (ci := 5) (q := (RX5, TX5, 5)) (rest := []) ⟨hx, hb, hml, hown, hts⟩ (kX5_shares l dC dI cI cQ cZ ad tq ag lo ch al an sh wa pl (ru 0) (ru 1) (ru 2) row dn dy lv od sn L pd (xs (i + 1)) (xs (i + 2)) (xs (i + 3)) H.size) (cwV 3 hts gL_law_X5_shares rfl rfl rfl (by decide +kernel) ⟨by decide, by decide⟩) hK (hP.part (cx := wCx cI cQ ad tq ag lo ch al an sh wa pl (ru 0) (ru 1) (ru 2) row dn dy lv od sn) [15, 16, 17, 18, 19, 20, 21, 22, 23, 24, 25, 26, 27, 28, 29] rfl) hDc hFc hS rfl rfl rfl hl.1 rfl (Nat.le_of_ble_eq_true rfl) dL_law_173 ⟨show _ ≤ 600000 by omega, show _ ≤ 7302250 by omega⟩ (fun H1 locs hP1 hD1 hk1 hS => ?_)
      obtain ⟨hP, hD⟩ := va_joinP (X := wMd cI cZ bd th tq ru sh pl wa dn kd ld tm pk ts wo io sn dy lv mlv mmt ++ wCx cI cQ ad tq ag lo ch al an sh wa pl (ru 0) (ru 1) (ru 2) row dn dy lv od sn) (cx := wCx cI cQ ad tq ag lo ch al an sh wa pl (ru 0) (ru 1) (ru 2) row dn dy lv od sn) (wr := wMd cI cZ bd th tq ru sh pl wa dn kd ld tm pk ts wo io sn dy lv mlv mmt) (rx := wCx cI cQ ad tq ag lo ch al an ((sX5_shares sh (xs (i + 1)) (xs (i + 2)) (xs (i + 3))).2) wa pl (ru 0) (ru 1) (ru 2) row dn dy lv od sn) hP hD [15, 16, 17, 18, 19, 20, 21, 22, 23, 24, 25, 26, 27, 28, 29] [0, 1, 2, 3, 4, 5, 6, 7, 8, 9, 10, 11, 12, 13, 14] rfl rfl (by decide) (by decide) hk1 hFc hP1 hD1
      generalize H1 = H at hP hS ⊢
      have hP : va_P (dC, dI) vwCl ((wMd cI cZ bd th tq ru sh pl wa dn kd ld tm pk ts wo io sn dy lv mlv mmt ++ wCx cI cQ ad tq ag lo ch al an ((sX5_shares sh (xs (i + 1)) (xs (i + 2)) (xs (i + 3))).2) wa pl (ru 0) (ru 1) (ru 2) row dn dy lv od sn) ++ dpl L pd) H := hP
      have hD : va_D (fun q : Nat => s.heap.size ≤ q) ((wMd cI cZ bd th tq ru sh pl wa dn kd ld tm pk ts wo io sn dy lv mlv mmt ++ wCx cI cQ ad tq ag lo ch al an ((sX5_shares sh (xs (i + 1)) (xs (i + 2)) (xs (i + 3))).2) wa pl (ru 0) (ru 1) (ru 2) row dn dy lv od sn) ++ dpl L pd) := hD
      refine lv_aload_n hx hb dL_law_176 rfl (lv_at hl 2 rfl) ?_
      refine lv_aload_n hx hb dL_law_177 rfl (lv_at hl 0 rfl) ?_
      refine lv_iload_n hx hb dL_law_178 rfl (lv_at hl 3 rfl) ?_
      refine lv_iconst (v := 1) hx hb dL_law_179 (by decide) ?_
      refine lv_iadd hx hb dL_law_180 ?_
      refine W.eq (g2 := F0 m 181 ls [.int (nI (i + 1)), .ref b, .ref (bd 0), .int ((sX5_shares sh (xs (i + 1)) (xs (i + 2)) (xs (i + 3))).1)]) (by rw [show (1 : Int32) = nI 1 from rfl, nI_add]) ?_
      refine va_sld hx hb hX hbl hbA hS (vp_in_nI (n := i + 1) (by omega) (by omega)) dL_law_181 ?_
      refine W.eq (g2 := F0 m 182 ls [.int (xs (i + 1)), .ref (bd 0), .int ((sX5_shares sh (xs (i + 1)) (xs (i + 2)) (xs (i + 3))).1)]) (by rw [nI_clamp (show i + 1 < 2 ^ 31 by omega)]) ?_
      refine lv_aload_n hx hb dL_law_182 rfl (lv_at hl 0 rfl) ?_
      refine lv_iload_n hx hb dL_law_183 rfl (lv_at hl 3 rfl) ?_
      refine lv_iconst (v := 2) hx hb dL_law_184 (by decide) ?_
      refine lv_iadd hx hb dL_law_185 ?_
      refine W.eq (g2 := F0 m 186 ls [.int (nI (i + 2)), .ref b, .int (xs (i + 1)), .ref (bd 0), .int ((sX5_shares sh (xs (i + 1)) (xs (i + 2)) (xs (i + 3))).1)]) (by rw [show (2 : Int32) = nI 2 from rfl, nI_add]) ?_
      refine va_sld hx hb hX hbl hbA hS (vp_in_nI (n := i + 2) (by omega) (by omega)) dL_law_186 ?_
      refine W.eq (g2 := F0 m 187 ls [.int (xs (i + 2)), .int (xs (i + 1)), .ref (bd 0), .int ((sX5_shares sh (xs (i + 1)) (xs (i + 2)) (xs (i + 3))).1)]) (by rw [nI_clamp (show i + 2 < 2 ^ 31 by omega)]) ?_
      refine lv_aload_n hx hb dL_law_187 rfl (lv_at hl 0 rfl) ?_
      refine lv_iload_n hx hb dL_law_188 rfl (lv_at hl 3 rfl) ?_
      refine lv_iconst (v := 3) hx hb dL_law_189 (by decide) ?_
      refine lv_iadd hx hb dL_law_190 ?_
      refine W.eq (g2 := F0 m 191 ls [.int (nI (i + 3)), .ref b, .int (xs (i + 2)), .int (xs (i + 1)), .ref (bd 0), .int ((sX5_shares sh (xs (i + 1)) (xs (i + 2)) (xs (i + 3))).1)]) (by rw [show (3 : Int32) = nI 3 from rfl, nI_add]) ?_
      refine va_sld hx hb hX hbl hbA hS (vp_in_nI (n := i + 3) (by omega) (by omega)) dL_law_191 ?_
      refine W.eq (g2 := F0 m 192 ls [.int (xs (i + 3)), .int (xs (i + 2)), .int (xs (i + 1)), .ref (bd 0), .int ((sX5_shares sh (xs (i + 1)) (xs (i + 2)) (xs (i + 3))).1)]) (by rw [nI_clamp (show i + 3 < 2 ^ 31 by omega)]) ?_
      have hDc : va_D (fun q : Nat => s.heap.size ≤ q) (wMd cI cZ bd th tq ru sh pl wa dn kd ld tm pk ts wo io sn dy lv mlv mmt) := (hD.sub (ws' := wMd cI cZ bd th tq ru sh pl wa dn kd ld tm pk ts wo io sn dy lv mlv mmt) [0, 1, 2, 3, 4, 5, 6, 7, 8, 9, 10, 11, 12, 13, 14] (by decide) rfl)
      have hFc := cd_F hDc hS hA
      refine cd_wV (As := [.int (xs (i + 1)), .int (xs (i + 2)), .int (xs (i + 3))]) (b := (bd 0)) (ci := 6) (q := (RX6, TX6, 19)) (rest := [.int ((sX5_shares sh (xs (i + 1)) (xs (i + 2)) (xs (i + 3))).1)]) ⟨hx, hb, hml, hown, hts⟩ (kX6_shares l dC dI cI cQ cZ bd th tq ru sh pl wa dn kd ld tm pk ts wo io sn dy lv mlv mmt (xs (i + 1)) (xs (i + 2)) (xs (i + 3)) H.size) (cwV 3 hts gL_law_X6_shares rfl rfl rfl (by decide +kernel) ⟨by decide, by decide⟩) hK (hP.sub (ws' := wMd cI cZ bd th tq ru sh pl wa dn kd ld tm pk ts wo io sn dy lv mlv mmt) [0, 1, 2, 3, 4, 5, 6, 7, 8, 9, 10, 11, 12, 13, 14] rfl) hDc hFc hS rfl rfl rfl hl.1 rfl (Nat.le_of_ble_eq_true rfl) dL_law_192 ⟨show _ ≤ 600000 by omega, show _ ≤ 7302250 by omega⟩ (fun H1 locs hP1 hD1 hk1 hS => ?_)
      obtain ⟨hP, hD⟩ := va_joinQ (X := wMd cI cZ bd th tq ru sh pl wa dn kd ld tm pk ts wo io sn dy lv mlv mmt ++ wCx cI cQ ad tq ag lo ch al an ((sX5_shares sh (xs (i + 1)) (xs (i + 2)) (xs (i + 3))).2) wa pl (ru 0) (ru 1) (ru 2) row dn dy lv od sn) (cx := wMd cI cZ bd th tq ru sh pl wa dn kd ld tm pk ts wo io sn dy lv mlv mmt) (wr := wCx cI cQ ad tq ag lo ch al an ((sX5_shares sh (xs (i + 1)) (xs (i + 2)) (xs (i + 3))).2) wa pl (ru 0) (ru 1) (ru 2) row dn dy lv od sn) (w1 := wMd cI cZ bd ((sX6_shares sh (xs (i + 1)) (xs (i + 2)) (xs (i + 3))).2.1) tq ru ((sX6_shares sh (xs (i + 1)) (xs (i + 2)) (xs (i + 3))).2.2) pl wa dn kd ld tm pk ts wo io sn dy lv mlv mmt) hP hD [0, 1, 2, 3, 4, 5, 6, 7, 8, 9, 10, 11, 12, 13, 14] [15, 16, 17, 18, 19, 20, 21, 22, 23, 24, 25, 26, 27, 28, 29] rfl rfl (by decide) (by decide) hk1 hFc hP1 hD1
      have hP := hP.part (cx := wMd cI cZ bd ((sX6_shares sh (xs (i + 1)) (xs (i + 2)) (xs (i + 3))).2.1) tq ru ((sX6_shares sh (xs (i + 1)) (xs (i + 2)) (xs (i + 3))).2.2) pl wa dn kd ld tm pk ts wo io sn dy lv mlv mmt ++ wCx cI cQ ad tq ag lo ch al an ((sX5_shares sh (xs (i + 1)) (xs (i + 2)) (xs (i + 3))).2) wa pl (ru 0) (ru 1) (ru 2) row dn dy lv od sn) [15, 16, 17, 18, 19, 20, 21, 22, 23, 24, 25, 26, 27, 28, 29, 0, 1, 2, 3, 4, 5, 6, 7, 8, 9, 10, 11, 12, 13, 14] rfl
      have hD := hD.part (cx := wMd cI cZ bd ((sX6_shares sh (xs (i + 1)) (xs (i + 2)) (xs (i + 3))).2.1) tq ru ((sX6_shares sh (xs (i + 1)) (xs (i + 2)) (xs (i + 3))).2.2) pl wa dn kd ld tm pk ts wo io sn dy lv mlv mmt ++ wCx cI cQ ad tq ag lo ch al an ((sX5_shares sh (xs (i + 1)) (xs (i + 2)) (xs (i + 3))).2) wa pl (ru 0) (ru 1) (ru 2) row dn dy lv od sn) [15, 16, 17, 18, 19, 20, 21, 22, 23, 24, 25, 26, 27, 28, 29, 0, 1, 2, 3, 4, 5, 6, 7, 8, 9, 10, 11, 12, 13, 14] (by decide) rfl
      generalize H1 = H at hP hS ⊢
      have hP : va_P (dC, dI) vwCl ((wMd cI cZ bd ((sX6_shares sh (xs (i + 1)) (xs (i + 2)) (xs (i + 3))).2.1) tq ru ((sX6_shares sh (xs (i + 1)) (xs (i + 2)) (xs (i + 3))).2.2) pl wa dn kd ld tm pk ts wo io sn dy lv mlv mmt ++ wCx cI cQ ad tq ag lo ch al an ((sX5_shares sh (xs (i + 1)) (xs (i + 2)) (xs (i + 3))).2) wa pl (ru 0) (ru 1) (ru 2) row dn dy lv od sn) ++ dpl L pd) H := hP
      have hD : va_D (fun q : Nat => s.heap.size ≤ q) ((wMd cI cZ bd ((sX6_shares sh (xs (i + 1)) (xs (i + 2)) (xs (i + 3))).2.1) tq ru ((sX6_shares sh (xs (i + 1)) (xs (i + 2)) (xs (i + 3))).2.2) pl wa dn kd ld tm pk ts wo io sn dy lv mlv mmt ++ wCx cI cQ ad tq ag lo ch al an ((sX5_shares sh (xs (i + 1)) (xs (i + 2)) (xs (i + 3))).2) wa pl (ru 0) (ru 1) (ru 2) row dn dy lv od sn) ++ dpl L pd) := hD
      obtain ⟨ea, e1, hLI2⟩ := op_shares hLI  (xs (i + 1)) (xs (i + 2)) (xs (i + 3))
      refine lv_icmp_eq (tgt := 700) hx hb dL_law_195 (by decide) (fun c_2 => ?_) (fun c_2 => ?_)
      · skip
        rw [e1] at hP hD
        refine lv_iinc (v := nI (i + 7)) (lv' := [(3, .int (nI (i + 7))), (0, .ref b), (1, .ref (ad 0)), (2, .ref (bd 0))]) hx hb dL_law_700 hl (k := 3) rfl (by show nI i + nI 7 = _; rw [nI_add]) (by decide) rfl (fun ls hl => ?_)
        refine lv_goto (tgt := 18) hx hb dL_law_703 (by decide) ?_
        refine W.widen (k := cells + 1) (n := slots + 7) (by omega) (by omega) ?_
        exact ih (i + 7) (cells + 1) (slots + 7) tq ag lo ch al an ((sX6_shares sh (xs (i + 1)) (xs (i + 2)) (xs (i + 3))).2.2) wa pl ru row dn dy lv od sn L pd ((sX6_shares sh (xs (i + 1)) (xs (i + 2)) (xs (i + 3))).2.1) kd ld tm pk ts wo io mlv mmt ad bd (by omega) (by omega) (by omega) (by omega) hLI2 _ _ hP hD hS ls (lv_sub hl [1, 2, 3, 0] rfl)
      · exact absurd ea c_2
    by_cases z2 : sel = 2
    · refine lv_tableIn (tgt := 200) hx hb dL_law_33 (off := 167) (by rw [z2] <;> decide) (by rw [z2] <;> decide) (by rw [z2] <;> decide +kernel) (by decide) ?_
      refine lv_aload_n hx hb dL_law_200 rfl (lv_at hl 1 rfl) ?_
      refine lv_aload_n hx hb dL_law_201 rfl (lv_at hl 0 rfl) ?_
      refine lv_iload_n hx hb dL_law_202 rfl (lv_at hl 3 rfl) ?_
      refine lv_iconst (v := 1) hx hb dL_law_203 (by decide) ?_
      refine lv_iadd hx hb dL_law_204 ?_
      refine W.eq (g2 := F0 m 205 ls [.int (nI (i + 1)), .ref b, .ref (ad 0)]) (by rw [show (1 : Int32) = nI 1 from rfl, nI_add]) ?_
      refine va_sld hx hb hX hbl hbA hS (vp_in_nI (n := i + 1) (by omega) (by omega)) dL_law_205 ?_
      refine W.eq (g2 := F0 m 206 ls [.int (xs (i + 1)), .ref (ad 0)]) (by rw [nI_clamp (show i + 1 < 2 ^ 31 by omega)]) ?_
      refine lv_aload_n hx hb dL_law_206 rfl (lv_at hl 0 rfl) ?_
      refine lv_iload_n hx hb dL_law_207 rfl (lv_at hl 3 rfl) ?_
      refine lv_iconst (v := 2) hx hb dL_law_208 (by decide) ?_
      refine lv_iadd hx hb dL_law_209 ?_
      refine W.eq (g2 := F0 m 210 ls [.int (nI (i + 2)), .ref b, .int (xs (i + 1)), .ref (ad 0)]) (by rw [show (2 : Int32) = nI 2 from rfl, nI_add]) ?_
      refine va_sld hx hb hX hbl hbA hS (vp_in_nI (n := i + 2) (by omega) (by omega)) dL_law_210 ?_
      refine W.eq (g2 := F0 m 211 ls [.int (xs (i + 2)), .int (xs (i + 1)), .ref (ad 0)]) (by rw [nI_clamp (show i + 2 < 2 ^ 31 by omega)]) ?_
      have hDc : va_D (fun q : Nat => s.heap.size ≤ q) (wCx cI cQ ad tq ag lo ch al an sh wa pl (ru 0) (ru 1) (ru 2) row dn dy lv od sn ++ dpl L pd) := (hD.part (cx := wCx cI cQ ad tq ag lo ch al an sh wa pl (ru 0) (ru 1) (ru 2) row dn dy lv od sn) [15, 16, 17, 18, 19, 20, 21, 22, 23, 24, 25, 26, 27, 28, 29] (by decide) rfl)
      have hFc := cd_F hDc hS hA
      refine cd_wV (As := [.int (xs (i + 1)), .int (xs (i + 2))]) (b := (ad 0)) (ci := 5) (q := (RX5, TX5, 5)) (rest := []) ⟨hx, hb, hml, hown, hts⟩ (kX5_season l dC dI cI cQ cZ ad tq ag lo ch al an sh wa pl (ru 0) (ru 1) (ru 2) row dn dy lv od sn L pd (xs (i + 1)) (xs (i + 2)) H.size) (cwV 2 hts gL_law_X5_season rfl rfl rfl (by decide +kernel) ⟨by decide, by decide⟩) hK (hP.part (cx := wCx cI cQ ad tq ag lo ch al an sh wa pl (ru 0) (ru 1) (ru 2) row dn dy lv od sn) [15, 16, 17, 18, 19, 20, 21, 22, 23, 24, 25, 26, 27, 28, 29] rfl) hDc hFc hS rfl rfl rfl hl.1 rfl (Nat.le_of_ble_eq_true rfl) dL_law_211 ⟨show _ ≤ 600000 by omega, show _ ≤ 7302250 by omega⟩ (fun H1 locs hP1 hD1 hk1 hS => ?_)
      obtain ⟨hP, hD⟩ := va_joinP (X := wMd cI cZ bd th tq ru sh pl wa dn kd ld tm pk ts wo io sn dy lv mlv mmt ++ wCx cI cQ ad tq ag lo ch al an sh wa pl (ru 0) (ru 1) (ru 2) row dn dy lv od sn) (cx := wCx cI cQ ad tq ag lo ch al an sh wa pl (ru 0) (ru 1) (ru 2) row dn dy lv od sn) (wr := wMd cI cZ bd th tq ru sh pl wa dn kd ld tm pk ts wo io sn dy lv mlv mmt) (rx := wCx cI cQ ad tq ag lo ch al an sh ((sX5_season wa pl (xs (i + 1)) (xs (i + 2))).2.1) ((sX5_season wa pl (xs (i + 1)) (xs (i + 2))).2.2) (ru 0) (ru 1) (ru 2) row dn dy lv od sn) hP hD [15, 16, 17, 18, 19, 20, 21, 22, 23, 24, 25, 26, 27, 28, 29] [0, 1, 2, 3, 4, 5, 6, 7, 8, 9, 10, 11, 12, 13, 14] rfl rfl (by decide) (by decide) hk1 hFc hP1 hD1
      generalize H1 = H at hP hS ⊢
      have hP : va_P (dC, dI) vwCl ((wMd cI cZ bd th tq ru sh pl wa dn kd ld tm pk ts wo io sn dy lv mlv mmt ++ wCx cI cQ ad tq ag lo ch al an sh ((sX5_season wa pl (xs (i + 1)) (xs (i + 2))).2.1) ((sX5_season wa pl (xs (i + 1)) (xs (i + 2))).2.2) (ru 0) (ru 1) (ru 2) row dn dy lv od sn) ++ dpl L pd) H := hP
      have hD : va_D (fun q : Nat => s.heap.size ≤ q) ((wMd cI cZ bd th tq ru sh pl wa dn kd ld tm pk ts wo io sn dy lv mlv mmt ++ wCx cI cQ ad tq ag lo ch al an sh ((sX5_season wa pl (xs (i + 1)) (xs (i + 2))).2.1) ((sX5_season wa pl (xs (i + 1)) (xs (i + 2))).2.2) (ru 0) (ru 1) (ru 2) row dn dy lv od sn) ++ dpl L pd) := hD
      refine lv_aload_n hx hb dL_law_214 rfl (lv_at hl 2 rfl) ?_
      refine lv_aload_n hx hb dL_law_215 rfl (lv_at hl 0 rfl) ?_
      refine lv_iload_n hx hb dL_law_216 rfl (lv_at hl 3 rfl) ?_
      refine lv_iconst (v := 1) hx hb dL_law_217 (by decide) ?_
      refine lv_iadd hx hb dL_law_218 ?_
      refine W.eq (g2 := F0 m 219 ls [.int (nI (i + 1)), .ref b, .ref (bd 0), .int ((sX5_season wa pl (xs (i + 1)) (xs (i + 2))).1)]) (by rw [show (1 : Int32) = nI 1 from rfl, nI_add]) ?_
      refine va_sld hx hb hX hbl hbA hS (vp_in_nI (n := i + 1) (by omega) (by omega)) dL_law_219 ?_
      refine W.eq (g2 := F0 m 220 ls [.int (xs (i + 1)), .ref (bd 0), .int ((sX5_season wa pl (xs (i + 1)) (xs (i + 2))).1)]) (by rw [nI_clamp (show i + 1 < 2 ^ 31 by omega)]) ?_
      refine lv_aload_n hx hb dL_law_220 rfl (lv_at hl 0 rfl) ?_
      refine lv_iload_n hx hb dL_law_221 rfl (lv_at hl 3 rfl) ?_
      refine lv_iconst (v := 2) hx hb dL_law_222 (by decide) ?_
      refine lv_iadd hx hb dL_law_223 ?_
      refine W.eq (g2 := F0 m 224 ls [.int (nI (i + 2)), .ref b, .int (xs (i + 1)), .ref (bd 0), .int ((sX5_season wa pl (xs (i + 1)) (xs (i + 2))).1)]) (by rw [show (2 : Int32) = nI 2 from rfl, nI_add]) ?_
      refine va_sld hx hb hX hbl hbA hS (vp_in_nI (n := i + 2) (by omega) (by omega)) dL_law_224 ?_
      refine W.eq (g2 := F0 m 225 ls [.int (xs (i + 2)), .int (xs (i + 1)), .ref (bd 0), .int ((sX5_season wa pl (xs (i + 1)) (xs (i + 2))).1)]) (by rw [nI_clamp (show i + 2 < 2 ^ 31 by omega)]) ?_
      have hDc : va_D (fun q : Nat => s.heap.size ≤ q) (wMd cI cZ bd th tq ru sh pl wa dn kd ld tm pk ts wo io sn dy lv mlv mmt) := (hD.sub (ws' := wMd cI cZ bd th tq ru sh pl wa dn kd ld tm pk ts wo io sn dy lv mlv mmt) [0, 1, 2, 3, 4, 5, 6, 7, 8, 9, 10, 11, 12, 13, 14] (by decide) rfl)
      have hFc := cd_F hDc hS hA
      refine cd_wV (As := [.int (xs (i + 1)), .int (xs (i + 2))]) (b := (bd 0)) (ci := 6) (q := (RX6, TX6, 19)) (rest := [.int ((sX5_season wa pl (xs (i + 1)) (xs (i + 2))).1)]) ⟨hx, hb, hml, hown, hts⟩ (kX6_season l dC dI cI cQ cZ bd th tq ru sh pl wa dn kd ld tm pk ts wo io sn dy lv mlv mmt (xs (i + 1)) (xs (i + 2)) H.size) (cwV 2 hts gL_law_X6_season rfl rfl rfl (by decide +kernel) ⟨by decide, by decide⟩) hK (hP.sub (ws' := wMd cI cZ bd th tq ru sh pl wa dn kd ld tm pk ts wo io sn dy lv mlv mmt) [0, 1, 2, 3, 4, 5, 6, 7, 8, 9, 10, 11, 12, 13, 14] rfl) hDc hFc hS rfl rfl rfl hl.1 rfl (Nat.le_of_ble_eq_true rfl) dL_law_225 ⟨show _ ≤ 600000 by omega, show _ ≤ 7302250 by omega⟩ (fun H1 locs hP1 hD1 hk1 hS => ?_)
      obtain ⟨hP, hD⟩ := va_joinQ (X := wMd cI cZ bd th tq ru sh pl wa dn kd ld tm pk ts wo io sn dy lv mlv mmt ++ wCx cI cQ ad tq ag lo ch al an sh ((sX5_season wa pl (xs (i + 1)) (xs (i + 2))).2.1) ((sX5_season wa pl (xs (i + 1)) (xs (i + 2))).2.2) (ru 0) (ru 1) (ru 2) row dn dy lv od sn) (cx := wMd cI cZ bd th tq ru sh pl wa dn kd ld tm pk ts wo io sn dy lv mlv mmt) (wr := wCx cI cQ ad tq ag lo ch al an sh ((sX5_season wa pl (xs (i + 1)) (xs (i + 2))).2.1) ((sX5_season wa pl (xs (i + 1)) (xs (i + 2))).2.2) (ru 0) (ru 1) (ru 2) row dn dy lv od sn) (w1 := wMd cI cZ bd ((sX6_season pl wa (xs (i + 1)) (xs (i + 2))).2.1) tq ru sh ((sX6_season pl wa (xs (i + 1)) (xs (i + 2))).2.2.1) ((sX6_season pl wa (xs (i + 1)) (xs (i + 2))).2.2.2) dn kd ld tm pk ts wo io sn dy lv mlv mmt) hP hD [0, 1, 2, 3, 4, 5, 6, 7, 8, 9, 10, 11, 12, 13, 14] [15, 16, 17, 18, 19, 20, 21, 22, 23, 24, 25, 26, 27, 28, 29] rfl rfl (by decide) (by decide) hk1 hFc hP1 hD1
      have hP := hP.part (cx := wMd cI cZ bd ((sX6_season pl wa (xs (i + 1)) (xs (i + 2))).2.1) tq ru sh ((sX6_season pl wa (xs (i + 1)) (xs (i + 2))).2.2.1) ((sX6_season pl wa (xs (i + 1)) (xs (i + 2))).2.2.2) dn kd ld tm pk ts wo io sn dy lv mlv mmt ++ wCx cI cQ ad tq ag lo ch al an sh ((sX5_season wa pl (xs (i + 1)) (xs (i + 2))).2.1) ((sX5_season wa pl (xs (i + 1)) (xs (i + 2))).2.2) (ru 0) (ru 1) (ru 2) row dn dy lv od sn) [15, 16, 17, 18, 19, 20, 21, 22, 23, 24, 25, 26, 27, 28, 29, 0, 1, 2, 3, 4, 5, 6, 7, 8, 9, 10, 11, 12, 13, 14] rfl
      have hD := hD.part (cx := wMd cI cZ bd ((sX6_season pl wa (xs (i + 1)) (xs (i + 2))).2.1) tq ru sh ((sX6_season pl wa (xs (i + 1)) (xs (i + 2))).2.2.1) ((sX6_season pl wa (xs (i + 1)) (xs (i + 2))).2.2.2) dn kd ld tm pk ts wo io sn dy lv mlv mmt ++ wCx cI cQ ad tq ag lo ch al an sh ((sX5_season wa pl (xs (i + 1)) (xs (i + 2))).2.1) ((sX5_season wa pl (xs (i + 1)) (xs (i + 2))).2.2) (ru 0) (ru 1) (ru 2) row dn dy lv od sn) [15, 16, 17, 18, 19, 20, 21, 22, 23, 24, 25, 26, 27, 28, 29, 0, 1, 2, 3, 4, 5, 6, 7, 8, 9, 10, 11, 12, 13, 14] (by decide) rfl
      generalize H1 = H at hP hS ⊢
      have hP : va_P (dC, dI) vwCl ((wMd cI cZ bd ((sX6_season pl wa (xs (i + 1)) (xs (i + 2))).2.1) tq ru sh ((sX6_season pl wa (xs (i + 1)) (xs (i + 2))).2.2.1) ((sX6_season pl wa (xs (i + 1)) (xs (i + 2))).2.2.2) dn kd ld tm pk ts wo io sn dy lv mlv mmt ++ wCx cI cQ ad tq ag lo ch al an sh ((sX5_season wa pl (xs (i + 1)) (xs (i + 2))).2.1) ((sX5_season wa pl (xs (i + 1)) (xs (i + 2))).2.2) (ru 0) (ru 1) (ru 2) row dn dy lv od sn) ++ dpl L pd) H := hP
      have hD : va_D (fun q : Nat => s.heap.size ≤ q) ((wMd cI cZ bd ((sX6_season pl wa (xs (i + 1)) (xs (i + 2))).2.1) tq ru sh ((sX6_season pl wa (xs (i + 1)) (xs (i + 2))).2.2.1) ((sX6_season pl wa (xs (i + 1)) (xs (i + 2))).2.2.2) dn kd ld tm pk ts wo io sn dy lv mlv mmt ++ wCx cI cQ ad tq ag lo ch al an sh ((sX5_season wa pl (xs (i + 1)) (xs (i + 2))).2.1) ((sX5_season wa pl (xs (i + 1)) (xs (i + 2))).2.2) (ru 0) (ru 1) (ru 2) row dn dy lv od sn) ++ dpl L pd) := hD
      obtain ⟨ea, e1, e2, hLI2⟩ := op_season hLI  (xs (i + 1)) (xs (i + 2))
      refine lv_icmp_eq (tgt := 700) hx hb dL_law_228 (by decide) (fun c_3 => ?_) (fun c_3 => ?_)
      · skip
        rw [e1, e2] at hP hD
        refine lv_iinc (v := nI (i + 7)) (lv' := [(3, .int (nI (i + 7))), (0, .ref b), (1, .ref (ad 0)), (2, .ref (bd 0))]) hx hb dL_law_700 hl (k := 3) rfl (by show nI i + nI 7 = _; rw [nI_add]) (by decide) rfl (fun ls hl => ?_)
        refine lv_goto (tgt := 18) hx hb dL_law_703 (by decide) ?_
        refine W.widen (k := cells + 1) (n := slots + 7) (by omega) (by omega) ?_
        exact ih (i + 7) (cells + 1) (slots + 7) tq ag lo ch al an sh ((sX6_season pl wa (xs (i + 1)) (xs (i + 2))).2.2.2) ((sX6_season pl wa (xs (i + 1)) (xs (i + 2))).2.2.1) ru row dn dy lv od sn L pd ((sX6_season pl wa (xs (i + 1)) (xs (i + 2))).2.1) kd ld tm pk ts wo io mlv mmt ad bd (by omega) (by omega) (by omega) (by omega) hLI2 _ _ hP hD hS ls (lv_sub hl [1, 2, 3, 0] rfl)
      · exact absurd ea c_3
    by_cases z3 : sel = 3
    · refine lv_tableIn (tgt := 233) hx hb dL_law_33 (off := 200) (by rw [z3] <;> decide) (by rw [z3] <;> decide) (by rw [z3] <;> decide +kernel) (by decide) ?_
      refine lv_aload_n hx hb dL_law_233 rfl (lv_at hl 1 rfl) ?_
      refine lv_aload_n hx hb dL_law_234 rfl (lv_at hl 0 rfl) ?_
      refine lv_iload_n hx hb dL_law_235 rfl (lv_at hl 3 rfl) ?_
      refine lv_iconst (v := 1) hx hb dL_law_236 (by decide) ?_
      refine lv_iadd hx hb dL_law_237 ?_
      refine W.eq (g2 := F0 m 238 ls [.int (nI (i + 1)), .ref b, .ref (ad 0)]) (by rw [show (1 : Int32) = nI 1 from rfl, nI_add]) ?_
      refine va_sld hx hb hX hbl hbA hS (vp_in_nI (n := i + 1) (by omega) (by omega)) dL_law_238 ?_
      refine W.eq (g2 := F0 m 239 ls [.int (xs (i + 1)), .ref (ad 0)]) (by rw [nI_clamp (show i + 1 < 2 ^ 31 by omega)]) ?_
      refine cd_rV (As := [.int (xs (i + 1))]) (b := (ad 0)) (ci := 5) (q := (RX5, TX5, 5)) (rest := []) ⟨hx, hb, hml, hown, hts⟩ (kX5_share l dC dI cI cQ cZ ad tq ag lo ch al an sh wa pl (ru 0) (ru 1) (ru 2) row dn dy lv od sn L pd (xs (i + 1))) (cwV 1 hts gL_law_X5_share rfl rfl rfl (by decide +kernel) ⟨by decide, by decide⟩) hK (hP.part (cx := wCx cI cQ ad tq ag lo ch al an sh wa pl (ru 0) (ru 1) (ru 2) row dn dy lv od sn) [15, 16, 17, 18, 19, 20, 21, 22, 23, 24, 25, 26, 27, 28, 29] rfl) rfl rfl rfl hl.1 rfl (Nat.le_of_ble_eq_true rfl) dL_law_239 ⟨show _ ≤ 600000 by omega, show _ ≤ 7302250 by omega⟩ ?_
      refine lv_aload_n hx hb dL_law_242 rfl (lv_at hl 2 rfl) ?_
      refine lv_aload_n hx hb dL_law_243 rfl (lv_at hl 0 rfl) ?_
      refine lv_iload_n hx hb dL_law_244 rfl (lv_at hl 3 rfl) ?_
      refine lv_iconst (v := 1) hx hb dL_law_245 (by decide) ?_
      refine lv_iadd hx hb dL_law_246 ?_
      refine W.eq (g2 := F0 m 247 ls [.int (nI (i + 1)), .ref b, .ref (bd 0), .int (sX5_share sh wa pl (xs (i + 1)))]) (by rw [show (1 : Int32) = nI 1 from rfl, nI_add]) ?_
      refine va_sld hx hb hX hbl hbA hS (vp_in_nI (n := i + 1) (by omega) (by omega)) dL_law_247 ?_
      refine W.eq (g2 := F0 m 248 ls [.int (xs (i + 1)), .ref (bd 0), .int (sX5_share sh wa pl (xs (i + 1)))]) (by rw [nI_clamp (show i + 1 < 2 ^ 31 by omega)]) ?_
      have hDc : va_D (fun q : Nat => s.heap.size ≤ q) (wMd cI cZ bd th tq ru sh pl wa dn kd ld tm pk ts wo io sn dy lv mlv mmt) := (hD.sub (ws' := wMd cI cZ bd th tq ru sh pl wa dn kd ld tm pk ts wo io sn dy lv mlv mmt) [0, 1, 2, 3, 4, 5, 6, 7, 8, 9, 10, 11, 12, 13, 14] (by decide) rfl)
      have hFc := cd_F hDc hS hA
      refine cd_wV (As := [.int (xs (i + 1))]) (b := (bd 0)) (ci := 6) (q := (RX6, TX6, 19)) (rest := [.int (sX5_share sh wa pl (xs (i + 1)))]) ⟨hx, hb, hml, hown, hts⟩ (kX6_share l dC dI cI cQ cZ bd th tq ru sh pl wa dn kd ld tm pk ts wo io sn dy lv mlv mmt (xs (i + 1)) H.size hLI.1) (cwV 1 hts gL_law_X6_share rfl rfl rfl (by decide +kernel) ⟨by decide, by decide⟩) hK (hP.sub (ws' := wMd cI cZ bd th tq ru sh pl wa dn kd ld tm pk ts wo io sn dy lv mlv mmt) [0, 1, 2, 3, 4, 5, 6, 7, 8, 9, 10, 11, 12, 13, 14] rfl) hDc hFc hS rfl rfl rfl hl.1 rfl (Nat.le_of_ble_eq_true rfl) dL_law_248 ⟨show _ ≤ 600000 by omega, show _ ≤ 7302250 by omega⟩ (fun H1 locs hP1 hD1 hk1 hS => ?_)
      obtain ⟨hP, hD⟩ := va_joinQ (X := wMd cI cZ bd th tq ru sh pl wa dn kd ld tm pk ts wo io sn dy lv mlv mmt ++ wCx cI cQ ad tq ag lo ch al an sh wa pl (ru 0) (ru 1) (ru 2) row dn dy lv od sn) (cx := wMd cI cZ bd th tq ru sh pl wa dn kd ld tm pk ts wo io sn dy lv mlv mmt) (wr := wCx cI cQ ad tq ag lo ch al an sh wa pl (ru 0) (ru 1) (ru 2) row dn dy lv od sn) (w1 := wMd cI cZ bd ((sX6_share sh pl wa (xs (i + 1))).2) tq ru sh pl wa dn kd ld tm pk ts wo io sn dy lv mlv mmt) hP hD [0, 1, 2, 3, 4, 5, 6, 7, 8, 9, 10, 11, 12, 13, 14] [15, 16, 17, 18, 19, 20, 21, 22, 23, 24, 25, 26, 27, 28, 29] rfl rfl (by decide) (by decide) hk1 hFc hP1 hD1
      have hP := hP.part (cx := wMd cI cZ bd ((sX6_share sh pl wa (xs (i + 1))).2) tq ru sh pl wa dn kd ld tm pk ts wo io sn dy lv mlv mmt ++ wCx cI cQ ad tq ag lo ch al an sh wa pl (ru 0) (ru 1) (ru 2) row dn dy lv od sn) [15, 16, 17, 18, 19, 20, 21, 22, 23, 24, 25, 26, 27, 28, 29, 0, 1, 2, 3, 4, 5, 6, 7, 8, 9, 10, 11, 12, 13, 14] rfl
      have hD := hD.part (cx := wMd cI cZ bd ((sX6_share sh pl wa (xs (i + 1))).2) tq ru sh pl wa dn kd ld tm pk ts wo io sn dy lv mlv mmt ++ wCx cI cQ ad tq ag lo ch al an sh wa pl (ru 0) (ru 1) (ru 2) row dn dy lv od sn) [15, 16, 17, 18, 19, 20, 21, 22, 23, 24, 25, 26, 27, 28, 29, 0, 1, 2, 3, 4, 5, 6, 7, 8, 9, 10, 11, 12, 13, 14] (by decide) rfl
      generalize H1 = H at hP hS ⊢
      have hP : va_P (dC, dI) vwCl ((wMd cI cZ bd ((sX6_share sh pl wa (xs (i + 1))).2) tq ru sh pl wa dn kd ld tm pk ts wo io sn dy lv mlv mmt ++ wCx cI cQ ad tq ag lo ch al an sh wa pl (ru 0) (ru 1) (ru 2) row dn dy lv od sn) ++ dpl L pd) H := hP
      have hD : va_D (fun q : Nat => s.heap.size ≤ q) ((wMd cI cZ bd ((sX6_share sh pl wa (xs (i + 1))).2) tq ru sh pl wa dn kd ld tm pk ts wo io sn dy lv mlv mmt ++ wCx cI cQ ad tq ag lo ch al an sh wa pl (ru 0) (ru 1) (ru 2) row dn dy lv od sn) ++ dpl L pd) := hD
      have ea := op_share hLI  (xs (i + 1))
      refine lv_icmp_eq (tgt := 700) hx hb dL_law_251 (by decide) (fun c_4 => ?_) (fun c_4 => ?_)
      · skip
        refine lv_iinc (v := nI (i + 7)) (lv' := [(3, .int (nI (i + 7))), (0, .ref b), (1, .ref (ad 0)), (2, .ref (bd 0))]) hx hb dL_law_700 hl (k := 3) rfl (by show nI i + nI 7 = _; rw [nI_add]) (by decide) rfl (fun ls hl => ?_)
        refine lv_goto (tgt := 18) hx hb dL_law_703 (by decide) ?_
        refine W.widen (k := cells + 1) (n := slots + 7) (by omega) (by omega) ?_
        exact ih (i + 7) (cells + 1) (slots + 7) tq ag lo ch al an sh wa pl ru row dn dy lv od sn L pd ((sX6_share sh pl wa (xs (i + 1))).2) kd ld tm pk ts wo io mlv mmt ad bd (by omega) (by omega) (by omega) (by omega) hLI _ _ hP hD hS ls (lv_sub hl [1, 2, 3, 0] rfl)
      · exact absurd ea c_4
    by_cases z4 : sel = 4
    · refine lv_tableIn (tgt := 256) hx hb dL_law_33 (off := 223) (by rw [z4] <;> decide) (by rw [z4] <;> decide) (by rw [z4] <;> decide +kernel) (by decide) ?_
      refine lv_aload_n hx hb dL_law_256 rfl (lv_at hl 1 rfl) ?_
      refine lv_aload_n hx hb dL_law_257 rfl (lv_at hl 0 rfl) ?_
      refine lv_iload_n hx hb dL_law_258 rfl (lv_at hl 3 rfl) ?_
      refine lv_iconst (v := 1) hx hb dL_law_259 (by decide) ?_
      refine lv_iadd hx hb dL_law_260 ?_
      refine W.eq (g2 := F0 m 261 ls [.int (nI (i + 1)), .ref b, .ref (ad 0)]) (by rw [show (1 : Int32) = nI 1 from rfl, nI_add]) ?_
      refine va_sld hx hb hX hbl hbA hS (vp_in_nI (n := i + 1) (by omega) (by omega)) dL_law_261 ?_
      refine W.eq (g2 := F0 m 262 ls [.int (xs (i + 1)), .ref (ad 0)]) (by rw [nI_clamp (show i + 1 < 2 ^ 31 by omega)]) ?_
      refine lv_aload_n hx hb dL_law_262 rfl (lv_at hl 0 rfl) ?_
      refine lv_iload_n hx hb dL_law_263 rfl (lv_at hl 3 rfl) ?_
      refine lv_iconst (v := 2) hx hb dL_law_264 (by decide) ?_
      refine lv_iadd hx hb dL_law_265 ?_
      refine W.eq (g2 := F0 m 266 ls [.int (nI (i + 2)), .ref b, .int (xs (i + 1)), .ref (ad 0)]) (by rw [show (2 : Int32) = nI 2 from rfl, nI_add]) ?_
      refine va_sld hx hb hX hbl hbA hS (vp_in_nI (n := i + 2) (by omega) (by omega)) dL_law_266 ?_
      refine W.eq (g2 := F0 m 267 ls [.int (xs (i + 2)), .int (xs (i + 1)), .ref (ad 0)]) (by rw [nI_clamp (show i + 2 < 2 ^ 31 by omega)]) ?_
      refine lv_aload_n hx hb dL_law_267 rfl (lv_at hl 0 rfl) ?_
      refine lv_iload_n hx hb dL_law_268 rfl (lv_at hl 3 rfl) ?_
      refine lv_iconst (v := 3) hx hb dL_law_269 (by decide) ?_
      refine lv_iadd hx hb dL_law_270 ?_
      refine W.eq (g2 := F0 m 271 ls [.int (nI (i + 3)), .ref b, .int (xs (i + 2)), .int (xs (i + 1)), .ref (ad 0)]) (by rw [show (3 : Int32) = nI 3 from rfl, nI_add]) ?_
      refine va_sld hx hb hX hbl hbA hS (vp_in_nI (n := i + 3) (by omega) (by omega)) dL_law_271 ?_
      refine W.eq (g2 := F0 m 272 ls [.int (xs (i + 3)), .int (xs (i + 2)), .int (xs (i + 1)), .ref (ad 0)]) (by rw [nI_clamp (show i + 3 < 2 ^ 31 by omega)]) ?_
      refine lv_aload_n hx hb dL_law_272 rfl (lv_at hl 0 rfl) ?_
      refine lv_iload_n hx hb dL_law_273 rfl (lv_at hl 3 rfl) ?_
      refine lv_iconst (v := 4) hx hb dL_law_274 (by decide) ?_
      refine lv_iadd hx hb dL_law_275 ?_
      refine W.eq (g2 := F0 m 276 ls [.int (nI (i + 4)), .ref b, .int (xs (i + 3)), .int (xs (i + 2)), .int (xs (i + 1)), .ref (ad 0)]) (by rw [show (4 : Int32) = nI 4 from rfl, nI_add]) ?_
      refine va_sld hx hb hX hbl hbA hS (vp_in_nI (n := i + 4) (by omega) (by omega)) dL_law_276 ?_
      refine W.eq (g2 := F0 m 277 ls [.int (xs (i + 4)), .int (xs (i + 3)), .int (xs (i + 2)), .int (xs (i + 1)), .ref (ad 0)]) (by rw [nI_clamp (show i + 4 < 2 ^ 31 by omega)]) ?_
      refine lv_aload_n hx hb dL_law_277 rfl (lv_at hl 0 rfl) ?_
      refine lv_iload_n hx hb dL_law_278 rfl (lv_at hl 3 rfl) ?_
      refine lv_iconst (v := 5) hx hb dL_law_279 (by decide) ?_
      refine lv_iadd hx hb dL_law_280 ?_
      refine W.eq (g2 := F0 m 281 ls [.int (nI (i + 5)), .ref b, .int (xs (i + 4)), .int (xs (i + 3)), .int (xs (i + 2)), .int (xs (i + 1)), .ref (ad 0)]) (by rw [show (5 : Int32) = nI 5 from rfl, nI_add]) ?_
      refine va_sld hx hb hX hbl hbA hS (vp_in_nI (n := i + 5) (by omega) (by omega)) dL_law_281 ?_
      refine W.eq (g2 := F0 m 282 ls [.int (xs (i + 5)), .int (xs (i + 4)), .int (xs (i + 3)), .int (xs (i + 2)), .int (xs (i + 1)), .ref (ad 0)]) (by rw [nI_clamp (show i + 5 < 2 ^ 31 by omega)]) ?_
      refine lv_aload_n hx hb dL_law_282 rfl (lv_at hl 0 rfl) ?_
      refine lv_iload_n hx hb dL_law_283 rfl (lv_at hl 3 rfl) ?_
      refine lv_bipush (v := 6) hx hb dL_law_284 (by decide) ?_
      refine lv_iadd hx hb dL_law_286 ?_
      refine W.eq (g2 := F0 m 287 ls [.int (nI (i + 6)), .ref b, .int (xs (i + 5)), .int (xs (i + 4)), .int (xs (i + 3)), .int (xs (i + 2)), .int (xs (i + 1)), .ref (ad 0)]) (by rw [show (6 : Int32) = nI 6 from rfl, nI_add]) ?_
      refine va_sld hx hb hX hbl hbA hS (vp_in_nI (n := i + 6) (by omega) (by omega)) dL_law_287 ?_
      refine W.eq (g2 := F0 m 288 ls [.int (xs (i + 6)), .int (xs (i + 5)), .int (xs (i + 4)), .int (xs (i + 3)), .int (xs (i + 2)), .int (xs (i + 1)), .ref (ad 0)]) (by rw [nI_clamp (show i + 6 < 2 ^ 31 by omega)]) ?_
      have hDc : va_D (fun q : Nat => s.heap.size ≤ q) (wCx cI cQ ad tq ag lo ch al an sh wa pl (ru 0) (ru 1) (ru 2) row dn dy lv od sn ++ dpl L pd) := (hD.part (cx := wCx cI cQ ad tq ag lo ch al an sh wa pl (ru 0) (ru 1) (ru 2) row dn dy lv od sn) [15, 16, 17, 18, 19, 20, 21, 22, 23, 24, 25, 26, 27, 28, 29] (by decide) rfl)
      have hFc := cd_F hDc hS hA
      refine cd_wVQ (As := [.int (xs (i + 1)), .int (xs (i + 2)), .int (xs (i + 3)), .int (xs (i + 4)), .int (xs (i + 5)), .int (xs (i + 6))]) (b := (ad 0)) (ci := 5) (q := (RX5, TX5, 5)) (rest := []) ⟨hx, hb, hml, hown, hts⟩ (kX5_duty l dC dI cI cQ cZ ad tq ag lo ch al an sh wa pl (ru 0) (ru 1) (ru 2) row dn dy lv od sn L pd (xs (i + 1)) (xs (i + 2)) (xs (i + 3)) (xs (i + 4)) (xs (i + 5)) (xs (i + 6)) H.size hLI.1.2.2.2.1) (cwV 6 hts gL_law_X5_duty rfl rfl rfl (by decide +kernel) ⟨by decide, by decide⟩) hK (hP.part (cx := wCx cI cQ ad tq ag lo ch al an sh wa pl (ru 0) (ru 1) (ru 2) row dn dy lv od sn) [15, 16, 17, 18, 19, 20, 21, 22, 23, 24, 25, 26, 27, 28, 29] rfl) hDc hFc hS rfl rfl rfl hl.1 rfl (Nat.le_of_ble_eq_true rfl) dL_law_288 ⟨show _ ≤ 600000 by omega, show _ ≤ 7302250 by omega⟩ (fun q9 H1 locs hP1 hD1 hk1 hS => ?_)
      obtain ⟨hP, hD⟩ := va_joinP (X := wMd cI cZ bd th tq ru sh pl wa dn kd ld tm pk ts wo io sn dy lv mlv mmt ++ wCx cI cQ ad tq ag lo ch al an sh wa pl (ru 0) (ru 1) (ru 2) row dn dy lv od sn) (cx := wCx cI cQ ad tq ag lo ch al an sh wa pl (ru 0) (ru 1) (ru 2) row dn dy lv od sn) (wr := wMd cI cZ bd th tq ru sh pl wa dn kd ld tm pk ts wo io sn dy lv mlv mmt) (rx := wCx cI cQ ad tq ag lo ch al an sh wa pl (ru 0) (ru 1) (ru 2) ((sX5_duty row dn L pd (xs (i + 1)) (xs (i + 2)) (xs (i + 3)) (xs (i + 4)) (xs (i + 5)) (xs (i + 6)) q9).2.1) ((sX5_duty row dn L pd (xs (i + 1)) (xs (i + 2)) (xs (i + 3)) (xs (i + 4)) (xs (i + 5)) (xs (i + 6)) q9).2.2.1) dy lv od sn) hP hD [15, 16, 17, 18, 19, 20, 21, 22, 23, 24, 25, 26, 27, 28, 29] [0, 1, 2, 3, 4, 5, 6, 7, 8, 9, 10, 11, 12, 13, 14] rfl rfl (by decide) (by decide) hk1 hFc hP1 hD1
      generalize H1 = H at hP hS ⊢
      have hq9 := cd_fresh9 (L := L) (q := q9) hD
      have hP : va_P (dC, dI) vwCl ((wMd cI cZ bd th tq ru sh pl wa dn kd ld tm pk ts wo io sn dy lv mlv mmt ++ wCx cI cQ ad tq ag lo ch al an sh wa pl (ru 0) (ru 1) (ru 2) ((sX5_duty row dn L pd (xs (i + 1)) (xs (i + 2)) (xs (i + 3)) (xs (i + 4)) (xs (i + 5)) (xs (i + 6)) q9).2.1) ((sX5_duty row dn L pd (xs (i + 1)) (xs (i + 2)) (xs (i + 3)) (xs (i + 4)) (xs (i + 5)) (xs (i + 6)) q9).2.2.1) dy lv od sn) ++ dpl ((sX5_duty row dn L pd (xs (i + 1)) (xs (i + 2)) (xs (i + 3)) (xs (i + 4)) (xs (i + 5)) (xs (i + 6)) q9).2.2.2.1) ((sX5_duty row dn L pd (xs (i + 1)) (xs (i + 2)) (xs (i + 3)) (xs (i + 4)) (xs (i + 5)) (xs (i + 6)) q9).2.2.2.2)) H := hP
      have hD : va_D (fun q : Nat => s.heap.size ≤ q) ((wMd cI cZ bd th tq ru sh pl wa dn kd ld tm pk ts wo io sn dy lv mlv mmt ++ wCx cI cQ ad tq ag lo ch al an sh wa pl (ru 0) (ru 1) (ru 2) ((sX5_duty row dn L pd (xs (i + 1)) (xs (i + 2)) (xs (i + 3)) (xs (i + 4)) (xs (i + 5)) (xs (i + 6)) q9).2.1) ((sX5_duty row dn L pd (xs (i + 1)) (xs (i + 2)) (xs (i + 3)) (xs (i + 4)) (xs (i + 5)) (xs (i + 6)) q9).2.2.1) dy lv od sn) ++ dpl ((sX5_duty row dn L pd (xs (i + 1)) (xs (i + 2)) (xs (i + 3)) (xs (i + 4)) (xs (i + 5)) (xs (i + 6)) q9).2.2.2.1) ((sX5_duty row dn L pd (xs (i + 1)) (xs (i + 2)) (xs (i + 3)) (xs (i + 4)) (xs (i + 5)) (xs (i + 6)) q9).2.2.2.2)) := hD
      refine lv_aload_n hx hb dL_law_291 rfl (lv_at hl 2 rfl) ?_
      refine lv_aload_n hx hb dL_law_292 rfl (lv_at hl 0 rfl) ?_
      refine lv_iload_n hx hb dL_law_293 rfl (lv_at hl 3 rfl) ?_
      refine lv_iconst (v := 1) hx hb dL_law_294 (by decide) ?_
      refine lv_iadd hx hb dL_law_295 ?_
      refine W.eq (g2 := F0 m 296 ls [.int (nI (i + 1)), .ref b, .ref (bd 0), .int ((sX5_duty row dn L pd (xs (i + 1)) (xs (i + 2)) (xs (i + 3)) (xs (i + 4)) (xs (i + 5)) (xs (i + 6)) q9).1)]) (by rw [show (1 : Int32) = nI 1 from rfl, nI_add]) ?_
      refine va_sld hx hb hX hbl hbA hS (vp_in_nI (n := i + 1) (by omega) (by omega)) dL_law_296 ?_
      refine W.eq (g2 := F0 m 297 ls [.int (xs (i + 1)), .ref (bd 0), .int ((sX5_duty row dn L pd (xs (i + 1)) (xs (i + 2)) (xs (i + 3)) (xs (i + 4)) (xs (i + 5)) (xs (i + 6)) q9).1)]) (by rw [nI_clamp (show i + 1 < 2 ^ 31 by omega)]) ?_
      refine lv_aload_n hx hb dL_law_297 rfl (lv_at hl 0 rfl) ?_
      refine lv_iload_n hx hb dL_law_298 rfl (lv_at hl 3 rfl) ?_
      refine lv_iconst (v := 2) hx hb dL_law_299 (by decide) ?_
      refine lv_iadd hx hb dL_law_300 ?_
      refine W.eq (g2 := F0 m 301 ls [.int (nI (i + 2)), .ref b, .int (xs (i + 1)), .ref (bd 0), .int ((sX5_duty row dn L pd (xs (i + 1)) (xs (i + 2)) (xs (i + 3)) (xs (i + 4)) (xs (i + 5)) (xs (i + 6)) q9).1)]) (by rw [show (2 : Int32) = nI 2 from rfl, nI_add]) ?_
      refine va_sld hx hb hX hbl hbA hS (vp_in_nI (n := i + 2) (by omega) (by omega)) dL_law_301 ?_
      refine W.eq (g2 := F0 m 302 ls [.int (xs (i + 2)), .int (xs (i + 1)), .ref (bd 0), .int ((sX5_duty row dn L pd (xs (i + 1)) (xs (i + 2)) (xs (i + 3)) (xs (i + 4)) (xs (i + 5)) (xs (i + 6)) q9).1)]) (by rw [nI_clamp (show i + 2 < 2 ^ 31 by omega)]) ?_
      refine lv_aload_n hx hb dL_law_302 rfl (lv_at hl 0 rfl) ?_
      refine lv_iload_n hx hb dL_law_303 rfl (lv_at hl 3 rfl) ?_
      refine lv_iconst (v := 3) hx hb dL_law_304 (by decide) ?_
      refine lv_iadd hx hb dL_law_305 ?_
      refine W.eq (g2 := F0 m 306 ls [.int (nI (i + 3)), .ref b, .int (xs (i + 2)), .int (xs (i + 1)), .ref (bd 0), .int ((sX5_duty row dn L pd (xs (i + 1)) (xs (i + 2)) (xs (i + 3)) (xs (i + 4)) (xs (i + 5)) (xs (i + 6)) q9).1)]) (by rw [show (3 : Int32) = nI 3 from rfl, nI_add]) ?_
      refine va_sld hx hb hX hbl hbA hS (vp_in_nI (n := i + 3) (by omega) (by omega)) dL_law_306 ?_
      refine W.eq (g2 := F0 m 307 ls [.int (xs (i + 3)), .int (xs (i + 2)), .int (xs (i + 1)), .ref (bd 0), .int ((sX5_duty row dn L pd (xs (i + 1)) (xs (i + 2)) (xs (i + 3)) (xs (i + 4)) (xs (i + 5)) (xs (i + 6)) q9).1)]) (by rw [nI_clamp (show i + 3 < 2 ^ 31 by omega)]) ?_
      refine lv_aload_n hx hb dL_law_307 rfl (lv_at hl 0 rfl) ?_
      refine lv_iload_n hx hb dL_law_308 rfl (lv_at hl 3 rfl) ?_
      refine lv_iconst (v := 4) hx hb dL_law_309 (by decide) ?_
      refine lv_iadd hx hb dL_law_310 ?_
      refine W.eq (g2 := F0 m 311 ls [.int (nI (i + 4)), .ref b, .int (xs (i + 3)), .int (xs (i + 2)), .int (xs (i + 1)), .ref (bd 0), .int ((sX5_duty row dn L pd (xs (i + 1)) (xs (i + 2)) (xs (i + 3)) (xs (i + 4)) (xs (i + 5)) (xs (i + 6)) q9).1)]) (by rw [show (4 : Int32) = nI 4 from rfl, nI_add]) ?_
      refine va_sld hx hb hX hbl hbA hS (vp_in_nI (n := i + 4) (by omega) (by omega)) dL_law_311 ?_
      refine W.eq (g2 := F0 m 312 ls [.int (xs (i + 4)), .int (xs (i + 3)), .int (xs (i + 2)), .int (xs (i + 1)), .ref (bd 0), .int ((sX5_duty row dn L pd (xs (i + 1)) (xs (i + 2)) (xs (i + 3)) (xs (i + 4)) (xs (i + 5)) (xs (i + 6)) q9).1)]) (by rw [nI_clamp (show i + 4 < 2 ^ 31 by omega)]) ?_
      refine lv_aload_n hx hb dL_law_312 rfl (lv_at hl 0 rfl) ?_
      refine lv_iload_n hx hb dL_law_313 rfl (lv_at hl 3 rfl) ?_
      refine lv_iconst (v := 5) hx hb dL_law_314 (by decide) ?_
      refine lv_iadd hx hb dL_law_315 ?_
      refine W.eq (g2 := F0 m 316 ls [.int (nI (i + 5)), .ref b, .int (xs (i + 4)), .int (xs (i + 3)), .int (xs (i + 2)), .int (xs (i + 1)), .ref (bd 0), .int ((sX5_duty row dn L pd (xs (i + 1)) (xs (i + 2)) (xs (i + 3)) (xs (i + 4)) (xs (i + 5)) (xs (i + 6)) q9).1)]) (by rw [show (5 : Int32) = nI 5 from rfl, nI_add]) ?_
      refine va_sld hx hb hX hbl hbA hS (vp_in_nI (n := i + 5) (by omega) (by omega)) dL_law_316 ?_
      refine W.eq (g2 := F0 m 317 ls [.int (xs (i + 5)), .int (xs (i + 4)), .int (xs (i + 3)), .int (xs (i + 2)), .int (xs (i + 1)), .ref (bd 0), .int ((sX5_duty row dn L pd (xs (i + 1)) (xs (i + 2)) (xs (i + 3)) (xs (i + 4)) (xs (i + 5)) (xs (i + 6)) q9).1)]) (by rw [nI_clamp (show i + 5 < 2 ^ 31 by omega)]) ?_
      refine lv_aload_n hx hb dL_law_317 rfl (lv_at hl 0 rfl) ?_
      refine lv_iload_n hx hb dL_law_318 rfl (lv_at hl 3 rfl) ?_
      refine lv_bipush (v := 6) hx hb dL_law_319 (by decide) ?_
      refine lv_iadd hx hb dL_law_321 ?_
      refine W.eq (g2 := F0 m 322 ls [.int (nI (i + 6)), .ref b, .int (xs (i + 5)), .int (xs (i + 4)), .int (xs (i + 3)), .int (xs (i + 2)), .int (xs (i + 1)), .ref (bd 0), .int ((sX5_duty row dn L pd (xs (i + 1)) (xs (i + 2)) (xs (i + 3)) (xs (i + 4)) (xs (i + 5)) (xs (i + 6)) q9).1)]) (by rw [show (6 : Int32) = nI 6 from rfl, nI_add]) ?_
      refine va_sld hx hb hX hbl hbA hS (vp_in_nI (n := i + 6) (by omega) (by omega)) dL_law_322 ?_
      refine W.eq (g2 := F0 m 323 ls [.int (xs (i + 6)), .int (xs (i + 5)), .int (xs (i + 4)), .int (xs (i + 3)), .int (xs (i + 2)), .int (xs (i + 1)), .ref (bd 0), .int ((sX5_duty row dn L pd (xs (i + 1)) (xs (i + 2)) (xs (i + 3)) (xs (i + 4)) (xs (i + 5)) (xs (i + 6)) q9).1)]) (by rw [nI_clamp (show i + 6 < 2 ^ 31 by omega)]) ?_
      have hDc : va_D (fun q : Nat => s.heap.size ≤ q) (wMd cI cZ bd th tq ru sh pl wa dn kd ld tm pk ts wo io sn dy lv mlv mmt) := (hD.sub (ws' := wMd cI cZ bd th tq ru sh pl wa dn kd ld tm pk ts wo io sn dy lv mlv mmt) [0, 1, 2, 3, 4, 5, 6, 7, 8, 9, 10, 11, 12, 13, 14] (by decide) rfl)
      have hFc := cd_F hDc hS hA
      refine cd_wV (As := [.int (xs (i + 1)), .int (xs (i + 2)), .int (xs (i + 3)), .int (xs (i + 4)), .int (xs (i + 5)), .int (xs (i + 6))]) (b := (bd 0)) (ci := 6) (q := (RX6, TX6, 19)) (rest := [.int ((sX5_duty row dn L pd (xs (i + 1)) (xs (i + 2)) (xs (i + 3)) (xs (i + 4)) (xs (i + 5)) (xs (i + 6)) q9).1)]) ⟨hx, hb, hml, hown, hts⟩ (kX6_duty l dC dI cI cQ cZ bd th tq ru sh pl wa dn kd ld tm pk ts wo io sn dy lv mlv mmt (xs (i + 1)) (xs (i + 2)) (xs (i + 3)) (xs (i + 4)) (xs (i + 5)) (xs (i + 6)) H.size hLI.1) (cwV 6 hts gL_law_X6_duty rfl rfl rfl (by decide +kernel) ⟨by decide, by decide⟩) hK (hP.sub (ws' := wMd cI cZ bd th tq ru sh pl wa dn kd ld tm pk ts wo io sn dy lv mlv mmt) [0, 1, 2, 3, 4, 5, 6, 7, 8, 9, 10, 11, 12, 13, 14] rfl) hDc hFc hS rfl rfl rfl hl.1 rfl (Nat.le_of_ble_eq_true rfl) dL_law_323 ⟨show _ ≤ 600000 by omega, show _ ≤ 7302250 by omega⟩ (fun H1 locs hP1 hD1 hk1 hS => ?_)
      obtain ⟨hP, hD⟩ := va_joinQ (X := wMd cI cZ bd th tq ru sh pl wa dn kd ld tm pk ts wo io sn dy lv mlv mmt ++ wCx cI cQ ad tq ag lo ch al an sh wa pl (ru 0) (ru 1) (ru 2) ((sX5_duty row dn L pd (xs (i + 1)) (xs (i + 2)) (xs (i + 3)) (xs (i + 4)) (xs (i + 5)) (xs (i + 6)) q9).2.1) ((sX5_duty row dn L pd (xs (i + 1)) (xs (i + 2)) (xs (i + 3)) (xs (i + 4)) (xs (i + 5)) (xs (i + 6)) q9).2.2.1) dy lv od sn) (cx := wMd cI cZ bd th tq ru sh pl wa dn kd ld tm pk ts wo io sn dy lv mlv mmt) (wr := wCx cI cQ ad tq ag lo ch al an sh wa pl (ru 0) (ru 1) (ru 2) ((sX5_duty row dn L pd (xs (i + 1)) (xs (i + 2)) (xs (i + 3)) (xs (i + 4)) (xs (i + 5)) (xs (i + 6)) q9).2.1) ((sX5_duty row dn L pd (xs (i + 1)) (xs (i + 2)) (xs (i + 3)) (xs (i + 4)) (xs (i + 5)) (xs (i + 6)) q9).2.2.1) dy lv od sn) (w1 := wMd cI cZ bd ((sX6_duty dn kd ld tm pk ts wo io (xs (i + 1)) (xs (i + 2)) (xs (i + 3)) (xs (i + 4)) (xs (i + 5)) (xs (i + 6))).2.1) tq ru sh pl wa ((sX6_duty dn kd ld tm pk ts wo io (xs (i + 1)) (xs (i + 2)) (xs (i + 3)) (xs (i + 4)) (xs (i + 5)) (xs (i + 6))).2.2.2.2.2.2.2.2.2) ((sX6_duty dn kd ld tm pk ts wo io (xs (i + 1)) (xs (i + 2)) (xs (i + 3)) (xs (i + 4)) (xs (i + 5)) (xs (i + 6))).2.2.1) ((sX6_duty dn kd ld tm pk ts wo io (xs (i + 1)) (xs (i + 2)) (xs (i + 3)) (xs (i + 4)) (xs (i + 5)) (xs (i + 6))).2.2.2.1) ((sX6_duty dn kd ld tm pk ts wo io (xs (i + 1)) (xs (i + 2)) (xs (i + 3)) (xs (i + 4)) (xs (i + 5)) (xs (i + 6))).2.2.2.2.1) ((sX6_duty dn kd ld tm pk ts wo io (xs (i + 1)) (xs (i + 2)) (xs (i + 3)) (xs (i + 4)) (xs (i + 5)) (xs (i + 6))).2.2.2.2.2.1) ((sX6_duty dn kd ld tm pk ts wo io (xs (i + 1)) (xs (i + 2)) (xs (i + 3)) (xs (i + 4)) (xs (i + 5)) (xs (i + 6))).2.2.2.2.2.2.1) ((sX6_duty dn kd ld tm pk ts wo io (xs (i + 1)) (xs (i + 2)) (xs (i + 3)) (xs (i + 4)) (xs (i + 5)) (xs (i + 6))).2.2.2.2.2.2.2.1) ((sX6_duty dn kd ld tm pk ts wo io (xs (i + 1)) (xs (i + 2)) (xs (i + 3)) (xs (i + 4)) (xs (i + 5)) (xs (i + 6))).2.2.2.2.2.2.2.2.1) sn dy lv mlv mmt) hP hD [0, 1, 2, 3, 4, 5, 6, 7, 8, 9, 10, 11, 12, 13, 14] [15, 16, 17, 18, 19, 20, 21, 22, 23, 24, 25, 26, 27, 28, 29] rfl rfl (by decide) (by decide) hk1 hFc hP1 hD1
      have hP := hP.part (cx := wMd cI cZ bd ((sX6_duty dn kd ld tm pk ts wo io (xs (i + 1)) (xs (i + 2)) (xs (i + 3)) (xs (i + 4)) (xs (i + 5)) (xs (i + 6))).2.1) tq ru sh pl wa ((sX6_duty dn kd ld tm pk ts wo io (xs (i + 1)) (xs (i + 2)) (xs (i + 3)) (xs (i + 4)) (xs (i + 5)) (xs (i + 6))).2.2.2.2.2.2.2.2.2) ((sX6_duty dn kd ld tm pk ts wo io (xs (i + 1)) (xs (i + 2)) (xs (i + 3)) (xs (i + 4)) (xs (i + 5)) (xs (i + 6))).2.2.1) ((sX6_duty dn kd ld tm pk ts wo io (xs (i + 1)) (xs (i + 2)) (xs (i + 3)) (xs (i + 4)) (xs (i + 5)) (xs (i + 6))).2.2.2.1) ((sX6_duty dn kd ld tm pk ts wo io (xs (i + 1)) (xs (i + 2)) (xs (i + 3)) (xs (i + 4)) (xs (i + 5)) (xs (i + 6))).2.2.2.2.1) ((sX6_duty dn kd ld tm pk ts wo io (xs (i + 1)) (xs (i + 2)) (xs (i + 3)) (xs (i + 4)) (xs (i + 5)) (xs (i + 6))).2.2.2.2.2.1) ((sX6_duty dn kd ld tm pk ts wo io (xs (i + 1)) (xs (i + 2)) (xs (i + 3)) (xs (i + 4)) (xs (i + 5)) (xs (i + 6))).2.2.2.2.2.2.1) ((sX6_duty dn kd ld tm pk ts wo io (xs (i + 1)) (xs (i + 2)) (xs (i + 3)) (xs (i + 4)) (xs (i + 5)) (xs (i + 6))).2.2.2.2.2.2.2.1) ((sX6_duty dn kd ld tm pk ts wo io (xs (i + 1)) (xs (i + 2)) (xs (i + 3)) (xs (i + 4)) (xs (i + 5)) (xs (i + 6))).2.2.2.2.2.2.2.2.1) sn dy lv mlv mmt ++ wCx cI cQ ad tq ag lo ch al an sh wa pl (ru 0) (ru 1) (ru 2) ((sX5_duty row dn L pd (xs (i + 1)) (xs (i + 2)) (xs (i + 3)) (xs (i + 4)) (xs (i + 5)) (xs (i + 6)) q9).2.1) ((sX5_duty row dn L pd (xs (i + 1)) (xs (i + 2)) (xs (i + 3)) (xs (i + 4)) (xs (i + 5)) (xs (i + 6)) q9).2.2.1) dy lv od sn) [15, 16, 17, 18, 19, 20, 21, 22, 23, 24, 25, 26, 27, 28, 29, 0, 1, 2, 3, 4, 5, 6, 7, 8, 9, 10, 11, 12, 13, 14] rfl
      have hD := hD.part (cx := wMd cI cZ bd ((sX6_duty dn kd ld tm pk ts wo io (xs (i + 1)) (xs (i + 2)) (xs (i + 3)) (xs (i + 4)) (xs (i + 5)) (xs (i + 6))).2.1) tq ru sh pl wa ((sX6_duty dn kd ld tm pk ts wo io (xs (i + 1)) (xs (i + 2)) (xs (i + 3)) (xs (i + 4)) (xs (i + 5)) (xs (i + 6))).2.2.2.2.2.2.2.2.2) ((sX6_duty dn kd ld tm pk ts wo io (xs (i + 1)) (xs (i + 2)) (xs (i + 3)) (xs (i + 4)) (xs (i + 5)) (xs (i + 6))).2.2.1) ((sX6_duty dn kd ld tm pk ts wo io (xs (i + 1)) (xs (i + 2)) (xs (i + 3)) (xs (i + 4)) (xs (i + 5)) (xs (i + 6))).2.2.2.1) ((sX6_duty dn kd ld tm pk ts wo io (xs (i + 1)) (xs (i + 2)) (xs (i + 3)) (xs (i + 4)) (xs (i + 5)) (xs (i + 6))).2.2.2.2.1) ((sX6_duty dn kd ld tm pk ts wo io (xs (i + 1)) (xs (i + 2)) (xs (i + 3)) (xs (i + 4)) (xs (i + 5)) (xs (i + 6))).2.2.2.2.2.1) ((sX6_duty dn kd ld tm pk ts wo io (xs (i + 1)) (xs (i + 2)) (xs (i + 3)) (xs (i + 4)) (xs (i + 5)) (xs (i + 6))).2.2.2.2.2.2.1) ((sX6_duty dn kd ld tm pk ts wo io (xs (i + 1)) (xs (i + 2)) (xs (i + 3)) (xs (i + 4)) (xs (i + 5)) (xs (i + 6))).2.2.2.2.2.2.2.1) ((sX6_duty dn kd ld tm pk ts wo io (xs (i + 1)) (xs (i + 2)) (xs (i + 3)) (xs (i + 4)) (xs (i + 5)) (xs (i + 6))).2.2.2.2.2.2.2.2.1) sn dy lv mlv mmt ++ wCx cI cQ ad tq ag lo ch al an sh wa pl (ru 0) (ru 1) (ru 2) ((sX5_duty row dn L pd (xs (i + 1)) (xs (i + 2)) (xs (i + 3)) (xs (i + 4)) (xs (i + 5)) (xs (i + 6)) q9).2.1) ((sX5_duty row dn L pd (xs (i + 1)) (xs (i + 2)) (xs (i + 3)) (xs (i + 4)) (xs (i + 5)) (xs (i + 6)) q9).2.2.1) dy lv od sn) [15, 16, 17, 18, 19, 20, 21, 22, 23, 24, 25, 26, 27, 28, 29, 0, 1, 2, 3, 4, 5, 6, 7, 8, 9, 10, 11, 12, 13, 14] (by decide) rfl
      generalize H1 = H at hP hS ⊢
      have hP : va_P (dC, dI) vwCl ((wMd cI cZ bd ((sX6_duty dn kd ld tm pk ts wo io (xs (i + 1)) (xs (i + 2)) (xs (i + 3)) (xs (i + 4)) (xs (i + 5)) (xs (i + 6))).2.1) tq ru sh pl wa ((sX6_duty dn kd ld tm pk ts wo io (xs (i + 1)) (xs (i + 2)) (xs (i + 3)) (xs (i + 4)) (xs (i + 5)) (xs (i + 6))).2.2.2.2.2.2.2.2.2) ((sX6_duty dn kd ld tm pk ts wo io (xs (i + 1)) (xs (i + 2)) (xs (i + 3)) (xs (i + 4)) (xs (i + 5)) (xs (i + 6))).2.2.1) ((sX6_duty dn kd ld tm pk ts wo io (xs (i + 1)) (xs (i + 2)) (xs (i + 3)) (xs (i + 4)) (xs (i + 5)) (xs (i + 6))).2.2.2.1) ((sX6_duty dn kd ld tm pk ts wo io (xs (i + 1)) (xs (i + 2)) (xs (i + 3)) (xs (i + 4)) (xs (i + 5)) (xs (i + 6))).2.2.2.2.1) ((sX6_duty dn kd ld tm pk ts wo io (xs (i + 1)) (xs (i + 2)) (xs (i + 3)) (xs (i + 4)) (xs (i + 5)) (xs (i + 6))).2.2.2.2.2.1) ((sX6_duty dn kd ld tm pk ts wo io (xs (i + 1)) (xs (i + 2)) (xs (i + 3)) (xs (i + 4)) (xs (i + 5)) (xs (i + 6))).2.2.2.2.2.2.1) ((sX6_duty dn kd ld tm pk ts wo io (xs (i + 1)) (xs (i + 2)) (xs (i + 3)) (xs (i + 4)) (xs (i + 5)) (xs (i + 6))).2.2.2.2.2.2.2.1) ((sX6_duty dn kd ld tm pk ts wo io (xs (i + 1)) (xs (i + 2)) (xs (i + 3)) (xs (i + 4)) (xs (i + 5)) (xs (i + 6))).2.2.2.2.2.2.2.2.1) sn dy lv mlv mmt ++ wCx cI cQ ad tq ag lo ch al an sh wa pl (ru 0) (ru 1) (ru 2) ((sX5_duty row dn L pd (xs (i + 1)) (xs (i + 2)) (xs (i + 3)) (xs (i + 4)) (xs (i + 5)) (xs (i + 6)) q9).2.1) ((sX5_duty row dn L pd (xs (i + 1)) (xs (i + 2)) (xs (i + 3)) (xs (i + 4)) (xs (i + 5)) (xs (i + 6)) q9).2.2.1) dy lv od sn) ++ dpl ((sX5_duty row dn L pd (xs (i + 1)) (xs (i + 2)) (xs (i + 3)) (xs (i + 4)) (xs (i + 5)) (xs (i + 6)) q9).2.2.2.1) ((sX5_duty row dn L pd (xs (i + 1)) (xs (i + 2)) (xs (i + 3)) (xs (i + 4)) (xs (i + 5)) (xs (i + 6)) q9).2.2.2.2)) H := hP
      have hD : va_D (fun q : Nat => s.heap.size ≤ q) ((wMd cI cZ bd ((sX6_duty dn kd ld tm pk ts wo io (xs (i + 1)) (xs (i + 2)) (xs (i + 3)) (xs (i + 4)) (xs (i + 5)) (xs (i + 6))).2.1) tq ru sh pl wa ((sX6_duty dn kd ld tm pk ts wo io (xs (i + 1)) (xs (i + 2)) (xs (i + 3)) (xs (i + 4)) (xs (i + 5)) (xs (i + 6))).2.2.2.2.2.2.2.2.2) ((sX6_duty dn kd ld tm pk ts wo io (xs (i + 1)) (xs (i + 2)) (xs (i + 3)) (xs (i + 4)) (xs (i + 5)) (xs (i + 6))).2.2.1) ((sX6_duty dn kd ld tm pk ts wo io (xs (i + 1)) (xs (i + 2)) (xs (i + 3)) (xs (i + 4)) (xs (i + 5)) (xs (i + 6))).2.2.2.1) ((sX6_duty dn kd ld tm pk ts wo io (xs (i + 1)) (xs (i + 2)) (xs (i + 3)) (xs (i + 4)) (xs (i + 5)) (xs (i + 6))).2.2.2.2.1) ((sX6_duty dn kd ld tm pk ts wo io (xs (i + 1)) (xs (i + 2)) (xs (i + 3)) (xs (i + 4)) (xs (i + 5)) (xs (i + 6))).2.2.2.2.2.1) ((sX6_duty dn kd ld tm pk ts wo io (xs (i + 1)) (xs (i + 2)) (xs (i + 3)) (xs (i + 4)) (xs (i + 5)) (xs (i + 6))).2.2.2.2.2.2.1) ((sX6_duty dn kd ld tm pk ts wo io (xs (i + 1)) (xs (i + 2)) (xs (i + 3)) (xs (i + 4)) (xs (i + 5)) (xs (i + 6))).2.2.2.2.2.2.2.1) ((sX6_duty dn kd ld tm pk ts wo io (xs (i + 1)) (xs (i + 2)) (xs (i + 3)) (xs (i + 4)) (xs (i + 5)) (xs (i + 6))).2.2.2.2.2.2.2.2.1) sn dy lv mlv mmt ++ wCx cI cQ ad tq ag lo ch al an sh wa pl (ru 0) (ru 1) (ru 2) ((sX5_duty row dn L pd (xs (i + 1)) (xs (i + 2)) (xs (i + 3)) (xs (i + 4)) (xs (i + 5)) (xs (i + 6)) q9).2.1) ((sX5_duty row dn L pd (xs (i + 1)) (xs (i + 2)) (xs (i + 3)) (xs (i + 4)) (xs (i + 5)) (xs (i + 6)) q9).2.2.1) dy lv od sn) ++ dpl ((sX5_duty row dn L pd (xs (i + 1)) (xs (i + 2)) (xs (i + 3)) (xs (i + 4)) (xs (i + 5)) (xs (i + 6)) q9).2.2.2.1) ((sX5_duty row dn L pd (xs (i + 1)) (xs (i + 2)) (xs (i + 3)) (xs (i + 4)) (xs (i + 5)) (xs (i + 6)) q9).2.2.2.2)) := hD
      obtain ⟨ea, e1, hLI2⟩ := op_duty hLI  (xs (i + 1)) (xs (i + 2)) (xs (i + 3)) (xs (i + 4)) (xs (i + 5)) (xs (i + 6)) q9 hq9
      refine lv_icmp_eq (tgt := 700) hx hb dL_law_326 (by decide) (fun c_5 => ?_) (fun c_5 => ?_)
      · skip
        rw [e1] at hP hD
        refine lv_iinc (v := nI (i + 7)) (lv' := [(3, .int (nI (i + 7))), (0, .ref b), (1, .ref (ad 0)), (2, .ref (bd 0))]) hx hb dL_law_700 hl (k := 3) rfl (by show nI i + nI 7 = _; rw [nI_add]) (by decide) rfl (fun ls hl => ?_)
        refine lv_goto (tgt := 18) hx hb dL_law_703 (by decide) ?_
        exact ih (i + 7) (cells + 1) (slots + 7) tq ag lo ch al an sh wa pl ru ((sX5_duty row dn L pd (xs (i + 1)) (xs (i + 2)) (xs (i + 3)) (xs (i + 4)) (xs (i + 5)) (xs (i + 6)) q9).2.1) ((sX6_duty dn kd ld tm pk ts wo io (xs (i + 1)) (xs (i + 2)) (xs (i + 3)) (xs (i + 4)) (xs (i + 5)) (xs (i + 6))).2.2.2.2.2.2.2.2.2) dy lv od sn ((sX5_duty row dn L pd (xs (i + 1)) (xs (i + 2)) (xs (i + 3)) (xs (i + 4)) (xs (i + 5)) (xs (i + 6)) q9).2.2.2.1) ((sX5_duty row dn L pd (xs (i + 1)) (xs (i + 2)) (xs (i + 3)) (xs (i + 4)) (xs (i + 5)) (xs (i + 6)) q9).2.2.2.2) ((sX6_duty dn kd ld tm pk ts wo io (xs (i + 1)) (xs (i + 2)) (xs (i + 3)) (xs (i + 4)) (xs (i + 5)) (xs (i + 6))).2.1) ((sX6_duty dn kd ld tm pk ts wo io (xs (i + 1)) (xs (i + 2)) (xs (i + 3)) (xs (i + 4)) (xs (i + 5)) (xs (i + 6))).2.2.1) ((sX6_duty dn kd ld tm pk ts wo io (xs (i + 1)) (xs (i + 2)) (xs (i + 3)) (xs (i + 4)) (xs (i + 5)) (xs (i + 6))).2.2.2.1) ((sX6_duty dn kd ld tm pk ts wo io (xs (i + 1)) (xs (i + 2)) (xs (i + 3)) (xs (i + 4)) (xs (i + 5)) (xs (i + 6))).2.2.2.2.1) ((sX6_duty dn kd ld tm pk ts wo io (xs (i + 1)) (xs (i + 2)) (xs (i + 3)) (xs (i + 4)) (xs (i + 5)) (xs (i + 6))).2.2.2.2.2.1) ((sX6_duty dn kd ld tm pk ts wo io (xs (i + 1)) (xs (i + 2)) (xs (i + 3)) (xs (i + 4)) (xs (i + 5)) (xs (i + 6))).2.2.2.2.2.2.1) ((sX6_duty dn kd ld tm pk ts wo io (xs (i + 1)) (xs (i + 2)) (xs (i + 3)) (xs (i + 4)) (xs (i + 5)) (xs (i + 6))).2.2.2.2.2.2.2.1) ((sX6_duty dn kd ld tm pk ts wo io (xs (i + 1)) (xs (i + 2)) (xs (i + 3)) (xs (i + 4)) (xs (i + 5)) (xs (i + 6))).2.2.2.2.2.2.2.2.1) mlv mmt ad bd (by omega) (by omega) (by omega) (by omega) hLI2 _ _ hP hD hS ls (lv_sub hl [1, 2, 3, 0] rfl)
      · exact absurd ea c_5
    by_cases z5 : sel = 5
    · refine lv_tableIn (tgt := 331) hx hb dL_law_33 (off := 298) (by rw [z5] <;> decide) (by rw [z5] <;> decide) (by rw [z5] <;> decide +kernel) (by decide) ?_
      refine lv_aload_n hx hb dL_law_331 rfl (lv_at hl 1 rfl) ?_
      refine lv_aload_n hx hb dL_law_332 rfl (lv_at hl 0 rfl) ?_
      refine lv_iload_n hx hb dL_law_333 rfl (lv_at hl 3 rfl) ?_
      refine lv_iconst (v := 1) hx hb dL_law_334 (by decide) ?_
      refine lv_iadd hx hb dL_law_335 ?_
      refine W.eq (g2 := F0 m 336 ls [.int (nI (i + 1)), .ref b, .ref (ad 0)]) (by rw [show (1 : Int32) = nI 1 from rfl, nI_add]) ?_
      refine va_sld hx hb hX hbl hbA hS (vp_in_nI (n := i + 1) (by omega) (by omega)) dL_law_336 ?_
      refine W.eq (g2 := F0 m 337 ls [.int (xs (i + 1)), .ref (ad 0)]) (by rw [nI_clamp (show i + 1 < 2 ^ 31 by omega)]) ?_
      refine lv_aload_n hx hb dL_law_337 rfl (lv_at hl 0 rfl) ?_
      refine lv_iload_n hx hb dL_law_338 rfl (lv_at hl 3 rfl) ?_
      refine lv_iconst (v := 2) hx hb dL_law_339 (by decide) ?_
      refine lv_iadd hx hb dL_law_340 ?_
      refine W.eq (g2 := F0 m 341 ls [.int (nI (i + 2)), .ref b, .int (xs (i + 1)), .ref (ad 0)]) (by rw [show (2 : Int32) = nI 2 from rfl, nI_add]) ?_
      refine va_sld hx hb hX hbl hbA hS (vp_in_nI (n := i + 2) (by omega) (by omega)) dL_law_341 ?_
      refine W.eq (g2 := F0 m 342 ls [.int (xs (i + 2)), .int (xs (i + 1)), .ref (ad 0)]) (by rw [nI_clamp (show i + 2 < 2 ^ 31 by omega)]) ?_
      have J_6 : W p l e room_1 s m #[Value.ref b] below meth c H locs cells slots (lw_Z below #[Value.ref b] s) (F0 m 350 ls [.int (if (xs (i + 2)) = 0 then (0 : Int32) else (1 : Int32)), .int (xs (i + 1)), .ref (ad 0)]) := by
        have hDc : va_D (fun q : Nat => s.heap.size ≤ q) (wCx cI cQ ad tq ag lo ch al an sh wa pl (ru 0) (ru 1) (ru 2) row dn dy lv od sn ++ dpl L pd) := (hD.part (cx := wCx cI cQ ad tq ag lo ch al an sh wa pl (ru 0) (ru 1) (ru 2) row dn dy lv od sn) [15, 16, 17, 18, 19, 20, 21, 22, 23, 24, 25, 26, 27, 28, 29] (by decide) rfl)
        have hFc := cd_F hDc hS hA
        refine cd_wV (As := [.int (xs (i + 1)), .int (if (xs (i + 2)) = 0 then (0 : Int32) else (1 : Int32))]) (b := (ad 0)) (ci := 5) (q := (RX5, TX5, 5)) (rest := []) ⟨hx, hb, hml, hown, hts⟩ (kX5_on l dC dI cI cQ cZ ad tq ag lo ch al an sh wa pl (ru 0) (ru 1) (ru 2) row dn dy lv od sn L pd (xs (i + 1)) (if (xs (i + 2)) = 0 then (0 : Int32) else (1 : Int32)) H.size hLI.1.2.2.2.1 hLI.2.2.2.1 (by split <;> simp)) (cwV 2 hts gL_law_X5_on rfl rfl rfl (by decide +kernel) ⟨by decide, by decide⟩) hK (hP.part (cx := wCx cI cQ ad tq ag lo ch al an sh wa pl (ru 0) (ru 1) (ru 2) row dn dy lv od sn) [15, 16, 17, 18, 19, 20, 21, 22, 23, 24, 25, 26, 27, 28, 29] rfl) hDc hFc hS rfl rfl rfl hl.1 rfl (Nat.le_of_ble_eq_true rfl) dL_law_350 ⟨show _ ≤ 600000 by omega, show _ ≤ 7302250 by omega⟩ (fun H1 locs hP1 hD1 hk1 hS => ?_)
        obtain ⟨hP, hD⟩ := va_joinP (X := wMd cI cZ bd th tq ru sh pl wa dn kd ld tm pk ts wo io sn dy lv mlv mmt ++ wCx cI cQ ad tq ag lo ch al an sh wa pl (ru 0) (ru 1) (ru 2) row dn dy lv od sn) (cx := wCx cI cQ ad tq ag lo ch al an sh wa pl (ru 0) (ru 1) (ru 2) row dn dy lv od sn) (wr := wMd cI cZ bd th tq ru sh pl wa dn kd ld tm pk ts wo io sn dy lv mlv mmt) (rx := wCx cI cQ ad tq ag lo ch al an sh wa pl (ru 0) (ru 1) (ru 2) row dn dy lv od sn) hP hD [15, 16, 17, 18, 19, 20, 21, 22, 23, 24, 25, 26, 27, 28, 29] [0, 1, 2, 3, 4, 5, 6, 7, 8, 9, 10, 11, 12, 13, 14] rfl rfl (by decide) (by decide) hk1 hFc hP1 hD1
        generalize H1 = H at hP hS ⊢
        have hP : va_P (dC, dI) vwCl ((wMd cI cZ bd th tq ru sh pl wa dn kd ld tm pk ts wo io sn dy lv mlv mmt ++ wCx cI cQ ad tq ag lo ch al an sh wa pl (ru 0) (ru 1) (ru 2) row dn dy lv od sn) ++ dpl L ((sX5_on row dn pd (xs (i + 1)) (if (xs (i + 2)) = 0 then (0 : Int32) else (1 : Int32))).2)) H := hP
        have hD : va_D (fun q : Nat => s.heap.size ≤ q) ((wMd cI cZ bd th tq ru sh pl wa dn kd ld tm pk ts wo io sn dy lv mlv mmt ++ wCx cI cQ ad tq ag lo ch al an sh wa pl (ru 0) (ru 1) (ru 2) row dn dy lv od sn) ++ dpl L ((sX5_on row dn pd (xs (i + 1)) (if (xs (i + 2)) = 0 then (0 : Int32) else (1 : Int32))).2)) := hD
        refine lv_aload_n hx hb dL_law_353 rfl (lv_at hl 2 rfl) ?_
        refine lv_aload_n hx hb dL_law_354 rfl (lv_at hl 0 rfl) ?_
        refine lv_iload_n hx hb dL_law_355 rfl (lv_at hl 3 rfl) ?_
        refine lv_iconst (v := 1) hx hb dL_law_356 (by decide) ?_
        refine lv_iadd hx hb dL_law_357 ?_
        refine W.eq (g2 := F0 m 358 ls [.int (nI (i + 1)), .ref b, .ref (bd 0), .int ((sX5_on row dn pd (xs (i + 1)) (if (xs (i + 2)) = 0 then (0 : Int32) else (1 : Int32))).1)]) (by rw [show (1 : Int32) = nI 1 from rfl, nI_add]) ?_
        refine va_sld hx hb hX hbl hbA hS (vp_in_nI (n := i + 1) (by omega) (by omega)) dL_law_358 ?_
        refine W.eq (g2 := F0 m 359 ls [.int (xs (i + 1)), .ref (bd 0), .int ((sX5_on row dn pd (xs (i + 1)) (if (xs (i + 2)) = 0 then (0 : Int32) else (1 : Int32))).1)]) (by rw [nI_clamp (show i + 1 < 2 ^ 31 by omega)]) ?_
        refine lv_aload_n hx hb dL_law_359 rfl (lv_at hl 0 rfl) ?_
        refine lv_iload_n hx hb dL_law_360 rfl (lv_at hl 3 rfl) ?_
        refine lv_iconst (v := 2) hx hb dL_law_361 (by decide) ?_
        refine lv_iadd hx hb dL_law_362 ?_
        refine W.eq (g2 := F0 m 363 ls [.int (nI (i + 2)), .ref b, .int (xs (i + 1)), .ref (bd 0), .int ((sX5_on row dn pd (xs (i + 1)) (if (xs (i + 2)) = 0 then (0 : Int32) else (1 : Int32))).1)]) (by rw [show (2 : Int32) = nI 2 from rfl, nI_add]) ?_
        refine va_sld hx hb hX hbl hbA hS (vp_in_nI (n := i + 2) (by omega) (by omega)) dL_law_363 ?_
        refine W.eq (g2 := F0 m 364 ls [.int (xs (i + 2)), .int (xs (i + 1)), .ref (bd 0), .int ((sX5_on row dn pd (xs (i + 1)) (if (xs (i + 2)) = 0 then (0 : Int32) else (1 : Int32))).1)]) (by rw [nI_clamp (show i + 2 < 2 ^ 31 by omega)]) ?_
        have J_7 : W p l e room_1 s m #[Value.ref b] below meth c H locs cells slots (lw_Z below #[Value.ref b] s) (F0 m 372 ls [.int (if (xs (i + 2)) = 0 then (0 : Int32) else (1 : Int32)), .int (xs (i + 1)), .ref (bd 0), .int ((sX5_on row dn pd (xs (i + 1)) (if (xs (i + 2)) = 0 then (0 : Int32) else (1 : Int32))).1)]) := by
          have hDc : va_D (fun q : Nat => s.heap.size ≤ q) (wMd cI cZ bd th tq ru sh pl wa dn kd ld tm pk ts wo io sn dy lv mlv mmt) := (hD.sub (ws' := wMd cI cZ bd th tq ru sh pl wa dn kd ld tm pk ts wo io sn dy lv mlv mmt) [0, 1, 2, 3, 4, 5, 6, 7, 8, 9, 10, 11, 12, 13, 14] (by decide) rfl)
          have hFc := cd_F hDc hS hA
          refine cd_wV (As := [.int (xs (i + 1)), .int (if (xs (i + 2)) = 0 then (0 : Int32) else (1 : Int32))]) (b := (bd 0)) (ci := 6) (q := (RX6, TX6, 19)) (rest := [.int ((sX5_on row dn pd (xs (i + 1)) (if (xs (i + 2)) = 0 then (0 : Int32) else (1 : Int32))).1)]) ⟨hx, hb, hml, hown, hts⟩ (kX6_on l dC dI cI cQ cZ bd th tq ru sh pl wa dn kd ld tm pk ts wo io sn dy lv mlv mmt (xs (i + 1)) (if (xs (i + 2)) = 0 then (0 : Int32) else (1 : Int32)) H.size hLI.1 (by split <;> simp)) (cwV 2 hts gL_law_X6_on rfl rfl rfl (by decide +kernel) ⟨by decide, by decide⟩) hK (hP.sub (ws' := wMd cI cZ bd th tq ru sh pl wa dn kd ld tm pk ts wo io sn dy lv mlv mmt) [0, 1, 2, 3, 4, 5, 6, 7, 8, 9, 10, 11, 12, 13, 14] rfl) hDc hFc hS rfl rfl rfl hl.1 rfl (Nat.le_of_ble_eq_true rfl) dL_law_372 ⟨show _ ≤ 600000 by omega, show _ ≤ 7302250 by omega⟩ (fun H1 locs hP1 hD1 hk1 hS => ?_)
          obtain ⟨hP, hD⟩ := va_joinQ (X := wMd cI cZ bd th tq ru sh pl wa dn kd ld tm pk ts wo io sn dy lv mlv mmt ++ wCx cI cQ ad tq ag lo ch al an sh wa pl (ru 0) (ru 1) (ru 2) row dn dy lv od sn) (cx := wMd cI cZ bd th tq ru sh pl wa dn kd ld tm pk ts wo io sn dy lv mlv mmt) (wr := wCx cI cQ ad tq ag lo ch al an sh wa pl (ru 0) (ru 1) (ru 2) row dn dy lv od sn) (w1 := wMd cI cZ bd ((sX6_on dn io (xs (i + 1)) (if (xs (i + 2)) = 0 then (0 : Int32) else (1 : Int32))).2.1) tq ru sh pl wa dn kd ld tm pk ts wo ((sX6_on dn io (xs (i + 1)) (if (xs (i + 2)) = 0 then (0 : Int32) else (1 : Int32))).2.2) sn dy lv mlv mmt) hP hD [0, 1, 2, 3, 4, 5, 6, 7, 8, 9, 10, 11, 12, 13, 14] [15, 16, 17, 18, 19, 20, 21, 22, 23, 24, 25, 26, 27, 28, 29] rfl rfl (by decide) (by decide) hk1 hFc hP1 hD1
          have hP := hP.part (cx := wMd cI cZ bd ((sX6_on dn io (xs (i + 1)) (if (xs (i + 2)) = 0 then (0 : Int32) else (1 : Int32))).2.1) tq ru sh pl wa dn kd ld tm pk ts wo ((sX6_on dn io (xs (i + 1)) (if (xs (i + 2)) = 0 then (0 : Int32) else (1 : Int32))).2.2) sn dy lv mlv mmt ++ wCx cI cQ ad tq ag lo ch al an sh wa pl (ru 0) (ru 1) (ru 2) row dn dy lv od sn) [15, 16, 17, 18, 19, 20, 21, 22, 23, 24, 25, 26, 27, 28, 29, 0, 1, 2, 3, 4, 5, 6, 7, 8, 9, 10, 11, 12, 13, 14] rfl
          have hD := hD.part (cx := wMd cI cZ bd ((sX6_on dn io (xs (i + 1)) (if (xs (i + 2)) = 0 then (0 : Int32) else (1 : Int32))).2.1) tq ru sh pl wa dn kd ld tm pk ts wo ((sX6_on dn io (xs (i + 1)) (if (xs (i + 2)) = 0 then (0 : Int32) else (1 : Int32))).2.2) sn dy lv mlv mmt ++ wCx cI cQ ad tq ag lo ch al an sh wa pl (ru 0) (ru 1) (ru 2) row dn dy lv od sn) [15, 16, 17, 18, 19, 20, 21, 22, 23, 24, 25, 26, 27, 28, 29, 0, 1, 2, 3, 4, 5, 6, 7, 8, 9, 10, 11, 12, 13, 14] (by decide) rfl
          generalize H1 = H at hP hS ⊢
          have hP : va_P (dC, dI) vwCl ((wMd cI cZ bd ((sX6_on dn io (xs (i + 1)) (if (xs (i + 2)) = 0 then (0 : Int32) else (1 : Int32))).2.1) tq ru sh pl wa dn kd ld tm pk ts wo ((sX6_on dn io (xs (i + 1)) (if (xs (i + 2)) = 0 then (0 : Int32) else (1 : Int32))).2.2) sn dy lv mlv mmt ++ wCx cI cQ ad tq ag lo ch al an sh wa pl (ru 0) (ru 1) (ru 2) row dn dy lv od sn) ++ dpl L ((sX5_on row dn pd (xs (i + 1)) (if (xs (i + 2)) = 0 then (0 : Int32) else (1 : Int32))).2)) H := hP
          have hD : va_D (fun q : Nat => s.heap.size ≤ q) ((wMd cI cZ bd ((sX6_on dn io (xs (i + 1)) (if (xs (i + 2)) = 0 then (0 : Int32) else (1 : Int32))).2.1) tq ru sh pl wa dn kd ld tm pk ts wo ((sX6_on dn io (xs (i + 1)) (if (xs (i + 2)) = 0 then (0 : Int32) else (1 : Int32))).2.2) sn dy lv mlv mmt ++ wCx cI cQ ad tq ag lo ch al an sh wa pl (ru 0) (ru 1) (ru 2) row dn dy lv od sn) ++ dpl L ((sX5_on row dn pd (xs (i + 1)) (if (xs (i + 2)) = 0 then (0 : Int32) else (1 : Int32))).2)) := hD
          obtain ⟨ea, hLI2⟩ := op_on hLI  (xs (i + 1)) (if xs (i + 2) = 0 then (0 : Int32) else (1 : Int32)) (by split <;> simp)
          refine lv_icmp_eq (tgt := 700) hx hb dL_law_375 (by decide) (fun c_8 => ?_) (fun c_8 => ?_)
          · skip
            refine lv_iinc (v := nI (i + 7)) (lv' := [(3, .int (nI (i + 7))), (0, .ref b), (1, .ref (ad 0)), (2, .ref (bd 0))]) hx hb dL_law_700 hl (k := 3) rfl (by show nI i + nI 7 = _; rw [nI_add]) (by decide) rfl (fun ls hl => ?_)
            refine lv_goto (tgt := 18) hx hb dL_law_703 (by decide) ?_
            refine W.widen (k := cells + 1) (n := slots + 7) (by omega) (by omega) ?_
            exact ih (i + 7) (cells + 1) (slots + 7) tq ag lo ch al an sh wa pl ru row dn dy lv od sn L ((sX5_on row dn pd (xs (i + 1)) (if (xs (i + 2)) = 0 then (0 : Int32) else (1 : Int32))).2) ((sX6_on dn io (xs (i + 1)) (if (xs (i + 2)) = 0 then (0 : Int32) else (1 : Int32))).2.1) kd ld tm pk ts wo ((sX6_on dn io (xs (i + 1)) (if (xs (i + 2)) = 0 then (0 : Int32) else (1 : Int32))).2.2) mlv mmt ad bd (by omega) (by omega) (by omega) (by omega) hLI2 _ _ hP hD hS ls (lv_sub hl [1, 2, 3, 0] rfl)
          · exact absurd ea c_8
        refine lv_if_eq (tgt := 371) hx hb dL_law_364 (by decide) (fun c_9 => ?_) (fun c_9 => ?_)
        · skip
          refine lv_iconst (v := 0) hx hb dL_law_371 (by decide) ?_
          rw [if_pos c_9] at J_7
          try rw [if_pos c_9]
          exact J_7
        · skip
          refine lv_iconst (v := 1) hx hb dL_law_367 (by decide) ?_
          refine lv_goto (tgt := 372) hx hb dL_law_368 (by decide) ?_
          rw [if_neg c_9] at J_7
          try rw [if_neg c_9]
          exact J_7
      refine lv_if_eq (tgt := 349) hx hb dL_law_342 (by decide) (fun c_10 => ?_) (fun c_10 => ?_)
      · skip
        refine lv_iconst (v := 0) hx hb dL_law_349 (by decide) ?_
        rw [if_pos c_10] at J_6
        try rw [if_pos c_10]
        exact J_6
      · skip
        refine lv_iconst (v := 1) hx hb dL_law_345 (by decide) ?_
        refine lv_goto (tgt := 350) hx hb dL_law_346 (by decide) ?_
        rw [if_neg c_10] at J_6
        try rw [if_neg c_10]
        exact J_6
    by_cases z6 : sel = 6
    · refine lv_tableIn (tgt := 380) hx hb dL_law_33 (off := 347) (by rw [z6] <;> decide) (by rw [z6] <;> decide) (by rw [z6] <;> decide +kernel) (by decide) ?_
      refine lv_aload_n hx hb dL_law_380 rfl (lv_at hl 1 rfl) ?_
      have hDc : va_D (fun q : Nat => s.heap.size ≤ q) (wCx cI cQ ad tq ag lo ch al an sh wa pl (ru 0) (ru 1) (ru 2) row dn dy lv od sn ++ dpl L pd) := (hD.part (cx := wCx cI cQ ad tq ag lo ch al an sh wa pl (ru 0) (ru 1) (ru 2) row dn dy lv od sn) [15, 16, 17, 18, 19, 20, 21, 22, 23, 24, 25, 26, 27, 28, 29] (by decide) rfl)
      have hFc := cd_F hDc hS hA
      refine cd_wV (As := []) (b := (ad 0)) (ci := 5) (q := (RX5, TX5, 5)) (rest := []) ⟨hx, hb, hml, hown, hts⟩ (kX5_drop l dC dI cI cQ cZ ad tq ag lo ch al an sh wa pl (ru 0) (ru 1) (ru 2) row dn dy lv od sn L pd H.size hLI.1.2.2.2.1) (cwV 0 hts gL_law_X5_drop rfl rfl rfl (by decide +kernel) ⟨by decide, by decide⟩) hK (hP.part (cx := wCx cI cQ ad tq ag lo ch al an sh wa pl (ru 0) (ru 1) (ru 2) row dn dy lv od sn) [15, 16, 17, 18, 19, 20, 21, 22, 23, 24, 25, 26, 27, 28, 29] rfl) hDc hFc hS rfl rfl rfl hl.1 rfl (Nat.le_of_ble_eq_true rfl) dL_law_381 ⟨show _ ≤ 600000 by omega, show _ ≤ 7302250 by omega⟩ (fun H1 locs hP1 hD1 hk1 hS => ?_)
      obtain ⟨hP, hD⟩ := va_joinP (X := wMd cI cZ bd th tq ru sh pl wa dn kd ld tm pk ts wo io sn dy lv mlv mmt ++ wCx cI cQ ad tq ag lo ch al an sh wa pl (ru 0) (ru 1) (ru 2) row dn dy lv od sn) (cx := wCx cI cQ ad tq ag lo ch al an sh wa pl (ru 0) (ru 1) (ru 2) row dn dy lv od sn) (wr := wMd cI cZ bd th tq ru sh pl wa dn kd ld tm pk ts wo io sn dy lv mlv mmt) (rx := wCx cI cQ ad tq ag lo ch al an sh wa pl (ru 0) (ru 1) (ru 2) ((sX5_drop row dn).2.1) ((sX5_drop row dn).2.2) dy lv od sn) hP hD [15, 16, 17, 18, 19, 20, 21, 22, 23, 24, 25, 26, 27, 28, 29] [0, 1, 2, 3, 4, 5, 6, 7, 8, 9, 10, 11, 12, 13, 14] rfl rfl (by decide) (by decide) hk1 hFc hP1 hD1
      generalize H1 = H at hP hS ⊢
      have hP : va_P (dC, dI) vwCl ((wMd cI cZ bd th tq ru sh pl wa dn kd ld tm pk ts wo io sn dy lv mlv mmt ++ wCx cI cQ ad tq ag lo ch al an sh wa pl (ru 0) (ru 1) (ru 2) ((sX5_drop row dn).2.1) ((sX5_drop row dn).2.2) dy lv od sn) ++ dpl L pd) H := hP
      have hD : va_D (fun q : Nat => s.heap.size ≤ q) ((wMd cI cZ bd th tq ru sh pl wa dn kd ld tm pk ts wo io sn dy lv mlv mmt ++ wCx cI cQ ad tq ag lo ch al an sh wa pl (ru 0) (ru 1) (ru 2) ((sX5_drop row dn).2.1) ((sX5_drop row dn).2.2) dy lv od sn) ++ dpl L pd) := hD
      refine lv_aload_n hx hb dL_law_384 rfl (lv_at hl 2 rfl) ?_
      have hDc : va_D (fun q : Nat => s.heap.size ≤ q) (wMd cI cZ bd th tq ru sh pl wa dn kd ld tm pk ts wo io sn dy lv mlv mmt) := (hD.sub (ws' := wMd cI cZ bd th tq ru sh pl wa dn kd ld tm pk ts wo io sn dy lv mlv mmt) [0, 1, 2, 3, 4, 5, 6, 7, 8, 9, 10, 11, 12, 13, 14] (by decide) rfl)
      have hFc := cd_F hDc hS hA
      refine cd_wV (As := []) (b := (bd 0)) (ci := 6) (q := (RX6, TX6, 19)) (rest := [.int ((sX5_drop row dn).1)]) ⟨hx, hb, hml, hown, hts⟩ (kX6_drop l dC dI cI cQ cZ bd th tq ru sh pl wa dn kd ld tm pk ts wo io sn dy lv mlv mmt H.size hLI.1) (cwV 0 hts gL_law_X6_drop rfl rfl rfl (by decide +kernel) ⟨by decide, by decide⟩) hK (hP.sub (ws' := wMd cI cZ bd th tq ru sh pl wa dn kd ld tm pk ts wo io sn dy lv mlv mmt) [0, 1, 2, 3, 4, 5, 6, 7, 8, 9, 10, 11, 12, 13, 14] rfl) hDc hFc hS rfl rfl rfl hl.1 rfl (Nat.le_of_ble_eq_true rfl) dL_law_385 ⟨show _ ≤ 600000 by omega, show _ ≤ 7302250 by omega⟩ (fun H1 locs hP1 hD1 hk1 hS => ?_)
      obtain ⟨hP, hD⟩ := va_joinQ (X := wMd cI cZ bd th tq ru sh pl wa dn kd ld tm pk ts wo io sn dy lv mlv mmt ++ wCx cI cQ ad tq ag lo ch al an sh wa pl (ru 0) (ru 1) (ru 2) ((sX5_drop row dn).2.1) ((sX5_drop row dn).2.2) dy lv od sn) (cx := wMd cI cZ bd th tq ru sh pl wa dn kd ld tm pk ts wo io sn dy lv mlv mmt) (wr := wCx cI cQ ad tq ag lo ch al an sh wa pl (ru 0) (ru 1) (ru 2) ((sX5_drop row dn).2.1) ((sX5_drop row dn).2.2) dy lv od sn) (w1 := wMd cI cZ bd ((sX6_drop dn).2.1) tq ru sh pl wa ((sX6_drop dn).2.2) kd ld tm pk ts wo io sn dy lv mlv mmt) hP hD [0, 1, 2, 3, 4, 5, 6, 7, 8, 9, 10, 11, 12, 13, 14] [15, 16, 17, 18, 19, 20, 21, 22, 23, 24, 25, 26, 27, 28, 29] rfl rfl (by decide) (by decide) hk1 hFc hP1 hD1
      have hP := hP.part (cx := wMd cI cZ bd ((sX6_drop dn).2.1) tq ru sh pl wa ((sX6_drop dn).2.2) kd ld tm pk ts wo io sn dy lv mlv mmt ++ wCx cI cQ ad tq ag lo ch al an sh wa pl (ru 0) (ru 1) (ru 2) ((sX5_drop row dn).2.1) ((sX5_drop row dn).2.2) dy lv od sn) [15, 16, 17, 18, 19, 20, 21, 22, 23, 24, 25, 26, 27, 28, 29, 0, 1, 2, 3, 4, 5, 6, 7, 8, 9, 10, 11, 12, 13, 14] rfl
      have hD := hD.part (cx := wMd cI cZ bd ((sX6_drop dn).2.1) tq ru sh pl wa ((sX6_drop dn).2.2) kd ld tm pk ts wo io sn dy lv mlv mmt ++ wCx cI cQ ad tq ag lo ch al an sh wa pl (ru 0) (ru 1) (ru 2) ((sX5_drop row dn).2.1) ((sX5_drop row dn).2.2) dy lv od sn) [15, 16, 17, 18, 19, 20, 21, 22, 23, 24, 25, 26, 27, 28, 29, 0, 1, 2, 3, 4, 5, 6, 7, 8, 9, 10, 11, 12, 13, 14] (by decide) rfl
      generalize H1 = H at hP hS ⊢
      have hP : va_P (dC, dI) vwCl ((wMd cI cZ bd ((sX6_drop dn).2.1) tq ru sh pl wa ((sX6_drop dn).2.2) kd ld tm pk ts wo io sn dy lv mlv mmt ++ wCx cI cQ ad tq ag lo ch al an sh wa pl (ru 0) (ru 1) (ru 2) ((sX5_drop row dn).2.1) ((sX5_drop row dn).2.2) dy lv od sn) ++ dpl L pd) H := hP
      have hD : va_D (fun q : Nat => s.heap.size ≤ q) ((wMd cI cZ bd ((sX6_drop dn).2.1) tq ru sh pl wa ((sX6_drop dn).2.2) kd ld tm pk ts wo io sn dy lv mlv mmt ++ wCx cI cQ ad tq ag lo ch al an sh wa pl (ru 0) (ru 1) (ru 2) ((sX5_drop row dn).2.1) ((sX5_drop row dn).2.2) dy lv od sn) ++ dpl L pd) := hD
      obtain ⟨ea, e1, hLI2⟩ := op_drop hLI  
      refine lv_icmp_eq (tgt := 700) hx hb dL_law_388 (by decide) (fun c_11 => ?_) (fun c_11 => ?_)
      · skip
        rw [e1] at hP hD
        refine lv_iinc (v := nI (i + 7)) (lv' := [(3, .int (nI (i + 7))), (0, .ref b), (1, .ref (ad 0)), (2, .ref (bd 0))]) hx hb dL_law_700 hl (k := 3) rfl (by show nI i + nI 7 = _; rw [nI_add]) (by decide) rfl (fun ls hl => ?_)
        refine lv_goto (tgt := 18) hx hb dL_law_703 (by decide) ?_
        refine W.widen (k := cells + 1) (n := slots + 7) (by omega) (by omega) ?_
        exact ih (i + 7) (cells + 1) (slots + 7) tq ag lo ch al an sh wa pl ru ((sX5_drop row dn).2.1) ((sX6_drop dn).2.2) dy lv od sn L pd ((sX6_drop dn).2.1) kd ld tm pk ts wo io mlv mmt ad bd (by omega) (by omega) (by omega) (by omega) hLI2 _ _ hP hD hS ls (lv_sub hl [1, 2, 3, 0] rfl)
      · exact absurd ea c_11
    by_cases z7 : sel = 7
    · refine lv_tableIn (tgt := 393) hx hb dL_law_33 (off := 360) (by rw [z7] <;> decide) (by rw [z7] <;> decide) (by rw [z7] <;> decide +kernel) (by decide) ?_
      refine lv_aload_n hx hb dL_law_393 rfl (lv_at hl 1 rfl) ?_
      refine lv_aload_n hx hb dL_law_394 rfl (lv_at hl 0 rfl) ?_
      refine lv_iload_n hx hb dL_law_395 rfl (lv_at hl 3 rfl) ?_
      refine lv_iconst (v := 1) hx hb dL_law_396 (by decide) ?_
      refine lv_iadd hx hb dL_law_397 ?_
      refine W.eq (g2 := F0 m 398 ls [.int (nI (i + 1)), .ref b, .ref (ad 0)]) (by rw [show (1 : Int32) = nI 1 from rfl, nI_add]) ?_
      refine va_sld hx hb hX hbl hbA hS (vp_in_nI (n := i + 1) (by omega) (by omega)) dL_law_398 ?_
      refine W.eq (g2 := F0 m 399 ls [.int (xs (i + 1)), .ref (ad 0)]) (by rw [nI_clamp (show i + 1 < 2 ^ 31 by omega)]) ?_
      refine lv_aload_n hx hb dL_law_399 rfl (lv_at hl 0 rfl) ?_
      refine lv_iload_n hx hb dL_law_400 rfl (lv_at hl 3 rfl) ?_
      refine lv_iconst (v := 2) hx hb dL_law_401 (by decide) ?_
      refine lv_iadd hx hb dL_law_402 ?_
      refine W.eq (g2 := F0 m 403 ls [.int (nI (i + 2)), .ref b, .int (xs (i + 1)), .ref (ad 0)]) (by rw [show (2 : Int32) = nI 2 from rfl, nI_add]) ?_
      refine va_sld hx hb hX hbl hbA hS (vp_in_nI (n := i + 2) (by omega) (by omega)) dL_law_403 ?_
      refine W.eq (g2 := F0 m 404 ls [.int (xs (i + 2)), .int (xs (i + 1)), .ref (ad 0)]) (by rw [nI_clamp (show i + 2 < 2 ^ 31 by omega)]) ?_
      have hDc : va_D (fun q : Nat => s.heap.size ≤ q) (wCx cI cQ ad tq ag lo ch al an sh wa pl (ru 0) (ru 1) (ru 2) row dn dy lv od sn ++ dpl L pd) := (hD.part (cx := wCx cI cQ ad tq ag lo ch al an sh wa pl (ru 0) (ru 1) (ru 2) row dn dy lv od sn) [15, 16, 17, 18, 19, 20, 21, 22, 23, 24, 25, 26, 27, 28, 29] (by decide) rfl)
      have hFc := cd_F hDc hS hA
      refine cd_wV (As := [.int (xs (i + 1)), .int (xs (i + 2))]) (b := (ad 0)) (ci := 5) (q := (RX5, TX5, 5)) (rest := []) ⟨hx, hb, hml, hown, hts⟩ (kX5_drain l dC dI cI cQ cZ ad tq ag lo ch al an sh wa pl (ru 0) (ru 1) (ru 2) row dn dy lv od sn L pd (xs (i + 1)) (xs (i + 2)) H.size hLI.1.2.2.2.1 hLI.2.2.2.1) (cwV 2 hts gL_law_X5_drain rfl rfl rfl (by decide +kernel) ⟨by decide, by decide⟩) hK (hP.part (cx := wCx cI cQ ad tq ag lo ch al an sh wa pl (ru 0) (ru 1) (ru 2) row dn dy lv od sn) [15, 16, 17, 18, 19, 20, 21, 22, 23, 24, 25, 26, 27, 28, 29] rfl) hDc hFc hS rfl rfl rfl hl.1 rfl (Nat.le_of_ble_eq_true rfl) dL_law_404 ⟨show _ ≤ 600000 by omega, show _ ≤ 7302250 by omega⟩ (fun H1 locs hP1 hD1 hk1 hS => ?_)
      obtain ⟨hP, hD⟩ := va_joinP (X := wMd cI cZ bd th tq ru sh pl wa dn kd ld tm pk ts wo io sn dy lv mlv mmt ++ wCx cI cQ ad tq ag lo ch al an sh wa pl (ru 0) (ru 1) (ru 2) row dn dy lv od sn) (cx := wCx cI cQ ad tq ag lo ch al an sh wa pl (ru 0) (ru 1) (ru 2) row dn dy lv od sn) (wr := wMd cI cZ bd th tq ru sh pl wa dn kd ld tm pk ts wo io sn dy lv mlv mmt) (rx := wCx cI cQ ad ((sX5_drain tq (ru 2) row dn pd (xs (i + 1)) (xs (i + 2))).2) ag lo ch al an sh wa pl (ru 0) (ru 1) (ru 2) row dn dy lv od sn) hP hD [15, 16, 17, 18, 19, 20, 21, 22, 23, 24, 25, 26, 27, 28, 29] [0, 1, 2, 3, 4, 5, 6, 7, 8, 9, 10, 11, 12, 13, 14] rfl rfl (by decide) (by decide) hk1 hFc hP1 hD1
      generalize H1 = H at hP hS ⊢
      have hP : va_P (dC, dI) vwCl ((wMd cI cZ bd th tq ru sh pl wa dn kd ld tm pk ts wo io sn dy lv mlv mmt ++ wCx cI cQ ad ((sX5_drain tq (ru 2) row dn pd (xs (i + 1)) (xs (i + 2))).2) ag lo ch al an sh wa pl (ru 0) (ru 1) (ru 2) row dn dy lv od sn) ++ dpl L pd) H := hP
      have hD : va_D (fun q : Nat => s.heap.size ≤ q) ((wMd cI cZ bd th tq ru sh pl wa dn kd ld tm pk ts wo io sn dy lv mlv mmt ++ wCx cI cQ ad ((sX5_drain tq (ru 2) row dn pd (xs (i + 1)) (xs (i + 2))).2) ag lo ch al an sh wa pl (ru 0) (ru 1) (ru 2) row dn dy lv od sn) ++ dpl L pd) := hD
      refine lv_aload_n hx hb dL_law_407 rfl (lv_at hl 2 rfl) ?_
      refine lv_aload_n hx hb dL_law_408 rfl (lv_at hl 0 rfl) ?_
      refine lv_iload_n hx hb dL_law_409 rfl (lv_at hl 3 rfl) ?_
      refine lv_iconst (v := 1) hx hb dL_law_410 (by decide) ?_
      refine lv_iadd hx hb dL_law_411 ?_
      refine W.eq (g2 := F0 m 412 ls [.int (nI (i + 1)), .ref b, .ref (bd 0), .int ((sX5_drain tq (ru 2) row dn pd (xs (i + 1)) (xs (i + 2))).1)]) (by rw [show (1 : Int32) = nI 1 from rfl, nI_add]) ?_
      refine va_sld hx hb hX hbl hbA hS (vp_in_nI (n := i + 1) (by omega) (by omega)) dL_law_412 ?_
      refine W.eq (g2 := F0 m 413 ls [.int (xs (i + 1)), .ref (bd 0), .int ((sX5_drain tq (ru 2) row dn pd (xs (i + 1)) (xs (i + 2))).1)]) (by rw [nI_clamp (show i + 1 < 2 ^ 31 by omega)]) ?_
      refine lv_aload_n hx hb dL_law_413 rfl (lv_at hl 0 rfl) ?_
      refine lv_iload_n hx hb dL_law_414 rfl (lv_at hl 3 rfl) ?_
      refine lv_iconst (v := 2) hx hb dL_law_415 (by decide) ?_
      refine lv_iadd hx hb dL_law_416 ?_
      refine W.eq (g2 := F0 m 417 ls [.int (nI (i + 2)), .ref b, .int (xs (i + 1)), .ref (bd 0), .int ((sX5_drain tq (ru 2) row dn pd (xs (i + 1)) (xs (i + 2))).1)]) (by rw [show (2 : Int32) = nI 2 from rfl, nI_add]) ?_
      refine va_sld hx hb hX hbl hbA hS (vp_in_nI (n := i + 2) (by omega) (by omega)) dL_law_417 ?_
      refine W.eq (g2 := F0 m 418 ls [.int (xs (i + 2)), .int (xs (i + 1)), .ref (bd 0), .int ((sX5_drain tq (ru 2) row dn pd (xs (i + 1)) (xs (i + 2))).1)]) (by rw [nI_clamp (show i + 2 < 2 ^ 31 by omega)]) ?_
      have hDc : va_D (fun q : Nat => s.heap.size ≤ q) (wMd cI cZ bd th tq ru sh pl wa dn kd ld tm pk ts wo io sn dy lv mlv mmt) := (hD.sub (ws' := wMd cI cZ bd th tq ru sh pl wa dn kd ld tm pk ts wo io sn dy lv mlv mmt) [0, 1, 2, 3, 4, 5, 6, 7, 8, 9, 10, 11, 12, 13, 14] (by decide) rfl)
      have hFc := cd_F hDc hS hA
      refine cd_wV (As := [.int (xs (i + 1)), .int (xs (i + 2))]) (b := (bd 0)) (ci := 6) (q := (RX6, TX6, 19)) (rest := [.int ((sX5_drain tq (ru 2) row dn pd (xs (i + 1)) (xs (i + 2))).1)]) ⟨hx, hb, hml, hown, hts⟩ (kX6_drain l dC dI cI cQ cZ bd th tq ru sh pl wa dn kd ld tm pk ts wo io sn dy lv mlv mmt (xs (i + 1)) (xs (i + 2)) H.size hLI.1) (cwV 2 hts gL_law_X6_drain rfl rfl rfl (by decide +kernel) ⟨by decide, by decide⟩) hK (hP.sub (ws' := wMd cI cZ bd th tq ru sh pl wa dn kd ld tm pk ts wo io sn dy lv mlv mmt) [0, 1, 2, 3, 4, 5, 6, 7, 8, 9, 10, 11, 12, 13, 14] rfl) hDc hFc hS rfl rfl rfl hl.1 rfl (Nat.le_of_ble_eq_true rfl) dL_law_418 ⟨show _ ≤ 600000 by omega, show _ ≤ 7302250 by omega⟩ (fun H1 locs hP1 hD1 hk1 hS => ?_)
      obtain ⟨hP, hD⟩ := va_joinQ (X := wMd cI cZ bd th tq ru sh pl wa dn kd ld tm pk ts wo io sn dy lv mlv mmt ++ wCx cI cQ ad ((sX5_drain tq (ru 2) row dn pd (xs (i + 1)) (xs (i + 2))).2) ag lo ch al an sh wa pl (ru 0) (ru 1) (ru 2) row dn dy lv od sn) (cx := wMd cI cZ bd th tq ru sh pl wa dn kd ld tm pk ts wo io sn dy lv mlv mmt) (wr := wCx cI cQ ad ((sX5_drain tq (ru 2) row dn pd (xs (i + 1)) (xs (i + 2))).2) ag lo ch al an sh wa pl (ru 0) (ru 1) (ru 2) row dn dy lv od sn) (w1 := wMd cI cZ bd ((sX6_drain tq ru dn kd ld tm pk ts (xs (i + 1)) (xs (i + 2))).2.1) ((sX6_drain tq ru dn kd ld tm pk ts (xs (i + 1)) (xs (i + 2))).2.2) ru sh pl wa dn kd ld tm pk ts wo io sn dy lv mlv mmt) hP hD [0, 1, 2, 3, 4, 5, 6, 7, 8, 9, 10, 11, 12, 13, 14] [15, 16, 17, 18, 19, 20, 21, 22, 23, 24, 25, 26, 27, 28, 29] rfl rfl (by decide) (by decide) hk1 hFc hP1 hD1
      have hP := hP.part (cx := wMd cI cZ bd ((sX6_drain tq ru dn kd ld tm pk ts (xs (i + 1)) (xs (i + 2))).2.1) ((sX6_drain tq ru dn kd ld tm pk ts (xs (i + 1)) (xs (i + 2))).2.2) ru sh pl wa dn kd ld tm pk ts wo io sn dy lv mlv mmt ++ wCx cI cQ ad ((sX5_drain tq (ru 2) row dn pd (xs (i + 1)) (xs (i + 2))).2) ag lo ch al an sh wa pl (ru 0) (ru 1) (ru 2) row dn dy lv od sn) [15, 16, 17, 18, 19, 20, 21, 22, 23, 24, 25, 26, 27, 28, 29, 0, 1, 2, 3, 4, 5, 6, 7, 8, 9, 10, 11, 12, 13, 14] rfl
      have hD := hD.part (cx := wMd cI cZ bd ((sX6_drain tq ru dn kd ld tm pk ts (xs (i + 1)) (xs (i + 2))).2.1) ((sX6_drain tq ru dn kd ld tm pk ts (xs (i + 1)) (xs (i + 2))).2.2) ru sh pl wa dn kd ld tm pk ts wo io sn dy lv mlv mmt ++ wCx cI cQ ad ((sX5_drain tq (ru 2) row dn pd (xs (i + 1)) (xs (i + 2))).2) ag lo ch al an sh wa pl (ru 0) (ru 1) (ru 2) row dn dy lv od sn) [15, 16, 17, 18, 19, 20, 21, 22, 23, 24, 25, 26, 27, 28, 29, 0, 1, 2, 3, 4, 5, 6, 7, 8, 9, 10, 11, 12, 13, 14] (by decide) rfl
      generalize H1 = H at hP hS ⊢
      have hP : va_P (dC, dI) vwCl ((wMd cI cZ bd ((sX6_drain tq ru dn kd ld tm pk ts (xs (i + 1)) (xs (i + 2))).2.1) ((sX6_drain tq ru dn kd ld tm pk ts (xs (i + 1)) (xs (i + 2))).2.2) ru sh pl wa dn kd ld tm pk ts wo io sn dy lv mlv mmt ++ wCx cI cQ ad ((sX5_drain tq (ru 2) row dn pd (xs (i + 1)) (xs (i + 2))).2) ag lo ch al an sh wa pl (ru 0) (ru 1) (ru 2) row dn dy lv od sn) ++ dpl L pd) H := hP
      have hD : va_D (fun q : Nat => s.heap.size ≤ q) ((wMd cI cZ bd ((sX6_drain tq ru dn kd ld tm pk ts (xs (i + 1)) (xs (i + 2))).2.1) ((sX6_drain tq ru dn kd ld tm pk ts (xs (i + 1)) (xs (i + 2))).2.2) ru sh pl wa dn kd ld tm pk ts wo io sn dy lv mlv mmt ++ wCx cI cQ ad ((sX5_drain tq (ru 2) row dn pd (xs (i + 1)) (xs (i + 2))).2) ag lo ch al an sh wa pl (ru 0) (ru 1) (ru 2) row dn dy lv od sn) ++ dpl L pd) := hD
      obtain ⟨ea, e1⟩ := op_drain hLI tq (xs (i + 1)) (xs (i + 2))
      refine lv_icmp_eq (tgt := 700) hx hb dL_law_421 (by decide) (fun c_12 => ?_) (fun c_12 => ?_)
      · skip
        rw [e1] at hP hD
        refine lv_iinc (v := nI (i + 7)) (lv' := [(3, .int (nI (i + 7))), (0, .ref b), (1, .ref (ad 0)), (2, .ref (bd 0))]) hx hb dL_law_700 hl (k := 3) rfl (by show nI i + nI 7 = _; rw [nI_add]) (by decide) rfl (fun ls hl => ?_)
        refine lv_goto (tgt := 18) hx hb dL_law_703 (by decide) ?_
        refine W.widen (k := cells + 1) (n := slots + 7) (by omega) (by omega) ?_
        exact ih (i + 7) (cells + 1) (slots + 7) ((sX6_drain tq ru dn kd ld tm pk ts (xs (i + 1)) (xs (i + 2))).2.2) ag lo ch al an sh wa pl ru row dn dy lv od sn L pd ((sX6_drain tq ru dn kd ld tm pk ts (xs (i + 1)) (xs (i + 2))).2.1) kd ld tm pk ts wo io mlv mmt ad bd (by omega) (by omega) (by omega) (by omega) hLI _ _ hP hD hS ls (lv_sub hl [1, 2, 3, 0] rfl)
      · exact absurd ea c_12
    by_cases z8 : sel = 8
    · refine lv_tableIn (tgt := 426) hx hb dL_law_33 (off := 393) (by rw [z8] <;> decide) (by rw [z8] <;> decide) (by rw [z8] <;> decide +kernel) (by decide) ?_
      refine lv_aload_n hx hb dL_law_426 rfl (lv_at hl 1 rfl) ?_
      refine lv_aload_n hx hb dL_law_427 rfl (lv_at hl 0 rfl) ?_
      refine lv_iload_n hx hb dL_law_428 rfl (lv_at hl 3 rfl) ?_
      refine lv_iconst (v := 1) hx hb dL_law_429 (by decide) ?_
      refine lv_iadd hx hb dL_law_430 ?_
      refine W.eq (g2 := F0 m 431 ls [.int (nI (i + 1)), .ref b, .ref (ad 0)]) (by rw [show (1 : Int32) = nI 1 from rfl, nI_add]) ?_
      refine va_sld hx hb hX hbl hbA hS (vp_in_nI (n := i + 1) (by omega) (by omega)) dL_law_431 ?_
      refine W.eq (g2 := F0 m 432 ls [.int (xs (i + 1)), .ref (ad 0)]) (by rw [nI_clamp (show i + 1 < 2 ^ 31 by omega)]) ?_
      refine cd_rV (As := [.int (xs (i + 1))]) (b := (ad 0)) (ci := 5) (q := (RX5, TX5, 5)) (rest := []) ⟨hx, hb, hml, hown, hts⟩ (kX5_life l dC dI cI cQ cZ ad tq ag lo ch al an sh wa pl (ru 0) (ru 1) (ru 2) row dn dy lv od sn L pd (xs (i + 1)) hLI.1.2.2.2.1 hLI.2.2.2.1) (cwV 1 hts gL_law_X5_life rfl rfl rfl (by decide +kernel) ⟨by decide, by decide⟩) hK (hP.part (cx := wCx cI cQ ad tq ag lo ch al an sh wa pl (ru 0) (ru 1) (ru 2) row dn dy lv od sn) [15, 16, 17, 18, 19, 20, 21, 22, 23, 24, 25, 26, 27, 28, 29] rfl) rfl rfl rfl hl.1 rfl (Nat.le_of_ble_eq_true rfl) dL_law_432 ⟨show _ ≤ 600000 by omega, show _ ≤ 7302250 by omega⟩ ?_
      refine lv_aload_n hx hb dL_law_435 rfl (lv_at hl 2 rfl) ?_
      refine lv_aload_n hx hb dL_law_436 rfl (lv_at hl 0 rfl) ?_
      refine lv_iload_n hx hb dL_law_437 rfl (lv_at hl 3 rfl) ?_
      refine lv_iconst (v := 1) hx hb dL_law_438 (by decide) ?_
      refine lv_iadd hx hb dL_law_439 ?_
      refine W.eq (g2 := F0 m 440 ls [.int (nI (i + 1)), .ref b, .ref (bd 0), .int (sX5_life sh wa pl (ru 0) (ru 1) (ru 2) row dn pd (xs (i + 1)))]) (by rw [show (1 : Int32) = nI 1 from rfl, nI_add]) ?_
      refine va_sld hx hb hX hbl hbA hS (vp_in_nI (n := i + 1) (by omega) (by omega)) dL_law_440 ?_
      refine W.eq (g2 := F0 m 441 ls [.int (xs (i + 1)), .ref (bd 0), .int (sX5_life sh wa pl (ru 0) (ru 1) (ru 2) row dn pd (xs (i + 1)))]) (by rw [nI_clamp (show i + 1 < 2 ^ 31 by omega)]) ?_
      have hDc : va_D (fun q : Nat => s.heap.size ≤ q) (wMd cI cZ bd th tq ru sh pl wa dn kd ld tm pk ts wo io sn dy lv mlv mmt) := (hD.sub (ws' := wMd cI cZ bd th tq ru sh pl wa dn kd ld tm pk ts wo io sn dy lv mlv mmt) [0, 1, 2, 3, 4, 5, 6, 7, 8, 9, 10, 11, 12, 13, 14] (by decide) rfl)
      have hFc := cd_F hDc hS hA
      refine cd_wV (As := [.int (xs (i + 1))]) (b := (bd 0)) (ci := 6) (q := (RX6, TX6, 19)) (rest := [.int (sX5_life sh wa pl (ru 0) (ru 1) (ru 2) row dn pd (xs (i + 1)))]) ⟨hx, hb, hml, hown, hts⟩ (kX6_life l dC dI cI cQ cZ bd th tq ru sh pl wa dn kd ld tm pk ts wo io sn dy lv mlv mmt (xs (i + 1)) H.size hLI.1) (cwV 1 hts gL_law_X6_life rfl rfl rfl (by decide +kernel) ⟨by decide, by decide⟩) hK (hP.sub (ws' := wMd cI cZ bd th tq ru sh pl wa dn kd ld tm pk ts wo io sn dy lv mlv mmt) [0, 1, 2, 3, 4, 5, 6, 7, 8, 9, 10, 11, 12, 13, 14] rfl) hDc hFc hS rfl rfl rfl hl.1 rfl (Nat.le_of_ble_eq_true rfl) dL_law_441 ⟨show _ ≤ 600000 by omega, show _ ≤ 7302250 by omega⟩ (fun H1 locs hP1 hD1 hk1 hS => ?_)
      obtain ⟨hP, hD⟩ := va_joinQ (X := wMd cI cZ bd th tq ru sh pl wa dn kd ld tm pk ts wo io sn dy lv mlv mmt ++ wCx cI cQ ad tq ag lo ch al an sh wa pl (ru 0) (ru 1) (ru 2) row dn dy lv od sn) (cx := wMd cI cZ bd th tq ru sh pl wa dn kd ld tm pk ts wo io sn dy lv mlv mmt) (wr := wCx cI cQ ad tq ag lo ch al an sh wa pl (ru 0) (ru 1) (ru 2) row dn dy lv od sn) (w1 := wMd cI cZ bd ((sX6_life ru sh pl wa dn kd ld tm pk ts io (xs (i + 1))).2) tq ru sh pl wa dn kd ld tm pk ts wo io sn dy lv mlv mmt) hP hD [0, 1, 2, 3, 4, 5, 6, 7, 8, 9, 10, 11, 12, 13, 14] [15, 16, 17, 18, 19, 20, 21, 22, 23, 24, 25, 26, 27, 28, 29] rfl rfl (by decide) (by decide) hk1 hFc hP1 hD1
      have hP := hP.part (cx := wMd cI cZ bd ((sX6_life ru sh pl wa dn kd ld tm pk ts io (xs (i + 1))).2) tq ru sh pl wa dn kd ld tm pk ts wo io sn dy lv mlv mmt ++ wCx cI cQ ad tq ag lo ch al an sh wa pl (ru 0) (ru 1) (ru 2) row dn dy lv od sn) [15, 16, 17, 18, 19, 20, 21, 22, 23, 24, 25, 26, 27, 28, 29, 0, 1, 2, 3, 4, 5, 6, 7, 8, 9, 10, 11, 12, 13, 14] rfl
      have hD := hD.part (cx := wMd cI cZ bd ((sX6_life ru sh pl wa dn kd ld tm pk ts io (xs (i + 1))).2) tq ru sh pl wa dn kd ld tm pk ts wo io sn dy lv mlv mmt ++ wCx cI cQ ad tq ag lo ch al an sh wa pl (ru 0) (ru 1) (ru 2) row dn dy lv od sn) [15, 16, 17, 18, 19, 20, 21, 22, 23, 24, 25, 26, 27, 28, 29, 0, 1, 2, 3, 4, 5, 6, 7, 8, 9, 10, 11, 12, 13, 14] (by decide) rfl
      generalize H1 = H at hP hS ⊢
      have hP : va_P (dC, dI) vwCl ((wMd cI cZ bd ((sX6_life ru sh pl wa dn kd ld tm pk ts io (xs (i + 1))).2) tq ru sh pl wa dn kd ld tm pk ts wo io sn dy lv mlv mmt ++ wCx cI cQ ad tq ag lo ch al an sh wa pl (ru 0) (ru 1) (ru 2) row dn dy lv od sn) ++ dpl L pd) H := hP
      have hD : va_D (fun q : Nat => s.heap.size ≤ q) ((wMd cI cZ bd ((sX6_life ru sh pl wa dn kd ld tm pk ts io (xs (i + 1))).2) tq ru sh pl wa dn kd ld tm pk ts wo io sn dy lv mlv mmt ++ wCx cI cQ ad tq ag lo ch al an sh wa pl (ru 0) (ru 1) (ru 2) row dn dy lv od sn) ++ dpl L pd) := hD
      have ea := op_life hLI  (xs (i + 1))
      refine lv_icmp_eq (tgt := 700) hx hb dL_law_444 (by decide) (fun c_13 => ?_) (fun c_13 => ?_)
      · skip
        refine lv_iinc (v := nI (i + 7)) (lv' := [(3, .int (nI (i + 7))), (0, .ref b), (1, .ref (ad 0)), (2, .ref (bd 0))]) hx hb dL_law_700 hl (k := 3) rfl (by show nI i + nI 7 = _; rw [nI_add]) (by decide) rfl (fun ls hl => ?_)
        refine lv_goto (tgt := 18) hx hb dL_law_703 (by decide) ?_
        refine W.widen (k := cells + 1) (n := slots + 7) (by omega) (by omega) ?_
        exact ih (i + 7) (cells + 1) (slots + 7) tq ag lo ch al an sh wa pl ru row dn dy lv od sn L pd ((sX6_life ru sh pl wa dn kd ld tm pk ts io (xs (i + 1))).2) kd ld tm pk ts wo io mlv mmt ad bd (by omega) (by omega) (by omega) (by omega) hLI _ _ hP hD hS ls (lv_sub hl [1, 2, 3, 0] rfl)
      · exact absurd ea c_13
    by_cases z9 : sel = 9
    · refine lv_tableIn (tgt := 449) hx hb dL_law_33 (off := 416) (by rw [z9] <;> decide) (by rw [z9] <;> decide) (by rw [z9] <;> decide +kernel) (by decide) ?_
      refine lv_aload_n hx hb dL_law_449 rfl (lv_at hl 1 rfl) ?_
      refine lv_aload_n hx hb dL_law_450 rfl (lv_at hl 0 rfl) ?_
      refine lv_iload_n hx hb dL_law_451 rfl (lv_at hl 3 rfl) ?_
      refine lv_iconst (v := 1) hx hb dL_law_452 (by decide) ?_
      refine lv_iadd hx hb dL_law_453 ?_
      refine W.eq (g2 := F0 m 454 ls [.int (nI (i + 1)), .ref b, .ref (ad 0)]) (by rw [show (1 : Int32) = nI 1 from rfl, nI_add]) ?_
      refine va_sld hx hb hX hbl hbA hS (vp_in_nI (n := i + 1) (by omega) (by omega)) dL_law_454 ?_
      refine W.eq (g2 := F0 m 455 ls [.int (xs (i + 1)), .ref (ad 0)]) (by rw [nI_clamp (show i + 1 < 2 ^ 31 by omega)]) ?_
      refine lv_aload_n hx hb dL_law_455 rfl (lv_at hl 0 rfl) ?_
      refine lv_iload_n hx hb dL_law_456 rfl (lv_at hl 3 rfl) ?_
      refine lv_iconst (v := 2) hx hb dL_law_457 (by decide) ?_
      refine lv_iadd hx hb dL_law_458 ?_
      refine W.eq (g2 := F0 m 459 ls [.int (nI (i + 2)), .ref b, .int (xs (i + 1)), .ref (ad 0)]) (by rw [show (2 : Int32) = nI 2 from rfl, nI_add]) ?_
      refine va_sld hx hb hX hbl hbA hS (vp_in_nI (n := i + 2) (by omega) (by omega)) dL_law_459 ?_
      refine W.eq (g2 := F0 m 460 ls [.int (xs (i + 2)), .int (xs (i + 1)), .ref (ad 0)]) (by rw [nI_clamp (show i + 2 < 2 ^ 31 by omega)]) ?_
      refine cd_rV (As := [.int (xs (i + 1)), .int (xs (i + 2))]) (b := (ad 0)) (ci := 5) (q := (RX5, TX5, 5)) (rest := []) ⟨hx, hb, hml, hown, hts⟩ (kX5_charge l dC dI cI cQ cZ ad tq ag lo ch al an sh wa pl (ru 0) (ru 1) (ru 2) row dn dy lv od sn L pd (xs (i + 1)) (xs (i + 2)) hLI.1.2.2.2.1 hLI.2.2.2.1) (cwV 2 hts gL_law_X5_charge rfl rfl rfl (by decide +kernel) ⟨by decide, by decide⟩) hK (hP.part (cx := wCx cI cQ ad tq ag lo ch al an sh wa pl (ru 0) (ru 1) (ru 2) row dn dy lv od sn) [15, 16, 17, 18, 19, 20, 21, 22, 23, 24, 25, 26, 27, 28, 29] rfl) rfl rfl rfl hl.1 rfl (Nat.le_of_ble_eq_true rfl) dL_law_460 ⟨show _ ≤ 600000 by omega, show _ ≤ 7302250 by omega⟩ ?_
      refine lv_aload_n hx hb dL_law_463 rfl (lv_at hl 2 rfl) ?_
      refine lv_aload_n hx hb dL_law_464 rfl (lv_at hl 0 rfl) ?_
      refine lv_iload_n hx hb dL_law_465 rfl (lv_at hl 3 rfl) ?_
      refine lv_iconst (v := 1) hx hb dL_law_466 (by decide) ?_
      refine lv_iadd hx hb dL_law_467 ?_
      refine W.eq (g2 := F0 m 468 ls [.int (nI (i + 1)), .ref b, .ref (bd 0), .int (sX5_charge sh wa pl (ru 0) (ru 1) (ru 2) row dn pd (xs (i + 1)) (xs (i + 2)))]) (by rw [show (1 : Int32) = nI 1 from rfl, nI_add]) ?_
      refine va_sld hx hb hX hbl hbA hS (vp_in_nI (n := i + 1) (by omega) (by omega)) dL_law_468 ?_
      refine W.eq (g2 := F0 m 469 ls [.int (xs (i + 1)), .ref (bd 0), .int (sX5_charge sh wa pl (ru 0) (ru 1) (ru 2) row dn pd (xs (i + 1)) (xs (i + 2)))]) (by rw [nI_clamp (show i + 1 < 2 ^ 31 by omega)]) ?_
      refine lv_aload_n hx hb dL_law_469 rfl (lv_at hl 0 rfl) ?_
      refine lv_iload_n hx hb dL_law_470 rfl (lv_at hl 3 rfl) ?_
      refine lv_iconst (v := 2) hx hb dL_law_471 (by decide) ?_
      refine lv_iadd hx hb dL_law_472 ?_
      refine W.eq (g2 := F0 m 473 ls [.int (nI (i + 2)), .ref b, .int (xs (i + 1)), .ref (bd 0), .int (sX5_charge sh wa pl (ru 0) (ru 1) (ru 2) row dn pd (xs (i + 1)) (xs (i + 2)))]) (by rw [show (2 : Int32) = nI 2 from rfl, nI_add]) ?_
      refine va_sld hx hb hX hbl hbA hS (vp_in_nI (n := i + 2) (by omega) (by omega)) dL_law_473 ?_
      refine W.eq (g2 := F0 m 474 ls [.int (xs (i + 2)), .int (xs (i + 1)), .ref (bd 0), .int (sX5_charge sh wa pl (ru 0) (ru 1) (ru 2) row dn pd (xs (i + 1)) (xs (i + 2)))]) (by rw [nI_clamp (show i + 2 < 2 ^ 31 by omega)]) ?_
      have hDc : va_D (fun q : Nat => s.heap.size ≤ q) (wMd cI cZ bd th tq ru sh pl wa dn kd ld tm pk ts wo io sn dy lv mlv mmt) := (hD.sub (ws' := wMd cI cZ bd th tq ru sh pl wa dn kd ld tm pk ts wo io sn dy lv mlv mmt) [0, 1, 2, 3, 4, 5, 6, 7, 8, 9, 10, 11, 12, 13, 14] (by decide) rfl)
      have hFc := cd_F hDc hS hA
      refine cd_wV (As := [.int (xs (i + 1)), .int (xs (i + 2))]) (b := (bd 0)) (ci := 6) (q := (RX6, TX6, 19)) (rest := [.int (sX5_charge sh wa pl (ru 0) (ru 1) (ru 2) row dn pd (xs (i + 1)) (xs (i + 2)))]) ⟨hx, hb, hml, hown, hts⟩ (kX6_charge l dC dI cI cQ cZ bd th tq ru sh pl wa dn kd ld tm pk ts wo io sn dy lv mlv mmt (xs (i + 1)) (xs (i + 2)) H.size hLI.1) (cwV 2 hts gL_law_X6_charge rfl rfl rfl (by decide +kernel) ⟨by decide, by decide⟩) hK (hP.sub (ws' := wMd cI cZ bd th tq ru sh pl wa dn kd ld tm pk ts wo io sn dy lv mlv mmt) [0, 1, 2, 3, 4, 5, 6, 7, 8, 9, 10, 11, 12, 13, 14] rfl) hDc hFc hS rfl rfl rfl hl.1 rfl (Nat.le_of_ble_eq_true rfl) dL_law_474 ⟨show _ ≤ 600000 by omega, show _ ≤ 7302250 by omega⟩ (fun H1 locs hP1 hD1 hk1 hS => ?_)
      obtain ⟨hP, hD⟩ := va_joinQ (X := wMd cI cZ bd th tq ru sh pl wa dn kd ld tm pk ts wo io sn dy lv mlv mmt ++ wCx cI cQ ad tq ag lo ch al an sh wa pl (ru 0) (ru 1) (ru 2) row dn dy lv od sn) (cx := wMd cI cZ bd th tq ru sh pl wa dn kd ld tm pk ts wo io sn dy lv mlv mmt) (wr := wCx cI cQ ad tq ag lo ch al an sh wa pl (ru 0) (ru 1) (ru 2) row dn dy lv od sn) (w1 := wMd cI cZ bd ((sX6_charge ru sh pl wa dn kd ld tm pk ts io (xs (i + 1)) (xs (i + 2))).2) tq ru sh pl wa dn kd ld tm pk ts wo io sn dy lv mlv mmt) hP hD [0, 1, 2, 3, 4, 5, 6, 7, 8, 9, 10, 11, 12, 13, 14] [15, 16, 17, 18, 19, 20, 21, 22, 23, 24, 25, 26, 27, 28, 29] rfl rfl (by decide) (by decide) hk1 hFc hP1 hD1
      have hP := hP.part (cx := wMd cI cZ bd ((sX6_charge ru sh pl wa dn kd ld tm pk ts io (xs (i + 1)) (xs (i + 2))).2) tq ru sh pl wa dn kd ld tm pk ts wo io sn dy lv mlv mmt ++ wCx cI cQ ad tq ag lo ch al an sh wa pl (ru 0) (ru 1) (ru 2) row dn dy lv od sn) [15, 16, 17, 18, 19, 20, 21, 22, 23, 24, 25, 26, 27, 28, 29, 0, 1, 2, 3, 4, 5, 6, 7, 8, 9, 10, 11, 12, 13, 14] rfl
      have hD := hD.part (cx := wMd cI cZ bd ((sX6_charge ru sh pl wa dn kd ld tm pk ts io (xs (i + 1)) (xs (i + 2))).2) tq ru sh pl wa dn kd ld tm pk ts wo io sn dy lv mlv mmt ++ wCx cI cQ ad tq ag lo ch al an sh wa pl (ru 0) (ru 1) (ru 2) row dn dy lv od sn) [15, 16, 17, 18, 19, 20, 21, 22, 23, 24, 25, 26, 27, 28, 29, 0, 1, 2, 3, 4, 5, 6, 7, 8, 9, 10, 11, 12, 13, 14] (by decide) rfl
      generalize H1 = H at hP hS ⊢
      have hP : va_P (dC, dI) vwCl ((wMd cI cZ bd ((sX6_charge ru sh pl wa dn kd ld tm pk ts io (xs (i + 1)) (xs (i + 2))).2) tq ru sh pl wa dn kd ld tm pk ts wo io sn dy lv mlv mmt ++ wCx cI cQ ad tq ag lo ch al an sh wa pl (ru 0) (ru 1) (ru 2) row dn dy lv od sn) ++ dpl L pd) H := hP
      have hD : va_D (fun q : Nat => s.heap.size ≤ q) ((wMd cI cZ bd ((sX6_charge ru sh pl wa dn kd ld tm pk ts io (xs (i + 1)) (xs (i + 2))).2) tq ru sh pl wa dn kd ld tm pk ts wo io sn dy lv mlv mmt ++ wCx cI cQ ad tq ag lo ch al an sh wa pl (ru 0) (ru 1) (ru 2) row dn dy lv od sn) ++ dpl L pd) := hD
      have ea := op_charge hLI  (xs (i + 1)) (xs (i + 2))
      refine lv_icmp_eq (tgt := 700) hx hb dL_law_477 (by decide) (fun c_14 => ?_) (fun c_14 => ?_)
      · skip
        refine lv_iinc (v := nI (i + 7)) (lv' := [(3, .int (nI (i + 7))), (0, .ref b), (1, .ref (ad 0)), (2, .ref (bd 0))]) hx hb dL_law_700 hl (k := 3) rfl (by show nI i + nI 7 = _; rw [nI_add]) (by decide) rfl (fun ls hl => ?_)
        refine lv_goto (tgt := 18) hx hb dL_law_703 (by decide) ?_
        refine W.widen (k := cells + 1) (n := slots + 7) (by omega) (by omega) ?_
        exact ih (i + 7) (cells + 1) (slots + 7) tq ag lo ch al an sh wa pl ru row dn dy lv od sn L pd ((sX6_charge ru sh pl wa dn kd ld tm pk ts io (xs (i + 1)) (xs (i + 2))).2) kd ld tm pk ts wo io mlv mmt ad bd (by omega) (by omega) (by omega) (by omega) hLI _ _ hP hD hS ls (lv_sub hl [1, 2, 3, 0] rfl)
      · exact absurd ea c_14
    by_cases z10 : sel = 10
    · refine lv_tableIn (tgt := 482) hx hb dL_law_33 (off := 449) (by rw [z10] <;> decide) (by rw [z10] <;> decide) (by rw [z10] <;> decide +kernel) (by decide) ?_
      refine lv_aload_n hx hb dL_law_482 rfl (lv_at hl 1 rfl) ?_
      refine lv_aload_n hx hb dL_law_483 rfl (lv_at hl 0 rfl) ?_
      refine lv_iload_n hx hb dL_law_484 rfl (lv_at hl 3 rfl) ?_
      refine lv_iconst (v := 1) hx hb dL_law_485 (by decide) ?_
      refine lv_iadd hx hb dL_law_486 ?_
      refine W.eq (g2 := F0 m 487 ls [.int (nI (i + 1)), .ref b, .ref (ad 0)]) (by rw [show (1 : Int32) = nI 1 from rfl, nI_add]) ?_
      refine va_sld hx hb hX hbl hbA hS (vp_in_nI (n := i + 1) (by omega) (by omega)) dL_law_487 ?_
      refine W.eq (g2 := F0 m 488 ls [.int (xs (i + 1)), .ref (ad 0)]) (by rw [nI_clamp (show i + 1 < 2 ^ 31 by omega)]) ?_
      refine cd_rV (As := [.int (xs (i + 1))]) (b := (ad 0)) (ci := 5) (q := (RX5, TX5, 5)) (rest := []) ⟨hx, hb, hml, hown, hts⟩ (kX5_price l dC dI cI cQ cZ ad tq ag lo ch al an sh wa pl (ru 0) (ru 1) (ru 2) row dn dy lv od sn L pd (xs (i + 1)) hLI.1.2.2.2.1 hLI.2.2.2.1) (cwV 1 hts gL_law_X5_price rfl rfl rfl (by decide +kernel) ⟨by decide, by decide⟩) hK (hP.part (cx := wCx cI cQ ad tq ag lo ch al an sh wa pl (ru 0) (ru 1) (ru 2) row dn dy lv od sn) [15, 16, 17, 18, 19, 20, 21, 22, 23, 24, 25, 26, 27, 28, 29] rfl) rfl rfl rfl hl.1 rfl (Nat.le_of_ble_eq_true rfl) dL_law_488 ⟨show _ ≤ 600000 by omega, show _ ≤ 7302250 by omega⟩ ?_
      refine lv_aload_n hx hb dL_law_491 rfl (lv_at hl 2 rfl) ?_
      refine lv_aload_n hx hb dL_law_492 rfl (lv_at hl 0 rfl) ?_
      refine lv_iload_n hx hb dL_law_493 rfl (lv_at hl 3 rfl) ?_
      refine lv_iconst (v := 1) hx hb dL_law_494 (by decide) ?_
      refine lv_iadd hx hb dL_law_495 ?_
      refine W.eq (g2 := F0 m 496 ls [.int (nI (i + 1)), .ref b, .ref (bd 0), .int (sX5_price sh wa pl (ru 0) (ru 1) (ru 2) row dn pd (xs (i + 1)))]) (by rw [show (1 : Int32) = nI 1 from rfl, nI_add]) ?_
      refine va_sld hx hb hX hbl hbA hS (vp_in_nI (n := i + 1) (by omega) (by omega)) dL_law_496 ?_
      refine W.eq (g2 := F0 m 497 ls [.int (xs (i + 1)), .ref (bd 0), .int (sX5_price sh wa pl (ru 0) (ru 1) (ru 2) row dn pd (xs (i + 1)))]) (by rw [nI_clamp (show i + 1 < 2 ^ 31 by omega)]) ?_
      have hDc : va_D (fun q : Nat => s.heap.size ≤ q) (wMd cI cZ bd th tq ru sh pl wa dn kd ld tm pk ts wo io sn dy lv mlv mmt) := (hD.sub (ws' := wMd cI cZ bd th tq ru sh pl wa dn kd ld tm pk ts wo io sn dy lv mlv mmt) [0, 1, 2, 3, 4, 5, 6, 7, 8, 9, 10, 11, 12, 13, 14] (by decide) rfl)
      have hFc := cd_F hDc hS hA
      refine cd_wV (As := [.int (xs (i + 1))]) (b := (bd 0)) (ci := 6) (q := (RX6, TX6, 19)) (rest := [.int (sX5_price sh wa pl (ru 0) (ru 1) (ru 2) row dn pd (xs (i + 1)))]) ⟨hx, hb, hml, hown, hts⟩ (kX6_price l dC dI cI cQ cZ bd th tq ru sh pl wa dn kd ld tm pk ts wo io sn dy lv mlv mmt (xs (i + 1)) H.size hLI.1) (cwV 1 hts gL_law_X6_price rfl rfl rfl (by decide +kernel) ⟨by decide, by decide⟩) hK (hP.sub (ws' := wMd cI cZ bd th tq ru sh pl wa dn kd ld tm pk ts wo io sn dy lv mlv mmt) [0, 1, 2, 3, 4, 5, 6, 7, 8, 9, 10, 11, 12, 13, 14] rfl) hDc hFc hS rfl rfl rfl hl.1 rfl (Nat.le_of_ble_eq_true rfl) dL_law_497 ⟨show _ ≤ 600000 by omega, show _ ≤ 7302250 by omega⟩ (fun H1 locs hP1 hD1 hk1 hS => ?_)
      obtain ⟨hP, hD⟩ := va_joinQ (X := wMd cI cZ bd th tq ru sh pl wa dn kd ld tm pk ts wo io sn dy lv mlv mmt ++ wCx cI cQ ad tq ag lo ch al an sh wa pl (ru 0) (ru 1) (ru 2) row dn dy lv od sn) (cx := wMd cI cZ bd th tq ru sh pl wa dn kd ld tm pk ts wo io sn dy lv mlv mmt) (wr := wCx cI cQ ad tq ag lo ch al an sh wa pl (ru 0) (ru 1) (ru 2) row dn dy lv od sn) (w1 := wMd cI cZ bd ((sX6_price ru sh pl wa dn kd ld tm pk ts io (xs (i + 1))).2) tq ru sh pl wa dn kd ld tm pk ts wo io sn dy lv mlv mmt) hP hD [0, 1, 2, 3, 4, 5, 6, 7, 8, 9, 10, 11, 12, 13, 14] [15, 16, 17, 18, 19, 20, 21, 22, 23, 24, 25, 26, 27, 28, 29] rfl rfl (by decide) (by decide) hk1 hFc hP1 hD1
      have hP := hP.part (cx := wMd cI cZ bd ((sX6_price ru sh pl wa dn kd ld tm pk ts io (xs (i + 1))).2) tq ru sh pl wa dn kd ld tm pk ts wo io sn dy lv mlv mmt ++ wCx cI cQ ad tq ag lo ch al an sh wa pl (ru 0) (ru 1) (ru 2) row dn dy lv od sn) [15, 16, 17, 18, 19, 20, 21, 22, 23, 24, 25, 26, 27, 28, 29, 0, 1, 2, 3, 4, 5, 6, 7, 8, 9, 10, 11, 12, 13, 14] rfl
      have hD := hD.part (cx := wMd cI cZ bd ((sX6_price ru sh pl wa dn kd ld tm pk ts io (xs (i + 1))).2) tq ru sh pl wa dn kd ld tm pk ts wo io sn dy lv mlv mmt ++ wCx cI cQ ad tq ag lo ch al an sh wa pl (ru 0) (ru 1) (ru 2) row dn dy lv od sn) [15, 16, 17, 18, 19, 20, 21, 22, 23, 24, 25, 26, 27, 28, 29, 0, 1, 2, 3, 4, 5, 6, 7, 8, 9, 10, 11, 12, 13, 14] (by decide) rfl
      generalize H1 = H at hP hS ⊢
      have hP : va_P (dC, dI) vwCl ((wMd cI cZ bd ((sX6_price ru sh pl wa dn kd ld tm pk ts io (xs (i + 1))).2) tq ru sh pl wa dn kd ld tm pk ts wo io sn dy lv mlv mmt ++ wCx cI cQ ad tq ag lo ch al an sh wa pl (ru 0) (ru 1) (ru 2) row dn dy lv od sn) ++ dpl L pd) H := hP
      have hD : va_D (fun q : Nat => s.heap.size ≤ q) ((wMd cI cZ bd ((sX6_price ru sh pl wa dn kd ld tm pk ts io (xs (i + 1))).2) tq ru sh pl wa dn kd ld tm pk ts wo io sn dy lv mlv mmt ++ wCx cI cQ ad tq ag lo ch al an sh wa pl (ru 0) (ru 1) (ru 2) row dn dy lv od sn) ++ dpl L pd) := hD
      have ea := op_price hLI  (xs (i + 1))
      refine lv_icmp_eq (tgt := 700) hx hb dL_law_500 (by decide) (fun c_15 => ?_) (fun c_15 => ?_)
      · skip
        refine lv_iinc (v := nI (i + 7)) (lv' := [(3, .int (nI (i + 7))), (0, .ref b), (1, .ref (ad 0)), (2, .ref (bd 0))]) hx hb dL_law_700 hl (k := 3) rfl (by show nI i + nI 7 = _; rw [nI_add]) (by decide) rfl (fun ls hl => ?_)
        refine lv_goto (tgt := 18) hx hb dL_law_703 (by decide) ?_
        refine W.widen (k := cells + 1) (n := slots + 7) (by omega) (by omega) ?_
        exact ih (i + 7) (cells + 1) (slots + 7) tq ag lo ch al an sh wa pl ru row dn dy lv od sn L pd ((sX6_price ru sh pl wa dn kd ld tm pk ts io (xs (i + 1))).2) kd ld tm pk ts wo io mlv mmt ad bd (by omega) (by omega) (by omega) (by omega) hLI _ _ hP hD hS ls (lv_sub hl [1, 2, 3, 0] rfl)
      · exact absurd ea c_15
    by_cases z11 : sel = 11
    · refine lv_tableIn (tgt := 505) hx hb dL_law_33 (off := 472) (by rw [z11] <;> decide) (by rw [z11] <;> decide) (by rw [z11] <;> decide +kernel) (by decide) ?_
      refine lv_aload_n hx hb dL_law_505 rfl (lv_at hl 1 rfl) ?_
      refine lv_aload_n hx hb dL_law_506 rfl (lv_at hl 0 rfl) ?_
      refine lv_iload_n hx hb dL_law_507 rfl (lv_at hl 3 rfl) ?_
      refine lv_iconst (v := 1) hx hb dL_law_508 (by decide) ?_
      refine lv_iadd hx hb dL_law_509 ?_
      refine W.eq (g2 := F0 m 510 ls [.int (nI (i + 1)), .ref b, .ref (ad 0)]) (by rw [show (1 : Int32) = nI 1 from rfl, nI_add]) ?_
      refine va_sld hx hb hX hbl hbA hS (vp_in_nI (n := i + 1) (by omega) (by omega)) dL_law_510 ?_
      refine W.eq (g2 := F0 m 511 ls [.int (xs (i + 1)), .ref (ad 0)]) (by rw [nI_clamp (show i + 1 < 2 ^ 31 by omega)]) ?_
      refine lv_aload_n hx hb dL_law_511 rfl (lv_at hl 0 rfl) ?_
      refine lv_iload_n hx hb dL_law_512 rfl (lv_at hl 3 rfl) ?_
      refine lv_iconst (v := 2) hx hb dL_law_513 (by decide) ?_
      refine lv_iadd hx hb dL_law_514 ?_
      refine W.eq (g2 := F0 m 515 ls [.int (nI (i + 2)), .ref b, .int (xs (i + 1)), .ref (ad 0)]) (by rw [show (2 : Int32) = nI 2 from rfl, nI_add]) ?_
      refine va_sld hx hb hX hbl hbA hS (vp_in_nI (n := i + 2) (by omega) (by omega)) dL_law_515 ?_
      refine W.eq (g2 := F0 m 516 ls [.int (xs (i + 2)), .int (xs (i + 1)), .ref (ad 0)]) (by rw [nI_clamp (show i + 2 < 2 ^ 31 by omega)]) ?_
      refine cd_rV (As := [.int (xs (i + 1)), .int (xs (i + 2))]) (b := (ad 0)) (ci := 5) (q := (RX5, TX5, 5)) (rest := []) ⟨hx, hb, hml, hown, hts⟩ (kX5_plan l dC dI cI cQ cZ ad tq ag lo ch al an sh wa pl (ru 0) (ru 1) (ru 2) row dn dy lv od sn L pd (xs (i + 1)) (xs (i + 2)) hLI.1.2.2.2.1 hLI.2.2.2.1) (cwV 2 hts gL_law_X5_plan rfl rfl rfl (by decide +kernel) ⟨by decide, by decide⟩) hK (hP.part (cx := wCx cI cQ ad tq ag lo ch al an sh wa pl (ru 0) (ru 1) (ru 2) row dn dy lv od sn) [15, 16, 17, 18, 19, 20, 21, 22, 23, 24, 25, 26, 27, 28, 29] rfl) rfl rfl rfl hl.1 rfl (Nat.le_of_ble_eq_true rfl) dL_law_516 ⟨show _ ≤ 600000 by omega, show _ ≤ 7302250 by omega⟩ ?_
      refine lv_aload_n hx hb dL_law_519 rfl (lv_at hl 2 rfl) ?_
      refine lv_aload_n hx hb dL_law_520 rfl (lv_at hl 0 rfl) ?_
      refine lv_iload_n hx hb dL_law_521 rfl (lv_at hl 3 rfl) ?_
      refine lv_iconst (v := 1) hx hb dL_law_522 (by decide) ?_
      refine lv_iadd hx hb dL_law_523 ?_
      refine W.eq (g2 := F0 m 524 ls [.int (nI (i + 1)), .ref b, .ref (bd 0), .int (sX5_plan sh wa pl (ru 0) (ru 1) (ru 2) row dn pd (xs (i + 1)) (xs (i + 2)))]) (by rw [show (1 : Int32) = nI 1 from rfl, nI_add]) ?_
      refine va_sld hx hb hX hbl hbA hS (vp_in_nI (n := i + 1) (by omega) (by omega)) dL_law_524 ?_
      refine W.eq (g2 := F0 m 525 ls [.int (xs (i + 1)), .ref (bd 0), .int (sX5_plan sh wa pl (ru 0) (ru 1) (ru 2) row dn pd (xs (i + 1)) (xs (i + 2)))]) (by rw [nI_clamp (show i + 1 < 2 ^ 31 by omega)]) ?_
      refine lv_aload_n hx hb dL_law_525 rfl (lv_at hl 0 rfl) ?_
      refine lv_iload_n hx hb dL_law_526 rfl (lv_at hl 3 rfl) ?_
      refine lv_iconst (v := 2) hx hb dL_law_527 (by decide) ?_
      refine lv_iadd hx hb dL_law_528 ?_
      refine W.eq (g2 := F0 m 529 ls [.int (nI (i + 2)), .ref b, .int (xs (i + 1)), .ref (bd 0), .int (sX5_plan sh wa pl (ru 0) (ru 1) (ru 2) row dn pd (xs (i + 1)) (xs (i + 2)))]) (by rw [show (2 : Int32) = nI 2 from rfl, nI_add]) ?_
      refine va_sld hx hb hX hbl hbA hS (vp_in_nI (n := i + 2) (by omega) (by omega)) dL_law_529 ?_
      refine W.eq (g2 := F0 m 530 ls [.int (xs (i + 2)), .int (xs (i + 1)), .ref (bd 0), .int (sX5_plan sh wa pl (ru 0) (ru 1) (ru 2) row dn pd (xs (i + 1)) (xs (i + 2)))]) (by rw [nI_clamp (show i + 2 < 2 ^ 31 by omega)]) ?_
      have hDc : va_D (fun q : Nat => s.heap.size ≤ q) (wMd cI cZ bd th tq ru sh pl wa dn kd ld tm pk ts wo io sn dy lv mlv mmt) := (hD.sub (ws' := wMd cI cZ bd th tq ru sh pl wa dn kd ld tm pk ts wo io sn dy lv mlv mmt) [0, 1, 2, 3, 4, 5, 6, 7, 8, 9, 10, 11, 12, 13, 14] (by decide) rfl)
      have hFc := cd_F hDc hS hA
      refine cd_wV (As := [.int (xs (i + 1)), .int (xs (i + 2))]) (b := (bd 0)) (ci := 6) (q := (RX6, TX6, 19)) (rest := [.int (sX5_plan sh wa pl (ru 0) (ru 1) (ru 2) row dn pd (xs (i + 1)) (xs (i + 2)))]) ⟨hx, hb, hml, hown, hts⟩ (kX6_plan l dC dI cI cQ cZ bd th tq ru sh pl wa dn kd ld tm pk ts wo io sn dy lv mlv mmt (xs (i + 1)) (xs (i + 2)) H.size hLI.1) (cwV 2 hts gL_law_X6_plan rfl rfl rfl (by decide +kernel) ⟨by decide, by decide⟩) hK (hP.sub (ws' := wMd cI cZ bd th tq ru sh pl wa dn kd ld tm pk ts wo io sn dy lv mlv mmt) [0, 1, 2, 3, 4, 5, 6, 7, 8, 9, 10, 11, 12, 13, 14] rfl) hDc hFc hS rfl rfl rfl hl.1 rfl (Nat.le_of_ble_eq_true rfl) dL_law_530 ⟨show _ ≤ 600000 by omega, show _ ≤ 7302250 by omega⟩ (fun H1 locs hP1 hD1 hk1 hS => ?_)
      obtain ⟨hP, hD⟩ := va_joinQ (X := wMd cI cZ bd th tq ru sh pl wa dn kd ld tm pk ts wo io sn dy lv mlv mmt ++ wCx cI cQ ad tq ag lo ch al an sh wa pl (ru 0) (ru 1) (ru 2) row dn dy lv od sn) (cx := wMd cI cZ bd th tq ru sh pl wa dn kd ld tm pk ts wo io sn dy lv mlv mmt) (wr := wCx cI cQ ad tq ag lo ch al an sh wa pl (ru 0) (ru 1) (ru 2) row dn dy lv od sn) (w1 := wMd cI cZ bd ((sX6_plan ru sh pl wa dn kd ld tm pk ts wo (xs (i + 1)) (xs (i + 2))).2) tq ru sh pl wa dn kd ld tm pk ts wo io sn dy lv mlv mmt) hP hD [0, 1, 2, 3, 4, 5, 6, 7, 8, 9, 10, 11, 12, 13, 14] [15, 16, 17, 18, 19, 20, 21, 22, 23, 24, 25, 26, 27, 28, 29] rfl rfl (by decide) (by decide) hk1 hFc hP1 hD1
      have hP := hP.part (cx := wMd cI cZ bd ((sX6_plan ru sh pl wa dn kd ld tm pk ts wo (xs (i + 1)) (xs (i + 2))).2) tq ru sh pl wa dn kd ld tm pk ts wo io sn dy lv mlv mmt ++ wCx cI cQ ad tq ag lo ch al an sh wa pl (ru 0) (ru 1) (ru 2) row dn dy lv od sn) [15, 16, 17, 18, 19, 20, 21, 22, 23, 24, 25, 26, 27, 28, 29, 0, 1, 2, 3, 4, 5, 6, 7, 8, 9, 10, 11, 12, 13, 14] rfl
      have hD := hD.part (cx := wMd cI cZ bd ((sX6_plan ru sh pl wa dn kd ld tm pk ts wo (xs (i + 1)) (xs (i + 2))).2) tq ru sh pl wa dn kd ld tm pk ts wo io sn dy lv mlv mmt ++ wCx cI cQ ad tq ag lo ch al an sh wa pl (ru 0) (ru 1) (ru 2) row dn dy lv od sn) [15, 16, 17, 18, 19, 20, 21, 22, 23, 24, 25, 26, 27, 28, 29, 0, 1, 2, 3, 4, 5, 6, 7, 8, 9, 10, 11, 12, 13, 14] (by decide) rfl
      generalize H1 = H at hP hS ⊢
      have hP : va_P (dC, dI) vwCl ((wMd cI cZ bd ((sX6_plan ru sh pl wa dn kd ld tm pk ts wo (xs (i + 1)) (xs (i + 2))).2) tq ru sh pl wa dn kd ld tm pk ts wo io sn dy lv mlv mmt ++ wCx cI cQ ad tq ag lo ch al an sh wa pl (ru 0) (ru 1) (ru 2) row dn dy lv od sn) ++ dpl L pd) H := hP
      have hD : va_D (fun q : Nat => s.heap.size ≤ q) ((wMd cI cZ bd ((sX6_plan ru sh pl wa dn kd ld tm pk ts wo (xs (i + 1)) (xs (i + 2))).2) tq ru sh pl wa dn kd ld tm pk ts wo io sn dy lv mlv mmt ++ wCx cI cQ ad tq ag lo ch al an sh wa pl (ru 0) (ru 1) (ru 2) row dn dy lv od sn) ++ dpl L pd) := hD
      have ea := op_plan hLI  (xs (i + 1)) (xs (i + 2))
      refine lv_icmp_eq (tgt := 700) hx hb dL_law_533 (by decide) (fun c_16 => ?_) (fun c_16 => ?_)
      · skip
        refine lv_iinc (v := nI (i + 7)) (lv' := [(3, .int (nI (i + 7))), (0, .ref b), (1, .ref (ad 0)), (2, .ref (bd 0))]) hx hb dL_law_700 hl (k := 3) rfl (by show nI i + nI 7 = _; rw [nI_add]) (by decide) rfl (fun ls hl => ?_)
        refine lv_goto (tgt := 18) hx hb dL_law_703 (by decide) ?_
        refine W.widen (k := cells + 1) (n := slots + 7) (by omega) (by omega) ?_
        exact ih (i + 7) (cells + 1) (slots + 7) tq ag lo ch al an sh wa pl ru row dn dy lv od sn L pd ((sX6_plan ru sh pl wa dn kd ld tm pk ts wo (xs (i + 1)) (xs (i + 2))).2) kd ld tm pk ts wo io mlv mmt ad bd (by omega) (by omega) (by omega) (by omega) hLI _ _ hP hD hS ls (lv_sub hl [1, 2, 3, 0] rfl)
      · exact absurd ea c_16
    by_cases z12 : sel = 12
    · refine lv_tableIn (tgt := 538) hx hb dL_law_33 (off := 505) (by rw [z12] <;> decide) (by rw [z12] <;> decide) (by rw [z12] <;> decide +kernel) (by decide) ?_
      refine lv_aload_n hx hb dL_law_538 rfl (lv_at hl 1 rfl) ?_
      refine lv_aload_n hx hb dL_law_539 rfl (lv_at hl 0 rfl) ?_
      refine lv_iload_n hx hb dL_law_540 rfl (lv_at hl 3 rfl) ?_
      refine lv_iconst (v := 1) hx hb dL_law_541 (by decide) ?_
      refine lv_iadd hx hb dL_law_542 ?_
      refine W.eq (g2 := F0 m 543 ls [.int (nI (i + 1)), .ref b, .ref (ad 0)]) (by rw [show (1 : Int32) = nI 1 from rfl, nI_add]) ?_
      refine va_sld hx hb hX hbl hbA hS (vp_in_nI (n := i + 1) (by omega) (by omega)) dL_law_543 ?_
      refine W.eq (g2 := F0 m 544 ls [.int (xs (i + 1)), .ref (ad 0)]) (by rw [nI_clamp (show i + 1 < 2 ^ 31 by omega)]) ?_
      refine lv_aload_n hx hb dL_law_544 rfl (lv_at hl 0 rfl) ?_
      refine lv_iload_n hx hb dL_law_545 rfl (lv_at hl 3 rfl) ?_
      refine lv_iconst (v := 2) hx hb dL_law_546 (by decide) ?_
      refine lv_iadd hx hb dL_law_547 ?_
      refine W.eq (g2 := F0 m 548 ls [.int (nI (i + 2)), .ref b, .int (xs (i + 1)), .ref (ad 0)]) (by rw [show (2 : Int32) = nI 2 from rfl, nI_add]) ?_
      refine va_sld hx hb hX hbl hbA hS (vp_in_nI (n := i + 2) (by omega) (by omega)) dL_law_548 ?_
      refine W.eq (g2 := F0 m 549 ls [.int (xs (i + 2)), .int (xs (i + 1)), .ref (ad 0)]) (by rw [nI_clamp (show i + 2 < 2 ^ 31 by omega)]) ?_
      have hDc : va_D (fun q : Nat => s.heap.size ≤ q) (wCx cI cQ ad tq ag lo ch al an sh wa pl (ru 0) (ru 1) (ru 2) row dn dy lv od sn ++ dpl L pd) := (hD.part (cx := wCx cI cQ ad tq ag lo ch al an sh wa pl (ru 0) (ru 1) (ru 2) row dn dy lv od sn) [15, 16, 17, 18, 19, 20, 21, 22, 23, 24, 25, 26, 27, 28, 29] (by decide) rfl)
      have hFc := cd_F hDc hS hA
      refine cd_wV (As := [.int (xs (i + 1)), .int (xs (i + 2))]) (b := (ad 0)) (ci := 5) (q := (RX5, TX5, 5)) (rest := []) ⟨hx, hb, hml, hown, hts⟩ (kX5_sign l dC dI cI cQ cZ ad tq ag lo ch al an sh wa pl (ru 0) (ru 1) (ru 2) row dn dy lv od sn L pd (xs (i + 1)) (xs (i + 2)) H.size hLI.1.2.2.2.2.1) (cwV 2 hts gL_law_X5_sign rfl rfl rfl (by decide +kernel) ⟨by decide, by decide⟩) hK (hP.part (cx := wCx cI cQ ad tq ag lo ch al an sh wa pl (ru 0) (ru 1) (ru 2) row dn dy lv od sn) [15, 16, 17, 18, 19, 20, 21, 22, 23, 24, 25, 26, 27, 28, 29] rfl) hDc hFc hS rfl rfl rfl hl.1 rfl (Nat.le_of_ble_eq_true rfl) dL_law_549 ⟨show _ ≤ 600000 by omega, show _ ≤ 7302250 by omega⟩ (fun H1 locs hP1 hD1 hk1 hS => ?_)
      obtain ⟨hP, hD⟩ := va_joinP (X := wMd cI cZ bd th tq ru sh pl wa dn kd ld tm pk ts wo io sn dy lv mlv mmt ++ wCx cI cQ ad tq ag lo ch al an sh wa pl (ru 0) (ru 1) (ru 2) row dn dy lv od sn) (cx := wCx cI cQ ad tq ag lo ch al an sh wa pl (ru 0) (ru 1) (ru 2) row dn dy lv od sn) (wr := wMd cI cZ bd th tq ru sh pl wa dn kd ld tm pk ts wo io sn dy lv mlv mmt) (rx := wCx cI cQ ad tq ag lo ch al an sh wa pl (ru 0) (ru 1) (ru 2) row dn ((sX5_sign dy lv od sn (xs (i + 1)) (xs (i + 2))).2.1) ((sX5_sign dy lv od sn (xs (i + 1)) (xs (i + 2))).2.2.1) ((sX5_sign dy lv od sn (xs (i + 1)) (xs (i + 2))).2.2.2.1) ((sX5_sign dy lv od sn (xs (i + 1)) (xs (i + 2))).2.2.2.2)) hP hD [15, 16, 17, 18, 19, 20, 21, 22, 23, 24, 25, 26, 27, 28, 29] [0, 1, 2, 3, 4, 5, 6, 7, 8, 9, 10, 11, 12, 13, 14] rfl rfl (by decide) (by decide) hk1 hFc hP1 hD1
      generalize H1 = H at hP hS ⊢
      have hP : va_P (dC, dI) vwCl ((wMd cI cZ bd th tq ru sh pl wa dn kd ld tm pk ts wo io sn dy lv mlv mmt ++ wCx cI cQ ad tq ag lo ch al an sh wa pl (ru 0) (ru 1) (ru 2) row dn ((sX5_sign dy lv od sn (xs (i + 1)) (xs (i + 2))).2.1) ((sX5_sign dy lv od sn (xs (i + 1)) (xs (i + 2))).2.2.1) ((sX5_sign dy lv od sn (xs (i + 1)) (xs (i + 2))).2.2.2.1) ((sX5_sign dy lv od sn (xs (i + 1)) (xs (i + 2))).2.2.2.2)) ++ dpl L pd) H := hP
      have hD : va_D (fun q : Nat => s.heap.size ≤ q) ((wMd cI cZ bd th tq ru sh pl wa dn kd ld tm pk ts wo io sn dy lv mlv mmt ++ wCx cI cQ ad tq ag lo ch al an sh wa pl (ru 0) (ru 1) (ru 2) row dn ((sX5_sign dy lv od sn (xs (i + 1)) (xs (i + 2))).2.1) ((sX5_sign dy lv od sn (xs (i + 1)) (xs (i + 2))).2.2.1) ((sX5_sign dy lv od sn (xs (i + 1)) (xs (i + 2))).2.2.2.1) ((sX5_sign dy lv od sn (xs (i + 1)) (xs (i + 2))).2.2.2.2)) ++ dpl L pd) := hD
      refine lv_aload_n hx hb dL_law_552 rfl (lv_at hl 2 rfl) ?_
      refine lv_aload_n hx hb dL_law_553 rfl (lv_at hl 0 rfl) ?_
      refine lv_iload_n hx hb dL_law_554 rfl (lv_at hl 3 rfl) ?_
      refine lv_iconst (v := 1) hx hb dL_law_555 (by decide) ?_
      refine lv_iadd hx hb dL_law_556 ?_
      refine W.eq (g2 := F0 m 557 ls [.int (nI (i + 1)), .ref b, .ref (bd 0), .int ((sX5_sign dy lv od sn (xs (i + 1)) (xs (i + 2))).1)]) (by rw [show (1 : Int32) = nI 1 from rfl, nI_add]) ?_
      refine va_sld hx hb hX hbl hbA hS (vp_in_nI (n := i + 1) (by omega) (by omega)) dL_law_557 ?_
      refine W.eq (g2 := F0 m 558 ls [.int (xs (i + 1)), .ref (bd 0), .int ((sX5_sign dy lv od sn (xs (i + 1)) (xs (i + 2))).1)]) (by rw [nI_clamp (show i + 1 < 2 ^ 31 by omega)]) ?_
      refine lv_aload_n hx hb dL_law_558 rfl (lv_at hl 0 rfl) ?_
      refine lv_iload_n hx hb dL_law_559 rfl (lv_at hl 3 rfl) ?_
      refine lv_iconst (v := 2) hx hb dL_law_560 (by decide) ?_
      refine lv_iadd hx hb dL_law_561 ?_
      refine W.eq (g2 := F0 m 562 ls [.int (nI (i + 2)), .ref b, .int (xs (i + 1)), .ref (bd 0), .int ((sX5_sign dy lv od sn (xs (i + 1)) (xs (i + 2))).1)]) (by rw [show (2 : Int32) = nI 2 from rfl, nI_add]) ?_
      refine va_sld hx hb hX hbl hbA hS (vp_in_nI (n := i + 2) (by omega) (by omega)) dL_law_562 ?_
      refine W.eq (g2 := F0 m 563 ls [.int (xs (i + 2)), .int (xs (i + 1)), .ref (bd 0), .int ((sX5_sign dy lv od sn (xs (i + 1)) (xs (i + 2))).1)]) (by rw [nI_clamp (show i + 2 < 2 ^ 31 by omega)]) ?_
      have hDc : va_D (fun q : Nat => s.heap.size ≤ q) (wMd cI cZ bd th tq ru sh pl wa dn kd ld tm pk ts wo io sn dy lv mlv mmt) := (hD.sub (ws' := wMd cI cZ bd th tq ru sh pl wa dn kd ld tm pk ts wo io sn dy lv mlv mmt) [0, 1, 2, 3, 4, 5, 6, 7, 8, 9, 10, 11, 12, 13, 14] (by decide) rfl)
      have hFc := cd_F hDc hS hA
      refine cd_wV (As := [.int (xs (i + 1)), .int (xs (i + 2))]) (b := (bd 0)) (ci := 6) (q := (RX6, TX6, 19)) (rest := [.int ((sX5_sign dy lv od sn (xs (i + 1)) (xs (i + 2))).1)]) ⟨hx, hb, hml, hown, hts⟩ (kX6_sign l dC dI cI cQ cZ bd th tq ru sh pl wa dn kd ld tm pk ts wo io sn dy lv mlv mmt (xs (i + 1)) (xs (i + 2)) H.size hLI.1) (cwV 2 hts gL_law_X6_sign rfl rfl rfl (by decide +kernel) ⟨by decide, by decide⟩) hK (hP.sub (ws' := wMd cI cZ bd th tq ru sh pl wa dn kd ld tm pk ts wo io sn dy lv mlv mmt) [0, 1, 2, 3, 4, 5, 6, 7, 8, 9, 10, 11, 12, 13, 14] rfl) hDc hFc hS rfl rfl rfl hl.1 rfl (Nat.le_of_ble_eq_true rfl) dL_law_563 ⟨show _ ≤ 600000 by omega, show _ ≤ 7302250 by omega⟩ (fun H1 locs hP1 hD1 hk1 hS => ?_)
      obtain ⟨hP, hD⟩ := va_joinQ (X := wMd cI cZ bd th tq ru sh pl wa dn kd ld tm pk ts wo io sn dy lv mlv mmt ++ wCx cI cQ ad tq ag lo ch al an sh wa pl (ru 0) (ru 1) (ru 2) row dn ((sX5_sign dy lv od sn (xs (i + 1)) (xs (i + 2))).2.1) ((sX5_sign dy lv od sn (xs (i + 1)) (xs (i + 2))).2.2.1) ((sX5_sign dy lv od sn (xs (i + 1)) (xs (i + 2))).2.2.2.1) ((sX5_sign dy lv od sn (xs (i + 1)) (xs (i + 2))).2.2.2.2)) (cx := wMd cI cZ bd th tq ru sh pl wa dn kd ld tm pk ts wo io sn dy lv mlv mmt) (wr := wCx cI cQ ad tq ag lo ch al an sh wa pl (ru 0) (ru 1) (ru 2) row dn ((sX5_sign dy lv od sn (xs (i + 1)) (xs (i + 2))).2.1) ((sX5_sign dy lv od sn (xs (i + 1)) (xs (i + 2))).2.2.1) ((sX5_sign dy lv od sn (xs (i + 1)) (xs (i + 2))).2.2.2.1) ((sX5_sign dy lv od sn (xs (i + 1)) (xs (i + 2))).2.2.2.2)) (w1 := wMd cI cZ bd ((sX6_sign sn dy lv (xs (i + 1)) (xs (i + 2))).2.1) tq ru sh pl wa dn kd ld tm pk ts wo io ((sX6_sign sn dy lv (xs (i + 1)) (xs (i + 2))).2.2.2.2) ((sX6_sign sn dy lv (xs (i + 1)) (xs (i + 2))).2.2.1) ((sX6_sign sn dy lv (xs (i + 1)) (xs (i + 2))).2.2.2.1) mlv mmt) hP hD [0, 1, 2, 3, 4, 5, 6, 7, 8, 9, 10, 11, 12, 13, 14] [15, 16, 17, 18, 19, 20, 21, 22, 23, 24, 25, 26, 27, 28, 29] rfl rfl (by decide) (by decide) hk1 hFc hP1 hD1
      have hP := hP.part (cx := wMd cI cZ bd ((sX6_sign sn dy lv (xs (i + 1)) (xs (i + 2))).2.1) tq ru sh pl wa dn kd ld tm pk ts wo io ((sX6_sign sn dy lv (xs (i + 1)) (xs (i + 2))).2.2.2.2) ((sX6_sign sn dy lv (xs (i + 1)) (xs (i + 2))).2.2.1) ((sX6_sign sn dy lv (xs (i + 1)) (xs (i + 2))).2.2.2.1) mlv mmt ++ wCx cI cQ ad tq ag lo ch al an sh wa pl (ru 0) (ru 1) (ru 2) row dn ((sX5_sign dy lv od sn (xs (i + 1)) (xs (i + 2))).2.1) ((sX5_sign dy lv od sn (xs (i + 1)) (xs (i + 2))).2.2.1) ((sX5_sign dy lv od sn (xs (i + 1)) (xs (i + 2))).2.2.2.1) ((sX5_sign dy lv od sn (xs (i + 1)) (xs (i + 2))).2.2.2.2)) [15, 16, 17, 18, 19, 20, 21, 22, 23, 24, 25, 26, 27, 28, 29, 0, 1, 2, 3, 4, 5, 6, 7, 8, 9, 10, 11, 12, 13, 14] rfl
      have hD := hD.part (cx := wMd cI cZ bd ((sX6_sign sn dy lv (xs (i + 1)) (xs (i + 2))).2.1) tq ru sh pl wa dn kd ld tm pk ts wo io ((sX6_sign sn dy lv (xs (i + 1)) (xs (i + 2))).2.2.2.2) ((sX6_sign sn dy lv (xs (i + 1)) (xs (i + 2))).2.2.1) ((sX6_sign sn dy lv (xs (i + 1)) (xs (i + 2))).2.2.2.1) mlv mmt ++ wCx cI cQ ad tq ag lo ch al an sh wa pl (ru 0) (ru 1) (ru 2) row dn ((sX5_sign dy lv od sn (xs (i + 1)) (xs (i + 2))).2.1) ((sX5_sign dy lv od sn (xs (i + 1)) (xs (i + 2))).2.2.1) ((sX5_sign dy lv od sn (xs (i + 1)) (xs (i + 2))).2.2.2.1) ((sX5_sign dy lv od sn (xs (i + 1)) (xs (i + 2))).2.2.2.2)) [15, 16, 17, 18, 19, 20, 21, 22, 23, 24, 25, 26, 27, 28, 29, 0, 1, 2, 3, 4, 5, 6, 7, 8, 9, 10, 11, 12, 13, 14] (by decide) rfl
      generalize H1 = H at hP hS ⊢
      have hP : va_P (dC, dI) vwCl ((wMd cI cZ bd ((sX6_sign sn dy lv (xs (i + 1)) (xs (i + 2))).2.1) tq ru sh pl wa dn kd ld tm pk ts wo io ((sX6_sign sn dy lv (xs (i + 1)) (xs (i + 2))).2.2.2.2) ((sX6_sign sn dy lv (xs (i + 1)) (xs (i + 2))).2.2.1) ((sX6_sign sn dy lv (xs (i + 1)) (xs (i + 2))).2.2.2.1) mlv mmt ++ wCx cI cQ ad tq ag lo ch al an sh wa pl (ru 0) (ru 1) (ru 2) row dn ((sX5_sign dy lv od sn (xs (i + 1)) (xs (i + 2))).2.1) ((sX5_sign dy lv od sn (xs (i + 1)) (xs (i + 2))).2.2.1) ((sX5_sign dy lv od sn (xs (i + 1)) (xs (i + 2))).2.2.2.1) ((sX5_sign dy lv od sn (xs (i + 1)) (xs (i + 2))).2.2.2.2)) ++ dpl L pd) H := hP
      have hD : va_D (fun q : Nat => s.heap.size ≤ q) ((wMd cI cZ bd ((sX6_sign sn dy lv (xs (i + 1)) (xs (i + 2))).2.1) tq ru sh pl wa dn kd ld tm pk ts wo io ((sX6_sign sn dy lv (xs (i + 1)) (xs (i + 2))).2.2.2.2) ((sX6_sign sn dy lv (xs (i + 1)) (xs (i + 2))).2.2.1) ((sX6_sign sn dy lv (xs (i + 1)) (xs (i + 2))).2.2.2.1) mlv mmt ++ wCx cI cQ ad tq ag lo ch al an sh wa pl (ru 0) (ru 1) (ru 2) row dn ((sX5_sign dy lv od sn (xs (i + 1)) (xs (i + 2))).2.1) ((sX5_sign dy lv od sn (xs (i + 1)) (xs (i + 2))).2.2.1) ((sX5_sign dy lv od sn (xs (i + 1)) (xs (i + 2))).2.2.2.1) ((sX5_sign dy lv od sn (xs (i + 1)) (xs (i + 2))).2.2.2.2)) ++ dpl L pd) := hD
      obtain ⟨ea, e1, e2, e3, hLI2⟩ := op_sign hLI lv (xs (i + 1)) (xs (i + 2))
      refine lv_icmp_eq (tgt := 700) hx hb dL_law_566 (by decide) (fun c_17 => ?_) (fun c_17 => ?_)
      · skip
        rw [e1, e2, e3] at hP hD
        refine lv_iinc (v := nI (i + 7)) (lv' := [(3, .int (nI (i + 7))), (0, .ref b), (1, .ref (ad 0)), (2, .ref (bd 0))]) hx hb dL_law_700 hl (k := 3) rfl (by show nI i + nI 7 = _; rw [nI_add]) (by decide) rfl (fun ls hl => ?_)
        refine lv_goto (tgt := 18) hx hb dL_law_703 (by decide) ?_
        refine W.widen (k := cells + 1) (n := slots + 7) (by omega) (by omega) ?_
        exact ih (i + 7) (cells + 1) (slots + 7) tq ag lo ch al an sh wa pl ru row dn ((sX6_sign sn dy lv (xs (i + 1)) (xs (i + 2))).2.2.1) ((sX6_sign sn dy lv (xs (i + 1)) (xs (i + 2))).2.2.2.1) ((sX5_sign dy lv od sn (xs (i + 1)) (xs (i + 2))).2.2.2.1) ((sX6_sign sn dy lv (xs (i + 1)) (xs (i + 2))).2.2.2.2) L pd ((sX6_sign sn dy lv (xs (i + 1)) (xs (i + 2))).2.1) kd ld tm pk ts wo io mlv mmt ad bd (by omega) (by omega) (by omega) (by omega) hLI2 _ _ hP hD hS ls (lv_sub hl [1, 2, 3, 0] rfl)
      · exact absurd ea c_17
    by_cases z13 : sel = 13
    · refine lv_tableIn (tgt := 571) hx hb dL_law_33 (off := 538) (by rw [z13] <;> decide) (by rw [z13] <;> decide) (by rw [z13] <;> decide +kernel) (by decide) ?_
      refine lv_aload_n hx hb dL_law_571 rfl (lv_at hl 1 rfl) ?_
      have hDc : va_D (fun q : Nat => s.heap.size ≤ q) (wCx cI cQ ad tq ag lo ch al an sh wa pl (ru 0) (ru 1) (ru 2) row dn dy lv od sn ++ dpl L pd) := (hD.part (cx := wCx cI cQ ad tq ag lo ch al an sh wa pl (ru 0) (ru 1) (ru 2) row dn dy lv od sn) [15, 16, 17, 18, 19, 20, 21, 22, 23, 24, 25, 26, 27, 28, 29] (by decide) rfl)
      have hFc := cd_F hDc hS hA
      refine cd_wV (As := []) (b := (ad 0)) (ci := 5) (q := (RX5, TX5, 5)) (rest := []) ⟨hx, hb, hml, hown, hts⟩ (kX5_forget l dC dI cI cQ cZ ad tq ag lo ch al an sh wa pl (ru 0) (ru 1) (ru 2) row dn dy lv od sn L pd H.size hLI.1.2.2.2.2.1) (cwV 0 hts gL_law_X5_forget rfl rfl rfl (by decide +kernel) ⟨by decide, by decide⟩) hK (hP.part (cx := wCx cI cQ ad tq ag lo ch al an sh wa pl (ru 0) (ru 1) (ru 2) row dn dy lv od sn) [15, 16, 17, 18, 19, 20, 21, 22, 23, 24, 25, 26, 27, 28, 29] rfl) hDc hFc hS rfl rfl rfl hl.1 rfl (Nat.le_of_ble_eq_true rfl) dL_law_572 ⟨show _ ≤ 600000 by omega, show _ ≤ 7302250 by omega⟩ (fun H1 locs hP1 hD1 hk1 hS => ?_)
      obtain ⟨hP, hD⟩ := va_joinP (X := wMd cI cZ bd th tq ru sh pl wa dn kd ld tm pk ts wo io sn dy lv mlv mmt ++ wCx cI cQ ad tq ag lo ch al an sh wa pl (ru 0) (ru 1) (ru 2) row dn dy lv od sn) (cx := wCx cI cQ ad tq ag lo ch al an sh wa pl (ru 0) (ru 1) (ru 2) row dn dy lv od sn) (wr := wMd cI cZ bd th tq ru sh pl wa dn kd ld tm pk ts wo io sn dy lv mlv mmt) (rx := wCx cI cQ ad tq ag lo ch al an sh wa pl (ru 0) (ru 1) (ru 2) row dn dy lv ((sX5_forget dy od sn).2.1) ((sX5_forget dy od sn).2.2)) hP hD [15, 16, 17, 18, 19, 20, 21, 22, 23, 24, 25, 26, 27, 28, 29] [0, 1, 2, 3, 4, 5, 6, 7, 8, 9, 10, 11, 12, 13, 14] rfl rfl (by decide) (by decide) hk1 hFc hP1 hD1
      generalize H1 = H at hP hS ⊢
      have hP : va_P (dC, dI) vwCl ((wMd cI cZ bd th tq ru sh pl wa dn kd ld tm pk ts wo io sn dy lv mlv mmt ++ wCx cI cQ ad tq ag lo ch al an sh wa pl (ru 0) (ru 1) (ru 2) row dn dy lv ((sX5_forget dy od sn).2.1) ((sX5_forget dy od sn).2.2)) ++ dpl L pd) H := hP
      have hD : va_D (fun q : Nat => s.heap.size ≤ q) ((wMd cI cZ bd th tq ru sh pl wa dn kd ld tm pk ts wo io sn dy lv mlv mmt ++ wCx cI cQ ad tq ag lo ch al an sh wa pl (ru 0) (ru 1) (ru 2) row dn dy lv ((sX5_forget dy od sn).2.1) ((sX5_forget dy od sn).2.2)) ++ dpl L pd) := hD
      refine lv_aload_n hx hb dL_law_575 rfl (lv_at hl 2 rfl) ?_
      have hDc : va_D (fun q : Nat => s.heap.size ≤ q) (wMd cI cZ bd th tq ru sh pl wa dn kd ld tm pk ts wo io sn dy lv mlv mmt) := (hD.sub (ws' := wMd cI cZ bd th tq ru sh pl wa dn kd ld tm pk ts wo io sn dy lv mlv mmt) [0, 1, 2, 3, 4, 5, 6, 7, 8, 9, 10, 11, 12, 13, 14] (by decide) rfl)
      have hFc := cd_F hDc hS hA
      refine cd_wV (As := []) (b := (bd 0)) (ci := 6) (q := (RX6, TX6, 19)) (rest := [.int ((sX5_forget dy od sn).1)]) ⟨hx, hb, hml, hown, hts⟩ (kX6_forget l dC dI cI cQ cZ bd th tq ru sh pl wa dn kd ld tm pk ts wo io sn dy lv mlv mmt H.size hLI.1) (cwV 0 hts gL_law_X6_forget rfl rfl rfl (by decide +kernel) ⟨by decide, by decide⟩) hK (hP.sub (ws' := wMd cI cZ bd th tq ru sh pl wa dn kd ld tm pk ts wo io sn dy lv mlv mmt) [0, 1, 2, 3, 4, 5, 6, 7, 8, 9, 10, 11, 12, 13, 14] rfl) hDc hFc hS rfl rfl rfl hl.1 rfl (Nat.le_of_ble_eq_true rfl) dL_law_576 ⟨show _ ≤ 600000 by omega, show _ ≤ 7302250 by omega⟩ (fun H1 locs hP1 hD1 hk1 hS => ?_)
      obtain ⟨hP, hD⟩ := va_joinQ (X := wMd cI cZ bd th tq ru sh pl wa dn kd ld tm pk ts wo io sn dy lv mlv mmt ++ wCx cI cQ ad tq ag lo ch al an sh wa pl (ru 0) (ru 1) (ru 2) row dn dy lv ((sX5_forget dy od sn).2.1) ((sX5_forget dy od sn).2.2)) (cx := wMd cI cZ bd th tq ru sh pl wa dn kd ld tm pk ts wo io sn dy lv mlv mmt) (wr := wCx cI cQ ad tq ag lo ch al an sh wa pl (ru 0) (ru 1) (ru 2) row dn dy lv ((sX5_forget dy od sn).2.1) ((sX5_forget dy od sn).2.2)) (w1 := wMd cI cZ bd ((sX6_forget sn).2.1) tq ru sh pl wa dn kd ld tm pk ts wo io ((sX6_forget sn).2.2) dy lv mlv mmt) hP hD [0, 1, 2, 3, 4, 5, 6, 7, 8, 9, 10, 11, 12, 13, 14] [15, 16, 17, 18, 19, 20, 21, 22, 23, 24, 25, 26, 27, 28, 29] rfl rfl (by decide) (by decide) hk1 hFc hP1 hD1
      have hP := hP.part (cx := wMd cI cZ bd ((sX6_forget sn).2.1) tq ru sh pl wa dn kd ld tm pk ts wo io ((sX6_forget sn).2.2) dy lv mlv mmt ++ wCx cI cQ ad tq ag lo ch al an sh wa pl (ru 0) (ru 1) (ru 2) row dn dy lv ((sX5_forget dy od sn).2.1) ((sX5_forget dy od sn).2.2)) [15, 16, 17, 18, 19, 20, 21, 22, 23, 24, 25, 26, 27, 28, 29, 0, 1, 2, 3, 4, 5, 6, 7, 8, 9, 10, 11, 12, 13, 14] rfl
      have hD := hD.part (cx := wMd cI cZ bd ((sX6_forget sn).2.1) tq ru sh pl wa dn kd ld tm pk ts wo io ((sX6_forget sn).2.2) dy lv mlv mmt ++ wCx cI cQ ad tq ag lo ch al an sh wa pl (ru 0) (ru 1) (ru 2) row dn dy lv ((sX5_forget dy od sn).2.1) ((sX5_forget dy od sn).2.2)) [15, 16, 17, 18, 19, 20, 21, 22, 23, 24, 25, 26, 27, 28, 29, 0, 1, 2, 3, 4, 5, 6, 7, 8, 9, 10, 11, 12, 13, 14] (by decide) rfl
      generalize H1 = H at hP hS ⊢
      have hP : va_P (dC, dI) vwCl ((wMd cI cZ bd ((sX6_forget sn).2.1) tq ru sh pl wa dn kd ld tm pk ts wo io ((sX6_forget sn).2.2) dy lv mlv mmt ++ wCx cI cQ ad tq ag lo ch al an sh wa pl (ru 0) (ru 1) (ru 2) row dn dy lv ((sX5_forget dy od sn).2.1) ((sX5_forget dy od sn).2.2)) ++ dpl L pd) H := hP
      have hD : va_D (fun q : Nat => s.heap.size ≤ q) ((wMd cI cZ bd ((sX6_forget sn).2.1) tq ru sh pl wa dn kd ld tm pk ts wo io ((sX6_forget sn).2.2) dy lv mlv mmt ++ wCx cI cQ ad tq ag lo ch al an sh wa pl (ru 0) (ru 1) (ru 2) row dn dy lv ((sX5_forget dy od sn).2.1) ((sX5_forget dy od sn).2.2)) ++ dpl L pd) := hD
      obtain ⟨ea, e1, hLI2⟩ := op_forget hLI  
      refine lv_icmp_eq (tgt := 700) hx hb dL_law_579 (by decide) (fun c_18 => ?_) (fun c_18 => ?_)
      · skip
        rw [e1] at hP hD
        refine lv_iinc (v := nI (i + 7)) (lv' := [(3, .int (nI (i + 7))), (0, .ref b), (1, .ref (ad 0)), (2, .ref (bd 0))]) hx hb dL_law_700 hl (k := 3) rfl (by show nI i + nI 7 = _; rw [nI_add]) (by decide) rfl (fun ls hl => ?_)
        refine lv_goto (tgt := 18) hx hb dL_law_703 (by decide) ?_
        refine W.widen (k := cells + 1) (n := slots + 7) (by omega) (by omega) ?_
        exact ih (i + 7) (cells + 1) (slots + 7) tq ag lo ch al an sh wa pl ru row dn dy lv ((sX5_forget dy od sn).2.1) ((sX6_forget sn).2.2) L pd ((sX6_forget sn).2.1) kd ld tm pk ts wo io mlv mmt ad bd (by omega) (by omega) (by omega) (by omega) hLI2 _ _ hP hD hS ls (lv_sub hl [1, 2, 3, 0] rfl)
      · exact absurd ea c_18
    by_cases z14 : sel = 14
    · refine lv_tableIn (tgt := 584) hx hb dL_law_33 (off := 551) (by rw [z14] <;> decide) (by rw [z14] <;> decide) (by rw [z14] <;> decide +kernel) (by decide) ?_
      refine lv_aload_n hx hb dL_law_584 rfl (lv_at hl 1 rfl) ?_
      refine lv_aload_n hx hb dL_law_585 rfl (lv_at hl 0 rfl) ?_
      refine lv_iload_n hx hb dL_law_586 rfl (lv_at hl 3 rfl) ?_
      refine lv_iconst (v := 1) hx hb dL_law_587 (by decide) ?_
      refine lv_iadd hx hb dL_law_588 ?_
      refine W.eq (g2 := F0 m 589 ls [.int (nI (i + 1)), .ref b, .ref (ad 0)]) (by rw [show (1 : Int32) = nI 1 from rfl, nI_add]) ?_
      refine va_sld hx hb hX hbl hbA hS (vp_in_nI (n := i + 1) (by omega) (by omega)) dL_law_589 ?_
      refine W.eq (g2 := F0 m 590 ls [.int (xs (i + 1)), .ref (ad 0)]) (by rw [nI_clamp (show i + 1 < 2 ^ 31 by omega)]) ?_
      refine lv_aload_n hx hb dL_law_590 rfl (lv_at hl 0 rfl) ?_
      refine lv_iload_n hx hb dL_law_591 rfl (lv_at hl 3 rfl) ?_
      refine lv_iconst (v := 2) hx hb dL_law_592 (by decide) ?_
      refine lv_iadd hx hb dL_law_593 ?_
      refine W.eq (g2 := F0 m 594 ls [.int (nI (i + 2)), .ref b, .int (xs (i + 1)), .ref (ad 0)]) (by rw [show (2 : Int32) = nI 2 from rfl, nI_add]) ?_
      refine va_sld hx hb hX hbl hbA hS (vp_in_nI (n := i + 2) (by omega) (by omega)) dL_law_594 ?_
      refine W.eq (g2 := F0 m 595 ls [.int (xs (i + 2)), .int (xs (i + 1)), .ref (ad 0)]) (by rw [nI_clamp (show i + 2 < 2 ^ 31 by omega)]) ?_
      refine cd_rV (As := [.int (xs (i + 1)), .int (xs (i + 2))]) (b := (ad 0)) (ci := 5) (q := (RX5, TX5, 5)) (rest := []) ⟨hx, hb, hml, hown, hts⟩ (kX5_level l dC dI cI cQ cZ ad tq ag lo ch al an sh wa pl (ru 0) (ru 1) (ru 2) row dn dy lv od sn L pd (xs (i + 1)) (xs (i + 2)) hLI.1.2.2.2.1 hLI.2.2.2.1) (cwV 2 hts gL_law_X5_level rfl rfl rfl (by decide +kernel) ⟨by decide, by decide⟩) hK (hP.part (cx := wCx cI cQ ad tq ag lo ch al an sh wa pl (ru 0) (ru 1) (ru 2) row dn dy lv od sn) [15, 16, 17, 18, 19, 20, 21, 22, 23, 24, 25, 26, 27, 28, 29] rfl) rfl rfl rfl hl.1 rfl (Nat.le_of_ble_eq_true rfl) dL_law_595 ⟨show _ ≤ 600000 by omega, show _ ≤ 7302250 by omega⟩ ?_
      refine lv_aload_n hx hb dL_law_598 rfl (lv_at hl 2 rfl) ?_
      refine lv_aload_n hx hb dL_law_599 rfl (lv_at hl 0 rfl) ?_
      refine lv_iload_n hx hb dL_law_600 rfl (lv_at hl 3 rfl) ?_
      refine lv_iconst (v := 1) hx hb dL_law_601 (by decide) ?_
      refine lv_iadd hx hb dL_law_602 ?_
      refine W.eq (g2 := F0 m 603 ls [.int (nI (i + 1)), .ref b, .ref (bd 0), .int (sX5_level sh wa pl (ru 0) (ru 1) (ru 2) row dn pd (xs (i + 1)) (xs (i + 2)))]) (by rw [show (1 : Int32) = nI 1 from rfl, nI_add]) ?_
      refine va_sld hx hb hX hbl hbA hS (vp_in_nI (n := i + 1) (by omega) (by omega)) dL_law_603 ?_
      refine W.eq (g2 := F0 m 604 ls [.int (xs (i + 1)), .ref (bd 0), .int (sX5_level sh wa pl (ru 0) (ru 1) (ru 2) row dn pd (xs (i + 1)) (xs (i + 2)))]) (by rw [nI_clamp (show i + 1 < 2 ^ 31 by omega)]) ?_
      refine lv_aload_n hx hb dL_law_604 rfl (lv_at hl 0 rfl) ?_
      refine lv_iload_n hx hb dL_law_605 rfl (lv_at hl 3 rfl) ?_
      refine lv_iconst (v := 2) hx hb dL_law_606 (by decide) ?_
      refine lv_iadd hx hb dL_law_607 ?_
      refine W.eq (g2 := F0 m 608 ls [.int (nI (i + 2)), .ref b, .int (xs (i + 1)), .ref (bd 0), .int (sX5_level sh wa pl (ru 0) (ru 1) (ru 2) row dn pd (xs (i + 1)) (xs (i + 2)))]) (by rw [show (2 : Int32) = nI 2 from rfl, nI_add]) ?_
      refine va_sld hx hb hX hbl hbA hS (vp_in_nI (n := i + 2) (by omega) (by omega)) dL_law_608 ?_
      refine W.eq (g2 := F0 m 609 ls [.int (xs (i + 2)), .int (xs (i + 1)), .ref (bd 0), .int (sX5_level sh wa pl (ru 0) (ru 1) (ru 2) row dn pd (xs (i + 1)) (xs (i + 2)))]) (by rw [nI_clamp (show i + 2 < 2 ^ 31 by omega)]) ?_
      have hDc : va_D (fun q : Nat => s.heap.size ≤ q) (wMd cI cZ bd th tq ru sh pl wa dn kd ld tm pk ts wo io sn dy lv mlv mmt) := (hD.sub (ws' := wMd cI cZ bd th tq ru sh pl wa dn kd ld tm pk ts wo io sn dy lv mlv mmt) [0, 1, 2, 3, 4, 5, 6, 7, 8, 9, 10, 11, 12, 13, 14] (by decide) rfl)
      have hFc := cd_F hDc hS hA
      refine cd_wV (As := [.int (xs (i + 1)), .int (xs (i + 2))]) (b := (bd 0)) (ci := 6) (q := (RX6, TX6, 19)) (rest := [.int (sX5_level sh wa pl (ru 0) (ru 1) (ru 2) row dn pd (xs (i + 1)) (xs (i + 2)))]) ⟨hx, hb, hml, hown, hts⟩ (kX6_level l dC dI cI cQ cZ bd th tq ru sh pl wa dn kd ld tm pk ts wo io sn dy lv mlv mmt (xs (i + 1)) (xs (i + 2)) H.size hLI.1) (cwV 2 hts gL_law_X6_level rfl rfl rfl (by decide +kernel) ⟨by decide, by decide⟩) hK (hP.sub (ws' := wMd cI cZ bd th tq ru sh pl wa dn kd ld tm pk ts wo io sn dy lv mlv mmt) [0, 1, 2, 3, 4, 5, 6, 7, 8, 9, 10, 11, 12, 13, 14] rfl) hDc hFc hS rfl rfl rfl hl.1 rfl (Nat.le_of_ble_eq_true rfl) dL_law_609 ⟨show _ ≤ 600000 by omega, show _ ≤ 7302250 by omega⟩ (fun H1 locs hP1 hD1 hk1 hS => ?_)
      obtain ⟨hP, hD⟩ := va_joinQ (X := wMd cI cZ bd th tq ru sh pl wa dn kd ld tm pk ts wo io sn dy lv mlv mmt ++ wCx cI cQ ad tq ag lo ch al an sh wa pl (ru 0) (ru 1) (ru 2) row dn dy lv od sn) (cx := wMd cI cZ bd th tq ru sh pl wa dn kd ld tm pk ts wo io sn dy lv mlv mmt) (wr := wCx cI cQ ad tq ag lo ch al an sh wa pl (ru 0) (ru 1) (ru 2) row dn dy lv od sn) (w1 := wMd cI cZ bd ((sX6_level ru sh pl wa dn kd ld tm pk ts io mlv (xs (i + 1)) (xs (i + 2))).2.1) tq ru sh pl wa dn kd ld tm pk ts wo io sn dy lv ((sX6_level ru sh pl wa dn kd ld tm pk ts io mlv (xs (i + 1)) (xs (i + 2))).2.2) mmt) hP hD [0, 1, 2, 3, 4, 5, 6, 7, 8, 9, 10, 11, 12, 13, 14] [15, 16, 17, 18, 19, 20, 21, 22, 23, 24, 25, 26, 27, 28, 29] rfl rfl (by decide) (by decide) hk1 hFc hP1 hD1
      have hP := hP.part (cx := wMd cI cZ bd ((sX6_level ru sh pl wa dn kd ld tm pk ts io mlv (xs (i + 1)) (xs (i + 2))).2.1) tq ru sh pl wa dn kd ld tm pk ts wo io sn dy lv ((sX6_level ru sh pl wa dn kd ld tm pk ts io mlv (xs (i + 1)) (xs (i + 2))).2.2) mmt ++ wCx cI cQ ad tq ag lo ch al an sh wa pl (ru 0) (ru 1) (ru 2) row dn dy lv od sn) [15, 16, 17, 18, 19, 20, 21, 22, 23, 24, 25, 26, 27, 28, 29, 0, 1, 2, 3, 4, 5, 6, 7, 8, 9, 10, 11, 12, 13, 14] rfl
      have hD := hD.part (cx := wMd cI cZ bd ((sX6_level ru sh pl wa dn kd ld tm pk ts io mlv (xs (i + 1)) (xs (i + 2))).2.1) tq ru sh pl wa dn kd ld tm pk ts wo io sn dy lv ((sX6_level ru sh pl wa dn kd ld tm pk ts io mlv (xs (i + 1)) (xs (i + 2))).2.2) mmt ++ wCx cI cQ ad tq ag lo ch al an sh wa pl (ru 0) (ru 1) (ru 2) row dn dy lv od sn) [15, 16, 17, 18, 19, 20, 21, 22, 23, 24, 25, 26, 27, 28, 29, 0, 1, 2, 3, 4, 5, 6, 7, 8, 9, 10, 11, 12, 13, 14] (by decide) rfl
      generalize H1 = H at hP hS ⊢
      have hP : va_P (dC, dI) vwCl ((wMd cI cZ bd ((sX6_level ru sh pl wa dn kd ld tm pk ts io mlv (xs (i + 1)) (xs (i + 2))).2.1) tq ru sh pl wa dn kd ld tm pk ts wo io sn dy lv ((sX6_level ru sh pl wa dn kd ld tm pk ts io mlv (xs (i + 1)) (xs (i + 2))).2.2) mmt ++ wCx cI cQ ad tq ag lo ch al an sh wa pl (ru 0) (ru 1) (ru 2) row dn dy lv od sn) ++ dpl L pd) H := hP
      have hD : va_D (fun q : Nat => s.heap.size ≤ q) ((wMd cI cZ bd ((sX6_level ru sh pl wa dn kd ld tm pk ts io mlv (xs (i + 1)) (xs (i + 2))).2.1) tq ru sh pl wa dn kd ld tm pk ts wo io sn dy lv ((sX6_level ru sh pl wa dn kd ld tm pk ts io mlv (xs (i + 1)) (xs (i + 2))).2.2) mmt ++ wCx cI cQ ad tq ag lo ch al an sh wa pl (ru 0) (ru 1) (ru 2) row dn dy lv od sn) ++ dpl L pd) := hD
      have ea := op_level hLI mlv (xs (i + 1)) (xs (i + 2))
      refine lv_icmp_eq (tgt := 700) hx hb dL_law_612 (by decide) (fun c_19 => ?_) (fun c_19 => ?_)
      · skip
        refine lv_iinc (v := nI (i + 7)) (lv' := [(3, .int (nI (i + 7))), (0, .ref b), (1, .ref (ad 0)), (2, .ref (bd 0))]) hx hb dL_law_700 hl (k := 3) rfl (by show nI i + nI 7 = _; rw [nI_add]) (by decide) rfl (fun ls hl => ?_)
        refine lv_goto (tgt := 18) hx hb dL_law_703 (by decide) ?_
        refine W.widen (k := cells + 1) (n := slots + 7) (by omega) (by omega) ?_
        exact ih (i + 7) (cells + 1) (slots + 7) tq ag lo ch al an sh wa pl ru row dn dy lv od sn L pd ((sX6_level ru sh pl wa dn kd ld tm pk ts io mlv (xs (i + 1)) (xs (i + 2))).2.1) kd ld tm pk ts wo io ((sX6_level ru sh pl wa dn kd ld tm pk ts io mlv (xs (i + 1)) (xs (i + 2))).2.2) mmt ad bd (by omega) (by omega) (by omega) (by omega) hLI _ _ hP hD hS ls (lv_sub hl [1, 2, 3, 0] rfl)
      · exact absurd ea c_19
    by_cases z15 : sel = 15
    · refine lv_tableIn (tgt := 617) hx hb dL_law_33 (off := 584) (by rw [z15] <;> decide) (by rw [z15] <;> decide) (by rw [z15] <;> decide +kernel) (by decide) ?_
      refine lv_aload_n hx hb dL_law_617 rfl (lv_at hl 1 rfl) ?_
      refine lv_aload_n hx hb dL_law_618 rfl (lv_at hl 0 rfl) ?_
      refine lv_iload_n hx hb dL_law_619 rfl (lv_at hl 3 rfl) ?_
      refine lv_iconst (v := 1) hx hb dL_law_620 (by decide) ?_
      refine lv_iadd hx hb dL_law_621 ?_
      refine W.eq (g2 := F0 m 622 ls [.int (nI (i + 1)), .ref b, .ref (ad 0)]) (by rw [show (1 : Int32) = nI 1 from rfl, nI_add]) ?_
      refine va_sld hx hb hX hbl hbA hS (vp_in_nI (n := i + 1) (by omega) (by omega)) dL_law_622 ?_
      refine W.eq (g2 := F0 m 623 ls [.int (xs (i + 1)), .ref (ad 0)]) (by rw [nI_clamp (show i + 1 < 2 ^ 31 by omega)]) ?_
      refine cd_rV (As := [.int (xs (i + 1))]) (b := (ad 0)) (ci := 5) (q := (RX5, TX5, 5)) (rest := []) ⟨hx, hb, hml, hown, hts⟩ (kX5_agrees l dC dI cI cQ cZ ad tq ag lo ch al an sh wa pl (ru 0) (ru 1) (ru 2) row dn dy lv od sn L pd (xs (i + 1)) hLI.1.2.2.2.1 hLI.2.2.2.1 hLI.1.2.2.2.2.1 hLI.1.2.2.2.2.2.2) (cwV 1 hts gL_law_X5_agrees rfl rfl rfl (by decide +kernel) ⟨by decide, by decide⟩) hK (hP.part (cx := wCx cI cQ ad tq ag lo ch al an sh wa pl (ru 0) (ru 1) (ru 2) row dn dy lv od sn) [15, 16, 17, 18, 19, 20, 21, 22, 23, 24, 25, 26, 27, 28, 29] rfl) rfl rfl rfl hl.1 rfl (Nat.le_of_ble_eq_true rfl) dL_law_623 ⟨show _ ≤ 600000 by omega, show _ ≤ 7302250 by omega⟩ ?_
      refine lv_aload_n hx hb dL_law_626 rfl (lv_at hl 2 rfl) ?_
      refine lv_aload_n hx hb dL_law_627 rfl (lv_at hl 0 rfl) ?_
      refine lv_iload_n hx hb dL_law_628 rfl (lv_at hl 3 rfl) ?_
      refine lv_iconst (v := 1) hx hb dL_law_629 (by decide) ?_
      refine lv_iadd hx hb dL_law_630 ?_
      refine W.eq (g2 := F0 m 631 ls [.int (nI (i + 1)), .ref b, .ref (bd 0), .int (sX5_agrees sh wa pl (ru 0) (ru 1) (ru 2) row dn dy lv od sn pd (xs (i + 1)))]) (by rw [show (1 : Int32) = nI 1 from rfl, nI_add]) ?_
      refine va_sld hx hb hX hbl hbA hS (vp_in_nI (n := i + 1) (by omega) (by omega)) dL_law_631 ?_
      refine W.eq (g2 := F0 m 632 ls [.int (xs (i + 1)), .ref (bd 0), .int (sX5_agrees sh wa pl (ru 0) (ru 1) (ru 2) row dn dy lv od sn pd (xs (i + 1)))]) (by rw [nI_clamp (show i + 1 < 2 ^ 31 by omega)]) ?_
      have hDc : va_D (fun q : Nat => s.heap.size ≤ q) (wMd cI cZ bd th tq ru sh pl wa dn kd ld tm pk ts wo io sn dy lv mlv mmt) := (hD.sub (ws' := wMd cI cZ bd th tq ru sh pl wa dn kd ld tm pk ts wo io sn dy lv mlv mmt) [0, 1, 2, 3, 4, 5, 6, 7, 8, 9, 10, 11, 12, 13, 14] (by decide) rfl)
      have hFc := cd_F hDc hS hA
      refine cd_wV (As := [.int (xs (i + 1))]) (b := (bd 0)) (ci := 6) (q := (RX6, TX6, 19)) (rest := [.int (sX5_agrees sh wa pl (ru 0) (ru 1) (ru 2) row dn dy lv od sn pd (xs (i + 1)))]) ⟨hx, hb, hml, hown, hts⟩ (kX6_agrees l dC dI cI cQ cZ bd th tq ru sh pl wa dn kd ld tm pk ts wo io sn dy lv mlv mmt (xs (i + 1)) H.size hLI.1) (cwV 1 hts gL_law_X6_agrees rfl rfl rfl (by decide +kernel) ⟨by decide, by decide⟩) hK (hP.sub (ws' := wMd cI cZ bd th tq ru sh pl wa dn kd ld tm pk ts wo io sn dy lv mlv mmt) [0, 1, 2, 3, 4, 5, 6, 7, 8, 9, 10, 11, 12, 13, 14] rfl) hDc hFc hS rfl rfl rfl hl.1 rfl (Nat.le_of_ble_eq_true rfl) dL_law_632 ⟨show _ ≤ 600000 by omega, show _ ≤ 7302250 by omega⟩ (fun H1 locs hP1 hD1 hk1 hS => ?_)
      obtain ⟨hP, hD⟩ := va_joinQ (X := wMd cI cZ bd th tq ru sh pl wa dn kd ld tm pk ts wo io sn dy lv mlv mmt ++ wCx cI cQ ad tq ag lo ch al an sh wa pl (ru 0) (ru 1) (ru 2) row dn dy lv od sn) (cx := wMd cI cZ bd th tq ru sh pl wa dn kd ld tm pk ts wo io sn dy lv mlv mmt) (wr := wCx cI cQ ad tq ag lo ch al an sh wa pl (ru 0) (ru 1) (ru 2) row dn dy lv od sn) (w1 := wMd cI cZ bd ((sX6_agrees ru sh pl wa dn kd ld tm pk ts io sn dy lv mlv (xs (i + 1))).2.1) tq ru sh pl wa dn kd ld tm pk ts wo io sn dy lv ((sX6_agrees ru sh pl wa dn kd ld tm pk ts io sn dy lv mlv (xs (i + 1))).2.2) mmt) hP hD [0, 1, 2, 3, 4, 5, 6, 7, 8, 9, 10, 11, 12, 13, 14] [15, 16, 17, 18, 19, 20, 21, 22, 23, 24, 25, 26, 27, 28, 29] rfl rfl (by decide) (by decide) hk1 hFc hP1 hD1
      have hP := hP.part (cx := wMd cI cZ bd ((sX6_agrees ru sh pl wa dn kd ld tm pk ts io sn dy lv mlv (xs (i + 1))).2.1) tq ru sh pl wa dn kd ld tm pk ts wo io sn dy lv ((sX6_agrees ru sh pl wa dn kd ld tm pk ts io sn dy lv mlv (xs (i + 1))).2.2) mmt ++ wCx cI cQ ad tq ag lo ch al an sh wa pl (ru 0) (ru 1) (ru 2) row dn dy lv od sn) [15, 16, 17, 18, 19, 20, 21, 22, 23, 24, 25, 26, 27, 28, 29, 0, 1, 2, 3, 4, 5, 6, 7, 8, 9, 10, 11, 12, 13, 14] rfl
      have hD := hD.part (cx := wMd cI cZ bd ((sX6_agrees ru sh pl wa dn kd ld tm pk ts io sn dy lv mlv (xs (i + 1))).2.1) tq ru sh pl wa dn kd ld tm pk ts wo io sn dy lv ((sX6_agrees ru sh pl wa dn kd ld tm pk ts io sn dy lv mlv (xs (i + 1))).2.2) mmt ++ wCx cI cQ ad tq ag lo ch al an sh wa pl (ru 0) (ru 1) (ru 2) row dn dy lv od sn) [15, 16, 17, 18, 19, 20, 21, 22, 23, 24, 25, 26, 27, 28, 29, 0, 1, 2, 3, 4, 5, 6, 7, 8, 9, 10, 11, 12, 13, 14] (by decide) rfl
      generalize H1 = H at hP hS ⊢
      have hP : va_P (dC, dI) vwCl ((wMd cI cZ bd ((sX6_agrees ru sh pl wa dn kd ld tm pk ts io sn dy lv mlv (xs (i + 1))).2.1) tq ru sh pl wa dn kd ld tm pk ts wo io sn dy lv ((sX6_agrees ru sh pl wa dn kd ld tm pk ts io sn dy lv mlv (xs (i + 1))).2.2) mmt ++ wCx cI cQ ad tq ag lo ch al an sh wa pl (ru 0) (ru 1) (ru 2) row dn dy lv od sn) ++ dpl L pd) H := hP
      have hD : va_D (fun q : Nat => s.heap.size ≤ q) ((wMd cI cZ bd ((sX6_agrees ru sh pl wa dn kd ld tm pk ts io sn dy lv mlv (xs (i + 1))).2.1) tq ru sh pl wa dn kd ld tm pk ts wo io sn dy lv ((sX6_agrees ru sh pl wa dn kd ld tm pk ts io sn dy lv mlv (xs (i + 1))).2.2) mmt ++ wCx cI cQ ad tq ag lo ch al an sh wa pl (ru 0) (ru 1) (ru 2) row dn dy lv od sn) ++ dpl L pd) := hD
      have ea := op_agrees hLI lv mlv (xs (i + 1))
      refine lv_icmp_eq (tgt := 700) hx hb dL_law_635 (by decide) (fun c_20 => ?_) (fun c_20 => ?_)
      · skip
        refine lv_iinc (v := nI (i + 7)) (lv' := [(3, .int (nI (i + 7))), (0, .ref b), (1, .ref (ad 0)), (2, .ref (bd 0))]) hx hb dL_law_700 hl (k := 3) rfl (by show nI i + nI 7 = _; rw [nI_add]) (by decide) rfl (fun ls hl => ?_)
        refine lv_goto (tgt := 18) hx hb dL_law_703 (by decide) ?_
        refine W.widen (k := cells + 1) (n := slots + 7) (by omega) (by omega) ?_
        exact ih (i + 7) (cells + 1) (slots + 7) tq ag lo ch al an sh wa pl ru row dn dy lv od sn L pd ((sX6_agrees ru sh pl wa dn kd ld tm pk ts io sn dy lv mlv (xs (i + 1))).2.1) kd ld tm pk ts wo io ((sX6_agrees ru sh pl wa dn kd ld tm pk ts io sn dy lv mlv (xs (i + 1))).2.2) mmt ad bd (by omega) (by omega) (by omega) (by omega) hLI _ _ hP hD hS ls (lv_sub hl [1, 2, 3, 0] rfl)
      · exact absurd ea c_20
    by_cases z16 : sel = 16
    · refine lv_tableIn (tgt := 640) hx hb dL_law_33 (off := 607) (by rw [z16] <;> decide) (by rw [z16] <;> decide) (by rw [z16] <;> decide +kernel) (by decide) ?_
      refine lv_aload_n hx hb dL_law_640 rfl (lv_at hl 1 rfl) ?_
      refine lv_aload_n hx hb dL_law_641 rfl (lv_at hl 0 rfl) ?_
      refine lv_iload_n hx hb dL_law_642 rfl (lv_at hl 3 rfl) ?_
      refine lv_iconst (v := 1) hx hb dL_law_643 (by decide) ?_
      refine lv_iadd hx hb dL_law_644 ?_
      refine W.eq (g2 := F0 m 645 ls [.int (nI (i + 1)), .ref b, .ref (ad 0)]) (by rw [show (1 : Int32) = nI 1 from rfl, nI_add]) ?_
      refine va_sld hx hb hX hbl hbA hS (vp_in_nI (n := i + 1) (by omega) (by omega)) dL_law_645 ?_
      refine W.eq (g2 := F0 m 646 ls [.int (xs (i + 1)), .ref (ad 0)]) (by rw [nI_clamp (show i + 1 < 2 ^ 31 by omega)]) ?_
      have hDc : va_D (fun q : Nat => s.heap.size ≤ q) (wCx cI cQ ad tq ag lo ch al an sh wa pl (ru 0) (ru 1) (ru 2) row dn dy lv od sn ++ dpl L pd) := (hD.part (cx := wCx cI cQ ad tq ag lo ch al an sh wa pl (ru 0) (ru 1) (ru 2) row dn dy lv od sn) [15, 16, 17, 18, 19, 20, 21, 22, 23, 24, 25, 26, 27, 28, 29] (by decide) rfl)
      have hFc := cd_F hDc hS hA
      refine cd_wV (As := [.int (xs (i + 1))]) (b := (ad 0)) (ci := 5) (q := (RX5, TX5, 5)) (rest := []) ⟨hx, hb, hml, hown, hts⟩ (kX5_field l dC dI cI cQ cZ ad tq ag lo ch al an sh wa pl (ru 0) (ru 1) (ru 2) row dn dy lv od sn L pd (xs (i + 1)) H.size hLI.1.2.2.2.1 hLI.2.2.2.1 hLI.1.2.2.2.2.1 hLI.1.2.2.2.2.2.2) (cwV 1 hts gL_law_X5_field rfl rfl rfl (by decide +kernel) ⟨by decide, by decide⟩) hK (hP.part (cx := wCx cI cQ ad tq ag lo ch al an sh wa pl (ru 0) (ru 1) (ru 2) row dn dy lv od sn) [15, 16, 17, 18, 19, 20, 21, 22, 23, 24, 25, 26, 27, 28, 29] rfl) hDc hFc hS rfl rfl rfl hl.1 rfl (Nat.le_of_ble_eq_true rfl) dL_law_646 ⟨show _ ≤ 600000 by omega, show _ ≤ 7302250 by omega⟩ (fun H1 locs hP1 hD1 hk1 hS => ?_)
      obtain ⟨hP, hD⟩ := va_joinP (X := wMd cI cZ bd th tq ru sh pl wa dn kd ld tm pk ts wo io sn dy lv mlv mmt ++ wCx cI cQ ad tq ag lo ch al an sh wa pl (ru 0) (ru 1) (ru 2) row dn dy lv od sn) (cx := wCx cI cQ ad tq ag lo ch al an sh wa pl (ru 0) (ru 1) (ru 2) row dn dy lv od sn) (wr := wMd cI cZ bd th tq ru sh pl wa dn kd ld tm pk ts wo io sn dy lv mlv mmt) (rx := wCx cI cQ ad tq ((sX5_field ag lo ch al an sh wa pl (ru 0) (ru 1) (ru 2) row dn dy lv od sn pd (xs (i + 1))).2.1) ((sX5_field ag lo ch al an sh wa pl (ru 0) (ru 1) (ru 2) row dn dy lv od sn pd (xs (i + 1))).2.2.2.1) ((sX5_field ag lo ch al an sh wa pl (ru 0) (ru 1) (ru 2) row dn dy lv od sn pd (xs (i + 1))).2.2.2.2.1) ((sX5_field ag lo ch al an sh wa pl (ru 0) (ru 1) (ru 2) row dn dy lv od sn pd (xs (i + 1))).2.2.2.2.2) ((sX5_field ag lo ch al an sh wa pl (ru 0) (ru 1) (ru 2) row dn dy lv od sn pd (xs (i + 1))).2.2.1) sh wa pl (ru 0) (ru 1) (ru 2) row dn dy lv od sn) hP hD [15, 16, 17, 18, 19, 20, 21, 22, 23, 24, 25, 26, 27, 28, 29] [0, 1, 2, 3, 4, 5, 6, 7, 8, 9, 10, 11, 12, 13, 14] rfl rfl (by decide) (by decide) hk1 hFc hP1 hD1
      generalize H1 = H at hP hS ⊢
      have hP : va_P (dC, dI) vwCl ((wMd cI cZ bd th tq ru sh pl wa dn kd ld tm pk ts wo io sn dy lv mlv mmt ++ wCx cI cQ ad tq ((sX5_field ag lo ch al an sh wa pl (ru 0) (ru 1) (ru 2) row dn dy lv od sn pd (xs (i + 1))).2.1) ((sX5_field ag lo ch al an sh wa pl (ru 0) (ru 1) (ru 2) row dn dy lv od sn pd (xs (i + 1))).2.2.2.1) ((sX5_field ag lo ch al an sh wa pl (ru 0) (ru 1) (ru 2) row dn dy lv od sn pd (xs (i + 1))).2.2.2.2.1) ((sX5_field ag lo ch al an sh wa pl (ru 0) (ru 1) (ru 2) row dn dy lv od sn pd (xs (i + 1))).2.2.2.2.2) ((sX5_field ag lo ch al an sh wa pl (ru 0) (ru 1) (ru 2) row dn dy lv od sn pd (xs (i + 1))).2.2.1) sh wa pl (ru 0) (ru 1) (ru 2) row dn dy lv od sn) ++ dpl L pd) H := hP
      have hD : va_D (fun q : Nat => s.heap.size ≤ q) ((wMd cI cZ bd th tq ru sh pl wa dn kd ld tm pk ts wo io sn dy lv mlv mmt ++ wCx cI cQ ad tq ((sX5_field ag lo ch al an sh wa pl (ru 0) (ru 1) (ru 2) row dn dy lv od sn pd (xs (i + 1))).2.1) ((sX5_field ag lo ch al an sh wa pl (ru 0) (ru 1) (ru 2) row dn dy lv od sn pd (xs (i + 1))).2.2.2.1) ((sX5_field ag lo ch al an sh wa pl (ru 0) (ru 1) (ru 2) row dn dy lv od sn pd (xs (i + 1))).2.2.2.2.1) ((sX5_field ag lo ch al an sh wa pl (ru 0) (ru 1) (ru 2) row dn dy lv od sn pd (xs (i + 1))).2.2.2.2.2) ((sX5_field ag lo ch al an sh wa pl (ru 0) (ru 1) (ru 2) row dn dy lv od sn pd (xs (i + 1))).2.2.1) sh wa pl (ru 0) (ru 1) (ru 2) row dn dy lv od sn) ++ dpl L pd) := hD
      refine lv_aload_n hx hb dL_law_649 rfl (lv_at hl 2 rfl) ?_
      refine lv_aload_n hx hb dL_law_650 rfl (lv_at hl 0 rfl) ?_
      refine lv_iload_n hx hb dL_law_651 rfl (lv_at hl 3 rfl) ?_
      refine lv_iconst (v := 1) hx hb dL_law_652 (by decide) ?_
      refine lv_iadd hx hb dL_law_653 ?_
      refine W.eq (g2 := F0 m 654 ls [.int (nI (i + 1)), .ref b, .ref (bd 0), .int ((sX5_field ag lo ch al an sh wa pl (ru 0) (ru 1) (ru 2) row dn dy lv od sn pd (xs (i + 1))).1)]) (by rw [show (1 : Int32) = nI 1 from rfl, nI_add]) ?_
      refine va_sld hx hb hX hbl hbA hS (vp_in_nI (n := i + 1) (by omega) (by omega)) dL_law_654 ?_
      refine W.eq (g2 := F0 m 655 ls [.int (xs (i + 1)), .ref (bd 0), .int ((sX5_field ag lo ch al an sh wa pl (ru 0) (ru 1) (ru 2) row dn dy lv od sn pd (xs (i + 1))).1)]) (by rw [nI_clamp (show i + 1 < 2 ^ 31 by omega)]) ?_
      have hDc : va_D (fun q : Nat => s.heap.size ≤ q) (wMd cI cZ bd th tq ru sh pl wa dn kd ld tm pk ts wo io sn dy lv mlv mmt) := (hD.sub (ws' := wMd cI cZ bd th tq ru sh pl wa dn kd ld tm pk ts wo io sn dy lv mlv mmt) [0, 1, 2, 3, 4, 5, 6, 7, 8, 9, 10, 11, 12, 13, 14] (by decide) rfl)
      have hFc := cd_F hDc hS hA
      refine cd_wV (As := [.int (xs (i + 1))]) (b := (bd 0)) (ci := 6) (q := (RX6, TX6, 19)) (rest := [.int ((sX5_field ag lo ch al an sh wa pl (ru 0) (ru 1) (ru 2) row dn dy lv od sn pd (xs (i + 1))).1)]) ⟨hx, hb, hml, hown, hts⟩ (kX6_field l dC dI cI cQ cZ bd th tq ru sh pl wa dn kd ld tm pk ts wo io sn dy lv mlv mmt (xs (i + 1)) H.size hLI.1) (cwV 1 hts gL_law_X6_field rfl rfl rfl (by decide +kernel) ⟨by decide, by decide⟩) hK (hP.sub (ws' := wMd cI cZ bd th tq ru sh pl wa dn kd ld tm pk ts wo io sn dy lv mlv mmt) [0, 1, 2, 3, 4, 5, 6, 7, 8, 9, 10, 11, 12, 13, 14] rfl) hDc hFc hS rfl rfl rfl hl.1 rfl (Nat.le_of_ble_eq_true rfl) dL_law_655 ⟨show _ ≤ 600000 by omega, show _ ≤ 7302250 by omega⟩ (fun H1 locs hP1 hD1 hk1 hS => ?_)
      obtain ⟨hP, hD⟩ := va_joinQ (X := wMd cI cZ bd th tq ru sh pl wa dn kd ld tm pk ts wo io sn dy lv mlv mmt ++ wCx cI cQ ad tq ((sX5_field ag lo ch al an sh wa pl (ru 0) (ru 1) (ru 2) row dn dy lv od sn pd (xs (i + 1))).2.1) ((sX5_field ag lo ch al an sh wa pl (ru 0) (ru 1) (ru 2) row dn dy lv od sn pd (xs (i + 1))).2.2.2.1) ((sX5_field ag lo ch al an sh wa pl (ru 0) (ru 1) (ru 2) row dn dy lv od sn pd (xs (i + 1))).2.2.2.2.1) ((sX5_field ag lo ch al an sh wa pl (ru 0) (ru 1) (ru 2) row dn dy lv od sn pd (xs (i + 1))).2.2.2.2.2) ((sX5_field ag lo ch al an sh wa pl (ru 0) (ru 1) (ru 2) row dn dy lv od sn pd (xs (i + 1))).2.2.1) sh wa pl (ru 0) (ru 1) (ru 2) row dn dy lv od sn) (cx := wMd cI cZ bd th tq ru sh pl wa dn kd ld tm pk ts wo io sn dy lv mlv mmt) (wr := wCx cI cQ ad tq ((sX5_field ag lo ch al an sh wa pl (ru 0) (ru 1) (ru 2) row dn dy lv od sn pd (xs (i + 1))).2.1) ((sX5_field ag lo ch al an sh wa pl (ru 0) (ru 1) (ru 2) row dn dy lv od sn pd (xs (i + 1))).2.2.2.1) ((sX5_field ag lo ch al an sh wa pl (ru 0) (ru 1) (ru 2) row dn dy lv od sn pd (xs (i + 1))).2.2.2.2.1) ((sX5_field ag lo ch al an sh wa pl (ru 0) (ru 1) (ru 2) row dn dy lv od sn pd (xs (i + 1))).2.2.2.2.2) ((sX5_field ag lo ch al an sh wa pl (ru 0) (ru 1) (ru 2) row dn dy lv od sn pd (xs (i + 1))).2.2.1) sh wa pl (ru 0) (ru 1) (ru 2) row dn dy lv od sn) (w1 := wMd cI cZ bd ((sX6_field ru sh pl wa dn kd ld tm pk ts io sn dy lv mlv mmt (xs (i + 1))).2.1) tq ru sh pl wa dn kd ld tm pk ts wo io sn dy lv ((sX6_field ru sh pl wa dn kd ld tm pk ts io sn dy lv mlv mmt (xs (i + 1))).2.2.1) ((sX6_field ru sh pl wa dn kd ld tm pk ts io sn dy lv mlv mmt (xs (i + 1))).2.2.2)) hP hD [0, 1, 2, 3, 4, 5, 6, 7, 8, 9, 10, 11, 12, 13, 14] [15, 16, 17, 18, 19, 20, 21, 22, 23, 24, 25, 26, 27, 28, 29] rfl rfl (by decide) (by decide) hk1 hFc hP1 hD1
      have hP := hP.part (cx := wMd cI cZ bd ((sX6_field ru sh pl wa dn kd ld tm pk ts io sn dy lv mlv mmt (xs (i + 1))).2.1) tq ru sh pl wa dn kd ld tm pk ts wo io sn dy lv ((sX6_field ru sh pl wa dn kd ld tm pk ts io sn dy lv mlv mmt (xs (i + 1))).2.2.1) ((sX6_field ru sh pl wa dn kd ld tm pk ts io sn dy lv mlv mmt (xs (i + 1))).2.2.2) ++ wCx cI cQ ad tq ((sX5_field ag lo ch al an sh wa pl (ru 0) (ru 1) (ru 2) row dn dy lv od sn pd (xs (i + 1))).2.1) ((sX5_field ag lo ch al an sh wa pl (ru 0) (ru 1) (ru 2) row dn dy lv od sn pd (xs (i + 1))).2.2.2.1) ((sX5_field ag lo ch al an sh wa pl (ru 0) (ru 1) (ru 2) row dn dy lv od sn pd (xs (i + 1))).2.2.2.2.1) ((sX5_field ag lo ch al an sh wa pl (ru 0) (ru 1) (ru 2) row dn dy lv od sn pd (xs (i + 1))).2.2.2.2.2) ((sX5_field ag lo ch al an sh wa pl (ru 0) (ru 1) (ru 2) row dn dy lv od sn pd (xs (i + 1))).2.2.1) sh wa pl (ru 0) (ru 1) (ru 2) row dn dy lv od sn) [15, 16, 17, 18, 19, 20, 21, 22, 23, 24, 25, 26, 27, 28, 29, 0, 1, 2, 3, 4, 5, 6, 7, 8, 9, 10, 11, 12, 13, 14] rfl
      have hD := hD.part (cx := wMd cI cZ bd ((sX6_field ru sh pl wa dn kd ld tm pk ts io sn dy lv mlv mmt (xs (i + 1))).2.1) tq ru sh pl wa dn kd ld tm pk ts wo io sn dy lv ((sX6_field ru sh pl wa dn kd ld tm pk ts io sn dy lv mlv mmt (xs (i + 1))).2.2.1) ((sX6_field ru sh pl wa dn kd ld tm pk ts io sn dy lv mlv mmt (xs (i + 1))).2.2.2) ++ wCx cI cQ ad tq ((sX5_field ag lo ch al an sh wa pl (ru 0) (ru 1) (ru 2) row dn dy lv od sn pd (xs (i + 1))).2.1) ((sX5_field ag lo ch al an sh wa pl (ru 0) (ru 1) (ru 2) row dn dy lv od sn pd (xs (i + 1))).2.2.2.1) ((sX5_field ag lo ch al an sh wa pl (ru 0) (ru 1) (ru 2) row dn dy lv od sn pd (xs (i + 1))).2.2.2.2.1) ((sX5_field ag lo ch al an sh wa pl (ru 0) (ru 1) (ru 2) row dn dy lv od sn pd (xs (i + 1))).2.2.2.2.2) ((sX5_field ag lo ch al an sh wa pl (ru 0) (ru 1) (ru 2) row dn dy lv od sn pd (xs (i + 1))).2.2.1) sh wa pl (ru 0) (ru 1) (ru 2) row dn dy lv od sn) [15, 16, 17, 18, 19, 20, 21, 22, 23, 24, 25, 26, 27, 28, 29, 0, 1, 2, 3, 4, 5, 6, 7, 8, 9, 10, 11, 12, 13, 14] (by decide) rfl
      generalize H1 = H at hP hS ⊢
      have hP : va_P (dC, dI) vwCl ((wMd cI cZ bd ((sX6_field ru sh pl wa dn kd ld tm pk ts io sn dy lv mlv mmt (xs (i + 1))).2.1) tq ru sh pl wa dn kd ld tm pk ts wo io sn dy lv ((sX6_field ru sh pl wa dn kd ld tm pk ts io sn dy lv mlv mmt (xs (i + 1))).2.2.1) ((sX6_field ru sh pl wa dn kd ld tm pk ts io sn dy lv mlv mmt (xs (i + 1))).2.2.2) ++ wCx cI cQ ad tq ((sX5_field ag lo ch al an sh wa pl (ru 0) (ru 1) (ru 2) row dn dy lv od sn pd (xs (i + 1))).2.1) ((sX5_field ag lo ch al an sh wa pl (ru 0) (ru 1) (ru 2) row dn dy lv od sn pd (xs (i + 1))).2.2.2.1) ((sX5_field ag lo ch al an sh wa pl (ru 0) (ru 1) (ru 2) row dn dy lv od sn pd (xs (i + 1))).2.2.2.2.1) ((sX5_field ag lo ch al an sh wa pl (ru 0) (ru 1) (ru 2) row dn dy lv od sn pd (xs (i + 1))).2.2.2.2.2) ((sX5_field ag lo ch al an sh wa pl (ru 0) (ru 1) (ru 2) row dn dy lv od sn pd (xs (i + 1))).2.2.1) sh wa pl (ru 0) (ru 1) (ru 2) row dn dy lv od sn) ++ dpl L pd) H := hP
      have hD : va_D (fun q : Nat => s.heap.size ≤ q) ((wMd cI cZ bd ((sX6_field ru sh pl wa dn kd ld tm pk ts io sn dy lv mlv mmt (xs (i + 1))).2.1) tq ru sh pl wa dn kd ld tm pk ts wo io sn dy lv ((sX6_field ru sh pl wa dn kd ld tm pk ts io sn dy lv mlv mmt (xs (i + 1))).2.2.1) ((sX6_field ru sh pl wa dn kd ld tm pk ts io sn dy lv mlv mmt (xs (i + 1))).2.2.2) ++ wCx cI cQ ad tq ((sX5_field ag lo ch al an sh wa pl (ru 0) (ru 1) (ru 2) row dn dy lv od sn pd (xs (i + 1))).2.1) ((sX5_field ag lo ch al an sh wa pl (ru 0) (ru 1) (ru 2) row dn dy lv od sn pd (xs (i + 1))).2.2.2.1) ((sX5_field ag lo ch al an sh wa pl (ru 0) (ru 1) (ru 2) row dn dy lv od sn pd (xs (i + 1))).2.2.2.2.1) ((sX5_field ag lo ch al an sh wa pl (ru 0) (ru 1) (ru 2) row dn dy lv od sn pd (xs (i + 1))).2.2.2.2.2) ((sX5_field ag lo ch al an sh wa pl (ru 0) (ru 1) (ru 2) row dn dy lv od sn pd (xs (i + 1))).2.2.1) sh wa pl (ru 0) (ru 1) (ru 2) row dn dy lv od sn) ++ dpl L pd) := hD
      have ea := op_field hLI lv mlv mmt ag lo ch al an (xs (i + 1))
      refine lv_icmp_eq (tgt := 700) hx hb dL_law_658 (by decide) (fun c_21 => ?_) (fun c_21 => ?_)
      · skip
        refine lv_iinc (v := nI (i + 7)) (lv' := [(3, .int (nI (i + 7))), (0, .ref b), (1, .ref (ad 0)), (2, .ref (bd 0))]) hx hb dL_law_700 hl (k := 3) rfl (by show nI i + nI 7 = _; rw [nI_add]) (by decide) rfl (fun ls hl => ?_)
        refine lv_goto (tgt := 18) hx hb dL_law_703 (by decide) ?_
        refine W.widen (k := cells + 1) (n := slots + 7) (by omega) (by omega) ?_
        exact ih (i + 7) (cells + 1) (slots + 7) tq ((sX5_field ag lo ch al an sh wa pl (ru 0) (ru 1) (ru 2) row dn dy lv od sn pd (xs (i + 1))).2.1) ((sX5_field ag lo ch al an sh wa pl (ru 0) (ru 1) (ru 2) row dn dy lv od sn pd (xs (i + 1))).2.2.2.1) ((sX5_field ag lo ch al an sh wa pl (ru 0) (ru 1) (ru 2) row dn dy lv od sn pd (xs (i + 1))).2.2.2.2.1) ((sX5_field ag lo ch al an sh wa pl (ru 0) (ru 1) (ru 2) row dn dy lv od sn pd (xs (i + 1))).2.2.2.2.2) ((sX5_field ag lo ch al an sh wa pl (ru 0) (ru 1) (ru 2) row dn dy lv od sn pd (xs (i + 1))).2.2.1) sh wa pl ru row dn dy lv od sn L pd ((sX6_field ru sh pl wa dn kd ld tm pk ts io sn dy lv mlv mmt (xs (i + 1))).2.1) kd ld tm pk ts wo io ((sX6_field ru sh pl wa dn kd ld tm pk ts io sn dy lv mlv mmt (xs (i + 1))).2.2.1) ((sX6_field ru sh pl wa dn kd ld tm pk ts io sn dy lv mlv mmt (xs (i + 1))).2.2.2) ad bd (by omega) (by omega) (by omega) (by omega) hLI _ _ hP hD hS ls (lv_sub hl [1, 2, 3, 0] rfl)
      · exact absurd ea c_21
    by_cases z17 : sel = 17
    · refine lv_tableIn (tgt := 663) hx hb dL_law_33 (off := 630) (by rw [z17] <;> decide) (by rw [z17] <;> decide) (by rw [z17] <;> decide +kernel) (by decide) ?_
      refine lv_aload_n hx hb dL_law_663 rfl (lv_at hl 1 rfl) ?_
      refine lv_aload_n hx hb dL_law_664 rfl (lv_at hl 0 rfl) ?_
      refine lv_iload_n hx hb dL_law_665 rfl (lv_at hl 3 rfl) ?_
      refine lv_iconst (v := 1) hx hb dL_law_666 (by decide) ?_
      refine lv_iadd hx hb dL_law_667 ?_
      refine W.eq (g2 := F0 m 668 ls [.int (nI (i + 1)), .ref b, .ref (ad 0)]) (by rw [show (1 : Int32) = nI 1 from rfl, nI_add]) ?_
      refine va_sld hx hb hX hbl hbA hS (vp_in_nI (n := i + 1) (by omega) (by omega)) dL_law_668 ?_
      refine W.eq (g2 := F0 m 669 ls [.int (xs (i + 1)), .ref (ad 0)]) (by rw [nI_clamp (show i + 1 < 2 ^ 31 by omega)]) ?_
      refine cd_rV (As := [.int (xs (i + 1))]) (b := (ad 0)) (ci := 5) (q := (RX5, TX5, 5)) (rest := []) ⟨hx, hb, hml, hown, hts⟩ (kX5_count l dC dI cI cQ cZ ad tq ag lo ch al an sh wa pl (ru 0) (ru 1) (ru 2) row dn dy lv od sn L pd (xs (i + 1)) hLI.1.2.2.2.1 hLI.2.2.2.1) (cwV 1 hts gL_law_X5_count rfl rfl rfl (by decide +kernel) ⟨by decide, by decide⟩) hK (hP.part (cx := wCx cI cQ ad tq ag lo ch al an sh wa pl (ru 0) (ru 1) (ru 2) row dn dy lv od sn) [15, 16, 17, 18, 19, 20, 21, 22, 23, 24, 25, 26, 27, 28, 29] rfl) rfl rfl rfl hl.1 rfl (Nat.le_of_ble_eq_true rfl) dL_law_669 ⟨show _ ≤ 600000 by omega, show _ ≤ 7302250 by omega⟩ ?_
      refine lv_aload_n hx hb dL_law_672 rfl (lv_at hl 2 rfl) ?_
      refine lv_aload_n hx hb dL_law_673 rfl (lv_at hl 0 rfl) ?_
      refine lv_iload_n hx hb dL_law_674 rfl (lv_at hl 3 rfl) ?_
      refine lv_iconst (v := 1) hx hb dL_law_675 (by decide) ?_
      refine lv_iadd hx hb dL_law_676 ?_
      refine W.eq (g2 := F0 m 677 ls [.int (nI (i + 1)), .ref b, .ref (bd 0), .int (sX5_count (ru 0) (ru 1) (ru 2) row dn sn pd (xs (i + 1)))]) (by rw [show (1 : Int32) = nI 1 from rfl, nI_add]) ?_
      refine va_sld hx hb hX hbl hbA hS (vp_in_nI (n := i + 1) (by omega) (by omega)) dL_law_677 ?_
      refine W.eq (g2 := F0 m 678 ls [.int (xs (i + 1)), .ref (bd 0), .int (sX5_count (ru 0) (ru 1) (ru 2) row dn sn pd (xs (i + 1)))]) (by rw [nI_clamp (show i + 1 < 2 ^ 31 by omega)]) ?_
      have hDc : va_D (fun q : Nat => s.heap.size ≤ q) (wMd cI cZ bd th tq ru sh pl wa dn kd ld tm pk ts wo io sn dy lv mlv mmt) := (hD.sub (ws' := wMd cI cZ bd th tq ru sh pl wa dn kd ld tm pk ts wo io sn dy lv mlv mmt) [0, 1, 2, 3, 4, 5, 6, 7, 8, 9, 10, 11, 12, 13, 14] (by decide) rfl)
      have hFc := cd_F hDc hS hA
      refine cd_wV (As := [.int (xs (i + 1))]) (b := (bd 0)) (ci := 6) (q := (RX6, TX6, 19)) (rest := [.int (sX5_count (ru 0) (ru 1) (ru 2) row dn sn pd (xs (i + 1)))]) ⟨hx, hb, hml, hown, hts⟩ (kX6_count l dC dI cI cQ cZ bd th tq ru sh pl wa dn kd ld tm pk ts wo io sn dy lv mlv mmt (xs (i + 1)) H.size hLI.1) (cwV 1 hts gL_law_X6_count rfl rfl rfl (by decide +kernel) ⟨by decide, by decide⟩) hK (hP.sub (ws' := wMd cI cZ bd th tq ru sh pl wa dn kd ld tm pk ts wo io sn dy lv mlv mmt) [0, 1, 2, 3, 4, 5, 6, 7, 8, 9, 10, 11, 12, 13, 14] rfl) hDc hFc hS rfl rfl rfl hl.1 rfl (Nat.le_of_ble_eq_true rfl) dL_law_678 ⟨show _ ≤ 600000 by omega, show _ ≤ 7302250 by omega⟩ (fun H1 locs hP1 hD1 hk1 hS => ?_)
      obtain ⟨hP, hD⟩ := va_joinQ (X := wMd cI cZ bd th tq ru sh pl wa dn kd ld tm pk ts wo io sn dy lv mlv mmt ++ wCx cI cQ ad tq ag lo ch al an sh wa pl (ru 0) (ru 1) (ru 2) row dn dy lv od sn) (cx := wMd cI cZ bd th tq ru sh pl wa dn kd ld tm pk ts wo io sn dy lv mlv mmt) (wr := wCx cI cQ ad tq ag lo ch al an sh wa pl (ru 0) (ru 1) (ru 2) row dn dy lv od sn) (w1 := wMd cI cZ bd ((sX6_count ru dn io sn (xs (i + 1))).2) tq ru sh pl wa dn kd ld tm pk ts wo io sn dy lv mlv mmt) hP hD [0, 1, 2, 3, 4, 5, 6, 7, 8, 9, 10, 11, 12, 13, 14] [15, 16, 17, 18, 19, 20, 21, 22, 23, 24, 25, 26, 27, 28, 29] rfl rfl (by decide) (by decide) hk1 hFc hP1 hD1
      have hP := hP.part (cx := wMd cI cZ bd ((sX6_count ru dn io sn (xs (i + 1))).2) tq ru sh pl wa dn kd ld tm pk ts wo io sn dy lv mlv mmt ++ wCx cI cQ ad tq ag lo ch al an sh wa pl (ru 0) (ru 1) (ru 2) row dn dy lv od sn) [15, 16, 17, 18, 19, 20, 21, 22, 23, 24, 25, 26, 27, 28, 29, 0, 1, 2, 3, 4, 5, 6, 7, 8, 9, 10, 11, 12, 13, 14] rfl
      have hD := hD.part (cx := wMd cI cZ bd ((sX6_count ru dn io sn (xs (i + 1))).2) tq ru sh pl wa dn kd ld tm pk ts wo io sn dy lv mlv mmt ++ wCx cI cQ ad tq ag lo ch al an sh wa pl (ru 0) (ru 1) (ru 2) row dn dy lv od sn) [15, 16, 17, 18, 19, 20, 21, 22, 23, 24, 25, 26, 27, 28, 29, 0, 1, 2, 3, 4, 5, 6, 7, 8, 9, 10, 11, 12, 13, 14] (by decide) rfl
      generalize H1 = H at hP hS ⊢
      have hP : va_P (dC, dI) vwCl ((wMd cI cZ bd ((sX6_count ru dn io sn (xs (i + 1))).2) tq ru sh pl wa dn kd ld tm pk ts wo io sn dy lv mlv mmt ++ wCx cI cQ ad tq ag lo ch al an sh wa pl (ru 0) (ru 1) (ru 2) row dn dy lv od sn) ++ dpl L pd) H := hP
      have hD : va_D (fun q : Nat => s.heap.size ≤ q) ((wMd cI cZ bd ((sX6_count ru dn io sn (xs (i + 1))).2) tq ru sh pl wa dn kd ld tm pk ts wo io sn dy lv mlv mmt ++ wCx cI cQ ad tq ag lo ch al an sh wa pl (ru 0) (ru 1) (ru 2) row dn dy lv od sn) ++ dpl L pd) := hD
      have ea := op_count hLI  (xs (i + 1))
      refine lv_icmp_eq (tgt := 700) hx hb dL_law_681 (by decide) (fun c_22 => ?_) (fun c_22 => ?_)
      · skip
        refine lv_iinc (v := nI (i + 7)) (lv' := [(3, .int (nI (i + 7))), (0, .ref b), (1, .ref (ad 0)), (2, .ref (bd 0))]) hx hb dL_law_700 hl (k := 3) rfl (by show nI i + nI 7 = _; rw [nI_add]) (by decide) rfl (fun ls hl => ?_)
        refine lv_goto (tgt := 18) hx hb dL_law_703 (by decide) ?_
        refine W.widen (k := cells + 1) (n := slots + 7) (by omega) (by omega) ?_
        exact ih (i + 7) (cells + 1) (slots + 7) tq ag lo ch al an sh wa pl ru row dn dy lv od sn L pd ((sX6_count ru dn io sn (xs (i + 1))).2) kd ld tm pk ts wo io mlv mmt ad bd (by omega) (by omega) (by omega) (by omega) hLI _ _ hP hD hS ls (lv_sub hl [1, 2, 3, 0] rfl)
      · exact absurd ea c_22
    by_cases z18 : sel = 18
    · refine lv_tableIn (tgt := 686) hx hb dL_law_33 (off := 653) (by rw [z18] <;> decide) (by rw [z18] <;> decide) (by rw [z18] <;> decide +kernel) (by decide) ?_
      refine lv_aload_n hx hb dL_law_686 rfl (lv_at hl 1 rfl) ?_
      refine cd_rVl (As := []) (b := (ad 0)) (ci := 5) (q := (RX5, TX5, 5)) (rest := []) ⟨hx, hb, hml, hown, hts⟩ (kX5_trace l dC dI cI cQ cZ ad tq ag lo ch al an sh wa pl (ru 0) (ru 1) (ru 2) row dn dy lv od sn L pd) (cwV 0 hts gL_law_X5_trace rfl rfl rfl (by decide +kernel) ⟨by decide, by decide⟩) hK (hP.part (cx := wCx cI cQ ad tq ag lo ch al an sh wa pl (ru 0) (ru 1) (ru 2) row dn dy lv od sn) [15, 16, 17, 18, 19, 20, 21, 22, 23, 24, 25, 26, 27, 28, 29] rfl) rfl rfl rfl hl.1 rfl (Nat.le_of_ble_eq_true rfl) dL_law_687 ⟨show _ ≤ 600000 by omega, show _ ≤ 7302250 by omega⟩ ?_
      refine lv_aload_n hx hb dL_law_690 rfl (lv_at hl 2 rfl) ?_
      have hDc : va_D (fun q : Nat => s.heap.size ≤ q) (wMd cI cZ bd th tq ru sh pl wa dn kd ld tm pk ts wo io sn dy lv mlv mmt) := (hD.sub (ws' := wMd cI cZ bd th tq ru sh pl wa dn kd ld tm pk ts wo io sn dy lv mlv mmt) [0, 1, 2, 3, 4, 5, 6, 7, 8, 9, 10, 11, 12, 13, 14] (by decide) rfl)
      have hFc := cd_F hDc hS hA
      refine cd_wVl (As := []) (b := (bd 0)) (ci := 6) (q := (RX6, TX6, 19)) (rest := [.long (sX5_trace tq)]) ⟨hx, hb, hml, hown, hts⟩ (kX6_trace l dC dI cI cQ cZ bd th tq ru sh pl wa dn kd ld tm pk ts wo io sn dy lv mlv mmt H.size) (cwV 0 hts gL_law_X6_trace rfl rfl rfl (by decide +kernel) ⟨by decide, by decide⟩) hK (hP.sub (ws' := wMd cI cZ bd th tq ru sh pl wa dn kd ld tm pk ts wo io sn dy lv mlv mmt) [0, 1, 2, 3, 4, 5, 6, 7, 8, 9, 10, 11, 12, 13, 14] rfl) hDc hFc hS rfl rfl rfl hl.1 rfl (Nat.le_of_ble_eq_true rfl) dL_law_691 ⟨show _ ≤ 600000 by omega, show _ ≤ 7302250 by omega⟩ (fun H1 locs hP1 hD1 hk1 hS => ?_)
      obtain ⟨hP, hD⟩ := va_joinQ (X := wMd cI cZ bd th tq ru sh pl wa dn kd ld tm pk ts wo io sn dy lv mlv mmt ++ wCx cI cQ ad tq ag lo ch al an sh wa pl (ru 0) (ru 1) (ru 2) row dn dy lv od sn) (cx := wMd cI cZ bd th tq ru sh pl wa dn kd ld tm pk ts wo io sn dy lv mlv mmt) (wr := wCx cI cQ ad tq ag lo ch al an sh wa pl (ru 0) (ru 1) (ru 2) row dn dy lv od sn) (w1 := wMd cI cZ bd ((sX6_trace tq).2) tq ru sh pl wa dn kd ld tm pk ts wo io sn dy lv mlv mmt) hP hD [0, 1, 2, 3, 4, 5, 6, 7, 8, 9, 10, 11, 12, 13, 14] [15, 16, 17, 18, 19, 20, 21, 22, 23, 24, 25, 26, 27, 28, 29] rfl rfl (by decide) (by decide) hk1 hFc hP1 hD1
      have hP := hP.part (cx := wMd cI cZ bd ((sX6_trace tq).2) tq ru sh pl wa dn kd ld tm pk ts wo io sn dy lv mlv mmt ++ wCx cI cQ ad tq ag lo ch al an sh wa pl (ru 0) (ru 1) (ru 2) row dn dy lv od sn) [15, 16, 17, 18, 19, 20, 21, 22, 23, 24, 25, 26, 27, 28, 29, 0, 1, 2, 3, 4, 5, 6, 7, 8, 9, 10, 11, 12, 13, 14] rfl
      have hD := hD.part (cx := wMd cI cZ bd ((sX6_trace tq).2) tq ru sh pl wa dn kd ld tm pk ts wo io sn dy lv mlv mmt ++ wCx cI cQ ad tq ag lo ch al an sh wa pl (ru 0) (ru 1) (ru 2) row dn dy lv od sn) [15, 16, 17, 18, 19, 20, 21, 22, 23, 24, 25, 26, 27, 28, 29, 0, 1, 2, 3, 4, 5, 6, 7, 8, 9, 10, 11, 12, 13, 14] (by decide) rfl
      generalize H1 = H at hP hS ⊢
      have hP : va_P (dC, dI) vwCl ((wMd cI cZ bd ((sX6_trace tq).2) tq ru sh pl wa dn kd ld tm pk ts wo io sn dy lv mlv mmt ++ wCx cI cQ ad tq ag lo ch al an sh wa pl (ru 0) (ru 1) (ru 2) row dn dy lv od sn) ++ dpl L pd) H := hP
      have hD : va_D (fun q : Nat => s.heap.size ≤ q) ((wMd cI cZ bd ((sX6_trace tq).2) tq ru sh pl wa dn kd ld tm pk ts wo io sn dy lv mlv mmt ++ wCx cI cQ ad tq ag lo ch al an sh wa pl (ru 0) (ru 1) (ru 2) row dn dy lv od sn) ++ dpl L pd) := hD
      refine W.lcmp hx hb dL_law_694 ?_
      have ea := op_trace tq
      refine lv_if_eq (tgt := 700) hx hb dL_law_695 (by decide) (fun c_23 => ?_) (fun c_23 => ?_)
      · skip
        refine lv_iinc (v := nI (i + 7)) (lv' := [(3, .int (nI (i + 7))), (0, .ref b), (1, .ref (ad 0)), (2, .ref (bd 0))]) hx hb dL_law_700 hl (k := 3) rfl (by show nI i + nI 7 = _; rw [nI_add]) (by decide) rfl (fun ls hl => ?_)
        refine lv_goto (tgt := 18) hx hb dL_law_703 (by decide) ?_
        refine W.widen (k := cells + 1) (n := slots + 7) (by omega) (by omega) ?_
        exact ih (i + 7) (cells + 1) (slots + 7) tq ag lo ch al an sh wa pl ru row dn dy lv od sn L pd ((sX6_trace tq).2) kd ld tm pk ts wo io mlv mmt ad bd (by omega) (by omega) (by omega) (by omega) hLI _ _ hP hD hS ls (lv_sub hl [1, 2, 3, 0] rfl)
      · exact absurd (by rw [ea]; simp [lg_cmp]) c_23
    refine lv_tableOut (tgt := 700) hx hb dL_law_33 (by have y0 := lv_neT z0 (a := 0) (by decide); have y1 := lv_neT z1 (a := 1) (by decide); have y2 := lv_neT z2 (a := 2) (by decide); have y3 := lv_neT z3 (a := 3) (by decide); have y4 := lv_neT z4 (a := 4) (by decide); have y5 := lv_neT z5 (a := 5) (by decide); have y6 := lv_neT z6 (a := 6) (by decide); have y7 := lv_neT z7 (a := 7) (by decide); have y8 := lv_neT z8 (a := 8) (by decide); have y9 := lv_neT z9 (a := 9) (by decide); have y10 := lv_neT z10 (a := 10) (by decide); have y11 := lv_neT z11 (a := 11) (by decide); have y12 := lv_neT z12 (a := 12) (by decide); have y13 := lv_neT z13 (a := 13) (by decide); have y14 := lv_neT z14 (a := 14) (by decide); have y15 := lv_neT z15 (a := 15) (by decide); have y16 := lv_neT z16 (a := 16) (by decide); have y17 := lv_neT z17 (a := 17) (by decide); have y18 := lv_neT z18 (a := 18) (by decide); omega) (by decide) ?_
    refine lv_iinc (v := nI (i + 7)) (lv' := [(3, .int (nI (i + 7))), (0, .ref b), (1, .ref (ad 0)), (2, .ref (bd 0))]) hx hb dL_law_700 hl (k := 3) rfl (by show nI i + nI 7 = _; rw [nI_add]) (by decide) rfl (fun ls hl => ?_)
    refine lv_goto (tgt := 18) hx hb dL_law_703 (by decide) ?_
    refine W.widen (k := cells + 1) (n := slots + 7) (by omega) (by omega) ?_
    exact ih (i + 7) (cells + 1) (slots + 7) tq ag lo ch al an sh wa pl ru row dn dy lv od sn L pd th kd ld tm pk ts wo io mlv mmt ad bd (by omega) (by omega) (by omega) (by omega) hLI _ _ hP hD hS ls (lv_sub hl [1, 2, 3, 0] rfl)
