/-! CONSTRUCTORS: the new cells' addresses come with the end -/
theorem cd_cA {dC : Nat → ClassId} {dI : Nat → Nat → Nat} {cI cQ cZ cA : ClassId} {s : State} (hK : kE dC dI cI cQ cZ s) (h : va_K (dC, dI) vwCl (cd_tys cI cQ cZ ++ [(cA, .int)]) s) : cA = cI := by
  have h1 := (hK.1.2 0 _ rfl).2
  have h2 := (h.2 3 _ rfl).2
  exact Option.some.inj (h2.symm.trans h1)
theorem cd_cAZ {dC : Nat → ClassId} {dI : Nat → Nat → Nat} {cI cQ cZ cA : ClassId} {s : State} (hK : kE dC dI cI cQ cZ s) (h : va_K (dC, dI) vwCl (cd_tys cI cQ cZ ++ [(cA, .boolean)]) s) : cA = cZ := by
  have h1 := (hK.1.2 2 _ rfl).2
  have h2 := (h.2 3 _ rfl).2
  exact Option.some.inj (h2.symm.trans h1)
theorem cd_cAQ {dC : Nat → ClassId} {dI : Nat → Nat → Nat} {cI cQ cZ cA : ClassId} {s : State} (hK : kE dC dI cI cQ cZ s) (h : va_K (dC, dI) vwCl (cd_tys cI cQ cZ ++ [(cA, .object "CellDays$Duty")]) s) : cA = cQ := by
  obtain ⟨_, _, _, _, _, h1⟩ := (hK.1.2 1 _ rfl).2
  obtain ⟨_, _, _, _, _, h2⟩ := (h.2 3 _ rfl).2
  exact Option.some.inj (h2.symm.trans h1)
theorem cd_c0 (N : Nat) (cA : ClassId) : vp_cell cA (N, .inl (fun _ => 0)) = arrV cA N (fun _ => defaultValue .int) := rfl
theorem cd_c0Z (N : Nat) (cA : ClassId) : vp_cell cA (N, .inl (fun _ => 0)) = arrV cA N (fun _ => defaultValue .boolean) := rfl
theorem cd_hb {N : Nat} (h : N ≤ 5000) : N * componentBytes .int ≤ 536870912 := by
  rw [show componentBytes .int = 4 from rfl]
  omega
theorem cd_hbZ {N : Nat} (h : N ≤ 5000) : N * componentBytes .boolean ≤ 536870912 := by
  rw [show componentBytes .boolean = 1 from rfl]
  omega
section CDC
variable {l : Launch} {y : MethodName} {ws ws' : List Cond} {rm : Room} {cc : ByteArray} {maxL mc ms sz : Nat} {dC : Nat → ClassId} {dI : Nat → Nat → Nat} {cI cQ cZ : ClassId} {W0 : va_W}
theorem cd_mC {W1 : (Nat → Nat) → va_W} (av : List Value) (hy : plainName y.cls = true) (hw : ws = Cond.code y cc maxL none :: ws') (hav : (lg_sl av).length ≤ maxL)
    (body : ∀ (Q : State → Prop) (A : Nat → Prop) (p : Program) (e : Env) (s : State) (m : MethodId) (args : Array Value) (below : List Frame) (meth : Method) (c : Code) (ls : Array Slot), p.tables.exec = Jvm.exec → c.code = cc → c.maxLocals = maxL → s.vm.findClass y.cls = some m.cls → (∀ w ∈ ws, w.before args s = true) → (∀ q, s.heap.size ≤ q → A q) → meth.name = y.name →
      (∀ (q : Nat → Nat) (pc : Nat) (ls : Array Slot) (H : Heap) (locs : List Loc), decode cc pc = .ok (.return_, 1) → va_P (dC, dI) vwCl (W1 q) H → va_D A (W1 q) → va_S A s.heap H locs → W p l e rm s m args below meth c H locs mc ms Q (F0 m pc ls [])) →
      kE dC dI cI cQ cZ s → va_P (dC, dI) vwCl W0 s.heap → va_D A W0 → va_S A s.heap s.heap [] → lv_has ls maxL (lv_args 0 av) →
      W p l e rm s m args below meth c s.heap [] 0 0 Q (F0 m 0 ls [])) : Met l y ws rm (va_Pc av (cd_pre dC dI cI cQ cZ W0 sz)) (va_Qv (fun _ => True) (fun (q : Nat → Nat) t => va_P (dC, dI) vwCl (W1 q) t.heap ∧ va_D (va_A W0 sz) (W1 q)) (va_A W0 sz)) mc ms (va_A W0 sz) :=
  cd_mW av hy hw hav (fun p e s m args below meth c ls hx hb hml hr hown hts hlocks hnm hB hl => by
    obtain ⟨hsz, hK, hP, hD0⟩ := hB
    subst hsz
    exact body _ (va_A W0 s.heap.size) p e s m args below meth c ls hx hb hml hown hts (fun q h => Or.inr h) hnm (fun q pc ls H locs hd hP1 hD1 hS1 => W.vret hx hb hr (fun t ht _ => ⟨⟨q, rfl, trivial, by rw [ht]; exact hP1, hD1⟩, hS1.F ht⟩) hS1.2.2 hd hlocks) hK hP hD0.self va_S.rf hl)
end CDC
section CDJ
variable {p : Program} {l : Launch} {e : Env} {R : Room} {s : State} {m : MethodId} {args : Array Value} {below : List Frame} {meth : Method} {c : Code} {H : Heap} {locs : List Loc} {cells slots : Nat} {Q : State → Prop}
variable {pc : Nat} {ls : Array Slot} {rest st0 : List Value} {cc bytes : ByteArray} {nL maxL index n b ci mc ms : Nat} {Ts ws ws' : List Cond} {own C host : String} {y : MethodName} {rm : Room} {As : List Value} {W0 : va_W} {W1 : (Nat → Nat) → va_W} {dC : Nat → ClassId} {dI : Nat → Nat → Nat} {cI cQ cZ : ClassId} {A0 : Nat → Prop}
theorem cd_wC (S : CallFix p m c cc nL s args Ts own) (hM : Met l y ws rm (va_Pc (.ref b :: As) (cd_pre dC dI cI cQ cZ W0 H.size)) (va_Qv (fun _ => True) (fun (q : Nat → Nat) t => va_P (dC, dI) vwCl (W1 q) t.heap ∧ va_D (va_A W0 H.size) (W1 q)) (va_A W0 H.size)) mc ms (va_A W0 H.size)) (cw : CallB R s args own index y bytes maxL none ws rm mc ms n ∧ y.name = "<init>" ∧ (Cond.instanceMethod y).before args s = true) (hK : kE dC dI cI cQ cZ s) (hP : va_P (dC, dI) vwCl W0 H) (hD : va_D A0 W0) (hF : ∀ q, va_A W0 H.size q → A0 q) (hS : va_S A0 s.heap H locs) (hn : As.length = n) (hsz : ls.size = nL) (hst : st0 = As.reverse ++ .ref b :: rest) (hW : (rest.map fun v => v.category).sum ≤ 8) (hdg : decode cc pc = .ok (.invokespecial index, 3)) (hf : cells + mc ≤ R.cells ∧ slots + ms ≤ R.slots)
    (kk : ∀ (q : Nat → Nat) (H1 : Heap) (locs1 : List Loc), va_P (dC, dI) vwCl (W1 q) H1 → va_D (va_A W0 H.size) (W1 q) → (∀ q : Nat, q < H.size → ¬ va_A W0 H.size q → H1[q]? = H[q]?) → va_S A0 s.heap H1 locs1 → W p l e R s m args below meth c H1 locs1 (cells + mc) (slots + ms) Q (F0 m (pc + 3) ls rest)) : W p l e R s m args below meth c H locs cells slots Q (F0 m pc ls st0) :=
  va_callv (va_runI S hM cw (cd_pSM hK hP hD) rfl hn hsz hst (lv_room hW) hdg hf) hS (fun q _ h => hF q h) hF (fun u t H1 locs1 ht hvm hr hB hz hk hS1 => by subst ht; exact kk u _ locs1 hB.1 hB.2 hk hS1)
theorem cd_wCN (S : CallFix p m c cc nL s args Ts own) (hM : Met l y ws rm (va_Pc (.ref b :: As) (cd_pre dC dI cI cQ cZ W0 H.size)) (va_Qv (fun _ => True) (fun (q : Nat → Nat) t => va_P (dC, dI) vwCl (W1 q) t.heap ∧ va_D (va_A W0 H.size) (W1 q)) (va_A W0 H.size)) mc ms (va_A W0 H.size)) (cw : va_CN R s args own index y host bytes maxL none ws rm mc ms n ∧ y.name = "<init>" ∧ (Cond.instanceMethod y).before args s = true) (hK : kE dC dI cI cQ cZ s) (hP : va_P (dC, dI) vwCl W0 H) (hD : va_D A0 W0) (hF : ∀ q, va_A W0 H.size q → A0 q) (hS : va_S A0 s.heap H locs) (hn : As.length = n) (hsz : ls.size = nL) (hst : st0 = As.reverse ++ .ref b :: rest) (hW : (rest.map fun v => v.category).sum ≤ 8) (hdg : decode cc pc = .ok (.invokespecial index, 3)) (hf : cells + mc ≤ R.cells ∧ slots + ms ≤ R.slots)
    (kk : ∀ (q : Nat → Nat) (H1 : Heap) (locs1 : List Loc), va_P (dC, dI) vwCl (W1 q) H1 → va_D (va_A W0 H.size) (W1 q) → (∀ q : Nat, q < H.size → ¬ va_A W0 H.size q → H1[q]? = H[q]?) → va_S A0 s.heap H1 locs1 → W p l e R s m args below meth c H1 locs1 (cells + mc) (slots + ms) Q (F0 m (pc + 3) ls rest)) : W p l e R s m args below meth c H locs cells slots Q (F0 m pc ls st0) :=
  va_callv (va_runIN S hM cw (cd_pSM hK hP hD) rfl hn hsz hst (lv_room hW) hdg hf) hS (fun q _ h => hF q h) hF (fun u t H1 locs1 ht hvm hr hB hz hk hS1 => by subst ht; exact kk u _ locs1 hB.1 hB.2 hk hS1)
end CDJ

def rX1_init : Room := { frames := 1, cells := 2, slots := 15, locals := 20 }
set_option maxHeartbeats 4000000 in
set_option maxRecDepth 100000 in
theorem kX1_init (l : Launch) (dC : Nat → ClassId) (dI : Nat → Nat → Nat) (cI cQ cZ : ClassId) (a0 : Nat) (sz : Nat) : Met l yX1_init wsX1_init rX1_init (va_Pc [.ref a0] (cd_pre dC dI cI cQ cZ [(a0, .inr (1, [.null, .null, .int 0, .int 0, .int 0, .int 0]))] sz)) (va_Qv (fun _ => True) (fun (q : Nat → Nat) t => va_P (dC, dI) vwCl (wCl cI a0 (q 1) (q 2) (upd (upd (upd (fun _ => 0) 0 100) 1 90) 2 70) (fun _ => 0) 1 1000 1 50) t.heap ∧ va_D (va_A [(a0, .inr (1, [.null, .null, .int 0, .int 0, .int 0, .int 0]))] sz) (wCl cI a0 (q 1) (q 2) (upd (upd (upd (fun _ => 0) 0 100) 1 90) 2 70) (fun _ => 0) 1 1000 1 50)) (va_A [(a0, .inr (1, [.null, .null, .int 0, .int 0, .int 0, .int 0]))] sz)) 2 15 (va_A [(a0, .inr (1, [.null, .null, .int 0, .int 0, .int 0, .int 0]))] sz) := by
  have hiX1 : ∀ w ∈ u_ws RX1 TX1 6, w ∈ wsX1_init := by decide +kernel
  refine cd_mC (W1 := fun (q : Nat → Nat) => wCl cI a0 (q 1) (q 2) (upd (upd (upd (fun _ => 0) 0 100) 1 90) 2 70) (fun _ => 0) 1 1000 1 50) [.ref a0] (by decide) rfl (Nat.le_of_ble_eq_true rfl) ?_
  intro Q A p e s m args below meth c ls hx hb hml hown hts hA hinit hret hK hP hD hS hl
  have hl : lv_has ls 1 [(0, .ref a0)] := hl
  refine lv_aload_n hx hb dX1_init_0 rfl (lv_at hl 0 rfl) ?_
  refine W.objInit hx hb hown (hts (.methodLink RX1 3 objectInit) (by decide +kernel)) (hts (.instanceMethod objectInit) (by decide +kernel)) (hts (.code objectInit ⟨#[0xb1]⟩ 1 none) (by decide +kernel)) rfl (by rw [hml]; exact hl.1) rfl dX1_init_1 (by decide) (Nat.le_of_ble_eq_true rfl) ?_
  refine W.eq (g2 := F0 m 4 ls []) (rfl) ?_
  refine lv_aload_n hx hb dX1_init_4 rfl (lv_at hl 0 rfl) ?_
  refine lv_iconst (v := 3) hx hb dX1_init_5 (by decide) ?_
  refine va_newa (atype := .int) (ty := .int) (a0 := (3, .inl (fun _ => 0))) (N' := 3) hx hb (hts (.arrayClass .int) (by decide +kernel)) rfl hK.1 hP hD hS hA (cd_c0 3) (by decide) (by decide) (cd_hb (by decide)) (by decide) (by decide) dX1_init_6 (fun q_1 cA H hK9 hP hD hS => ?_)
  rw [cd_cA hK hK9] at hP hD
  have hP : va_P (dC, dI) vwCl [(a0, .inr (1, [.null, .null, .int 0, .int 0, .int 0, .int 0])), (q_1, .inl (cI, 3, .inl (fun _ => 0)))] H := hP
  have hD : va_D A [(a0, .inr (1, [.null, .null, .int 0, .int 0, .int 0, .int 0])), (q_1, .inl (cI, 3, .inl (fun _ => 0)))] := hD
  refine lv_dup hx hb dX1_init_8 rfl ?_
  refine lv_iconst (v := 0) hx hb dX1_init_9 (by decide) ?_
  refine lv_bipush (v := 100) hx hb dX1_init_10 (by decide) ?_
  refine va_iast hx hb hK.1 hP hD hS 1 0 rfl rfl (vp_in_nI (n := 0) (N := 3) (by decide) (by decide)) dX1_init_12 (fun H locs hP hD hS => ?_)
  have hP : va_P (dC, dI) vwCl [(a0, .inr (1, [.null, .null, .int 0, .int 0, .int 0, .int 0])), (q_1, .inl (cI, 3, .inl (upd (fun _ => 0) 0 100)))] H := hP
  have hD : va_D A [(a0, .inr (1, [.null, .null, .int 0, .int 0, .int 0, .int 0])), (q_1, .inl (cI, 3, .inl (upd (fun _ => 0) 0 100)))] := hD
  refine lv_dup hx hb dX1_init_13 rfl ?_
  refine lv_iconst (v := 1) hx hb dX1_init_14 (by decide) ?_
  refine lv_bipush (v := 90) hx hb dX1_init_15 (by decide) ?_
  refine va_iast hx hb hK.1 hP hD hS 1 0 rfl rfl (vp_in_nI (n := 1) (N := 3) (by decide) (by decide)) dX1_init_17 (fun H locs hP hD hS => ?_)
  have hP : va_P (dC, dI) vwCl [(a0, .inr (1, [.null, .null, .int 0, .int 0, .int 0, .int 0])), (q_1, .inl (cI, 3, .inl (upd (upd (fun _ => 0) 0 100) 1 90)))] H := hP
  have hD : va_D A [(a0, .inr (1, [.null, .null, .int 0, .int 0, .int 0, .int 0])), (q_1, .inl (cI, 3, .inl (upd (upd (fun _ => 0) 0 100) 1 90)))] := hD
  refine lv_dup hx hb dX1_init_18 rfl ?_
  refine lv_iconst (v := 2) hx hb dX1_init_19 (by decide) ?_
  refine lv_bipush (v := 70) hx hb dX1_init_20 (by decide) ?_
  refine va_iast hx hb hK.1 hP hD hS 1 0 rfl rfl (vp_in_nI (n := 2) (N := 3) (by decide) (by decide)) dX1_init_22 (fun H locs hP hD hS => ?_)
  have hP : va_P (dC, dI) vwCl [(a0, .inr (1, [.null, .null, .int 0, .int 0, .int 0, .int 0])), (q_1, .inl (cI, 3, .inl (upd (upd (upd (fun _ => 0) 0 100) 1 90) 2 70)))] H := hP
  have hD : va_D A [(a0, .inr (1, [.null, .null, .int 0, .int 0, .int 0, .int 0])), (q_1, .inl (cI, 3, .inl (upd (upd (upd (fun _ => 0) 0 100) 1 90) 2 70)))] := hD
  refine va_putF (D := (dC, dI)) (ci := 1) (v := .ref q_1) (ty := (.array .int)) (C := RX1) (T := TX1) (N := 6) hx hb hts hiX1 tyX1 tyX1_ok nmX1 hown hK.1 hP hD hS 0 rfl rfl 0 (by decide) (hts (.fieldLink RX1 9 "CellDays$Cell" "sharesByWarmth" "[I") (by decide +kernel)) (fun _ h9 => h9) rfl hinit rfl (by decide +kernel) rfl rfl (Nat.le_of_ble_eq_true rfl) dX1_init_23 (fun H locs hP hD hS => ?_)
  have hP : va_P (dC, dI) vwCl [(a0, .inr (1, [.ref q_1, .null, .int 0, .int 0, .int 0, .int 0])), (q_1, .inl (cI, 3, .inl (upd (upd (upd (fun _ => 0) 0 100) 1 90) 2 70)))] H := hP
  have hD : va_D A [(a0, .inr (1, [.ref q_1, .null, .int 0, .int 0, .int 0, .int 0])), (q_1, .inl (cI, 3, .inl (upd (upd (upd (fun _ => 0) 0 100) 1 90) 2 70)))] := hD
  refine lv_aload_n hx hb dX1_init_26 rfl (lv_at hl 0 rfl) ?_
  refine lv_bipush (v := 12) hx hb dX1_init_27 (by decide) ?_
  refine va_newa (atype := .int) (ty := .int) (a0 := (12, .inl (fun _ => 0))) (N' := 12) hx hb (hts (.arrayClass .int) (by decide +kernel)) rfl hK.1 hP hD hS hA (cd_c0 12) (by decide) (by decide) (cd_hb (by decide)) (by decide) (by decide) dX1_init_29 (fun q_2 cA H hK9 hP hD hS => ?_)
  rw [cd_cA hK hK9] at hP hD
  have hP : va_P (dC, dI) vwCl [(a0, .inr (1, [.ref q_1, .null, .int 0, .int 0, .int 0, .int 0])), (q_1, .inl (cI, 3, .inl (upd (upd (upd (fun _ => 0) 0 100) 1 90) 2 70))), (q_2, .inl (cI, 12, .inl (fun _ => 0)))] H := hP
  have hD : va_D A [(a0, .inr (1, [.ref q_1, .null, .int 0, .int 0, .int 0, .int 0])), (q_1, .inl (cI, 3, .inl (upd (upd (upd (fun _ => 0) 0 100) 1 90) 2 70))), (q_2, .inl (cI, 12, .inl (fun _ => 0)))] := hD
  refine va_putF (D := (dC, dI)) (ci := 1) (v := .ref q_2) (ty := (.array .int)) (C := RX1) (T := TX1) (N := 6) hx hb hts hiX1 tyX1 tyX1_ok nmX1 hown hK.1 hP hD hS 0 rfl rfl 1 (by decide) (hts (.fieldLink RX1 15 "CellDays$Cell" "warmths" "[I") (by decide +kernel)) (fun _ h9 => h9) rfl hinit rfl (by decide +kernel) rfl rfl (Nat.le_of_ble_eq_true rfl) dX1_init_31 (fun H locs hP hD hS => ?_)
  have hP : va_P (dC, dI) vwCl [(a0, .inr (1, [.ref q_1, .ref q_2, .int 0, .int 0, .int 0, .int 0])), (q_1, .inl (cI, 3, .inl (upd (upd (upd (fun _ => 0) 0 100) 1 90) 2 70))), (q_2, .inl (cI, 12, .inl (fun _ => 0)))] H := hP
  have hD : va_D A [(a0, .inr (1, [.ref q_1, .ref q_2, .int 0, .int 0, .int 0, .int 0])), (q_1, .inl (cI, 3, .inl (upd (upd (upd (fun _ => 0) 0 100) 1 90) 2 70))), (q_2, .inl (cI, 12, .inl (fun _ => 0)))] := hD
  refine lv_aload_n hx hb dX1_init_34 rfl (lv_at hl 0 rfl) ?_
  refine lv_iconst (v := 1) hx hb dX1_init_35 (by decide) ?_
  refine va_put (D := (dC, dI)) (ci := 1) (v := .int 1) (ty := .int) (C := RX1) (T := TX1) (N := 6) hx hb hts hiX1 tyX1 tyX1_ok nmX1 hown hK.1 hP hD hS 0 rfl rfl 2 (by decide) (hts (.fieldLink RX1 18 "CellDays$Cell" "places" "I") (by decide +kernel)) (fun _ h9 => h9) rfl (by decide +kernel) rfl rfl (Nat.le_of_ble_eq_true rfl) dX1_init_36 (fun H locs hP hD hS => ?_)
  have hP : va_P (dC, dI) vwCl [(a0, .inr (1, [.ref q_1, .ref q_2, .int 1, .int 0, .int 0, .int 0])), (q_1, .inl (cI, 3, .inl (upd (upd (upd (fun _ => 0) 0 100) 1 90) 2 70))), (q_2, .inl (cI, 12, .inl (fun _ => 0)))] H := hP
  have hD : va_D A [(a0, .inr (1, [.ref q_1, .ref q_2, .int 1, .int 0, .int 0, .int 0])), (q_1, .inl (cI, 3, .inl (upd (upd (upd (fun _ => 0) 0 100) 1 90) 2 70))), (q_2, .inl (cI, 12, .inl (fun _ => 0)))] := hD
  refine lv_aload_n hx hb dX1_init_39 rfl (lv_at hl 0 rfl) ?_
  refine lv_sipush (v := 1000) hx hb dX1_init_40 (by decide) ?_
  refine va_put (D := (dC, dI)) (ci := 1) (v := .int 1000) (ty := .int) (C := RX1) (T := TX1) (N := 6) hx hb hts hiX1 tyX1 tyX1_ok nmX1 hown hK.1 hP hD hS 0 rfl rfl 3 (by decide) (hts (.fieldLink RX1 22 "CellDays$Cell" "room" "I") (by decide +kernel)) (fun _ h9 => h9) rfl (by decide +kernel) rfl rfl (Nat.le_of_ble_eq_true rfl) dX1_init_43 (fun H locs hP hD hS => ?_)
  have hP : va_P (dC, dI) vwCl [(a0, .inr (1, [.ref q_1, .ref q_2, .int 1, .int 1000, .int 0, .int 0])), (q_1, .inl (cI, 3, .inl (upd (upd (upd (fun _ => 0) 0 100) 1 90) 2 70))), (q_2, .inl (cI, 12, .inl (fun _ => 0)))] H := hP
  have hD : va_D A [(a0, .inr (1, [.ref q_1, .ref q_2, .int 1, .int 1000, .int 0, .int 0])), (q_1, .inl (cI, 3, .inl (upd (upd (upd (fun _ => 0) 0 100) 1 90) 2 70))), (q_2, .inl (cI, 12, .inl (fun _ => 0)))] := hD
  refine lv_aload_n hx hb dX1_init_46 rfl (lv_at hl 0 rfl) ?_
  refine lv_iconst (v := 1) hx hb dX1_init_47 (by decide) ?_
  refine va_put (D := (dC, dI)) (ci := 1) (v := .int 1) (ty := .int) (C := RX1) (T := TX1) (N := 6) hx hb hts hiX1 tyX1 tyX1_ok nmX1 hown hK.1 hP hD hS 0 rfl rfl 4 (by decide) (hts (.fieldLink RX1 25 "CellDays$Cell" "leak" "I") (by decide +kernel)) (fun _ h9 => h9) rfl (by decide +kernel) rfl rfl (Nat.le_of_ble_eq_true rfl) dX1_init_48 (fun H locs hP hD hS => ?_)
  have hP : va_P (dC, dI) vwCl [(a0, .inr (1, [.ref q_1, .ref q_2, .int 1, .int 1000, .int 1, .int 0])), (q_1, .inl (cI, 3, .inl (upd (upd (upd (fun _ => 0) 0 100) 1 90) 2 70))), (q_2, .inl (cI, 12, .inl (fun _ => 0)))] H := hP
  have hD : va_D A [(a0, .inr (1, [.ref q_1, .ref q_2, .int 1, .int 1000, .int 1, .int 0])), (q_1, .inl (cI, 3, .inl (upd (upd (upd (fun _ => 0) 0 100) 1 90) 2 70))), (q_2, .inl (cI, 12, .inl (fun _ => 0)))] := hD
  refine lv_aload_n hx hb dX1_init_51 rfl (lv_at hl 0 rfl) ?_
  refine lv_bipush (v := 50) hx hb dX1_init_52 (by decide) ?_
  refine va_put (D := (dC, dI)) (ci := 1) (v := .int 50) (ty := .int) (C := RX1) (T := TX1) (N := 6) hx hb hts hiX1 tyX1 tyX1_ok nmX1 hown hK.1 hP hD hS 0 rfl rfl 5 (by decide) (hts (.fieldLink RX1 28 "CellDays$Cell" "bar" "I") (by decide +kernel)) (fun _ h9 => h9) rfl (by decide +kernel) rfl rfl (Nat.le_of_ble_eq_true rfl) dX1_init_54 (fun H locs hP hD hS => ?_)
  have hP : va_P (dC, dI) vwCl [(a0, .inr (1, [.ref q_1, .ref q_2, .int 1, .int 1000, .int 1, .int 50])), (q_1, .inl (cI, 3, .inl (upd (upd (upd (fun _ => 0) 0 100) 1 90) 2 70))), (q_2, .inl (cI, 12, .inl (fun _ => 0)))] H := hP
  have hD : va_D A [(a0, .inr (1, [.ref q_1, .ref q_2, .int 1, .int 1000, .int 1, .int 50])), (q_1, .inl (cI, 3, .inl (upd (upd (upd (fun _ => 0) 0 100) 1 90) 2 70))), (q_2, .inl (cI, 12, .inl (fun _ => 0)))] := hD
  exact hret (fun k => ([a0, q_1, q_2] : List Nat).getD k 0) _ _ _ _ dX1_init_57 (hP.sub [0, 1, 2] rfl) (hD.sub [0, 1, 2] (by decide) rfl) hS

def rX2_init : Room := { frames := 1, cells := 1, slots := 8, locals := 20 }
set_option maxHeartbeats 4000000 in
set_option maxRecDepth 100000 in
theorem kX2_init (l : Launch) (dC : Nat → ClassId) (dI : Nat → Nat → Nat) (cI cQ cZ : ClassId) (b0 : Nat) (sz : Nat) : Met l yX2_init wsX2_init rX2_init (va_Pc [.ref b0] (cd_pre dC dI cI cQ cZ [(b0, .inr (2, [.null, .int 0]))] sz)) (va_Qv (fun _ => True) (fun (q : Nat → Nat) t => va_P (dC, dI) vwCl (wDs cQ b0 (q 1) (fun _ => none) 0) t.heap ∧ va_D (va_A [(b0, .inr (2, [.null, .int 0]))] sz) (wDs cQ b0 (q 1) (fun _ => none) 0)) (va_A [(b0, .inr (2, [.null, .int 0]))] sz)) 1 8 (va_A [(b0, .inr (2, [.null, .int 0]))] sz) := by
  have hiX2 : ∀ w ∈ u_ws RX2 TX2 2, w ∈ wsX2_init := by decide +kernel
  refine cd_mC (W1 := fun (q : Nat → Nat) => wDs cQ b0 (q 1) (fun _ => none) 0) [.ref b0] (by decide) rfl (Nat.le_of_ble_eq_true rfl) ?_
  intro Q A p e s m args below meth c ls hx hb hml hown hts hA hinit hret hK hP hD hS hl
  have hl : lv_has ls 1 [(0, .ref b0)] := hl
  refine lv_aload_n hx hb dX2_init_0 rfl (lv_at hl 0 rfl) ?_
  refine W.objInit hx hb hown (hts (.methodLink RX2 1 objectInit) (by decide +kernel)) (hts (.instanceMethod objectInit) (by decide +kernel)) (hts (.code objectInit ⟨#[0xb1]⟩ 1 none) (by decide +kernel)) rfl (by rw [hml]; exact hl.1) rfl dX2_init_1 (by decide) (Nat.le_of_ble_eq_true rfl) ?_
  refine W.eq (g2 := F0 m 4 ls []) (rfl) ?_
  refine lv_aload_n hx hb dX2_init_4 rfl (lv_at hl 0 rfl) ?_
  refine lv_bipush (v := 8) hx hb dX2_init_5 (by decide) ?_
  refine va_newq (N' := 8) hx hb hown (hts (.classLink RX2 7 "CellDays$Duty") (by decide +kernel)) hK.2.2 hK.1 hP hD hS hA (by decide) (by decide) (by omega) (by decide) (by decide) dX2_init_7 (fun q_1 cA H hK9 hP hD hS => ?_)
  rw [cd_cAQ hK hK9] at hP hD
  have hP : va_P (dC, dI) vwCl [(b0, .inr (2, [.null, .int 0])), (q_1, .inl (cQ, 8, .inr (.inr (.inr (.inr (fun _ => none))))))] H := hP
  have hD : va_D A [(b0, .inr (2, [.null, .int 0])), (q_1, .inl (cQ, 8, .inr (.inr (.inr (.inr (fun _ => none))))))] := hD
  refine va_putF (D := (dC, dI)) (ci := 2) (v := .ref q_1) (ty := (.array (.object "CellDays$Duty"))) (C := RX2) (T := TX2) (N := 2) hx hb hts hiX2 tyX2 tyX2_ok nmX2 hown hK.1 hP hD hS 0 rfl rfl 0 (by decide) (hts (.fieldLink RX2 9 "CellDays$Duties" "row" "[LCellDays$Duty;") (by decide +kernel)) (fun _ h9 => h9) rfl hinit rfl (by decide +kernel) rfl rfl (Nat.le_of_ble_eq_true rfl) dX2_init_10 (fun H locs hP hD hS => ?_)
  have hP : va_P (dC, dI) vwCl [(b0, .inr (2, [.ref q_1, .int 0])), (q_1, .inl (cQ, 8, .inr (.inr (.inr (.inr (fun _ => none))))))] H := hP
  have hD : va_D A [(b0, .inr (2, [.ref q_1, .int 0])), (q_1, .inl (cQ, 8, .inr (.inr (.inr (.inr (fun _ => none))))))] := hD
  refine lv_aload_n hx hb dX2_init_13 rfl (lv_at hl 0 rfl) ?_
  refine lv_iconst (v := 0) hx hb dX2_init_14 (by decide) ?_
  refine va_put (D := (dC, dI)) (ci := 2) (v := .int 0) (ty := .int) (C := RX2) (T := TX2) (N := 2) hx hb hts hiX2 tyX2 tyX2_ok nmX2 hown hK.1 hP hD hS 0 rfl rfl 1 (by decide) (hts (.fieldLink RX2 15 "CellDays$Duties" "size" "I") (by decide +kernel)) (fun _ h9 => h9) rfl (by decide +kernel) rfl rfl (Nat.le_of_ble_eq_true rfl) dX2_init_15 (fun H locs hP hD hS => ?_)
  have hP : va_P (dC, dI) vwCl [(b0, .inr (2, [.ref q_1, .int 0])), (q_1, .inl (cQ, 8, .inr (.inr (.inr (.inr (fun _ => none))))))] H := hP
  have hD : va_D A [(b0, .inr (2, [.ref q_1, .int 0])), (q_1, .inl (cQ, 8, .inr (.inr (.inr (.inr (fun _ => none))))))] := hD
  exact hret (fun k => ([b0, q_1] : List Nat).getD k 0) _ _ _ _ dX2_init_18 (hP.sub [0, 1] rfl) (hD.sub [0, 1] (by decide) rfl) hS

def rX4_init : Room := { frames := 1, cells := 3, slots := 36, locals := 20 }
set_option maxHeartbeats 4000000 in
set_option maxRecDepth 100000 in
theorem kX4_init (l : Launch) (dC : Nat → ClassId) (dI : Nat → Nat → Nat) (cI cQ cZ : ClassId) (g0 : Nat) (sz : Nat) : Met l yX4_init wsX4_init rX4_init (va_Pc [.ref g0] (cd_pre dC dI cI cQ cZ [(g0, .inr (4, [.null, .null, .null, .int 0]))] sz)) (va_Qv (fun _ => True) (fun (q : Nat → Nat) t => va_P (dC, dI) vwCl (wSg cI g0 (q 1) (q 2) (q 3) (fun _ => 0) (fun _ => 0) (fun _ => 0) 0) t.heap ∧ va_D (va_A [(g0, .inr (4, [.null, .null, .null, .int 0]))] sz) (wSg cI g0 (q 1) (q 2) (q 3) (fun _ => 0) (fun _ => 0) (fun _ => 0) 0)) (va_A [(g0, .inr (4, [.null, .null, .null, .int 0]))] sz)) 3 36 (va_A [(g0, .inr (4, [.null, .null, .null, .int 0]))] sz) := by
  have hiX4 : ∀ w ∈ u_ws RX4 TX4 4, w ∈ wsX4_init := by decide +kernel
  refine cd_mC (W1 := fun (q : Nat → Nat) => wSg cI g0 (q 1) (q 2) (q 3) (fun _ => 0) (fun _ => 0) (fun _ => 0) 0) [.ref g0] (by decide) rfl (Nat.le_of_ble_eq_true rfl) ?_
  intro Q A p e s m args below meth c ls hx hb hml hown hts hA hinit hret hK hP hD hS hl
  have hl : lv_has ls 1 [(0, .ref g0)] := hl
  refine lv_aload_n hx hb dX4_init_0 rfl (lv_at hl 0 rfl) ?_
  refine W.objInit hx hb hown (hts (.methodLink RX4 1 objectInit) (by decide +kernel)) (hts (.instanceMethod objectInit) (by decide +kernel)) (hts (.code objectInit ⟨#[0xb1]⟩ 1 none) (by decide +kernel)) rfl (by rw [hml]; exact hl.1) rfl dX4_init_1 (by decide) (Nat.le_of_ble_eq_true rfl) ?_
  refine W.eq (g2 := F0 m 4 ls []) (rfl) ?_
  refine lv_aload_n hx hb dX4_init_4 rfl (lv_at hl 0 rfl) ?_
  refine lv_bipush (v := 12) hx hb dX4_init_5 (by decide) ?_
  refine va_newa (atype := .int) (ty := .int) (a0 := (12, .inl (fun _ => 0))) (N' := 12) hx hb (hts (.arrayClass .int) (by decide +kernel)) rfl hK.1 hP hD hS hA (cd_c0 12) (by decide) (by decide) (cd_hb (by decide)) (by decide) (by decide) dX4_init_7 (fun q_1 cA H hK9 hP hD hS => ?_)
  rw [cd_cA hK hK9] at hP hD
  have hP : va_P (dC, dI) vwCl [(g0, .inr (4, [.null, .null, .null, .int 0])), (q_1, .inl (cI, 12, .inl (fun _ => 0)))] H := hP
  have hD : va_D A [(g0, .inr (4, [.null, .null, .null, .int 0])), (q_1, .inl (cI, 12, .inl (fun _ => 0)))] := hD
  refine va_putF (D := (dC, dI)) (ci := 4) (v := .ref q_1) (ty := (.array .int)) (C := RX4) (T := TX4) (N := 4) hx hb hts hiX4 tyX4 tyX4_ok nmX4 hown hK.1 hP hD hS 0 rfl rfl 0 (by decide) (hts (.fieldLink RX4 9 "CellDays$Signs" "days" "[I") (by decide +kernel)) (fun _ h9 => h9) rfl hinit rfl (by decide +kernel) rfl rfl (Nat.le_of_ble_eq_true rfl) dX4_init_9 (fun H locs hP hD hS => ?_)
  have hP : va_P (dC, dI) vwCl [(g0, .inr (4, [.ref q_1, .null, .null, .int 0])), (q_1, .inl (cI, 12, .inl (fun _ => 0)))] H := hP
  have hD : va_D A [(g0, .inr (4, [.ref q_1, .null, .null, .int 0])), (q_1, .inl (cI, 12, .inl (fun _ => 0)))] := hD
  refine lv_aload_n hx hb dX4_init_12 rfl (lv_at hl 0 rfl) ?_
  refine lv_bipush (v := 12) hx hb dX4_init_13 (by decide) ?_
  refine va_newa (atype := .int) (ty := .int) (a0 := (12, .inl (fun _ => 0))) (N' := 12) hx hb (hts (.arrayClass .int) (by decide +kernel)) rfl hK.1 hP hD hS hA (cd_c0 12) (by decide) (by decide) (cd_hb (by decide)) (by decide) (by decide) dX4_init_15 (fun q_2 cA H hK9 hP hD hS => ?_)
  rw [cd_cA hK hK9] at hP hD
  have hP : va_P (dC, dI) vwCl [(g0, .inr (4, [.ref q_1, .null, .null, .int 0])), (q_1, .inl (cI, 12, .inl (fun _ => 0))), (q_2, .inl (cI, 12, .inl (fun _ => 0)))] H := hP
  have hD : va_D A [(g0, .inr (4, [.ref q_1, .null, .null, .int 0])), (q_1, .inl (cI, 12, .inl (fun _ => 0))), (q_2, .inl (cI, 12, .inl (fun _ => 0)))] := hD
  refine va_putF (D := (dC, dI)) (ci := 4) (v := .ref q_2) (ty := (.array .int)) (C := RX4) (T := TX4) (N := 4) hx hb hts hiX4 tyX4 tyX4_ok nmX4 hown hK.1 hP hD hS 0 rfl rfl 1 (by decide) (hts (.fieldLink RX4 13 "CellDays$Signs" "levels" "[I") (by decide +kernel)) (fun _ h9 => h9) rfl hinit rfl (by decide +kernel) rfl rfl (Nat.le_of_ble_eq_true rfl) dX4_init_17 (fun H locs hP hD hS => ?_)
  have hP : va_P (dC, dI) vwCl [(g0, .inr (4, [.ref q_1, .ref q_2, .null, .int 0])), (q_1, .inl (cI, 12, .inl (fun _ => 0))), (q_2, .inl (cI, 12, .inl (fun _ => 0)))] H := hP
  have hD : va_D A [(g0, .inr (4, [.ref q_1, .ref q_2, .null, .int 0])), (q_1, .inl (cI, 12, .inl (fun _ => 0))), (q_2, .inl (cI, 12, .inl (fun _ => 0)))] := hD
  refine lv_aload_n hx hb dX4_init_20 rfl (lv_at hl 0 rfl) ?_
  refine lv_bipush (v := 12) hx hb dX4_init_21 (by decide) ?_
  refine va_newa (atype := .int) (ty := .int) (a0 := (12, .inl (fun _ => 0))) (N' := 12) hx hb (hts (.arrayClass .int) (by decide +kernel)) rfl hK.1 hP hD hS hA (cd_c0 12) (by decide) (by decide) (cd_hb (by decide)) (by decide) (by decide) dX4_init_23 (fun q_3 cA H hK9 hP hD hS => ?_)
  rw [cd_cA hK hK9] at hP hD
  have hP : va_P (dC, dI) vwCl [(g0, .inr (4, [.ref q_1, .ref q_2, .null, .int 0])), (q_1, .inl (cI, 12, .inl (fun _ => 0))), (q_2, .inl (cI, 12, .inl (fun _ => 0))), (q_3, .inl (cI, 12, .inl (fun _ => 0)))] H := hP
  have hD : va_D A [(g0, .inr (4, [.ref q_1, .ref q_2, .null, .int 0])), (q_1, .inl (cI, 12, .inl (fun _ => 0))), (q_2, .inl (cI, 12, .inl (fun _ => 0))), (q_3, .inl (cI, 12, .inl (fun _ => 0)))] := hD
  refine va_putF (D := (dC, dI)) (ci := 4) (v := .ref q_3) (ty := (.array .int)) (C := RX4) (T := TX4) (N := 4) hx hb hts hiX4 tyX4 tyX4_ok nmX4 hown hK.1 hP hD hS 0 rfl rfl 2 (by decide) (hts (.fieldLink RX4 16 "CellDays$Signs" "order" "[I") (by decide +kernel)) (fun _ h9 => h9) rfl hinit rfl (by decide +kernel) rfl rfl (Nat.le_of_ble_eq_true rfl) dX4_init_25 (fun H locs hP hD hS => ?_)
  have hP : va_P (dC, dI) vwCl [(g0, .inr (4, [.ref q_1, .ref q_2, .ref q_3, .int 0])), (q_1, .inl (cI, 12, .inl (fun _ => 0))), (q_2, .inl (cI, 12, .inl (fun _ => 0))), (q_3, .inl (cI, 12, .inl (fun _ => 0)))] H := hP
  have hD : va_D A [(g0, .inr (4, [.ref q_1, .ref q_2, .ref q_3, .int 0])), (q_1, .inl (cI, 12, .inl (fun _ => 0))), (q_2, .inl (cI, 12, .inl (fun _ => 0))), (q_3, .inl (cI, 12, .inl (fun _ => 0)))] := hD
  refine lv_aload_n hx hb dX4_init_28 rfl (lv_at hl 0 rfl) ?_
  refine lv_iconst (v := 0) hx hb dX4_init_29 (by decide) ?_
  refine va_put (D := (dC, dI)) (ci := 4) (v := .int 0) (ty := .int) (C := RX4) (T := TX4) (N := 4) hx hb hts hiX4 tyX4 tyX4_ok nmX4 hown hK.1 hP hD hS 0 rfl rfl 3 (by decide) (hts (.fieldLink RX4 19 "CellDays$Signs" "size" "I") (by decide +kernel)) (fun _ h9 => h9) rfl (by decide +kernel) rfl rfl (Nat.le_of_ble_eq_true rfl) dX4_init_30 (fun H locs hP hD hS => ?_)
  have hP : va_P (dC, dI) vwCl [(g0, .inr (4, [.ref q_1, .ref q_2, .ref q_3, .int 0])), (q_1, .inl (cI, 12, .inl (fun _ => 0))), (q_2, .inl (cI, 12, .inl (fun _ => 0))), (q_3, .inl (cI, 12, .inl (fun _ => 0)))] H := hP
  have hD : va_D A [(g0, .inr (4, [.ref q_1, .ref q_2, .ref q_3, .int 0])), (q_1, .inl (cI, 12, .inl (fun _ => 0))), (q_2, .inl (cI, 12, .inl (fun _ => 0))), (q_3, .inl (cI, 12, .inl (fun _ => 0)))] := hD
  exact hret (fun k => ([g0, q_1, q_2, q_3] : List Nat).getD k 0) _ _ _ _ dX4_init_33 (hP.sub [0, 1, 2, 3] rfl) (hD.sub [0, 1, 2, 3] (by decide) rfl) hS

def rX0_init : Room := { frames := 1, cells := 4, slots := 460, locals := 20 }
set_option maxHeartbeats 4000000 in
set_option maxRecDepth 100000 in
theorem kX0_init (l : Launch) (dC : Nat → ClassId) (dI : Nat → Nat → Nat) (cI cQ cZ : ClassId) (h0 : Nat) (x1 : Nat) (x2 : Nat) (x3 : Nat) (sz : Nat) : Met l yX0_init wsX0_init rX0_init (va_Pc [.ref h0, .ref x1, .ref x2, .ref x3] (cd_pre dC dI cI cQ cZ [(h0, .inr (0, [.null, .null, .null, .null, .null, .null, .null, .int 0]))] sz)) (va_Qv (fun _ => True) (fun (q : Nat → Nat) t => va_P (dC, dI) vwCl ([(h0, .inr (0, [.ref x1, .ref x2, .ref x3, .ref (q 1), .ref (q 2), .ref (q 3), .ref (q 4), .int 0])), (q 1, .inl (cI, 150, .inl (fun _ => 0))), (q 2, .inl (cI, 150, .inl (fun _ => 0))), (q 3, .inl (cI, 150, .inl (fun _ => 0))), (q 4, .inl (cI, 10, .inl (fun _ => 0)))]) t.heap ∧ va_D (va_A [(h0, .inr (0, [.null, .null, .null, .null, .null, .null, .null, .int 0]))] sz) ([(h0, .inr (0, [.ref x1, .ref x2, .ref x3, .ref (q 1), .ref (q 2), .ref (q 3), .ref (q 4), .int 0])), (q 1, .inl (cI, 150, .inl (fun _ => 0))), (q 2, .inl (cI, 150, .inl (fun _ => 0))), (q 3, .inl (cI, 150, .inl (fun _ => 0))), (q 4, .inl (cI, 10, .inl (fun _ => 0)))])) (va_A [(h0, .inr (0, [.null, .null, .null, .null, .null, .null, .null, .int 0]))] sz)) 4 460 (va_A [(h0, .inr (0, [.null, .null, .null, .null, .null, .null, .null, .int 0]))] sz) := by
  have hiX0 : ∀ w ∈ u_ws RX0 TX0 8, w ∈ wsX0_init := by decide +kernel
  refine cd_mC (W1 := fun (q : Nat → Nat) => [(h0, .inr (0, [.ref x1, .ref x2, .ref x3, .ref (q 1), .ref (q 2), .ref (q 3), .ref (q 4), .int 0])), (q 1, .inl (cI, 150, .inl (fun _ => 0))), (q 2, .inl (cI, 150, .inl (fun _ => 0))), (q 3, .inl (cI, 150, .inl (fun _ => 0))), (q 4, .inl (cI, 10, .inl (fun _ => 0)))]) [.ref h0, .ref x1, .ref x2, .ref x3] (by decide) rfl (Nat.le_of_ble_eq_true rfl) ?_
  intro Q A p e s m args below meth c ls hx hb hml hown hts hA hinit hret hK hP hD hS hl
  have hl : lv_has ls 4 [(0, .ref h0), (1, .ref x1), (2, .ref x2), (3, .ref x3)] := hl
  refine lv_aload_n hx hb dX0_init_0 rfl (lv_at hl 0 rfl) ?_
  refine W.objInit hx hb hown (hts (.methodLink RX0 5 objectInit) (by decide +kernel)) (hts (.instanceMethod objectInit) (by decide +kernel)) (hts (.code objectInit ⟨#[0xb1]⟩ 1 none) (by decide +kernel)) rfl (by rw [hml]; exact hl.1) rfl dX0_init_1 (by decide) (Nat.le_of_ble_eq_true rfl) ?_
  refine W.eq (g2 := F0 m 4 ls []) (rfl) ?_
  refine lv_aload_n hx hb dX0_init_4 rfl (lv_at hl 0 rfl) ?_
  refine lv_sipush (v := 150) hx hb dX0_init_5 (by decide) ?_
  refine va_newa (atype := .int) (ty := .int) (a0 := (150, .inl (fun _ => 0))) (N' := 150) hx hb (hts (.arrayClass .int) (by decide +kernel)) rfl hK.1 hP hD hS hA (cd_c0 150) (by decide) (by decide) (cd_hb (by decide)) (by decide) (by decide) dX0_init_8 (fun q_1 cA H hK9 hP hD hS => ?_)
  rw [cd_cA hK hK9] at hP hD
  have hP : va_P (dC, dI) vwCl [(h0, .inr (0, [.null, .null, .null, .null, .null, .null, .null, .int 0])), (q_1, .inl (cI, 150, .inl (fun _ => 0)))] H := hP
  have hD : va_D A [(h0, .inr (0, [.null, .null, .null, .null, .null, .null, .null, .int 0])), (q_1, .inl (cI, 150, .inl (fun _ => 0)))] := hD
  refine va_putF (D := (dC, dI)) (ci := 0) (v := .ref q_1) (ty := (.array .int)) (C := RX0) (T := TX0) (N := 8) hx hb hts hiX0 tyX0 tyX0_ok nmX0 hown hK.1 hP hD hS 0 rfl rfl 3 (by decide) (hts (.fieldLink RX0 11 "CellDays$Cases" "agreeing" "[I") (by decide +kernel)) (fun _ h9 => h9) rfl hinit rfl (by decide +kernel) rfl rfl (Nat.le_of_ble_eq_true rfl) dX0_init_10 (fun H locs hP hD hS => ?_)
  have hP : va_P (dC, dI) vwCl [(h0, .inr (0, [.null, .null, .null, .ref q_1, .null, .null, .null, .int 0])), (q_1, .inl (cI, 150, .inl (fun _ => 0)))] H := hP
  have hD : va_D A [(h0, .inr (0, [.null, .null, .null, .ref q_1, .null, .null, .null, .int 0])), (q_1, .inl (cI, 150, .inl (fun _ => 0)))] := hD
  refine lv_aload_n hx hb dX0_init_13 rfl (lv_at hl 0 rfl) ?_
  refine lv_sipush (v := 150) hx hb dX0_init_14 (by decide) ?_
  refine va_newa (atype := .int) (ty := .int) (a0 := (150, .inl (fun _ => 0))) (N' := 150) hx hb (hts (.arrayClass .int) (by decide +kernel)) rfl hK.1 hP hD hS hA (cd_c0 150) (by decide) (by decide) (cd_hb (by decide)) (by decide) (by decide) dX0_init_17 (fun q_2 cA H hK9 hP hD hS => ?_)
  rw [cd_cA hK hK9] at hP hD
  have hP : va_P (dC, dI) vwCl [(h0, .inr (0, [.null, .null, .null, .ref q_1, .null, .null, .null, .int 0])), (q_1, .inl (cI, 150, .inl (fun _ => 0))), (q_2, .inl (cI, 150, .inl (fun _ => 0)))] H := hP
  have hD : va_D A [(h0, .inr (0, [.null, .null, .null, .ref q_1, .null, .null, .null, .int 0])), (q_1, .inl (cI, 150, .inl (fun _ => 0))), (q_2, .inl (cI, 150, .inl (fun _ => 0)))] := hD
  refine va_putF (D := (dC, dI)) (ci := 0) (v := .ref q_2) (ty := (.array .int)) (C := RX0) (T := TX0) (N := 8) hx hb hts hiX0 tyX0 tyX0_ok nmX0 hown hK.1 hP hD hS 0 rfl rfl 4 (by decide) (hts (.fieldLink RX0 15 "CellDays$Cases" "loads" "[I") (by decide +kernel)) (fun _ h9 => h9) rfl hinit rfl (by decide +kernel) rfl rfl (Nat.le_of_ble_eq_true rfl) dX0_init_19 (fun H locs hP hD hS => ?_)
  have hP : va_P (dC, dI) vwCl [(h0, .inr (0, [.null, .null, .null, .ref q_1, .ref q_2, .null, .null, .int 0])), (q_1, .inl (cI, 150, .inl (fun _ => 0))), (q_2, .inl (cI, 150, .inl (fun _ => 0)))] H := hP
  have hD : va_D A [(h0, .inr (0, [.null, .null, .null, .ref q_1, .ref q_2, .null, .null, .int 0])), (q_1, .inl (cI, 150, .inl (fun _ => 0))), (q_2, .inl (cI, 150, .inl (fun _ => 0)))] := hD
  refine lv_aload_n hx hb dX0_init_22 rfl (lv_at hl 0 rfl) ?_
  refine lv_sipush (v := 150) hx hb dX0_init_23 (by decide) ?_
  refine va_newa (atype := .int) (ty := .int) (a0 := (150, .inl (fun _ => 0))) (N' := 150) hx hb (hts (.arrayClass .int) (by decide +kernel)) rfl hK.1 hP hD hS hA (cd_c0 150) (by decide) (by decide) (cd_hb (by decide)) (by decide) (by decide) dX0_init_26 (fun q_3 cA H hK9 hP hD hS => ?_)
  rw [cd_cA hK hK9] at hP hD
  have hP : va_P (dC, dI) vwCl [(h0, .inr (0, [.null, .null, .null, .ref q_1, .ref q_2, .null, .null, .int 0])), (q_1, .inl (cI, 150, .inl (fun _ => 0))), (q_2, .inl (cI, 150, .inl (fun _ => 0))), (q_3, .inl (cI, 150, .inl (fun _ => 0)))] H := hP
  have hD : va_D A [(h0, .inr (0, [.null, .null, .null, .ref q_1, .ref q_2, .null, .null, .int 0])), (q_1, .inl (cI, 150, .inl (fun _ => 0))), (q_2, .inl (cI, 150, .inl (fun _ => 0))), (q_3, .inl (cI, 150, .inl (fun _ => 0)))] := hD
  refine va_putF (D := (dC, dI)) (ci := 0) (v := .ref q_3) (ty := (.array .int)) (C := RX0) (T := TX0) (N := 8) hx hb hts hiX0 tyX0 tyX0_ok nmX0 hown hK.1 hP hD hS 0 rfl rfl 5 (by decide) (hts (.fieldLink RX0 18 "CellDays$Cases" "charges" "[I") (by decide +kernel)) (fun _ h9 => h9) rfl hinit rfl (by decide +kernel) rfl rfl (Nat.le_of_ble_eq_true rfl) dX0_init_28 (fun H locs hP hD hS => ?_)
  have hP : va_P (dC, dI) vwCl [(h0, .inr (0, [.null, .null, .null, .ref q_1, .ref q_2, .ref q_3, .null, .int 0])), (q_1, .inl (cI, 150, .inl (fun _ => 0))), (q_2, .inl (cI, 150, .inl (fun _ => 0))), (q_3, .inl (cI, 150, .inl (fun _ => 0)))] H := hP
  have hD : va_D A [(h0, .inr (0, [.null, .null, .null, .ref q_1, .ref q_2, .ref q_3, .null, .int 0])), (q_1, .inl (cI, 150, .inl (fun _ => 0))), (q_2, .inl (cI, 150, .inl (fun _ => 0))), (q_3, .inl (cI, 150, .inl (fun _ => 0)))] := hD
  refine lv_aload_n hx hb dX0_init_31 rfl (lv_at hl 0 rfl) ?_
  refine lv_bipush (v := 10) hx hb dX0_init_32 (by decide) ?_
  refine va_newa (atype := .int) (ty := .int) (a0 := (10, .inl (fun _ => 0))) (N' := 10) hx hb (hts (.arrayClass .int) (by decide +kernel)) rfl hK.1 hP hD hS hA (cd_c0 10) (by decide) (by decide) (cd_hb (by decide)) (by decide) (by decide) dX0_init_34 (fun q_4 cA H hK9 hP hD hS => ?_)
  rw [cd_cA hK hK9] at hP hD
  have hP : va_P (dC, dI) vwCl [(h0, .inr (0, [.null, .null, .null, .ref q_1, .ref q_2, .ref q_3, .null, .int 0])), (q_1, .inl (cI, 150, .inl (fun _ => 0))), (q_2, .inl (cI, 150, .inl (fun _ => 0))), (q_3, .inl (cI, 150, .inl (fun _ => 0))), (q_4, .inl (cI, 10, .inl (fun _ => 0)))] H := hP
  have hD : va_D A [(h0, .inr (0, [.null, .null, .null, .ref q_1, .ref q_2, .ref q_3, .null, .int 0])), (q_1, .inl (cI, 150, .inl (fun _ => 0))), (q_2, .inl (cI, 150, .inl (fun _ => 0))), (q_3, .inl (cI, 150, .inl (fun _ => 0))), (q_4, .inl (cI, 10, .inl (fun _ => 0)))] := hD
  refine va_putF (D := (dC, dI)) (ci := 0) (v := .ref q_4) (ty := (.array .int)) (C := RX0) (T := TX0) (N := 8) hx hb hts hiX0 tyX0 tyX0_ok nmX0 hown hK.1 hP hD hS 0 rfl rfl 6 (by decide) (hts (.fieldLink RX0 23 "CellDays$Cases" "atLevel" "[I") (by decide +kernel)) (fun _ h9 => h9) rfl hinit rfl (by decide +kernel) rfl rfl (Nat.le_of_ble_eq_true rfl) dX0_init_36 (fun H locs hP hD hS => ?_)
  have hP : va_P (dC, dI) vwCl [(h0, .inr (0, [.null, .null, .null, .ref q_1, .ref q_2, .ref q_3, .ref q_4, .int 0])), (q_1, .inl (cI, 150, .inl (fun _ => 0))), (q_2, .inl (cI, 150, .inl (fun _ => 0))), (q_3, .inl (cI, 150, .inl (fun _ => 0))), (q_4, .inl (cI, 10, .inl (fun _ => 0)))] H := hP
  have hD : va_D A [(h0, .inr (0, [.null, .null, .null, .ref q_1, .ref q_2, .ref q_3, .ref q_4, .int 0])), (q_1, .inl (cI, 150, .inl (fun _ => 0))), (q_2, .inl (cI, 150, .inl (fun _ => 0))), (q_3, .inl (cI, 150, .inl (fun _ => 0))), (q_4, .inl (cI, 10, .inl (fun _ => 0)))] := hD
  refine lv_aload_n hx hb dX0_init_39 rfl (lv_at hl 0 rfl) ?_
  refine lv_iconst (v := 0) hx hb dX0_init_40 (by decide) ?_
  refine va_put (D := (dC, dI)) (ci := 0) (v := .int 0) (ty := .int) (C := RX0) (T := TX0) (N := 8) hx hb hts hiX0 tyX0 tyX0_ok nmX0 hown hK.1 hP hD hS 0 rfl rfl 7 (by decide) (hts (.fieldLink RX0 26 "CellDays$Cases" "agreed" "I") (by decide +kernel)) (fun _ h9 => h9) rfl (by decide +kernel) rfl rfl (Nat.le_of_ble_eq_true rfl) dX0_init_41 (fun H locs hP hD hS => ?_)
  have hP : va_P (dC, dI) vwCl [(h0, .inr (0, [.null, .null, .null, .ref q_1, .ref q_2, .ref q_3, .ref q_4, .int 0])), (q_1, .inl (cI, 150, .inl (fun _ => 0))), (q_2, .inl (cI, 150, .inl (fun _ => 0))), (q_3, .inl (cI, 150, .inl (fun _ => 0))), (q_4, .inl (cI, 10, .inl (fun _ => 0)))] H := hP
  have hD : va_D A [(h0, .inr (0, [.null, .null, .null, .ref q_1, .ref q_2, .ref q_3, .ref q_4, .int 0])), (q_1, .inl (cI, 150, .inl (fun _ => 0))), (q_2, .inl (cI, 150, .inl (fun _ => 0))), (q_3, .inl (cI, 150, .inl (fun _ => 0))), (q_4, .inl (cI, 10, .inl (fun _ => 0)))] := hD
  refine lv_aload_n hx hb dX0_init_44 rfl (lv_at hl 0 rfl) ?_
  refine lv_aload_n hx hb dX0_init_45 rfl (lv_at hl 1 rfl) ?_
  refine va_putF (D := (dC, dI)) (ci := 0) (v := .ref x1) (ty := (.object "CellDays$Cell")) (C := RX0) (T := TX0) (N := 8) hx hb hts hiX0 tyX0 tyX0_ok nmX0 hown hK.1 hP hD hS 0 rfl rfl 0 (by decide) (hts (.fieldLink RX0 30 "CellDays$Cases" "cell" "LCellDays$Cell;") (by decide +kernel)) (fun _ h9 => h9) rfl hinit rfl (by decide +kernel) rfl rfl (Nat.le_of_ble_eq_true rfl) dX0_init_46 (fun H locs hP hD hS => ?_)
  have hP : va_P (dC, dI) vwCl [(h0, .inr (0, [.ref x1, .null, .null, .ref q_1, .ref q_2, .ref q_3, .ref q_4, .int 0])), (q_1, .inl (cI, 150, .inl (fun _ => 0))), (q_2, .inl (cI, 150, .inl (fun _ => 0))), (q_3, .inl (cI, 150, .inl (fun _ => 0))), (q_4, .inl (cI, 10, .inl (fun _ => 0)))] H := hP
  have hD : va_D A [(h0, .inr (0, [.ref x1, .null, .null, .ref q_1, .ref q_2, .ref q_3, .ref q_4, .int 0])), (q_1, .inl (cI, 150, .inl (fun _ => 0))), (q_2, .inl (cI, 150, .inl (fun _ => 0))), (q_3, .inl (cI, 150, .inl (fun _ => 0))), (q_4, .inl (cI, 10, .inl (fun _ => 0)))] := hD
  refine lv_aload_n hx hb dX0_init_49 rfl (lv_at hl 0 rfl) ?_
  refine lv_aload_n hx hb dX0_init_50 rfl (lv_at hl 2 rfl) ?_
  refine va_putF (D := (dC, dI)) (ci := 0) (v := .ref x2) (ty := (.object "CellDays$Duties")) (C := RX0) (T := TX0) (N := 8) hx hb hts hiX0 tyX0 tyX0_ok nmX0 hown hK.1 hP hD hS 0 rfl rfl 1 (by decide) (hts (.fieldLink RX0 34 "CellDays$Cases" "duties" "LCellDays$Duties;") (by decide +kernel)) (fun _ h9 => h9) rfl hinit rfl (by decide +kernel) rfl rfl (Nat.le_of_ble_eq_true rfl) dX0_init_51 (fun H locs hP hD hS => ?_)
  have hP : va_P (dC, dI) vwCl [(h0, .inr (0, [.ref x1, .ref x2, .null, .ref q_1, .ref q_2, .ref q_3, .ref q_4, .int 0])), (q_1, .inl (cI, 150, .inl (fun _ => 0))), (q_2, .inl (cI, 150, .inl (fun _ => 0))), (q_3, .inl (cI, 150, .inl (fun _ => 0))), (q_4, .inl (cI, 10, .inl (fun _ => 0)))] H := hP
  have hD : va_D A [(h0, .inr (0, [.ref x1, .ref x2, .null, .ref q_1, .ref q_2, .ref q_3, .ref q_4, .int 0])), (q_1, .inl (cI, 150, .inl (fun _ => 0))), (q_2, .inl (cI, 150, .inl (fun _ => 0))), (q_3, .inl (cI, 150, .inl (fun _ => 0))), (q_4, .inl (cI, 10, .inl (fun _ => 0)))] := hD
  refine lv_aload_n hx hb dX0_init_54 rfl (lv_at hl 0 rfl) ?_
  refine lv_aload_n hx hb dX0_init_55 rfl (lv_at hl 3 rfl) ?_
  refine va_putF (D := (dC, dI)) (ci := 0) (v := .ref x3) (ty := (.object "CellDays$Signs")) (C := RX0) (T := TX0) (N := 8) hx hb hts hiX0 tyX0 tyX0_ok nmX0 hown hK.1 hP hD hS 0 rfl rfl 2 (by decide) (hts (.fieldLink RX0 38 "CellDays$Cases" "signs" "LCellDays$Signs;") (by decide +kernel)) (fun _ h9 => h9) rfl hinit rfl (by decide +kernel) rfl rfl (Nat.le_of_ble_eq_true rfl) dX0_init_56 (fun H locs hP hD hS => ?_)
  have hP : va_P (dC, dI) vwCl [(h0, .inr (0, [.ref x1, .ref x2, .ref x3, .ref q_1, .ref q_2, .ref q_3, .ref q_4, .int 0])), (q_1, .inl (cI, 150, .inl (fun _ => 0))), (q_2, .inl (cI, 150, .inl (fun _ => 0))), (q_3, .inl (cI, 150, .inl (fun _ => 0))), (q_4, .inl (cI, 10, .inl (fun _ => 0)))] H := hP
  have hD : va_D A [(h0, .inr (0, [.ref x1, .ref x2, .ref x3, .ref q_1, .ref q_2, .ref q_3, .ref q_4, .int 0])), (q_1, .inl (cI, 150, .inl (fun _ => 0))), (q_2, .inl (cI, 150, .inl (fun _ => 0))), (q_3, .inl (cI, 150, .inl (fun _ => 0))), (q_4, .inl (cI, 10, .inl (fun _ => 0)))] := hD
  exact hret (fun k => ([h0, q_1, q_2, q_3, q_4] : List Nat).getD k 0) _ _ _ _ dX0_init_59 (hP.sub [0, 1, 2, 3, 4] rfl) (hD.sub [0, 1, 2, 3, 4] (by decide) rfl) hS
