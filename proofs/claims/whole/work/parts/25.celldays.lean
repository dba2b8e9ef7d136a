/-! POOLS: one object of the pool is written, a new one comes; a contract that makes one object -/
theorem cd_plpush {X : va_W} {L : List Nat} {pd : Nat → DT} {q : Nat} {d : DT} (h : q ∉ L) : (X ++ dpl L pd) ++ [(q, .inr (3, dvl d))] = X ++ dpl (L ++ [q]) (va_up pd q d) := by
  rw [List.append_assoc]
  unfold dpl
  rw [va_pl_push h]
  congr 1
  apply va_pl_congr
  intro a
  by_cases ha : a = q
  · subst ha; simp [va_up]
  · simp [va_up, ha]
theorem cd_plset6 {A : Nat → Prop} {X : va_W} {L : List Nat} {pd : Nat → DT} {y k : Nat} {v : Int32} (hD : va_D A (X ++ dpl L pd)) (h : y ∈ L) (hk : (X ++ dpl L pd)[k]? = some (y, .inr (3, dvl (pd y)))) : (X ++ dpl L pd).set k (y, .inr (3, (dvl (pd y)).set 6 (.int v))) = X ++ dpl L (va_up pd y ((pd y).1, (pd y).2.1, (pd y).2.2.1, (pd y).2.2.2.1, (pd y).2.2.2.2.1, (pd y).2.2.2.2.2.1, v)) := by
  unfold dpl
  rw [va_pl_set hD h hk]
  congr 1
  apply va_pl_congr
  intro a
  by_cases ha : a = y
  · subst ha; simp [va_up, dvl]
  · simp [va_up, ha]
theorem cd_oneD {A : Nat → Prop} {X : va_W} {L : List Nat} {pd : Nat → DT} {y : Nat} (hD : va_D A (X ++ dpl L pd)) (hy : y ∈ L) : va_D A (wDu y (pd y)) := by
  obtain ⟨k, hk⟩ := va_pl_get (X := X) (f := fun a => .inr (3, dvl (pd a))) hy
  refine ⟨fun i j p q hi hj _ => ?_, fun j q hj => ?_⟩
  · have h1 : i < 1 := (List.getElem?_eq_some_iff.mp hi).1
    have h2 : j < 1 := (List.getElem?_eq_some_iff.mp hj).1
    omega
  · have h1 : j < 1 := (List.getElem?_eq_some_iff.mp hj).1
    have h2 : j = 0 := by omega
    subst h2
    cases hj
    exact hD.2 k _ hk
/-- behind a writer that had one object of the pool -/
theorem cd_upd1 {A : Nat → Prop} {D : va_G} {cl : List vw_C} {X : va_W} {L : List Nat} {pd : Nat → DT} {H H1 : Heap} {y : Nat} {d : DT} (hP : va_P D cl (X ++ dpl L pd) H) (hD : va_D A (X ++ dpl L pd)) (hy : y ∈ L) (hk : ∀ q : Nat, q < H.size → ¬ va_A (wDu y (pd y)) H.size q → H1[q]? = H[q]?) (hP1 : va_P D cl (wDu y d) H1) : va_P D cl (X ++ dpl L (va_up pd y d)) H1 ∧ va_D A (X ++ dpl L (va_up pd y d)) := by
  obtain ⟨k, hkk⟩ := va_pl_get (X := X) (f := fun a => .inr (3, dvl (pd a))) hy
  have hs : (X ++ dpl L pd).set k (y, .inr (3, dvl d)) = X ++ dpl L (va_up pd y d) := by
    unfold dpl
    rw [va_pl_set hD hy hkk]
    congr 1
    apply va_pl_congr
    intro a
    by_cases ha : a = y
    · subst ha; simp [va_up]
    · simp [va_up, ha]
  have hl := (List.getElem?_eq_some_iff.mp hkk).1
  rw [← hs]
  refine ⟨fun j q hj => ?_, hD.set hkk⟩
  by_cases hjk : j = k
  · subst hjk
    rw [List.getElem?_set_self hl] at hj
    cases hj
    exact hP1 0 _ rfl
  · rw [List.getElem?_set_ne (Ne.symm hjk)] at hj
    have hlt := (hP j q hj).lt
    refine (hP j q hj).kept (hk q.1 hlt ?_)
    rintro (⟨i, e, h⟩ | h)
    · have h1 : i < 1 := (List.getElem?_eq_some_iff.mp h).1
      have h2 : i = 0 := by omega
      subst h2
      have h3 : y = q.1 := by
        have := Option.some.inj h
        exact congrArg Prod.fst this
      exact hjk (hD.1 j k q _ hj hkk h3.symm)
    · omega
section CDQ
variable {l : Launch} {y : MethodName} {ws ws' : List Cond} {rm : Room} {cc : ByteArray} {maxL mc ms sz : Nat} {dC : Nat → ClassId} {dI : Nat → Nat → Nat} {cI cQ cZ : ClassId} {W0 : va_W}
/-- a writer that answers an int and may make one object -/
theorem cd_mMiQ {r0 : Nat → Int32} {W1 : Nat → va_W} (av : List Value) (hy : plainName y.cls = true) (hw : ws = Cond.code y cc maxL (some .int) :: ws') (hav : (lg_sl av).length ≤ maxL)
    (body : ∀ (Q : State → Prop) (A : Nat → Prop) (p : Program) (e : Env) (s : State) (m : MethodId) (args : Array Value) (below : List Frame) (meth : Method) (c : Code) (ls : Array Slot), p.tables.exec = Jvm.exec → c.code = cc → c.maxLocals = maxL → s.vm.findClass y.cls = some m.cls → (∀ w ∈ ws, w.before args s = true) → (∀ q, s.heap.size ≤ q → A q) →
      (∀ (q9 : Nat) (pc : Nat) (ls : Array Slot) (H : Heap) (locs : List Loc) (v : Int32), decode cc pc = .ok (.ireturn, 1) → va_P (dC, dI) vwCl (W1 q9) H → va_D A (W1 q9) → va_S A s.heap H locs → v = r0 q9 → W p l e rm s m args below meth c H locs mc ms Q (F0 m pc ls [.int v])) →
      kE dC dI cI cQ cZ s → va_P (dC, dI) vwCl W0 s.heap → va_D A W0 → va_S A s.heap s.heap [] → lv_has ls maxL (lv_args 0 av) →
      W p l e rm s m args below meth c s.heap [] 0 0 Q (F0 m 0 ls [])) : Met l y ws rm (va_Pc av (cd_pre dC dI cI cQ cZ W0 sz)) (va_Qi (fun r q9 => r = r0 q9) (fun (q9 : Nat) t => va_P (dC, dI) vwCl (W1 q9) t.heap ∧ va_D (va_A W0 sz) (W1 q9)) (va_A W0 sz)) mc ms (va_A W0 sz) :=
  cd_mW av hy hw hav (fun p e s m args below meth c ls hx hb hml hr hown hts hlocks _ hB hl => by
    obtain ⟨hsz, hK, hP, hD0⟩ := hB
    subst hsz
    exact body _ (va_A W0 s.heap.size) p e s m args below meth c ls hx hb hml hown hts (fun q h => Or.inr h) (fun q9 pc ls H locs v hd hP1 hD1 hS1 hv => W.iret hx hb hr (fun t ht _ => ⟨⟨v, q9, rfl, hv, by rw [ht]; exact hP1, hD1⟩, hS1.F ht⟩) hS1.2.2 hd hlocks) hK hP hD0.self va_S.rf hl)
end CDQ
section CDI
variable {p : Program} {l : Launch} {e : Env} {R : Room} {s : State} {m : MethodId} {args : Array Value} {below : List Frame} {meth : Method} {c : Code} {H : Heap} {locs : List Loc} {cells slots : Nat} {Q : State → Prop}
variable {pc : Nat} {ls : Array Slot} {rest st0 : List Value} {cc bytes : ByteArray} {nL maxL index n b ci mc ms : Nat} {Ts ws ws' : List Cond} {own C host : String} {y : MethodName} {rm : Room} {As : List Value} {W0 W1 : va_W} {dC : Nat → ClassId} {dI : Nat → Nat → Nat} {cI cQ cZ : ClassId} {A0 : Nat → Prop}
theorem cd_wI (S : CallFix p m c cc nL s args Ts own) (hM : Met l y ws rm (va_Pc (.ref b :: As) (cd_pre dC dI cI cQ cZ W0 H.size)) (va_Qv (fun _ => True) (cd_post dC dI W0 W1 H.size) (va_A W0 H.size)) mc ms (va_A W0 H.size)) (cw : CallB R s args own index y bytes maxL none ws rm mc ms n ∧ y.name = "<init>" ∧ (Cond.instanceMethod y).before args s = true) (hK : kE dC dI cI cQ cZ s) (hP : va_P (dC, dI) vwCl W0 H) (hD : va_D A0 W0) (hF : ∀ q, va_A W0 H.size q → A0 q) (hS : va_S A0 s.heap H locs) (hn : As.length = n) (hsz : ls.size = nL) (hst : st0 = As.reverse ++ .ref b :: rest) (hW : (rest.map fun v => v.category).sum ≤ 8) (hdg : decode cc pc = .ok (.invokespecial index, 3)) (hf : cells + mc ≤ R.cells ∧ slots + ms ≤ R.slots)
    (kk : ∀ (H1 : Heap) (locs1 : List Loc), va_P (dC, dI) vwCl W1 H1 → va_D (va_A W0 H.size) W1 → (∀ q : Nat, q < H.size → ¬ va_A W0 H.size q → H1[q]? = H[q]?) → va_S A0 s.heap H1 locs1 → W p l e R s m args below meth c H1 locs1 (cells + mc) (slots + ms) Q (F0 m (pc + 3) ls rest)) : W p l e R s m args below meth c H locs cells slots Q (F0 m pc ls st0) :=
  va_callv (va_runI S hM cw (cd_pSM hK hP hD) rfl hn hsz hst (lv_room hW) hdg hf) hS (fun q _ h => hF q h) hF (fun u t H1 locs1 ht hvm hr hB hz hk hS1 => by subst ht; exact kk _ locs1 hB.1 hB.2 hk hS1)
end CDI

theorem within_b {v lo hi : Int32} (h : ¬ sX5_within v lo hi = 0) : lo.toInt ≤ v.toInt ∧ v.toInt ≤ hi.toInt := by
  unfold sX5_within at h
  split at h
  · exact absurd rfl h
  · next h1 =>
    split at h
    · exact absurd rfl h
    · next h2 => exact ⟨cd_nlt h1, cd_nlt h2⟩
theorem isDay_b {d : Int32} (h : ¬ sX5_isDay d = 0) : 0 ≤ d.toInt ∧ d.toInt ≤ 399 := within_b h
theorem isDay_inc {d : Int32} (h : ¬ sX5_isDay d = 0) : (d + 1).toInt ≤ 400 := by
  have := isDay_b h
  rw [cd_inc this.1 (by omega)]
  omega
theorem full4_b {sn : Nat} (h0 : sn ≤ 12) (h : sX4_isFull sn = 0) : sn < 12 := by
  unfold sX4_isFull at h
  split at h
  · next h1 => exact (nI_ltI (a := sn) (b := 12) (by omega) (by omega)).mp h1
  · exact absurd h (by decide)
theorem shl_nI {dn : Nat} (h : dn ≤ 8) : (1 : Int32) <<< (nI dn &&& 31) = nI (2 ^ dn) := by
  rcases (show dn = 0 ∨ dn = 1 ∨ dn = 2 ∨ dn = 3 ∨ dn = 4 ∨ dn = 5 ∨ dn = 6 ∨ dn = 7 ∨ dn = 8 by omega) with rfl | rfl | rfl | rfl | rfl | rfl | rfl | rfl | rfl <;> decide
theorem pow_8 {dn : Nat} (h : dn ≤ 8) : 2 ^ dn ≤ 256 := by
  rcases (show dn = 0 ∨ dn = 1 ∨ dn = 2 ∨ dn = 3 ∨ dn = 4 ∨ dn = 5 ∨ dn = 6 ∨ dn = 7 ∨ dn = 8 by omega) with rfl | rfl | rfl | rfl | rfl | rfl | rfl | rfl | rfl <;> decide
theorem gather_le {sh wa : Nat → Int32} {pl rm lk br : Int32} {row : Nat → Option Nat} {dn : Nat} {dy lv od : Nat → Int32} {sn : Nat} {pd : Nat → DT} : ∀ (n k : Nat) (agv : Nat → Int32) (anv : Nat), anv ≤ k → k ≤ 150 → (sX0_gatherAgreeing_L7 sh wa pl rm lk br row dn dy lv od sn pd n k agv anv).2 ≤ 150 := by
  intro n
  induction n with
  | zero => intro k agv anv _ _; simp [sX0_gatherAgreeing_L7]
  | succ n ih =>
    intro k agv anv h1 h2
    rw [sX0_gatherAgreeing_L7]
    split
    · show anv ≤ 150
      omega
    · next h =>
      have hk : ¬ 150 ≤ k := fun q => h ((nI_leI (a := 150) (b := k) (by omega) (by omega)).mpr q)
      split
      · exact ih _ _ _ (by omega) (by omega)
      · exact ih _ _ _ (by omega) (by omega)
theorem gather_le' {ag sh wa : Nat → Int32} {pl rm lk br : Int32} {row : Nat → Option Nat} {dn : Nat} {dy lv od : Nat → Int32} {sn : Nat} {pd : Nat → DT} : (sX0_gatherAgreeing ag sh wa pl rm lk br row dn dy lv od sn pd).2 ≤ 150 := gather_le 151 0 ag 0 (Nat.le_refl _) (by omega)
def bc1 (i : Int32) : Int32 := i - ((i.toUInt32 >>> ((1 : Int32).toUInt32 &&& Int32.toUInt32 31)).toInt32 &&& 1431655765)
def bc2 (i : Int32) : Int32 := (i &&& 858993459) + ((i.toUInt32 >>> ((2 : Int32).toUInt32 &&& Int32.toUInt32 31)).toInt32 &&& 858993459)
def bc3 (i : Int32) : Int32 := (i + (i.toUInt32 >>> ((4 : Int32).toUInt32 &&& Int32.toUInt32 31)).toInt32) &&& 252645135
def bc4 (i : Int32) : Int32 := i + (i.toUInt32 >>> ((8 : Int32).toUInt32 &&& Int32.toUInt32 31)).toInt32
def bc5 (i : Int32) : Int32 := i + (i.toUInt32 >>> ((16 : Int32).toUInt32 &&& Int32.toUInt32 31)).toInt32

def rJ6_bitCount_0f7a4 : Room := { frames := 0, cells := 0, slots := 0, locals := 0 }
def sJ6_bitCount_0f7a4 (i : Int32) : Int32 := ((bc5 (bc4 (bc3 (bc2 (bc1 i))))) &&& 63)
set_option maxHeartbeats 4000000 in
set_option maxRecDepth 100000 in
theorem kJ6_bitCount_0f7a4 (l : Launch) (dC : Nat → ClassId) (dI : Nat → Nat → Nat) (cI cQ cZ : ClassId) (i : Int32) : Met l yJ6_bitCount_0f7a4 wsJ6_bitCount_0f7a4 rJ6_bitCount_0f7a4 (va_Pc [.int i] (cd_rp dC dI cI cQ cZ [])) (vp_Si (fun r => r = sJ6_bitCount_0f7a4 i)) 0 0 (fun _ => False) := by
  generalize hex : sJ6_bitCount_0f7a4 i = ex
  unfold sJ6_bitCount_0f7a4 at hex
  refine cd_mRi [.int i] (by decide) rfl (Nat.le_of_ble_eq_true rfl) ?_
  intro Q p e s m args below meth c ls hx hb hml hown hts hret ⟨hK, hP⟩ hl
  have hl : lv_has ls 1 [(0, .int i)] := hl
  refine lv_iload_n hx hb dJ6_bitCount_0f7a4_0 rfl (lv_at hl 0 rfl) ?_
  refine lv_iload_n hx hb dJ6_bitCount_0f7a4_1 rfl (lv_at hl 0 rfl) ?_
  refine lv_iconst (v := 1) hx hb dJ6_bitCount_0f7a4_2 (by decide) ?_
  refine lv_iushr (v := (i.toUInt32 >>> ((1 : Int32).toUInt32 &&& Int32.toUInt32 31)).toInt32) hx hb dJ6_bitCount_0f7a4_3 rfl ?_
  refine lv_ldcw (v := 1431655765) hx hb hown (hts (.constant RJ6 265 1431655765) (by decide +kernel)) dJ6_bitCount_0f7a4_4 ?_
  refine lv_iand hx hb dJ6_bitCount_0f7a4_7 ?_
  refine lv_isub hx hb dJ6_bitCount_0f7a4_8 ?_
  refine W.eq (g2 := F0 m 9 ls [.int (bc1 i)]) (rfl) ?_
  refine lv_istore_n (lv' := [(0, .int (bc1 i))]) hx hb dJ6_bitCount_0f7a4_9 rfl hl (by decide) rfl (fun ls hl => ?_)
  refine lv_iload_n hx hb dJ6_bitCount_0f7a4_10 rfl (lv_at hl 0 rfl) ?_
  refine lv_ldcw (v := 858993459) hx hb hown (hts (.constant RJ6 266 858993459) (by decide +kernel)) dJ6_bitCount_0f7a4_11 ?_
  refine lv_iand hx hb dJ6_bitCount_0f7a4_14 ?_
  refine lv_iload_n hx hb dJ6_bitCount_0f7a4_15 rfl (lv_at hl 0 rfl) ?_
  refine lv_iconst (v := 2) hx hb dJ6_bitCount_0f7a4_16 (by decide) ?_
  refine lv_iushr (v := ((bc1 i).toUInt32 >>> ((2 : Int32).toUInt32 &&& Int32.toUInt32 31)).toInt32) hx hb dJ6_bitCount_0f7a4_17 rfl ?_
  refine lv_ldcw (v := 858993459) hx hb hown (hts (.constant RJ6 266 858993459) (by decide +kernel)) dJ6_bitCount_0f7a4_18 ?_
  refine lv_iand hx hb dJ6_bitCount_0f7a4_21 ?_
  refine lv_iadd hx hb dJ6_bitCount_0f7a4_22 ?_
  refine W.eq (g2 := F0 m 23 ls [.int (bc2 (bc1 i))]) (rfl) ?_
  refine lv_istore_n (lv' := [(0, .int (bc2 (bc1 i)))]) hx hb dJ6_bitCount_0f7a4_23 rfl hl (by decide) rfl (fun ls hl => ?_)
  refine lv_iload_n hx hb dJ6_bitCount_0f7a4_24 rfl (lv_at hl 0 rfl) ?_
  refine lv_iload_n hx hb dJ6_bitCount_0f7a4_25 rfl (lv_at hl 0 rfl) ?_
  refine lv_iconst (v := 4) hx hb dJ6_bitCount_0f7a4_26 (by decide) ?_
  refine lv_iushr (v := ((bc2 (bc1 i)).toUInt32 >>> ((4 : Int32).toUInt32 &&& Int32.toUInt32 31)).toInt32) hx hb dJ6_bitCount_0f7a4_27 rfl ?_
  refine lv_iadd hx hb dJ6_bitCount_0f7a4_28 ?_
  refine lv_ldcw (v := 252645135) hx hb hown (hts (.constant RJ6 267 252645135) (by decide +kernel)) dJ6_bitCount_0f7a4_29 ?_
  refine lv_iand hx hb dJ6_bitCount_0f7a4_32 ?_
  refine W.eq (g2 := F0 m 33 ls [.int (bc3 (bc2 (bc1 i)))]) (rfl) ?_
  refine lv_istore_n (lv' := [(0, .int (bc3 (bc2 (bc1 i))))]) hx hb dJ6_bitCount_0f7a4_33 rfl hl (by decide) rfl (fun ls hl => ?_)
  refine lv_iload_n hx hb dJ6_bitCount_0f7a4_34 rfl (lv_at hl 0 rfl) ?_
  refine lv_iload_n hx hb dJ6_bitCount_0f7a4_35 rfl (lv_at hl 0 rfl) ?_
  refine lv_bipush (v := 8) hx hb dJ6_bitCount_0f7a4_36 (by decide) ?_
  refine lv_iushr (v := ((bc3 (bc2 (bc1 i))).toUInt32 >>> ((8 : Int32).toUInt32 &&& Int32.toUInt32 31)).toInt32) hx hb dJ6_bitCount_0f7a4_38 rfl ?_
  refine lv_iadd hx hb dJ6_bitCount_0f7a4_39 ?_
  refine W.eq (g2 := F0 m 40 ls [.int (bc4 (bc3 (bc2 (bc1 i))))]) (rfl) ?_
  refine lv_istore_n (lv' := [(0, .int (bc4 (bc3 (bc2 (bc1 i)))))]) hx hb dJ6_bitCount_0f7a4_40 rfl hl (by decide) rfl (fun ls hl => ?_)
  refine lv_iload_n hx hb dJ6_bitCount_0f7a4_41 rfl (lv_at hl 0 rfl) ?_
  refine lv_iload_n hx hb dJ6_bitCount_0f7a4_42 rfl (lv_at hl 0 rfl) ?_
  refine lv_bipush (v := 16) hx hb dJ6_bitCount_0f7a4_43 (by decide) ?_
  refine lv_iushr (v := ((bc4 (bc3 (bc2 (bc1 i)))).toUInt32 >>> ((16 : Int32).toUInt32 &&& Int32.toUInt32 31)).toInt32) hx hb dJ6_bitCount_0f7a4_45 rfl ?_
  refine lv_iadd hx hb dJ6_bitCount_0f7a4_46 ?_
  refine W.eq (g2 := F0 m 47 ls [.int (bc5 (bc4 (bc3 (bc2 (bc1 i)))))]) (rfl) ?_
  refine lv_istore_n (lv' := [(0, .int (bc5 (bc4 (bc3 (bc2 (bc1 i))))))]) hx hb dJ6_bitCount_0f7a4_47 rfl hl (by decide) rfl (fun ls hl => ?_)
  refine lv_iload_n hx hb dJ6_bitCount_0f7a4_48 rfl (lv_at hl 0 rfl) ?_
  refine lv_bipush (v := 63) hx hb dJ6_bitCount_0f7a4_49 (by decide) ?_
  refine lv_iand hx hb dJ6_bitCount_0f7a4_51 ?_
  subst hex
  exact hret _ _ dJ6_bitCount_0f7a4_52

def rX5_set : Room := { frames := 1, cells := 0, slots := 0, locals := 22 }
def sX5_set (rm : Int32) (lk : Int32) (br : Int32) (wh : Int32) (v : Int32) : Int32 × (Int32) × (Int32) × (Int32) := (if wh = 0 then (if (sX5_within v 1 5000) = 0 then ((-1), rm, lk, br) else ((sX1_changeRoom rm v).1, (sX1_changeRoom rm v).2, lk, br)) else (if wh = 1 then (if (sX5_within v 0 20) = 0 then ((-1), rm, lk, br) else ((sX1_changeLeak lk v).1, rm, (sX1_changeLeak lk v).2, br)) else (if wh = 2 then (if (sX5_within v 1 500) = 0 then ((-1), rm, lk, br) else ((sX1_changeBar br v).1, rm, lk, (sX1_changeBar br v).2)) else ((-1), rm, lk, br))))
set_option maxHeartbeats 4000000 in
set_option maxRecDepth 100000 in
theorem kX5_set (l : Launch) (dC : Nat → ClassId) (dI : Nat → Nat → Nat) (cI cQ cZ : ClassId) (ad : Nat → Nat) (tq : Int64) (ag : Nat → Int32) (lo : Nat → Int32) (ch : Nat → Int32) (al : Nat → Int32) (an : Nat) (sh : Nat → Int32) (wa : Nat → Int32) (pl : Int32) (rm : Int32) (lk : Int32) (br : Int32) (row : Nat → Option Nat) (dn : Nat) (dy : Nat → Int32) (lv : Nat → Int32) (od : Nat → Int32) (sn : Nat) (L : List Nat) (pd : Nat → DT) (wh : Int32) (v : Int32) (sz : Nat) : Met l yX5_set wsX5_set rX5_set (va_Pc [.ref (ad 0), .int wh, .int v] (cd_pre dC dI cI cQ cZ (wCx cI cQ ad tq ag lo ch al an sh wa pl rm lk br row dn dy lv od sn ++ dpl L pd) sz)) (va_Qi (fun r _ => r = (sX5_set rm lk br wh v).1) (cd_post dC dI (wCx cI cQ ad tq ag lo ch al an sh wa pl rm lk br row dn dy lv od sn ++ dpl L pd) (wCx cI cQ ad tq ag lo ch al an sh wa pl ((sX5_set rm lk br wh v).2.1) ((sX5_set rm lk br wh v).2.2.1) ((sX5_set rm lk br wh v).2.2.2) row dn dy lv od sn ++ dpl L pd) sz) (va_A (wCx cI cQ ad tq ag lo ch al an sh wa pl rm lk br row dn dy lv od sn ++ dpl L pd) sz)) 0 0 (va_A (wCx cI cQ ad tq ag lo ch al an sh wa pl rm lk br row dn dy lv od sn ++ dpl L pd) sz) := by
  have hiX5 : ∀ w ∈ u_ws RX5 TX5 5, w ∈ wsX5_set := by decide +kernel
  generalize hex : sX5_set rm lk br wh v = ex
  unfold sX5_set at hex
  refine cd_mMi [.ref (ad 0), .int wh, .int v] (by decide) rfl (Nat.le_of_ble_eq_true rfl) ?_
  intro Q A p e s m args below meth c ls hx hb hml hown hts hA hret hK hP hD hS hl
  have hl : lv_has ls 3 [(0, .ref (ad 0)), (1, .int wh), (2, .int v)] := hl
  refine lv_iload_n hx hb dX5_set_0 rfl (lv_at hl 1 rfl) ?_
  by_cases c_1 : wh = 0
  · rw [if_pos c_1] at hex
    refine lv_tableIn (tgt := 28) hx hb dX5_set_1 (off := 27) (by rw [c_1] <;> decide) (by rw [c_1] <;> decide) (by rw [c_1] <;> decide +kernel) (by decide) ?_
    refine lv_iload_n hx hb dX5_set_28 rfl (lv_at hl 2 rfl) ?_
    refine lv_iconst (v := 1) hx hb dX5_set_29 (by decide) ?_
    refine lv_sipush (v := 5000) hx hb dX5_set_30 (by decide) ?_
    refine cd_rS (As := [.int v, .int 1, .int 5000]) (rest := []) ⟨hx, hb, hml, hown, hts⟩ (kX5_within l dC dI cI cQ cZ v 1 5000) (va_cwS 3 hts gX5_set_X5_within rfl rfl rfl (by decide +kernel) ⟨by decide, by decide⟩) hK cd_P0 rfl hl.1 rfl (Nat.le_of_ble_eq_true rfl) dX5_set_33 ⟨by decide, by decide⟩ ?_
    refine lv_if_eq (tgt := 50) hx hb dX5_set_36 (by decide) (fun c_2 => ?_) (fun c_2 => ?_)
    · rw [if_pos c_2] at hex
      refine lv_iconst (v := (-1)) hx hb dX5_set_50 (by decide) ?_
      subst hex
      exact hret _ _ _ _ dX5_set_51 hP hD hS
    · rw [if_neg c_2] at hex
      refine lv_aload_n hx hb dX5_set_39 rfl (lv_at hl 0 rfl) ?_
      refine va_get (D := (dC, dI)) (ci := 5) (v := .ref (ad 6)) (C := RX5) (T := TX5) (N := 5) hx hb hts hiX5 hown hK.1 hP 0 rfl rfl 0 (by decide) (hts (.fieldLink RX5 10 "CellDays" "cell" "LCellDays$Cell;") (by decide +kernel)) (fun _ h9 => h9) rfl dX5_set_40 ?_
      refine lv_iload_n hx hb dX5_set_43 rfl (lv_at hl 2 rfl) ?_
      have hDc : va_D A (wCl cI (ad 6) (ad 7) (ad 8) sh wa pl rm lk br) := (hD.sub (ws' := (wCl cI (ad 6) (ad 7) (ad 8) sh wa pl rm lk br)) [6, 7, 8] (by decide) rfl)
      have hFc := cd_F hDc hS hA
      refine cd_wV (As := [.int v]) (b := (ad 6)) (ci := 1) (q := (RX1, TX1, 6)) (rest := []) ⟨hx, hb, hml, hown, hts⟩ (kX1_changeRoom l dC dI cI cQ cZ (ad 6) (ad 7) (ad 8) sh wa pl rm lk br v s.heap.size) (cwV 1 hts gX5_set_X1_changeRoom rfl rfl rfl (by decide +kernel) ⟨by decide, by decide⟩) hK (hP.sub (ws' := (wCl cI (ad 6) (ad 7) (ad 8) sh wa pl rm lk br)) [6, 7, 8] rfl) hDc hFc hS rfl rfl rfl hl.1 rfl (Nat.le_of_ble_eq_true rfl) dX5_set_44 ⟨by decide, by decide⟩ (fun H1 locs hP1 hD1 hk1 hS => ?_)
      obtain ⟨hP, hD⟩ := va_joinQ (X := wCx cI cQ ad tq ag lo ch al an sh wa pl rm lk br row dn dy lv od sn) (cx := (wCl cI (ad 6) (ad 7) (ad 8) sh wa pl rm lk br)) (wr := [(ad 0, .inr (5, [.ref (ad 6), .ref (ad 9), .ref (ad 11), .ref (ad 1), .long tq])), (ad 1, .inr (0, [.ref (ad 6), .ref (ad 9), .ref (ad 11), .ref (ad 2), .ref (ad 3), .ref (ad 4), .ref (ad 5), .int (nI an)])), (ad 2, .inl (cI, 150, .inl ag)), (ad 3, .inl (cI, 150, .inl lo)), (ad 4, .inl (cI, 150, .inl ch)), (ad 5, .inl (cI, 10, .inl al)), (ad 9, .inr (2, [.ref (ad 10), .int (nI dn)])), (ad 10, .inl (cQ, 8, .inr (.inr (.inr (.inr row))))), (ad 11, .inr (4, [.ref (ad 12), .ref (ad 13), .ref (ad 14), .int (nI sn)])), (ad 12, .inl (cI, 12, .inl dy)), (ad 13, .inl (cI, 12, .inl lv)), (ad 14, .inl (cI, 12, .inl od))]) (w1 := (wCl cI (ad 6) (ad 7) (ad 8) sh wa pl ((sX1_changeRoom rm v).2) lk br)) hP hD [6, 7, 8] [0, 1, 2, 3, 4, 5, 9, 10, 11, 12, 13, 14] rfl rfl (by decide) (by decide) hk1 hFc hP1 hD1
      have hP := hP.part (cx := wCx cI cQ ad tq ag lo ch al an sh wa pl ((sX1_changeRoom rm v).2) lk br row dn dy lv od sn) [0, 1, 2, 3, 4, 5, 12, 13, 14, 6, 7, 8, 9, 10, 11] rfl
      have hD := hD.part (cx := wCx cI cQ ad tq ag lo ch al an sh wa pl ((sX1_changeRoom rm v).2) lk br row dn dy lv od sn) [0, 1, 2, 3, 4, 5, 12, 13, 14, 6, 7, 8, 9, 10, 11] (by decide) rfl
      generalize H1 = H at hP hS ⊢
      have hP : va_P (dC, dI) vwCl (wCx cI cQ ad tq ag lo ch al an sh wa pl ((sX1_changeRoom rm v).2) lk br row dn dy lv od sn ++ dpl L pd) H := hP
      have hD : va_D A (wCx cI cQ ad tq ag lo ch al an sh wa pl ((sX1_changeRoom rm v).2) lk br row dn dy lv od sn ++ dpl L pd) := hD
      refine lv_goto (tgt := 51) hx hb dX5_set_47 (by decide) ?_
      subst hex
      exact hret _ _ _ _ dX5_set_51 hP hD hS
  · rw [if_neg c_1] at hex
    by_cases c_3 : wh = 1
    · rw [if_pos c_3] at hex
      refine lv_tableIn (tgt := 52) hx hb dX5_set_1 (off := 51) (by rw [c_3] <;> decide) (by rw [c_3] <;> decide) (by rw [c_3] <;> decide +kernel) (by decide) ?_
      refine lv_iload_n hx hb dX5_set_52 rfl (lv_at hl 2 rfl) ?_
      refine lv_iconst (v := 0) hx hb dX5_set_53 (by decide) ?_
      refine lv_bipush (v := 20) hx hb dX5_set_54 (by decide) ?_
      refine cd_rS (As := [.int v, .int 0, .int 20]) (rest := []) ⟨hx, hb, hml, hown, hts⟩ (kX5_within l dC dI cI cQ cZ v 0 20) (va_cwS 3 hts gX5_set_X5_within rfl rfl rfl (by decide +kernel) ⟨by decide, by decide⟩) hK cd_P0 rfl hl.1 rfl (Nat.le_of_ble_eq_true rfl) dX5_set_56 ⟨by decide, by decide⟩ ?_
      refine lv_if_eq (tgt := 73) hx hb dX5_set_59 (by decide) (fun c_4 => ?_) (fun c_4 => ?_)
      · rw [if_pos c_4] at hex
        refine lv_iconst (v := (-1)) hx hb dX5_set_73 (by decide) ?_
        subst hex
        exact hret _ _ _ _ dX5_set_74 hP hD hS
      · rw [if_neg c_4] at hex
        refine lv_aload_n hx hb dX5_set_62 rfl (lv_at hl 0 rfl) ?_
        refine va_get (D := (dC, dI)) (ci := 5) (v := .ref (ad 6)) (C := RX5) (T := TX5) (N := 5) hx hb hts hiX5 hown hK.1 hP 0 rfl rfl 0 (by decide) (hts (.fieldLink RX5 10 "CellDays" "cell" "LCellDays$Cell;") (by decide +kernel)) (fun _ h9 => h9) rfl dX5_set_63 ?_
        refine lv_iload_n hx hb dX5_set_66 rfl (lv_at hl 2 rfl) ?_
        have hDc : va_D A (wCl cI (ad 6) (ad 7) (ad 8) sh wa pl rm lk br) := (hD.sub (ws' := (wCl cI (ad 6) (ad 7) (ad 8) sh wa pl rm lk br)) [6, 7, 8] (by decide) rfl)
        have hFc := cd_F hDc hS hA
        refine cd_wV (As := [.int v]) (b := (ad 6)) (ci := 1) (q := (RX1, TX1, 6)) (rest := []) ⟨hx, hb, hml, hown, hts⟩ (kX1_changeLeak l dC dI cI cQ cZ (ad 6) (ad 7) (ad 8) sh wa pl rm lk br v s.heap.size) (cwV 1 hts gX5_set_X1_changeLeak rfl rfl rfl (by decide +kernel) ⟨by decide, by decide⟩) hK (hP.sub (ws' := (wCl cI (ad 6) (ad 7) (ad 8) sh wa pl rm lk br)) [6, 7, 8] rfl) hDc hFc hS rfl rfl rfl hl.1 rfl (Nat.le_of_ble_eq_true rfl) dX5_set_67 ⟨by decide, by decide⟩ (fun H1 locs hP1 hD1 hk1 hS => ?_)
        obtain ⟨hP, hD⟩ := va_joinQ (X := wCx cI cQ ad tq ag lo ch al an sh wa pl rm lk br row dn dy lv od sn) (cx := (wCl cI (ad 6) (ad 7) (ad 8) sh wa pl rm lk br)) (wr := [(ad 0, .inr (5, [.ref (ad 6), .ref (ad 9), .ref (ad 11), .ref (ad 1), .long tq])), (ad 1, .inr (0, [.ref (ad 6), .ref (ad 9), .ref (ad 11), .ref (ad 2), .ref (ad 3), .ref (ad 4), .ref (ad 5), .int (nI an)])), (ad 2, .inl (cI, 150, .inl ag)), (ad 3, .inl (cI, 150, .inl lo)), (ad 4, .inl (cI, 150, .inl ch)), (ad 5, .inl (cI, 10, .inl al)), (ad 9, .inr (2, [.ref (ad 10), .int (nI dn)])), (ad 10, .inl (cQ, 8, .inr (.inr (.inr (.inr row))))), (ad 11, .inr (4, [.ref (ad 12), .ref (ad 13), .ref (ad 14), .int (nI sn)])), (ad 12, .inl (cI, 12, .inl dy)), (ad 13, .inl (cI, 12, .inl lv)), (ad 14, .inl (cI, 12, .inl od))]) (w1 := (wCl cI (ad 6) (ad 7) (ad 8) sh wa pl rm ((sX1_changeLeak lk v).2) br)) hP hD [6, 7, 8] [0, 1, 2, 3, 4, 5, 9, 10, 11, 12, 13, 14] rfl rfl (by decide) (by decide) hk1 hFc hP1 hD1
        have hP := hP.part (cx := wCx cI cQ ad tq ag lo ch al an sh wa pl rm ((sX1_changeLeak lk v).2) br row dn dy lv od sn) [0, 1, 2, 3, 4, 5, 12, 13, 14, 6, 7, 8, 9, 10, 11] rfl
        have hD := hD.part (cx := wCx cI cQ ad tq ag lo ch al an sh wa pl rm ((sX1_changeLeak lk v).2) br row dn dy lv od sn) [0, 1, 2, 3, 4, 5, 12, 13, 14, 6, 7, 8, 9, 10, 11] (by decide) rfl
        generalize H1 = H at hP hS ⊢
        have hP : va_P (dC, dI) vwCl (wCx cI cQ ad tq ag lo ch al an sh wa pl rm ((sX1_changeLeak lk v).2) br row dn dy lv od sn ++ dpl L pd) H := hP
        have hD : va_D A (wCx cI cQ ad tq ag lo ch al an sh wa pl rm ((sX1_changeLeak lk v).2) br row dn dy lv od sn ++ dpl L pd) := hD
        refine lv_goto (tgt := 74) hx hb dX5_set_70 (by decide) ?_
        subst hex
        exact hret _ _ _ _ dX5_set_74 hP hD hS
    · rw [if_neg c_3] at hex
      by_cases c_5 : wh = 2
      · rw [if_pos c_5] at hex
        refine lv_tableIn (tgt := 75) hx hb dX5_set_1 (off := 74) (by rw [c_5] <;> decide) (by rw [c_5] <;> decide) (by rw [c_5] <;> decide +kernel) (by decide) ?_
        refine lv_iload_n hx hb dX5_set_75 rfl (lv_at hl 2 rfl) ?_
        refine lv_iconst (v := 1) hx hb dX5_set_76 (by decide) ?_
        refine lv_sipush (v := 500) hx hb dX5_set_77 (by decide) ?_
        refine cd_rS (As := [.int v, .int 1, .int 500]) (rest := []) ⟨hx, hb, hml, hown, hts⟩ (kX5_within l dC dI cI cQ cZ v 1 500) (va_cwS 3 hts gX5_set_X5_within rfl rfl rfl (by decide +kernel) ⟨by decide, by decide⟩) hK cd_P0 rfl hl.1 rfl (Nat.le_of_ble_eq_true rfl) dX5_set_80 ⟨by decide, by decide⟩ ?_
        refine lv_if_eq (tgt := 97) hx hb dX5_set_83 (by decide) (fun c_6 => ?_) (fun c_6 => ?_)
        · rw [if_pos c_6] at hex
          refine lv_iconst (v := (-1)) hx hb dX5_set_97 (by decide) ?_
          subst hex
          exact hret _ _ _ _ dX5_set_98 hP hD hS
        · rw [if_neg c_6] at hex
          refine lv_aload_n hx hb dX5_set_86 rfl (lv_at hl 0 rfl) ?_
          refine va_get (D := (dC, dI)) (ci := 5) (v := .ref (ad 6)) (C := RX5) (T := TX5) (N := 5) hx hb hts hiX5 hown hK.1 hP 0 rfl rfl 0 (by decide) (hts (.fieldLink RX5 10 "CellDays" "cell" "LCellDays$Cell;") (by decide +kernel)) (fun _ h9 => h9) rfl dX5_set_87 ?_
          refine lv_iload_n hx hb dX5_set_90 rfl (lv_at hl 2 rfl) ?_
          have hDc : va_D A (wCl cI (ad 6) (ad 7) (ad 8) sh wa pl rm lk br) := (hD.sub (ws' := (wCl cI (ad 6) (ad 7) (ad 8) sh wa pl rm lk br)) [6, 7, 8] (by decide) rfl)
          have hFc := cd_F hDc hS hA
          refine cd_wV (As := [.int v]) (b := (ad 6)) (ci := 1) (q := (RX1, TX1, 6)) (rest := []) ⟨hx, hb, hml, hown, hts⟩ (kX1_changeBar l dC dI cI cQ cZ (ad 6) (ad 7) (ad 8) sh wa pl rm lk br v s.heap.size) (cwV 1 hts gX5_set_X1_changeBar rfl rfl rfl (by decide +kernel) ⟨by decide, by decide⟩) hK (hP.sub (ws' := (wCl cI (ad 6) (ad 7) (ad 8) sh wa pl rm lk br)) [6, 7, 8] rfl) hDc hFc hS rfl rfl rfl hl.1 rfl (Nat.le_of_ble_eq_true rfl) dX5_set_91 ⟨by decide, by decide⟩ (fun H1 locs hP1 hD1 hk1 hS => ?_)
          obtain ⟨hP, hD⟩ := va_joinQ (X := wCx cI cQ ad tq ag lo ch al an sh wa pl rm lk br row dn dy lv od sn) (cx := (wCl cI (ad 6) (ad 7) (ad 8) sh wa pl rm lk br)) (wr := [(ad 0, .inr (5, [.ref (ad 6), .ref (ad 9), .ref (ad 11), .ref (ad 1), .long tq])), (ad 1, .inr (0, [.ref (ad 6), .ref (ad 9), .ref (ad 11), .ref (ad 2), .ref (ad 3), .ref (ad 4), .ref (ad 5), .int (nI an)])), (ad 2, .inl (cI, 150, .inl ag)), (ad 3, .inl (cI, 150, .inl lo)), (ad 4, .inl (cI, 150, .inl ch)), (ad 5, .inl (cI, 10, .inl al)), (ad 9, .inr (2, [.ref (ad 10), .int (nI dn)])), (ad 10, .inl (cQ, 8, .inr (.inr (.inr (.inr row))))), (ad 11, .inr (4, [.ref (ad 12), .ref (ad 13), .ref (ad 14), .int (nI sn)])), (ad 12, .inl (cI, 12, .inl dy)), (ad 13, .inl (cI, 12, .inl lv)), (ad 14, .inl (cI, 12, .inl od))]) (w1 := (wCl cI (ad 6) (ad 7) (ad 8) sh wa pl rm lk ((sX1_changeBar br v).2))) hP hD [6, 7, 8] [0, 1, 2, 3, 4, 5, 9, 10, 11, 12, 13, 14] rfl rfl (by decide) (by decide) hk1 hFc hP1 hD1
          have hP := hP.part (cx := wCx cI cQ ad tq ag lo ch al an sh wa pl rm lk ((sX1_changeBar br v).2) row dn dy lv od sn) [0, 1, 2, 3, 4, 5, 12, 13, 14, 6, 7, 8, 9, 10, 11] rfl
          have hD := hD.part (cx := wCx cI cQ ad tq ag lo ch al an sh wa pl rm lk ((sX1_changeBar br v).2) row dn dy lv od sn) [0, 1, 2, 3, 4, 5, 12, 13, 14, 6, 7, 8, 9, 10, 11] (by decide) rfl
          generalize H1 = H at hP hS ⊢
          have hP : va_P (dC, dI) vwCl (wCx cI cQ ad tq ag lo ch al an sh wa pl rm lk ((sX1_changeBar br v).2) row dn dy lv od sn ++ dpl L pd) H := hP
          have hD : va_D A (wCx cI cQ ad tq ag lo ch al an sh wa pl rm lk ((sX1_changeBar br v).2) row dn dy lv od sn ++ dpl L pd) := hD
          refine lv_goto (tgt := 98) hx hb dX5_set_94 (by decide) ?_
          subst hex
          exact hret _ _ _ _ dX5_set_98 hP hD hS
      · rw [if_neg c_5] at hex
        refine lv_tableOut (tgt := 99) hx hb dX5_set_1 (by have z0 := lv_neT c_1 (a := 0) (by decide); have z1 := lv_neT c_3 (a := 1) (by decide); have z2 := lv_neT c_5 (a := 2) (by decide); omega) (by decide) ?_
        refine lv_iconst (v := (-1)) hx hb dX5_set_99 (by decide) ?_
        subst hex
        exact hret _ _ _ _ dX5_set_100 hP hD hS

def rX5_shares : Room := { frames := 2, cells := 0, slots := 0, locals := 45 }
def sX5_shares (sh : Nat → Int32) (v1 : Int32) (v2 : Int32) (v3 : Int32) : Int32 × (Nat → Int32) := (if (sX5_within v1 10 100) = 0 then ((-1), sh) else (if (sX5_within v2 10 v1) = 0 then ((-1), sh) else (if (sX5_within v3 10 v2) = 0 then ((-1), sh) else (1, sX1_changeShares sh v1 v2 v3))))
set_option maxHeartbeats 4000000 in
set_option maxRecDepth 100000 in
theorem kX5_shares (l : Launch) (dC : Nat → ClassId) (dI : Nat → Nat → Nat) (cI cQ cZ : ClassId) (ad : Nat → Nat) (tq : Int64) (ag : Nat → Int32) (lo : Nat → Int32) (ch : Nat → Int32) (al : Nat → Int32) (an : Nat) (sh : Nat → Int32) (wa : Nat → Int32) (pl : Int32) (rm : Int32) (lk : Int32) (br : Int32) (row : Nat → Option Nat) (dn : Nat) (dy : Nat → Int32) (lv : Nat → Int32) (od : Nat → Int32) (sn : Nat) (L : List Nat) (pd : Nat → DT) (v1 : Int32) (v2 : Int32) (v3 : Int32) (sz : Nat) : Met l yX5_shares wsX5_shares rX5_shares (va_Pc [.ref (ad 0), .int v1, .int v2, .int v3] (cd_pre dC dI cI cQ cZ (wCx cI cQ ad tq ag lo ch al an sh wa pl rm lk br row dn dy lv od sn ++ dpl L pd) sz)) (va_Qi (fun r _ => r = (sX5_shares sh v1 v2 v3).1) (cd_post dC dI (wCx cI cQ ad tq ag lo ch al an sh wa pl rm lk br row dn dy lv od sn ++ dpl L pd) (wCx cI cQ ad tq ag lo ch al an ((sX5_shares sh v1 v2 v3).2) wa pl rm lk br row dn dy lv od sn ++ dpl L pd) sz) (va_A (wCx cI cQ ad tq ag lo ch al an sh wa pl rm lk br row dn dy lv od sn ++ dpl L pd) sz)) 0 0 (va_A (wCx cI cQ ad tq ag lo ch al an sh wa pl rm lk br row dn dy lv od sn ++ dpl L pd) sz) := by
  have hiX5 : ∀ w ∈ u_ws RX5 TX5 5, w ∈ wsX5_shares := by decide +kernel
  generalize hex : sX5_shares sh v1 v2 v3 = ex
  unfold sX5_shares at hex
  refine cd_mMi [.ref (ad 0), .int v1, .int v2, .int v3] (by decide) rfl (Nat.le_of_ble_eq_true rfl) ?_
  intro Q A p e s m args below meth c ls hx hb hml hown hts hA hret hK hP hD hS hl
  have hl : lv_has ls 4 [(0, .ref (ad 0)), (1, .int v1), (2, .int v2), (3, .int v3)] := hl
  refine lv_iload_n hx hb dX5_shares_0 rfl (lv_at hl 1 rfl) ?_
  refine lv_bipush (v := 10) hx hb dX5_shares_1 (by decide) ?_
  refine lv_bipush (v := 100) hx hb dX5_shares_3 (by decide) ?_
  refine cd_rS (As := [.int v1, .int 10, .int 100]) (rest := []) ⟨hx, hb, hml, hown, hts⟩ (kX5_within l dC dI cI cQ cZ v1 10 100) (va_cwS 3 hts gX5_shares_X5_within rfl rfl rfl (by decide +kernel) ⟨by decide, by decide⟩) hK cd_P0 rfl hl.1 rfl (Nat.le_of_ble_eq_true rfl) dX5_shares_5 ⟨by decide, by decide⟩ ?_
  refine lv_if_eq (tgt := 31) hx hb dX5_shares_8 (by decide) (fun c_1 => ?_) (fun c_1 => ?_)
  · rw [if_pos c_1] at hex
    refine lv_iconst (v := (-1)) hx hb dX5_shares_31 (by decide) ?_
    subst hex
    exact hret _ _ _ _ dX5_shares_32 hP hD hS
  · rw [if_neg c_1] at hex
    refine lv_iload_n hx hb dX5_shares_11 rfl (lv_at hl 2 rfl) ?_
    refine lv_bipush (v := 10) hx hb dX5_shares_12 (by decide) ?_
    refine lv_iload_n hx hb dX5_shares_14 rfl (lv_at hl 1 rfl) ?_
    refine cd_rS (As := [.int v2, .int 10, .int v1]) (rest := []) ⟨hx, hb, hml, hown, hts⟩ (kX5_within l dC dI cI cQ cZ v2 10 v1) (va_cwS 3 hts gX5_shares_X5_within rfl rfl rfl (by decide +kernel) ⟨by decide, by decide⟩) hK cd_P0 rfl hl.1 rfl (Nat.le_of_ble_eq_true rfl) dX5_shares_15 ⟨by decide, by decide⟩ ?_
    refine lv_if_eq (tgt := 31) hx hb dX5_shares_18 (by decide) (fun c_2 => ?_) (fun c_2 => ?_)
    · rw [if_pos c_2] at hex
      refine lv_iconst (v := (-1)) hx hb dX5_shares_31 (by decide) ?_
      subst hex
      exact hret _ _ _ _ dX5_shares_32 hP hD hS
    · rw [if_neg c_2] at hex
      refine lv_iload_n hx hb dX5_shares_21 rfl (lv_at hl 3 rfl) ?_
      refine lv_bipush (v := 10) hx hb dX5_shares_22 (by decide) ?_
      refine lv_iload_n hx hb dX5_shares_24 rfl (lv_at hl 2 rfl) ?_
      refine cd_rS (As := [.int v3, .int 10, .int v2]) (rest := []) ⟨hx, hb, hml, hown, hts⟩ (kX5_within l dC dI cI cQ cZ v3 10 v2) (va_cwS 3 hts gX5_shares_X5_within rfl rfl rfl (by decide +kernel) ⟨by decide, by decide⟩) hK cd_P0 rfl hl.1 rfl (Nat.le_of_ble_eq_true rfl) dX5_shares_25 ⟨by decide, by decide⟩ ?_
      refine lv_if_ne (tgt := 33) hx hb dX5_shares_28 (by decide) (fun c_3 => ?_) (fun c_3 => ?_)
      · rw [if_neg c_3] at hex
        refine lv_aload_n hx hb dX5_shares_33 rfl (lv_at hl 0 rfl) ?_
        refine va_get (D := (dC, dI)) (ci := 5) (v := .ref (ad 6)) (C := RX5) (T := TX5) (N := 5) hx hb hts hiX5 hown hK.1 hP 0 rfl rfl 0 (by decide) (hts (.fieldLink RX5 10 "CellDays" "cell" "LCellDays$Cell;") (by decide +kernel)) (fun _ h9 => h9) rfl dX5_shares_34 ?_
        refine lv_iload_n hx hb dX5_shares_37 rfl (lv_at hl 1 rfl) ?_
        refine lv_iload_n hx hb dX5_shares_38 rfl (lv_at hl 2 rfl) ?_
        refine lv_iload_n hx hb dX5_shares_39 rfl (lv_at hl 3 rfl) ?_
        have hDc : va_D A (wCl cI (ad 6) (ad 7) (ad 8) sh wa pl rm lk br) := (hD.sub (ws' := (wCl cI (ad 6) (ad 7) (ad 8) sh wa pl rm lk br)) [6, 7, 8] (by decide) rfl)
        have hFc := cd_F hDc hS hA
        refine cd_wVv (As := [.int v1, .int v2, .int v3]) (b := (ad 6)) (ci := 1) (q := (RX1, TX1, 6)) (rest := []) ⟨hx, hb, hml, hown, hts⟩ (kX1_changeShares l dC dI cI cQ cZ (ad 6) (ad 7) (ad 8) sh wa pl rm lk br v1 v2 v3 s.heap.size) (cwV 3 hts gX5_shares_X1_changeShares rfl rfl rfl (by decide +kernel) ⟨by decide, by decide⟩) hK (hP.sub (ws' := (wCl cI (ad 6) (ad 7) (ad 8) sh wa pl rm lk br)) [6, 7, 8] rfl) hDc hFc hS rfl rfl rfl hl.1 rfl (Nat.le_of_ble_eq_true rfl) dX5_shares_40 ⟨by decide, by decide⟩ (fun H1 locs hP1 hD1 hk1 hS => ?_)
        obtain ⟨hP, hD⟩ := va_joinQ (X := wCx cI cQ ad tq ag lo ch al an sh wa pl rm lk br row dn dy lv od sn) (cx := (wCl cI (ad 6) (ad 7) (ad 8) sh wa pl rm lk br)) (wr := [(ad 0, .inr (5, [.ref (ad 6), .ref (ad 9), .ref (ad 11), .ref (ad 1), .long tq])), (ad 1, .inr (0, [.ref (ad 6), .ref (ad 9), .ref (ad 11), .ref (ad 2), .ref (ad 3), .ref (ad 4), .ref (ad 5), .int (nI an)])), (ad 2, .inl (cI, 150, .inl ag)), (ad 3, .inl (cI, 150, .inl lo)), (ad 4, .inl (cI, 150, .inl ch)), (ad 5, .inl (cI, 10, .inl al)), (ad 9, .inr (2, [.ref (ad 10), .int (nI dn)])), (ad 10, .inl (cQ, 8, .inr (.inr (.inr (.inr row))))), (ad 11, .inr (4, [.ref (ad 12), .ref (ad 13), .ref (ad 14), .int (nI sn)])), (ad 12, .inl (cI, 12, .inl dy)), (ad 13, .inl (cI, 12, .inl lv)), (ad 14, .inl (cI, 12, .inl od))]) (w1 := (wCl cI (ad 6) (ad 7) (ad 8) (sX1_changeShares sh v1 v2 v3) wa pl rm lk br)) hP hD [6, 7, 8] [0, 1, 2, 3, 4, 5, 9, 10, 11, 12, 13, 14] rfl rfl (by decide) (by decide) hk1 hFc hP1 hD1
        have hP := hP.part (cx := wCx cI cQ ad tq ag lo ch al an (sX1_changeShares sh v1 v2 v3) wa pl rm lk br row dn dy lv od sn) [0, 1, 2, 3, 4, 5, 12, 13, 14, 6, 7, 8, 9, 10, 11] rfl
        have hD := hD.part (cx := wCx cI cQ ad tq ag lo ch al an (sX1_changeShares sh v1 v2 v3) wa pl rm lk br row dn dy lv od sn) [0, 1, 2, 3, 4, 5, 12, 13, 14, 6, 7, 8, 9, 10, 11] (by decide) rfl
        generalize H1 = H at hP hS ⊢
        have hP : va_P (dC, dI) vwCl (wCx cI cQ ad tq ag lo ch al an (sX1_changeShares sh v1 v2 v3) wa pl rm lk br row dn dy lv od sn ++ dpl L pd) H := hP
        have hD : va_D A (wCx cI cQ ad tq ag lo ch al an (sX1_changeShares sh v1 v2 v3) wa pl rm lk br row dn dy lv od sn ++ dpl L pd) := hD
        refine lv_iconst (v := 1) hx hb dX5_shares_43 (by decide) ?_
        subst hex
        exact hret _ _ _ _ dX5_shares_44 hP hD hS
      · rw [if_pos c_3] at hex
        refine lv_iconst (v := (-1)) hx hb dX5_shares_31 (by decide) ?_
        subst hex
        exact hret _ _ _ _ dX5_shares_32 hP hD hS

def rX5_season : Room := { frames := 2, cells := 0, slots := 0, locals := 46 }
def sX5_season (wa : Nat → Int32) (pl : Int32) (nn : Int32) (dg : Int32) : Int32 × (Nat → Int32) × (Int32) := (if (sX5_within nn 1 12) = 0 then ((-1), wa, pl) else (if (sX5_within dg 0 ((sX5_powerOfThree nn) - 1)) = 0 then ((-1), wa, pl) else (nn, (sX1_changeSeason wa nn dg).1, (sX1_changeSeason wa nn dg).2)))
set_option maxHeartbeats 4000000 in
set_option maxRecDepth 100000 in
theorem kX5_season (l : Launch) (dC : Nat → ClassId) (dI : Nat → Nat → Nat) (cI cQ cZ : ClassId) (ad : Nat → Nat) (tq : Int64) (ag : Nat → Int32) (lo : Nat → Int32) (ch : Nat → Int32) (al : Nat → Int32) (an : Nat) (sh : Nat → Int32) (wa : Nat → Int32) (pl : Int32) (rm : Int32) (lk : Int32) (br : Int32) (row : Nat → Option Nat) (dn : Nat) (dy : Nat → Int32) (lv : Nat → Int32) (od : Nat → Int32) (sn : Nat) (L : List Nat) (pd : Nat → DT) (nn : Int32) (dg : Int32) (sz : Nat) : Met l yX5_season wsX5_season rX5_season (va_Pc [.ref (ad 0), .int nn, .int dg] (cd_pre dC dI cI cQ cZ (wCx cI cQ ad tq ag lo ch al an sh wa pl rm lk br row dn dy lv od sn ++ dpl L pd) sz)) (va_Qi (fun r _ => r = (sX5_season wa pl nn dg).1) (cd_post dC dI (wCx cI cQ ad tq ag lo ch al an sh wa pl rm lk br row dn dy lv od sn ++ dpl L pd) (wCx cI cQ ad tq ag lo ch al an sh ((sX5_season wa pl nn dg).2.1) ((sX5_season wa pl nn dg).2.2) rm lk br row dn dy lv od sn ++ dpl L pd) sz) (va_A (wCx cI cQ ad tq ag lo ch al an sh wa pl rm lk br row dn dy lv od sn ++ dpl L pd) sz)) 0 0 (va_A (wCx cI cQ ad tq ag lo ch al an sh wa pl rm lk br row dn dy lv od sn ++ dpl L pd) sz) := by
  have hiX5 : ∀ w ∈ u_ws RX5 TX5 5, w ∈ wsX5_season := by decide +kernel
  generalize hex : sX5_season wa pl nn dg = ex
  unfold sX5_season at hex
  refine cd_mMi [.ref (ad 0), .int nn, .int dg] (by decide) rfl (Nat.le_of_ble_eq_true rfl) ?_
  intro Q A p e s m args below meth c ls hx hb hml hown hts hA hret hK hP hD hS hl
  have hl : lv_has ls 3 [(0, .ref (ad 0)), (1, .int nn), (2, .int dg)] := hl
  refine lv_iload_n hx hb dX5_season_0 rfl (lv_at hl 1 rfl) ?_
  refine lv_iconst (v := 1) hx hb dX5_season_1 (by decide) ?_
  refine lv_bipush (v := 12) hx hb dX5_season_2 (by decide) ?_
  refine cd_rS (As := [.int nn, .int 1, .int 12]) (rest := []) ⟨hx, hb, hml, hown, hts⟩ (kX5_within l dC dI cI cQ cZ nn 1 12) (va_cwS 3 hts gX5_season_X5_within rfl rfl rfl (by decide +kernel) ⟨by decide, by decide⟩) hK cd_P0 rfl hl.1 rfl (Nat.le_of_ble_eq_true rfl) dX5_season_4 ⟨by decide, by decide⟩ ?_
  refine lv_if_eq (tgt := 24) hx hb dX5_season_7 (by decide) (fun c_1 => ?_) (fun c_1 => ?_)
  · rw [if_pos c_1] at hex
    refine lv_iconst (v := (-1)) hx hb dX5_season_24 (by decide) ?_
    subst hex
    exact hret _ _ _ _ dX5_season_25 hP hD hS
  · rw [if_neg c_1] at hex
    refine lv_iload_n hx hb dX5_season_10 rfl (lv_at hl 2 rfl) ?_
    refine lv_iconst (v := 0) hx hb dX5_season_11 (by decide) ?_
    refine lv_iload_n hx hb dX5_season_12 rfl (lv_at hl 1 rfl) ?_
    refine cd_rS (As := [.int nn]) (rest := [.int 0, .int dg]) ⟨hx, hb, hml, hown, hts⟩ (kX5_powerOfThree l dC dI cI cQ cZ nn) (va_cwS 1 hts gX5_season_X5_powerOfThree rfl rfl rfl (by decide +kernel) ⟨by decide, by decide⟩) hK cd_P0 rfl hl.1 rfl (Nat.le_of_ble_eq_true rfl) dX5_season_13 ⟨by decide, by decide⟩ ?_
    refine lv_iconst (v := 1) hx hb dX5_season_16 (by decide) ?_
    refine lv_isub hx hb dX5_season_17 ?_
    refine cd_rS (As := [.int dg, .int 0, .int ((sX5_powerOfThree nn) - 1)]) (rest := []) ⟨hx, hb, hml, hown, hts⟩ (kX5_within l dC dI cI cQ cZ dg 0 ((sX5_powerOfThree nn) - 1)) (va_cwS 3 hts gX5_season_X5_within rfl rfl rfl (by decide +kernel) ⟨by decide, by decide⟩) hK cd_P0 rfl hl.1 rfl (Nat.le_of_ble_eq_true rfl) dX5_season_18 ⟨by decide, by decide⟩ ?_
    refine lv_if_ne (tgt := 26) hx hb dX5_season_21 (by decide) (fun c_2 => ?_) (fun c_2 => ?_)
    · rw [if_neg c_2] at hex
      refine lv_aload_n hx hb dX5_season_26 rfl (lv_at hl 0 rfl) ?_
      refine va_get (D := (dC, dI)) (ci := 5) (v := .ref (ad 6)) (C := RX5) (T := TX5) (N := 5) hx hb hts hiX5 hown hK.1 hP 0 rfl rfl 0 (by decide) (hts (.fieldLink RX5 10 "CellDays" "cell" "LCellDays$Cell;") (by decide +kernel)) (fun _ h9 => h9) rfl dX5_season_27 ?_
      refine lv_iload_n hx hb dX5_season_30 rfl (lv_at hl 1 rfl) ?_
      refine lv_iload_n hx hb dX5_season_31 rfl (lv_at hl 2 rfl) ?_
      have hDc : va_D A (wCl cI (ad 6) (ad 7) (ad 8) sh wa pl rm lk br) := (hD.sub (ws' := (wCl cI (ad 6) (ad 7) (ad 8) sh wa pl rm lk br)) [6, 7, 8] (by decide) rfl)
      have hFc := cd_F hDc hS hA
      refine cd_wVv (As := [.int nn, .int dg]) (b := (ad 6)) (ci := 1) (q := (RX1, TX1, 6)) (rest := []) ⟨hx, hb, hml, hown, hts⟩ (kX1_changeSeason l dC dI cI cQ cZ (ad 6) (ad 7) (ad 8) sh wa pl rm lk br nn dg s.heap.size) (cwV 2 hts gX5_season_X1_changeSeason rfl rfl rfl (by decide +kernel) ⟨by decide, by decide⟩) hK (hP.sub (ws' := (wCl cI (ad 6) (ad 7) (ad 8) sh wa pl rm lk br)) [6, 7, 8] rfl) hDc hFc hS rfl rfl rfl hl.1 rfl (Nat.le_of_ble_eq_true rfl) dX5_season_32 ⟨by decide, by decide⟩ (fun H1 locs hP1 hD1 hk1 hS => ?_)
      obtain ⟨hP, hD⟩ := va_joinQ (X := wCx cI cQ ad tq ag lo ch al an sh wa pl rm lk br row dn dy lv od sn) (cx := (wCl cI (ad 6) (ad 7) (ad 8) sh wa pl rm lk br)) (wr := [(ad 0, .inr (5, [.ref (ad 6), .ref (ad 9), .ref (ad 11), .ref (ad 1), .long tq])), (ad 1, .inr (0, [.ref (ad 6), .ref (ad 9), .ref (ad 11), .ref (ad 2), .ref (ad 3), .ref (ad 4), .ref (ad 5), .int (nI an)])), (ad 2, .inl (cI, 150, .inl ag)), (ad 3, .inl (cI, 150, .inl lo)), (ad 4, .inl (cI, 150, .inl ch)), (ad 5, .inl (cI, 10, .inl al)), (ad 9, .inr (2, [.ref (ad 10), .int (nI dn)])), (ad 10, .inl (cQ, 8, .inr (.inr (.inr (.inr row))))), (ad 11, .inr (4, [.ref (ad 12), .ref (ad 13), .ref (ad 14), .int (nI sn)])), (ad 12, .inl (cI, 12, .inl dy)), (ad 13, .inl (cI, 12, .inl lv)), (ad 14, .inl (cI, 12, .inl od))]) (w1 := (wCl cI (ad 6) (ad 7) (ad 8) sh ((sX1_changeSeason wa nn dg).1) ((sX1_changeSeason wa nn dg).2) rm lk br)) hP hD [6, 7, 8] [0, 1, 2, 3, 4, 5, 9, 10, 11, 12, 13, 14] rfl rfl (by decide) (by decide) hk1 hFc hP1 hD1
      have hP := hP.part (cx := wCx cI cQ ad tq ag lo ch al an sh ((sX1_changeSeason wa nn dg).1) ((sX1_changeSeason wa nn dg).2) rm lk br row dn dy lv od sn) [0, 1, 2, 3, 4, 5, 12, 13, 14, 6, 7, 8, 9, 10, 11] rfl
      have hD := hD.part (cx := wCx cI cQ ad tq ag lo ch al an sh ((sX1_changeSeason wa nn dg).1) ((sX1_changeSeason wa nn dg).2) rm lk br row dn dy lv od sn) [0, 1, 2, 3, 4, 5, 12, 13, 14, 6, 7, 8, 9, 10, 11] (by decide) rfl
      generalize H1 = H at hP hS ⊢
      have hP : va_P (dC, dI) vwCl (wCx cI cQ ad tq ag lo ch al an sh ((sX1_changeSeason wa nn dg).1) ((sX1_changeSeason wa nn dg).2) rm lk br row dn dy lv od sn ++ dpl L pd) H := hP
      have hD : va_D A (wCx cI cQ ad tq ag lo ch al an sh ((sX1_changeSeason wa nn dg).1) ((sX1_changeSeason wa nn dg).2) rm lk br row dn dy lv od sn ++ dpl L pd) := hD
      refine lv_iload_n hx hb dX5_season_35 rfl (lv_at hl 1 rfl) ?_
      subst hex
      exact hret _ _ _ _ dX5_season_36 hP hD hS
    · rw [if_pos c_2] at hex
      refine lv_iconst (v := (-1)) hx hb dX5_season_24 (by decide) ?_
      subst hex
      exact hret _ _ _ _ dX5_season_25 hP hD hS

def rX5_share : Room := { frames := 2, cells := 0, slots := 0, locals := 43 }
def sX5_share (sh : Nat → Int32) (wa : Nat → Int32) (pl : Int32) (dd : Int32) : Int32 := (if (sX5_isDay dd) = 0 then (-1) else (sX1_shareOn sh wa pl dd))
set_option maxHeartbeats 4000000 in
set_option maxRecDepth 100000 in
theorem kX5_share (l : Launch) (dC : Nat → ClassId) (dI : Nat → Nat → Nat) (cI cQ cZ : ClassId) (ad : Nat → Nat) (tq : Int64) (ag : Nat → Int32) (lo : Nat → Int32) (ch : Nat → Int32) (al : Nat → Int32) (an : Nat) (sh : Nat → Int32) (wa : Nat → Int32) (pl : Int32) (rm : Int32) (lk : Int32) (br : Int32) (row : Nat → Option Nat) (dn : Nat) (dy : Nat → Int32) (lv : Nat → Int32) (od : Nat → Int32) (sn : Nat) (L : List Nat) (pd : Nat → DT) (dd : Int32) : Met l yX5_share wsX5_share rX5_share (va_Pc [.ref (ad 0), .int dd] (cd_rp dC dI cI cQ cZ (wCx cI cQ ad tq ag lo ch al an sh wa pl rm lk br row dn dy lv od sn ++ dpl L pd))) (vp_Si (fun r => r = sX5_share sh wa pl dd)) 0 0 (fun _ => False) := by
  have hiX5 : ∀ w ∈ u_ws RX5 TX5 5, w ∈ wsX5_share := by decide +kernel
  generalize hex : sX5_share sh wa pl dd = ex
  unfold sX5_share at hex
  refine cd_mRi [.ref (ad 0), .int dd] (by decide) rfl (Nat.le_of_ble_eq_true rfl) ?_
  intro Q p e s m args below meth c ls hx hb hml hown hts hret ⟨hK, hP⟩ hl
  have hl : lv_has ls 2 [(0, .ref (ad 0)), (1, .int dd)] := hl
  refine lv_iload_n hx hb dX5_share_0 rfl (lv_at hl 1 rfl) ?_
  refine cd_rS (As := [.int dd]) (rest := []) ⟨hx, hb, hml, hown, hts⟩ (kX5_isDay l dC dI cI cQ cZ dd) (va_cwS 1 hts gX5_share_X5_isDay rfl rfl rfl (by decide +kernel) ⟨by decide, by decide⟩) hK cd_P0 rfl hl.1 rfl (Nat.le_of_ble_eq_true rfl) dX5_share_1 ⟨by decide, by decide⟩ ?_
  refine lv_if_eq (tgt := 18) hx hb dX5_share_4 (by decide) (fun c_1 => ?_) (fun c_1 => ?_)
  · rw [if_pos c_1] at hex
    refine lv_iconst (v := (-1)) hx hb dX5_share_18 (by decide) ?_
    subst hex
    exact hret _ _ dX5_share_19
  · rw [if_neg c_1] at hex
    refine lv_aload_n hx hb dX5_share_7 rfl (lv_at hl 0 rfl) ?_
    refine va_get (D := (dC, dI)) (ci := 5) (v := .ref (ad 6)) (C := RX5) (T := TX5) (N := 5) hx hb hts hiX5 hown hK.1 hP 0 rfl rfl 0 (by decide) (hts (.fieldLink RX5 10 "CellDays" "cell" "LCellDays$Cell;") (by decide +kernel)) (fun _ h9 => h9) rfl dX5_share_8 ?_
    refine lv_iload_n hx hb dX5_share_11 rfl (lv_at hl 1 rfl) ?_
    refine cd_rV (As := [.int dd]) (b := (ad 6)) (ci := 1) (q := (RX1, TX1, 6)) (rest := []) ⟨hx, hb, hml, hown, hts⟩ (kX1_shareOn l dC dI cI cQ cZ (ad 6) (ad 7) (ad 8) sh wa pl rm lk br dd) (cwV 1 hts gX5_share_X1_shareOn rfl rfl rfl (by decide +kernel) ⟨by decide, by decide⟩) hK (hP.sub (ws' := (wCl cI (ad 6) (ad 7) (ad 8) sh wa pl rm lk br)) [6, 7, 8] rfl) rfl rfl rfl hl.1 rfl (Nat.le_of_ble_eq_true rfl) dX5_share_12 ⟨by decide, by decide⟩ ?_
    refine lv_goto (tgt := 19) hx hb dX5_share_15 (by decide) ?_
    subst hex
    exact hret _ _ dX5_share_19

def rX5_on : Room := { frames := 1, cells := 0, slots := 0, locals := 21 }
def sX5_on (row : Nat → Option Nat) (dn : Nat) (pd : Nat → DT) (du : Int32) (iz : Int32) : Int32 × (Nat → DT) := (match sX2_numbered row dn du with | none => ((-1), pd) | some y_1 => (if ((pd y_1).2.2.2.2.2.2) = 0 then (0 : Int32) else (1 : Int32), va_up pd y_1 ((pd y_1).1, (pd y_1).2.1, (pd y_1).2.2.1, (pd y_1).2.2.2.1, (pd y_1).2.2.2.2.1, (pd y_1).2.2.2.2.2.1, iz)))
set_option maxHeartbeats 4000000 in
set_option maxRecDepth 100000 in
theorem kX5_on (l : Launch) (dC : Nat → ClassId) (dI : Nat → Nat → Nat) (cI cQ cZ : ClassId) (ad : Nat → Nat) (tq : Int64) (ag : Nat → Int32) (lo : Nat → Int32) (ch : Nat → Int32) (al : Nat → Int32) (an : Nat) (sh : Nat → Int32) (wa : Nat → Int32) (pl : Int32) (rm : Int32) (lk : Int32) (br : Int32) (row : Nat → Option Nat) (dn : Nat) (dy : Nat → Int32) (lv : Nat → Int32) (od : Nat → Int32) (sn : Nat) (L : List Nat) (pd : Nat → DT) (du : Int32) (iz : Int32) (sz : Nat) (hdn : dn ≤ 8) (hrw : ∀ j y, row j = some y → y ∈ L) (hiz : iz = 0 ∨ iz = 1) : Met l yX5_on wsX5_on rX5_on (va_Pc [.ref (ad 0), .int du, .int iz] (cd_pre dC dI cI cQ cZ (wCx cI cQ ad tq ag lo ch al an sh wa pl rm lk br row dn dy lv od sn ++ dpl L pd) sz)) (va_Qi (fun r _ => r = (sX5_on row dn pd du iz).1) (cd_post dC dI (wCx cI cQ ad tq ag lo ch al an sh wa pl rm lk br row dn dy lv od sn ++ dpl L pd) (wCx cI cQ ad tq ag lo ch al an sh wa pl rm lk br row dn dy lv od sn ++ dpl L ((sX5_on row dn pd du iz).2)) sz) (va_A (wCx cI cQ ad tq ag lo ch al an sh wa pl rm lk br row dn dy lv od sn ++ dpl L pd) sz)) 0 0 (va_A (wCx cI cQ ad tq ag lo ch al an sh wa pl rm lk br row dn dy lv od sn ++ dpl L pd) sz) := by
  have hiX3 : ∀ w ∈ u_ws RX3 TX3 7, w ∈ wsX5_on := by decide +kernel
  have hiX5 : ∀ w ∈ u_ws RX5 TX5 5, w ∈ wsX5_on := by decide +kernel
  generalize hex : sX5_on row dn pd du iz = ex
  unfold sX5_on at hex
  refine cd_mMi [.ref (ad 0), .int du, .int iz] (by decide) rfl (Nat.le_of_ble_eq_true rfl) ?_
  intro Q A p e s m args below meth c ls hx hb hml hown hts hA hret hK hP hD hS hl
  have hl : lv_has ls 5 [(0, .ref (ad 0)), (1, .int du), (2, .int iz)] := hl
  refine lv_aload_n hx hb dX5_on_0 rfl (lv_at hl 0 rfl) ?_
  refine va_get (D := (dC, dI)) (ci := 5) (v := .ref (ad 9)) (C := RX5) (T := TX5) (N := 5) hx hb hts hiX5 hown hK.1 hP 0 rfl rfl 1 (by decide) (hts (.fieldLink RX5 19 "CellDays" "duties" "LCellDays$Duties;") (by decide +kernel)) (fun _ h9 => h9) rfl dX5_on_1 ?_
  refine lv_iload_n hx hb dX5_on_4 rfl (lv_at hl 1 rfl) ?_
  refine cd_rVq (As := [.int du]) (b := (ad 9)) (ci := 2) (q := (RX2, TX2, 2)) (rest := []) ⟨hx, hb, hml, hown, hts⟩ (kX2_numbered l dC dI cI cQ cZ (ad 9) (ad 10) row dn du) (cwV 1 hts gX5_on_X2_numbered rfl rfl rfl (by decide +kernel) ⟨by decide, by decide⟩) hK (hP.sub (ws' := (wDs cQ (ad 9) (ad 10) row dn)) [9, 10] rfl) rfl rfl rfl hl.1 rfl (Nat.le_of_ble_eq_true rfl) dX5_on_5 ⟨by decide, by decide⟩ ?_
  rcases hq_2 : sX2_numbered row dn du with _ | y_1
  · rw [hq_2] at hex
    dsimp only at hex
    show W p l e rX5_on s m args below meth c s.heap [] 0 0 Q (F0 m 8 ls [.null])
    refine lv_astore_nN (lv' := [(3, .null), (0, .ref (ad 0)), (1, .int du), (2, .int iz)]) hx hb dX5_on_8 rfl hl (by decide) rfl (fun ls hl => ?_)
    refine lv_aload_nN hx hb dX5_on_9 rfl (lv_at hl 0 rfl) ?_
    refine lv_ifnonnullN hx hb dX5_on_10 ?_
    refine lv_iconst (v := (-1)) hx hb dX5_on_13 (by decide) ?_
    subst hex
    exact hret _ _ _ _ dX5_on_14 hP hD hS
  · rw [hq_2] at hex
    dsimp only at hex
    show W p l e rX5_on s m args below meth c s.heap [] 0 0 Q (F0 m 8 ls [.ref y_1])
    have hm_3 : y_1 ∈ L := mem_numbered hrw hq_2
    refine lv_astore_n (lv' := [(3, .ref y_1), (0, .ref (ad 0)), (1, .int du), (2, .int iz)]) hx hb dX5_on_8 rfl hl (by decide) rfl (fun ls hl => ?_)
    refine lv_aload_n hx hb dX5_on_9 rfl (lv_at hl 0 rfl) ?_
    refine lv_ifnonnull (tgt := 15) hx hb dX5_on_10 (by decide) ?_
    refine lv_aload_n hx hb dX5_on_15 rfl (lv_at hl 0 rfl) ?_
    refine va_getN (D := (dC, dI)) (ci := 3) (v := .int ((pd y_1).2.2.2.2.2.2)) (C := RX3) (T := TX3) (N := 7) hx hb hts hiX3 hown hK.1 (cd_one hP hm_3) 0 rfl rfl 6 (by decide) (va_Nw.use rfl (hK.2.1 (.fieldLinkNest RX5 95 RX3 "isOn" "Z" RX5) (by decide +kernel))) (fun _ h9 => h9) rfl dX5_on_16 ?_
    have J_4 : W p l e rX5_on s m args below meth c s.heap [] 0 0 Q (F0 m 27 ls [.int (if ((pd y_1).2.2.2.2.2.2) = 0 then (0 : Int32) else (1 : Int32))]) := by
      refine lv_istore (lv' := [(4, .int (if ((pd y_1).2.2.2.2.2.2) = 0 then (0 : Int32) else (1 : Int32))), (3, .ref y_1), (0, .ref (ad 0)), (1, .int du), (2, .int iz)]) hx hb dX5_on_27 hl (by decide) rfl (fun ls hl => ?_)
      refine lv_aload_n hx hb dX5_on_29 rfl (lv_at hl 1 rfl) ?_
      refine lv_iload_n hx hb dX5_on_30 rfl (lv_at hl 4 rfl) ?_
      obtain ⟨k9, hk9⟩ := va_pl_get (X := wCx cI cQ ad tq ag lo ch al an sh wa pl rm lk br row dn dy lv od sn) (f := fun a => .inr (3, dvl (pd a))) hm_3
      have hD8 := hD
      refine va_putN (D := (dC, dI)) (ci := 3) (v := .int iz) (ty := .boolean) (C := RX3) (T := TX3) (N := 7) hx hb hts hiX3 tyX3 tyX3_ok nmX3 hown hK.1 hP hD hS k9 hk9 rfl 6 (by decide) (va_Nw.use rfl (hK.2.1 (.fieldLinkNest RX5 95 RX3 "isOn" "Z" RX5) (by decide +kernel))) (fun _ h9 => h9) rfl (by decide +kernel) (by rcases hiz with rfl | rfl <;> rfl) (by rcases hiz with rfl | rfl <;> rfl) (Nat.le_of_ble_eq_true rfl) dX5_on_31 (fun H locs hP hD hS => ?_)
      rw [cd_plset6 hD8 hm_3 hk9] at hP hD
      have hP : va_P (dC, dI) vwCl (wCx cI cQ ad tq ag lo ch al an sh wa pl rm lk br row dn dy lv od sn ++ dpl L (va_up pd y_1 ((pd y_1).1, (pd y_1).2.1, (pd y_1).2.2.1, (pd y_1).2.2.2.1, (pd y_1).2.2.2.2.1, (pd y_1).2.2.2.2.2.1, iz))) H := hP
      have hD : va_D A (wCx cI cQ ad tq ag lo ch al an sh wa pl rm lk br row dn dy lv od sn ++ dpl L (va_up pd y_1 ((pd y_1).1, (pd y_1).2.1, (pd y_1).2.2.1, (pd y_1).2.2.2.1, (pd y_1).2.2.2.2.1, (pd y_1).2.2.2.2.2.1, iz))) := hD
      refine lv_iload hx hb dX5_on_34 (lv_at hl 0 rfl) ?_
      subst hex
      exact hret _ _ _ _ dX5_on_36 hP hD hS
    refine lv_if_eq (tgt := 26) hx hb dX5_on_19 (by decide) (fun c_5 => ?_) (fun c_5 => ?_)
    · skip
      refine lv_iconst (v := 0) hx hb dX5_on_26 (by decide) ?_
      rw [if_pos c_5] at J_4
      exact J_4
    · skip
      refine lv_iconst (v := 1) hx hb dX5_on_22 (by decide) ?_
      refine lv_goto (tgt := 27) hx hb dX5_on_23 (by decide) ?_
      rw [if_neg c_5] at J_4
      exact J_4

def rX5_drop : Room := { frames := 1, cells := 0, slots := 0, locals := 21 }
def sX5_drop (row : Nat → Option Nat) (dn : Nat) : Int32 × (Nat → Option Nat) × (Nat) := (if (nI dn) = 0 then ((-2), row, dn) else ((sX2_removeLatest row dn).1, (sX2_removeLatest row dn).2.1, (sX2_removeLatest row dn).2.2))
set_option maxHeartbeats 4000000 in
set_option maxRecDepth 100000 in
theorem kX5_drop (l : Launch) (dC : Nat → ClassId) (dI : Nat → Nat → Nat) (cI cQ cZ : ClassId) (ad : Nat → Nat) (tq : Int64) (ag : Nat → Int32) (lo : Nat → Int32) (ch : Nat → Int32) (al : Nat → Int32) (an : Nat) (sh : Nat → Int32) (wa : Nat → Int32) (pl : Int32) (rm : Int32) (lk : Int32) (br : Int32) (row : Nat → Option Nat) (dn : Nat) (dy : Nat → Int32) (lv : Nat → Int32) (od : Nat → Int32) (sn : Nat) (L : List Nat) (pd : Nat → DT) (sz : Nat) (hdn : dn ≤ 8) : Met l yX5_drop wsX5_drop rX5_drop (va_Pc [.ref (ad 0)] (cd_pre dC dI cI cQ cZ (wCx cI cQ ad tq ag lo ch al an sh wa pl rm lk br row dn dy lv od sn ++ dpl L pd) sz)) (va_Qi (fun r _ => r = (sX5_drop row dn).1) (cd_post dC dI (wCx cI cQ ad tq ag lo ch al an sh wa pl rm lk br row dn dy lv od sn ++ dpl L pd) (wCx cI cQ ad tq ag lo ch al an sh wa pl rm lk br ((sX5_drop row dn).2.1) ((sX5_drop row dn).2.2) dy lv od sn ++ dpl L pd) sz) (va_A (wCx cI cQ ad tq ag lo ch al an sh wa pl rm lk br row dn dy lv od sn ++ dpl L pd) sz)) 0 0 (va_A (wCx cI cQ ad tq ag lo ch al an sh wa pl rm lk br row dn dy lv od sn ++ dpl L pd) sz) := by
  have hiX2 : ∀ w ∈ u_ws RX2 TX2 2, w ∈ wsX5_drop := by decide +kernel
  have hiX5 : ∀ w ∈ u_ws RX5 TX5 5, w ∈ wsX5_drop := by decide +kernel
  generalize hex : sX5_drop row dn = ex
  unfold sX5_drop at hex
  refine cd_mMi [.ref (ad 0)] (by decide) rfl (Nat.le_of_ble_eq_true rfl) ?_
  intro Q A p e s m args below meth c ls hx hb hml hown hts hA hret hK hP hD hS hl
  have hl : lv_has ls 1 [(0, .ref (ad 0))] := hl
  refine lv_aload_n hx hb dX5_drop_0 rfl (lv_at hl 0 rfl) ?_
  refine va_get (D := (dC, dI)) (ci := 5) (v := .ref (ad 9)) (C := RX5) (T := TX5) (N := 5) hx hb hts hiX5 hown hK.1 hP 0 rfl rfl 1 (by decide) (hts (.fieldLink RX5 19 "CellDays" "duties" "LCellDays$Duties;") (by decide +kernel)) (fun _ h9 => h9) rfl dX5_drop_1 ?_
  refine va_getN (D := (dC, dI)) (ci := 2) (v := .int (nI dn)) (C := RX2) (T := TX2) (N := 2) hx hb hts hiX2 hown hK.1 hP 9 rfl rfl 1 (by decide) (va_Nw.use rfl (hK.2.1 (.fieldLinkNest RX5 99 RX2 "size" "I" RX5) (by decide +kernel))) (fun _ h9 => h9) rfl dX5_drop_4 ?_
  refine lv_if_ne (tgt := 15) hx hb dX5_drop_7 (by decide) (fun c_1 => ?_) (fun c_1 => ?_)
  · rw [if_neg c_1] at hex
    try have n_1 : ¬ dn = 0 := fun h9 => c_1 ((nI_eq (a := dn) (b := 0) (by omega) (by omega)).mpr h9)
    refine lv_aload_n hx hb dX5_drop_15 rfl (lv_at hl 0 rfl) ?_
    refine va_get (D := (dC, dI)) (ci := 5) (v := .ref (ad 9)) (C := RX5) (T := TX5) (N := 5) hx hb hts hiX5 hown hK.1 hP 0 rfl rfl 1 (by decide) (hts (.fieldLink RX5 19 "CellDays" "duties" "LCellDays$Duties;") (by decide +kernel)) (fun _ h9 => h9) rfl dX5_drop_16 ?_
    have hDc : va_D A (wDs cQ (ad 9) (ad 10) row dn) := (hD.sub (ws' := (wDs cQ (ad 9) (ad 10) row dn)) [9, 10] (by decide) rfl)
    have hFc := cd_F hDc hS hA
    refine cd_wV (As := []) (b := (ad 9)) (ci := 2) (q := (RX2, TX2, 2)) (rest := []) ⟨hx, hb, hml, hown, hts⟩ (kX2_removeLatest l dC dI cI cQ cZ (ad 9) (ad 10) row dn s.heap.size hdn (by omega)) (cwV 0 hts gX5_drop_X2_removeLatest rfl rfl rfl (by decide +kernel) ⟨by decide, by decide⟩) hK (hP.sub (ws' := (wDs cQ (ad 9) (ad 10) row dn)) [9, 10] rfl) hDc hFc hS rfl rfl rfl hl.1 rfl (Nat.le_of_ble_eq_true rfl) dX5_drop_19 ⟨by decide, by decide⟩ (fun H1 locs hP1 hD1 hk1 hS => ?_)
    obtain ⟨hP, hD⟩ := va_joinQ (X := wCx cI cQ ad tq ag lo ch al an sh wa pl rm lk br row dn dy lv od sn) (cx := (wDs cQ (ad 9) (ad 10) row dn)) (wr := [(ad 0, .inr (5, [.ref (ad 6), .ref (ad 9), .ref (ad 11), .ref (ad 1), .long tq])), (ad 1, .inr (0, [.ref (ad 6), .ref (ad 9), .ref (ad 11), .ref (ad 2), .ref (ad 3), .ref (ad 4), .ref (ad 5), .int (nI an)])), (ad 2, .inl (cI, 150, .inl ag)), (ad 3, .inl (cI, 150, .inl lo)), (ad 4, .inl (cI, 150, .inl ch)), (ad 5, .inl (cI, 10, .inl al)), (ad 6, .inr (1, [.ref (ad 7), .ref (ad 8), .int pl, .int rm, .int lk, .int br])), (ad 7, .inl (cI, 3, .inl sh)), (ad 8, .inl (cI, 12, .inl wa)), (ad 11, .inr (4, [.ref (ad 12), .ref (ad 13), .ref (ad 14), .int (nI sn)])), (ad 12, .inl (cI, 12, .inl dy)), (ad 13, .inl (cI, 12, .inl lv)), (ad 14, .inl (cI, 12, .inl od))]) (w1 := (wDs cQ (ad 9) (ad 10) ((sX2_removeLatest row dn).2.1) ((sX2_removeLatest row dn).2.2))) hP hD [9, 10] [0, 1, 2, 3, 4, 5, 6, 7, 8, 11, 12, 13, 14] rfl rfl (by decide) (by decide) hk1 hFc hP1 hD1
    have hP := hP.part (cx := wCx cI cQ ad tq ag lo ch al an sh wa pl rm lk br ((sX2_removeLatest row dn).2.1) ((sX2_removeLatest row dn).2.2) dy lv od sn) [0, 1, 2, 3, 4, 5, 6, 7, 8, 13, 14, 9, 10, 11, 12] rfl
    have hD := hD.part (cx := wCx cI cQ ad tq ag lo ch al an sh wa pl rm lk br ((sX2_removeLatest row dn).2.1) ((sX2_removeLatest row dn).2.2) dy lv od sn) [0, 1, 2, 3, 4, 5, 6, 7, 8, 13, 14, 9, 10, 11, 12] (by decide) rfl
    generalize H1 = H at hP hS ⊢
    have hP : va_P (dC, dI) vwCl (wCx cI cQ ad tq ag lo ch al an sh wa pl rm lk br ((sX2_removeLatest row dn).2.1) ((sX2_removeLatest row dn).2.2) dy lv od sn ++ dpl L pd) H := hP
    have hD : va_D A (wCx cI cQ ad tq ag lo ch al an sh wa pl rm lk br ((sX2_removeLatest row dn).2.1) ((sX2_removeLatest row dn).2.2) dy lv od sn ++ dpl L pd) := hD
    subst hex
    exact hret _ _ _ _ dX5_drop_22 hP hD hS
  · rw [if_pos c_1] at hex
    try have n_1 : dn = 0 := (nI_eq (a := dn) (b := 0) (by omega) (by omega)).mp c_1
    refine lv_bipush (v := (-2)) hx hb dX5_drop_10 (by decide) ?_
    refine lv_goto (tgt := 22) hx hb dX5_drop_12 (by decide) ?_
    subst hex
    exact hret _ _ _ _ dX5_drop_22 hP hD hS

def rX5_drain : Room := { frames := 2, cells := 0, slots := 0, locals := 44 }
def sX5_drain (tq : Int64) (br : Int32) (row : Nat → Option Nat) (dn : Nat) (pd : Nat → DT) (du : Int32) (t : Int32) : Int32 × (Int64) := (match sX2_numbered row dn du with | none => ((-1), tq) | some y_1 => (if (sX5_isTries t) = 0 then ((-1), tq) else (if t ≤ ((pd y_1).2.2.2.2.1) then (sX3_drainBy (pd y_1) t br, tq + ((sX3_traceOfOneAsk (pd y_1)).toInt64)) else ((-1), tq))))
set_option maxHeartbeats 4000000 in
set_option maxRecDepth 100000 in
theorem kX5_drain (l : Launch) (dC : Nat → ClassId) (dI : Nat → Nat → Nat) (cI cQ cZ : ClassId) (ad : Nat → Nat) (tq : Int64) (ag : Nat → Int32) (lo : Nat → Int32) (ch : Nat → Int32) (al : Nat → Int32) (an : Nat) (sh : Nat → Int32) (wa : Nat → Int32) (pl : Int32) (rm : Int32) (lk : Int32) (br : Int32) (row : Nat → Option Nat) (dn : Nat) (dy : Nat → Int32) (lv : Nat → Int32) (od : Nat → Int32) (sn : Nat) (L : List Nat) (pd : Nat → DT) (du : Int32) (t : Int32) (sz : Nat) (hdn : dn ≤ 8) (hrw : ∀ j y, row j = some y → y ∈ L) : Met l yX5_drain wsX5_drain rX5_drain (va_Pc [.ref (ad 0), .int du, .int t] (cd_pre dC dI cI cQ cZ (wCx cI cQ ad tq ag lo ch al an sh wa pl rm lk br row dn dy lv od sn ++ dpl L pd) sz)) (va_Qi (fun r _ => r = (sX5_drain tq br row dn pd du t).1) (cd_post dC dI (wCx cI cQ ad tq ag lo ch al an sh wa pl rm lk br row dn dy lv od sn ++ dpl L pd) (wCx cI cQ ad ((sX5_drain tq br row dn pd du t).2) ag lo ch al an sh wa pl rm lk br row dn dy lv od sn ++ dpl L pd) sz) (va_A (wCx cI cQ ad tq ag lo ch al an sh wa pl rm lk br row dn dy lv od sn ++ dpl L pd) sz)) 0 0 (va_A (wCx cI cQ ad tq ag lo ch al an sh wa pl rm lk br row dn dy lv od sn ++ dpl L pd) sz) := by
  have hiX1 : ∀ w ∈ u_ws RX1 TX1 6, w ∈ wsX5_drain := by decide +kernel
  have hiX3 : ∀ w ∈ u_ws RX3 TX3 7, w ∈ wsX5_drain := by decide +kernel
  have hiX5 : ∀ w ∈ u_ws RX5 TX5 5, w ∈ wsX5_drain := by decide +kernel
  generalize hex : sX5_drain tq br row dn pd du t = ex
  unfold sX5_drain at hex
  refine cd_mMi [.ref (ad 0), .int du, .int t] (by decide) rfl (Nat.le_of_ble_eq_true rfl) ?_
  intro Q A p e s m args below meth c ls hx hb hml hown hts hA hret hK hP hD hS hl
  have hl : lv_has ls 4 [(0, .ref (ad 0)), (1, .int du), (2, .int t)] := hl
  refine lv_aload_n hx hb dX5_drain_0 rfl (lv_at hl 0 rfl) ?_
  refine va_get (D := (dC, dI)) (ci := 5) (v := .ref (ad 9)) (C := RX5) (T := TX5) (N := 5) hx hb hts hiX5 hown hK.1 hP 0 rfl rfl 1 (by decide) (hts (.fieldLink RX5 19 "CellDays" "duties" "LCellDays$Duties;") (by decide +kernel)) (fun _ h9 => h9) rfl dX5_drain_1 ?_
  refine lv_iload_n hx hb dX5_drain_4 rfl (lv_at hl 1 rfl) ?_
  refine cd_rVq (As := [.int du]) (b := (ad 9)) (ci := 2) (q := (RX2, TX2, 2)) (rest := []) ⟨hx, hb, hml, hown, hts⟩ (kX2_numbered l dC dI cI cQ cZ (ad 9) (ad 10) row dn du) (cwV 1 hts gX5_drain_X2_numbered rfl rfl rfl (by decide +kernel) ⟨by decide, by decide⟩) hK (hP.sub (ws' := (wDs cQ (ad 9) (ad 10) row dn)) [9, 10] rfl) rfl rfl rfl hl.1 rfl (Nat.le_of_ble_eq_true rfl) dX5_drain_5 ⟨by decide, by decide⟩ ?_
  rcases hq_2 : sX2_numbered row dn du with _ | y_1
  · rw [hq_2] at hex
    dsimp only at hex
    show W p l e rX5_drain s m args below meth c s.heap [] 0 0 Q (F0 m 8 ls [.null])
    refine lv_astore_nN (lv' := [(3, .null), (0, .ref (ad 0)), (1, .int du), (2, .int t)]) hx hb dX5_drain_8 rfl hl (by decide) rfl (fun ls hl => ?_)
    refine lv_aload_nN hx hb dX5_drain_9 rfl (lv_at hl 0 rfl) ?_
    refine lv_ifnullN (tgt := 28) hx hb dX5_drain_10 (by decide) ?_
    refine lv_iconst (v := (-1)) hx hb dX5_drain_28 (by decide) ?_
    subst hex
    exact hret _ _ _ _ dX5_drain_29 hP hD hS
  · rw [hq_2] at hex
    dsimp only at hex
    show W p l e rX5_drain s m args below meth c s.heap [] 0 0 Q (F0 m 8 ls [.ref y_1])
    have hm_3 : y_1 ∈ L := mem_numbered hrw hq_2
    refine lv_astore_n (lv' := [(3, .ref y_1), (0, .ref (ad 0)), (1, .int du), (2, .int t)]) hx hb dX5_drain_8 rfl hl (by decide) rfl (fun ls hl => ?_)
    refine lv_aload_n hx hb dX5_drain_9 rfl (lv_at hl 0 rfl) ?_
    refine lv_ifnull hx hb dX5_drain_10 ?_
    refine lv_iload_n hx hb dX5_drain_13 rfl (lv_at hl 3 rfl) ?_
    refine cd_rS (As := [.int t]) (rest := []) ⟨hx, hb, hml, hown, hts⟩ (kX5_isTries l dC dI cI cQ cZ t) (va_cwS 1 hts gX5_drain_X5_isTries rfl rfl rfl (by decide +kernel) ⟨by decide, by decide⟩) hK cd_P0 rfl hl.1 rfl (Nat.le_of_ble_eq_true rfl) dX5_drain_14 ⟨by decide, by decide⟩ ?_
    refine lv_if_eq (tgt := 28) hx hb dX5_drain_17 (by decide) (fun c_4 => ?_) (fun c_4 => ?_)
    · rw [if_pos c_4] at hex
      refine lv_iconst (v := (-1)) hx hb dX5_drain_28 (by decide) ?_
      subst hex
      exact hret _ _ _ _ dX5_drain_29 hP hD hS
    · rw [if_neg c_4] at hex
      refine lv_iload_n hx hb dX5_drain_20 rfl (lv_at hl 3 rfl) ?_
      refine lv_aload_n hx hb dX5_drain_21 rfl (lv_at hl 0 rfl) ?_
      refine va_getN (D := (dC, dI)) (ci := 3) (v := .int ((pd y_1).2.2.2.2.1)) (C := RX3) (T := TX3) (N := 7) hx hb hts hiX3 hown hK.1 (cd_one hP hm_3) 0 rfl rfl 4 (by decide) (va_Nw.use rfl (hK.2.1 (.fieldLinkNest RX5 107 RX3 "tries" "I" RX5) (by decide +kernel))) (fun _ h9 => h9) rfl dX5_drain_22 ?_
      refine lv_icmp_le (tgt := 30) hx hb dX5_drain_25 (by decide) (fun c_5 => ?_) (fun c_5 => ?_)
      · rw [if_pos c_5] at hex
        refine lv_aload_n hx hb dX5_drain_30 rfl (lv_at hl 1 rfl) ?_
        refine lv_dup hx hb dX5_drain_31 rfl ?_
        refine va_get (D := (dC, dI)) (ci := 5) (v := .long tq) (C := RX5) (T := TX5) (N := 5) hx hb hts hiX5 hown hK.1 hP 0 rfl rfl 4 (by decide) (hts (.fieldLink RX5 39 "CellDays" "asked" "J") (by decide +kernel)) (fun _ h9 => h9) rfl dX5_drain_32 ?_
        refine lv_aload_n hx hb dX5_drain_35 rfl (lv_at hl 0 rfl) ?_
        refine cd_rV (As := []) (b := y_1) (ci := 3) (q := (RX3, TX3, 7)) (rest := [.long tq, .ref (ad 0)]) ⟨hx, hb, hml, hown, hts⟩ (kX3_traceOfOneAsk l dC dI cI cQ cZ y_1 (pd y_1)) (cwV 0 hts gX5_drain_X3_traceOfOneAsk rfl rfl rfl (by decide +kernel) ⟨by decide, by decide⟩) hK (cd_one hP hm_3) rfl rfl rfl hl.1 rfl (Nat.le_of_ble_eq_true rfl) dX5_drain_36 ⟨by decide, by decide⟩ ?_
        refine lv_i2l (v := (sX3_traceOfOneAsk (pd y_1)).toInt64) hx hb dX5_drain_39 rfl ?_
        refine lv_ladd hx hb dX5_drain_40 ?_
        refine va_put (D := (dC, dI)) (ci := 5) (v := .long (tq + ((sX3_traceOfOneAsk (pd y_1)).toInt64))) (ty := .long) (C := RX5) (T := TX5) (N := 5) hx hb hts hiX5 tyX5 tyX5_ok nmX5 hown hK.1 hP hD hS 0 rfl rfl 4 (by decide) (hts (.fieldLink RX5 39 "CellDays" "asked" "J") (by decide +kernel)) (fun _ h9 => h9) rfl (by decide +kernel) (rfl) (rfl) (Nat.le_of_ble_eq_true rfl) dX5_drain_41 (fun H locs hP hD hS => ?_)
        have hP : va_P (dC, dI) vwCl (wCx cI cQ ad (tq + ((sX3_traceOfOneAsk (pd y_1)).toInt64)) ag lo ch al an sh wa pl rm lk br row dn dy lv od sn ++ dpl L pd) H := hP
        have hD : va_D A (wCx cI cQ ad (tq + ((sX3_traceOfOneAsk (pd y_1)).toInt64)) ag lo ch al an sh wa pl rm lk br row dn dy lv od sn ++ dpl L pd) := hD
        refine lv_aload_n hx hb dX5_drain_44 rfl (lv_at hl 0 rfl) ?_
        refine lv_iload_n hx hb dX5_drain_45 rfl (lv_at hl 3 rfl) ?_
        refine lv_aload_n hx hb dX5_drain_46 rfl (lv_at hl 1 rfl) ?_
        refine va_get (D := (dC, dI)) (ci := 5) (v := .ref (ad 6)) (C := RX5) (T := TX5) (N := 5) hx hb hts hiX5 hown hK.1 hP 0 rfl rfl 0 (by decide) (hts (.fieldLink RX5 10 "CellDays" "cell" "LCellDays$Cell;") (by decide +kernel)) (fun _ h9 => h9) rfl dX5_drain_47 ?_
        refine va_getN (D := (dC, dI)) (ci := 1) (v := .int br) (C := RX1) (T := TX1) (N := 6) hx hb hts hiX1 hown hK.1 hP 6 rfl rfl 5 (by decide) (va_Nw.use rfl (hK.2.1 (.fieldLinkNest RX5 113 RX1 "bar" "I" RX5) (by decide +kernel))) (fun _ h9 => h9) rfl dX5_drain_50 ?_
        refine cd_rV (As := [.int t, .int br]) (b := y_1) (ci := 3) (q := (RX3, TX3, 7)) (rest := []) ⟨hx, hb, hml, hown, hts⟩ (kX3_drainBy l dC dI cI cQ cZ y_1 (pd y_1) t br) (cwV 2 hts gX5_drain_X3_drainBy rfl rfl rfl (by decide +kernel) ⟨by decide, by decide⟩) hK (cd_one hP hm_3) rfl rfl rfl hl.1 rfl (Nat.le_of_ble_eq_true rfl) dX5_drain_53 ⟨by decide, by decide⟩ ?_
        subst hex
        exact hret _ _ _ _ dX5_drain_56 hP hD hS
      · rw [if_neg c_5] at hex
        refine lv_iconst (v := (-1)) hx hb dX5_drain_28 (by decide) ?_
        subst hex
        exact hret _ _ _ _ dX5_drain_29 hP hD hS

def rX5_life : Room := { frames := 3, cells := 0, slots := 0, locals := 70 }
def sX5_life (sh : Nat → Int32) (wa : Nat → Int32) (pl : Int32) (rm : Int32) (lk : Int32) (br : Int32) (row : Nat → Option Nat) (dn : Nat) (pd : Nat → DT) (t : Int32) : Int32 := (if (sX5_isTries t) = 0 then (-1) else (sX1_daysLasted sh wa pl rm lk (sX2_loadOf row dn pd (sX2_setOfOn row dn pd) t br)))
set_option maxHeartbeats 4000000 in
set_option maxRecDepth 100000 in
theorem kX5_life (l : Launch) (dC : Nat → ClassId) (dI : Nat → Nat → Nat) (cI cQ cZ : ClassId) (ad : Nat → Nat) (tq : Int64) (ag : Nat → Int32) (lo : Nat → Int32) (ch : Nat → Int32) (al : Nat → Int32) (an : Nat) (sh : Nat → Int32) (wa : Nat → Int32) (pl : Int32) (rm : Int32) (lk : Int32) (br : Int32) (row : Nat → Option Nat) (dn : Nat) (dy : Nat → Int32) (lv : Nat → Int32) (od : Nat → Int32) (sn : Nat) (L : List Nat) (pd : Nat → DT) (t : Int32) (hdn : dn ≤ 8) (hrw : ∀ j y, row j = some y → y ∈ L) : Met l yX5_life wsX5_life rX5_life (va_Pc [.ref (ad 0), .int t] (cd_rp dC dI cI cQ cZ (wCx cI cQ ad tq ag lo ch al an sh wa pl rm lk br row dn dy lv od sn ++ dpl L pd))) (vp_Si (fun r => r = sX5_life sh wa pl rm lk br row dn pd t)) 0 0 (fun _ => False) := by
  have hiX1 : ∀ w ∈ u_ws RX1 TX1 6, w ∈ wsX5_life := by decide +kernel
  have hiX5 : ∀ w ∈ u_ws RX5 TX5 5, w ∈ wsX5_life := by decide +kernel
  generalize hex : sX5_life sh wa pl rm lk br row dn pd t = ex
  unfold sX5_life at hex
  refine cd_mRi [.ref (ad 0), .int t] (by decide) rfl (Nat.le_of_ble_eq_true rfl) ?_
  intro Q p e s m args below meth c ls hx hb hml hown hts hret ⟨hK, hP⟩ hl
  have hl : lv_has ls 2 [(0, .ref (ad 0)), (1, .int t)] := hl
  refine lv_iload_n hx hb dX5_life_0 rfl (lv_at hl 1 rfl) ?_
  refine cd_rS (As := [.int t]) (rest := []) ⟨hx, hb, hml, hown, hts⟩ (kX5_isTries l dC dI cI cQ cZ t) (va_cwS 1 hts gX5_life_X5_isTries rfl rfl rfl (by decide +kernel) ⟨by decide, by decide⟩) hK cd_P0 rfl hl.1 rfl (Nat.le_of_ble_eq_true rfl) dX5_life_1 ⟨by decide, by decide⟩ ?_
  refine lv_if_eq (tgt := 39) hx hb dX5_life_4 (by decide) (fun c_1 => ?_) (fun c_1 => ?_)
  · rw [if_pos c_1] at hex
    refine lv_iconst (v := (-1)) hx hb dX5_life_39 (by decide) ?_
    subst hex
    exact hret _ _ dX5_life_40
  · rw [if_neg c_1] at hex
    refine lv_aload_n hx hb dX5_life_7 rfl (lv_at hl 0 rfl) ?_
    refine va_get (D := (dC, dI)) (ci := 5) (v := .ref (ad 6)) (C := RX5) (T := TX5) (N := 5) hx hb hts hiX5 hown hK.1 hP 0 rfl rfl 0 (by decide) (hts (.fieldLink RX5 10 "CellDays" "cell" "LCellDays$Cell;") (by decide +kernel)) (fun _ h9 => h9) rfl dX5_life_8 ?_
    refine lv_aload_n hx hb dX5_life_11 rfl (lv_at hl 0 rfl) ?_
    refine va_get (D := (dC, dI)) (ci := 5) (v := .ref (ad 9)) (C := RX5) (T := TX5) (N := 5) hx hb hts hiX5 hown hK.1 hP 0 rfl rfl 1 (by decide) (hts (.fieldLink RX5 19 "CellDays" "duties" "LCellDays$Duties;") (by decide +kernel)) (fun _ h9 => h9) rfl dX5_life_12 ?_
    refine lv_aload_n hx hb dX5_life_15 rfl (lv_at hl 0 rfl) ?_
    refine va_get (D := (dC, dI)) (ci := 5) (v := .ref (ad 9)) (C := RX5) (T := TX5) (N := 5) hx hb hts hiX5 hown hK.1 hP 0 rfl rfl 1 (by decide) (hts (.fieldLink RX5 19 "CellDays" "duties" "LCellDays$Duties;") (by decide +kernel)) (fun _ h9 => h9) rfl dX5_life_16 ?_
    refine cd_rV (As := []) (b := (ad 9)) (ci := 2) (q := (RX2, TX2, 2)) (rest := [.ref (ad 9), .ref (ad 6)]) ⟨hx, hb, hml, hown, hts⟩ (kX2_setOfOn l dC dI cI cQ cZ (ad 9) (ad 10) row dn L pd hdn hrw) (cwV 0 hts gX5_life_X2_setOfOn rfl rfl rfl (by decide +kernel) ⟨by decide, by decide⟩) hK (hP.part (cx := wDs cQ (ad 9) (ad 10) row dn) [9, 10] rfl) rfl rfl rfl hl.1 rfl (Nat.le_of_ble_eq_true rfl) dX5_life_19 ⟨by decide, by decide⟩ ?_
    refine lv_iload_n hx hb dX5_life_22 rfl (lv_at hl 1 rfl) ?_
    refine lv_aload_n hx hb dX5_life_23 rfl (lv_at hl 0 rfl) ?_
    refine va_get (D := (dC, dI)) (ci := 5) (v := .ref (ad 6)) (C := RX5) (T := TX5) (N := 5) hx hb hts hiX5 hown hK.1 hP 0 rfl rfl 0 (by decide) (hts (.fieldLink RX5 10 "CellDays" "cell" "LCellDays$Cell;") (by decide +kernel)) (fun _ h9 => h9) rfl dX5_life_24 ?_
    refine va_getN (D := (dC, dI)) (ci := 1) (v := .int br) (C := RX1) (T := TX1) (N := 6) hx hb hts hiX1 hown hK.1 hP 6 rfl rfl 5 (by decide) (va_Nw.use rfl (hK.2.1 (.fieldLinkNest RX5 113 RX1 "bar" "I" RX5) (by decide +kernel))) (fun _ h9 => h9) rfl dX5_life_27 ?_
    refine cd_rV (As := [.int (sX2_setOfOn row dn pd), .int t, .int br]) (b := (ad 9)) (ci := 2) (q := (RX2, TX2, 2)) (rest := [.ref (ad 6)]) ⟨hx, hb, hml, hown, hts⟩ (kX2_loadOf l dC dI cI cQ cZ (ad 9) (ad 10) row dn L pd (sX2_setOfOn row dn pd) t br hdn hrw) (cwV 3 hts gX5_life_X2_loadOf rfl rfl rfl (by decide +kernel) ⟨by decide, by decide⟩) hK (hP.part (cx := wDs cQ (ad 9) (ad 10) row dn) [9, 10] rfl) rfl rfl rfl hl.1 rfl (Nat.le_of_ble_eq_true rfl) dX5_life_30 ⟨by decide, by decide⟩ ?_
    refine cd_rV (As := [.int (sX2_loadOf row dn pd (sX2_setOfOn row dn pd) t br)]) (b := (ad 6)) (ci := 1) (q := (RX1, TX1, 6)) (rest := []) ⟨hx, hb, hml, hown, hts⟩ (kX1_daysLasted l dC dI cI cQ cZ (ad 6) (ad 7) (ad 8) sh wa pl rm lk br (sX2_loadOf row dn pd (sX2_setOfOn row dn pd) t br)) (cwV 1 hts gX5_life_X1_daysLasted rfl rfl rfl (by decide +kernel) ⟨by decide, by decide⟩) hK (hP.sub (ws' := (wCl cI (ad 6) (ad 7) (ad 8) sh wa pl rm lk br)) [6, 7, 8] rfl) rfl rfl rfl hl.1 rfl (Nat.le_of_ble_eq_true rfl) dX5_life_33 ⟨by decide, by decide⟩ ?_
    refine lv_goto (tgt := 40) hx hb dX5_life_36 (by decide) ?_
    subst hex
    exact hret _ _ dX5_life_40

def rX5_charge : Room := { frames := 4, cells := 0, slots := 0, locals := 93 }
def sX5_charge (sh : Nat → Int32) (wa : Nat → Int32) (pl : Int32) (rm : Int32) (lk : Int32) (br : Int32) (row : Nat → Option Nat) (dn : Nat) (pd : Nat → DT) (dd : Int32) (t : Int32) : Int32 := (if (sX5_isDay dd) = 0 then (-1) else (if (sX5_isTries t) = 0 then (-1) else (if 0 < (sX1_chargeAhead sh wa pl rm (dd + 1) lk (sX2_loadOf row dn pd (sX2_setOfOn row dn pd) t br)) then (sX1_chargeAhead sh wa pl rm (dd + 1) lk (sX2_loadOf row dn pd (sX2_setOfOn row dn pd) t br)) else 0)))
set_option maxHeartbeats 4000000 in
set_option maxRecDepth 100000 in
theorem kX5_charge (l : Launch) (dC : Nat → ClassId) (dI : Nat → Nat → Nat) (cI cQ cZ : ClassId) (ad : Nat → Nat) (tq : Int64) (ag : Nat → Int32) (lo : Nat → Int32) (ch : Nat → Int32) (al : Nat → Int32) (an : Nat) (sh : Nat → Int32) (wa : Nat → Int32) (pl : Int32) (rm : Int32) (lk : Int32) (br : Int32) (row : Nat → Option Nat) (dn : Nat) (dy : Nat → Int32) (lv : Nat → Int32) (od : Nat → Int32) (sn : Nat) (L : List Nat) (pd : Nat → DT) (dd : Int32) (t : Int32) (hdn : dn ≤ 8) (hrw : ∀ j y, row j = some y → y ∈ L) : Met l yX5_charge wsX5_charge rX5_charge (va_Pc [.ref (ad 0), .int dd, .int t] (cd_rp dC dI cI cQ cZ (wCx cI cQ ad tq ag lo ch al an sh wa pl rm lk br row dn dy lv od sn ++ dpl L pd))) (vp_Si (fun r => r = sX5_charge sh wa pl rm lk br row dn pd dd t)) 0 0 (fun _ => False) := by
  have hiX1 : ∀ w ∈ u_ws RX1 TX1 6, w ∈ wsX5_charge := by decide +kernel
  have hiX5 : ∀ w ∈ u_ws RX5 TX5 5, w ∈ wsX5_charge := by decide +kernel
  generalize hex : sX5_charge sh wa pl rm lk br row dn pd dd t = ex
  unfold sX5_charge at hex
  refine cd_mRi [.ref (ad 0), .int dd, .int t] (by decide) rfl (Nat.le_of_ble_eq_true rfl) ?_
  intro Q p e s m args below meth c ls hx hb hml hown hts hret ⟨hK, hP⟩ hl
  have hl : lv_has ls 4 [(0, .ref (ad 0)), (1, .int dd), (2, .int t)] := hl
  refine lv_iload_n hx hb dX5_charge_0 rfl (lv_at hl 1 rfl) ?_
  refine cd_rS (As := [.int dd]) (rest := []) ⟨hx, hb, hml, hown, hts⟩ (kX5_isDay l dC dI cI cQ cZ dd) (va_cwS 1 hts gX5_charge_X5_isDay rfl rfl rfl (by decide +kernel) ⟨by decide, by decide⟩) hK cd_P0 rfl hl.1 rfl (Nat.le_of_ble_eq_true rfl) dX5_charge_1 ⟨by decide, by decide⟩ ?_
  refine lv_if_eq (tgt := 14) hx hb dX5_charge_4 (by decide) (fun c_1 => ?_) (fun c_1 => ?_)
  · rw [if_pos c_1] at hex
    refine lv_iconst (v := (-1)) hx hb dX5_charge_14 (by decide) ?_
    subst hex
    exact hret _ _ dX5_charge_15
  · rw [if_neg c_1] at hex
    refine lv_iload_n hx hb dX5_charge_7 rfl (lv_at hl 2 rfl) ?_
    refine cd_rS (As := [.int t]) (rest := []) ⟨hx, hb, hml, hown, hts⟩ (kX5_isTries l dC dI cI cQ cZ t) (va_cwS 1 hts gX5_charge_X5_isTries rfl rfl rfl (by decide +kernel) ⟨by decide, by decide⟩) hK cd_P0 rfl hl.1 rfl (Nat.le_of_ble_eq_true rfl) dX5_charge_8 ⟨by decide, by decide⟩ ?_
    refine lv_if_ne (tgt := 16) hx hb dX5_charge_11 (by decide) (fun c_2 => ?_) (fun c_2 => ?_)
    · rw [if_neg c_2] at hex
      refine lv_aload_n hx hb dX5_charge_16 rfl (lv_at hl 0 rfl) ?_
      refine va_get (D := (dC, dI)) (ci := 5) (v := .ref (ad 9)) (C := RX5) (T := TX5) (N := 5) hx hb hts hiX5 hown hK.1 hP 0 rfl rfl 1 (by decide) (hts (.fieldLink RX5 19 "CellDays" "duties" "LCellDays$Duties;") (by decide +kernel)) (fun _ h9 => h9) rfl dX5_charge_17 ?_
      refine lv_aload_n hx hb dX5_charge_20 rfl (lv_at hl 0 rfl) ?_
      refine va_get (D := (dC, dI)) (ci := 5) (v := .ref (ad 9)) (C := RX5) (T := TX5) (N := 5) hx hb hts hiX5 hown hK.1 hP 0 rfl rfl 1 (by decide) (hts (.fieldLink RX5 19 "CellDays" "duties" "LCellDays$Duties;") (by decide +kernel)) (fun _ h9 => h9) rfl dX5_charge_21 ?_
      refine cd_rV (As := []) (b := (ad 9)) (ci := 2) (q := (RX2, TX2, 2)) (rest := [.ref (ad 9)]) ⟨hx, hb, hml, hown, hts⟩ (kX2_setOfOn l dC dI cI cQ cZ (ad 9) (ad 10) row dn L pd hdn hrw) (cwV 0 hts gX5_charge_X2_setOfOn rfl rfl rfl (by decide +kernel) ⟨by decide, by decide⟩) hK (hP.part (cx := wDs cQ (ad 9) (ad 10) row dn) [9, 10] rfl) rfl rfl rfl hl.1 rfl (Nat.le_of_ble_eq_true rfl) dX5_charge_24 ⟨by decide, by decide⟩ ?_
      refine lv_iload_n hx hb dX5_charge_27 rfl (lv_at hl 2 rfl) ?_
      refine lv_aload_n hx hb dX5_charge_28 rfl (lv_at hl 0 rfl) ?_
      refine va_get (D := (dC, dI)) (ci := 5) (v := .ref (ad 6)) (C := RX5) (T := TX5) (N := 5) hx hb hts hiX5 hown hK.1 hP 0 rfl rfl 0 (by decide) (hts (.fieldLink RX5 10 "CellDays" "cell" "LCellDays$Cell;") (by decide +kernel)) (fun _ h9 => h9) rfl dX5_charge_29 ?_
      refine va_getN (D := (dC, dI)) (ci := 1) (v := .int br) (C := RX1) (T := TX1) (N := 6) hx hb hts hiX1 hown hK.1 hP 6 rfl rfl 5 (by decide) (va_Nw.use rfl (hK.2.1 (.fieldLinkNest RX5 113 RX1 "bar" "I" RX5) (by decide +kernel))) (fun _ h9 => h9) rfl dX5_charge_32 ?_
      refine cd_rV (As := [.int (sX2_setOfOn row dn pd), .int t, .int br]) (b := (ad 9)) (ci := 2) (q := (RX2, TX2, 2)) (rest := []) ⟨hx, hb, hml, hown, hts⟩ (kX2_loadOf l dC dI cI cQ cZ (ad 9) (ad 10) row dn L pd (sX2_setOfOn row dn pd) t br hdn hrw) (cwV 3 hts gX5_charge_X2_loadOf rfl rfl rfl (by decide +kernel) ⟨by decide, by decide⟩) hK (hP.part (cx := wDs cQ (ad 9) (ad 10) row dn) [9, 10] rfl) rfl rfl rfl hl.1 rfl (Nat.le_of_ble_eq_true rfl) dX5_charge_35 ⟨by decide, by decide⟩ ?_
      refine lv_istore_n (lv' := [(3, .int (sX2_loadOf row dn pd (sX2_setOfOn row dn pd) t br)), (0, .ref (ad 0)), (1, .int dd), (2, .int t)]) hx hb dX5_charge_38 rfl hl (by decide) rfl (fun ls hl => ?_)
      refine lv_iconst (v := 0) hx hb dX5_charge_39 (by decide) ?_
      refine lv_aload_n hx hb dX5_charge_40 rfl (lv_at hl 1 rfl) ?_
      refine va_get (D := (dC, dI)) (ci := 5) (v := .ref (ad 6)) (C := RX5) (T := TX5) (N := 5) hx hb hts hiX5 hown hK.1 hP 0 rfl rfl 0 (by decide) (hts (.fieldLink RX5 10 "CellDays" "cell" "LCellDays$Cell;") (by decide +kernel)) (fun _ h9 => h9) rfl dX5_charge_41 ?_
      refine lv_iload_n hx hb dX5_charge_44 rfl (lv_at hl 2 rfl) ?_
      refine lv_iconst (v := 1) hx hb dX5_charge_45 (by decide) ?_
      refine lv_iadd hx hb dX5_charge_46 ?_
      refine lv_aload_n hx hb dX5_charge_47 rfl (lv_at hl 1 rfl) ?_
      refine va_get (D := (dC, dI)) (ci := 5) (v := .ref (ad 6)) (C := RX5) (T := TX5) (N := 5) hx hb hts hiX5 hown hK.1 hP 0 rfl rfl 0 (by decide) (hts (.fieldLink RX5 10 "CellDays" "cell" "LCellDays$Cell;") (by decide +kernel)) (fun _ h9 => h9) rfl dX5_charge_48 ?_
      refine va_getN (D := (dC, dI)) (ci := 1) (v := .int lk) (C := RX1) (T := TX1) (N := 6) hx hb hts hiX1 hown hK.1 hP 6 rfl rfl 4 (by decide) (va_Nw.use rfl (hK.2.1 (.fieldLinkNest RX5 130 RX1 "leak" "I" RX5) (by decide +kernel))) (fun _ h9 => h9) rfl dX5_charge_51 ?_
      refine lv_iload_n hx hb dX5_charge_54 rfl (lv_at hl 0 rfl) ?_
      refine cd_rV (As := [.int (dd + 1), .int lk, .int (sX2_loadOf row dn pd (sX2_setOfOn row dn pd) t br)]) (b := (ad 6)) (ci := 1) (q := (RX1, TX1, 6)) (rest := [.int 0]) ⟨hx, hb, hml, hown, hts⟩ (kX1_chargeAhead l dC dI cI cQ cZ (ad 6) (ad 7) (ad 8) sh wa pl rm lk br (dd + 1) lk (sX2_loadOf row dn pd (sX2_setOfOn row dn pd) t br) (isDay_inc c_1)) (cwV 3 hts gX5_charge_X1_chargeAhead rfl rfl rfl (by decide +kernel) ⟨by decide, by decide⟩) hK (hP.sub (ws' := (wCl cI (ad 6) (ad 7) (ad 8) sh wa pl rm lk br)) [6, 7, 8] rfl) rfl rfl rfl hl.1 rfl (Nat.le_of_ble_eq_true rfl) dX5_charge_55 ⟨by decide, by decide⟩ ?_
      refine va_mmax hx hb (by rw [hml]; exact hl.1.symm) hown (hts (.methodLink RX5 136 Lib.Math.max.name) (by decide +kernel)) (hts (.static Lib.Math.max.name) (by decide +kernel)) (hts (.initialized "java/lang/Math") (by decide +kernel)) (hts (.code Lib.Math.max.name Lib.Math.max.code 2 (some .int)) (by decide +kernel)) (by decide) (Nat.le_of_ble_eq_true rfl) (by decide) (by decide) dX5_charge_58 ?_
      subst hex
      exact hret _ _ dX5_charge_61
    · rw [if_pos c_2] at hex
      refine lv_iconst (v := (-1)) hx hb dX5_charge_14 (by decide) ?_
      subst hex
      exact hret _ _ dX5_charge_15

def rX5_sureBy : Room := { frames := 3, cells := 0, slots := 0, locals := 70 }
def sX5_sureBy (sh : Nat → Int32) (wa : Nat → Int32) (pl : Int32) (rm : Int32) (lk : Int32) (br : Int32) (row : Nat → Option Nat) (dn : Nat) (pd : Nat → DT) (st : Int32) : Int32 := (sX1_daysLasted sh wa pl rm lk (sX2_loadOf row dn pd st 5 br))
set_option maxHeartbeats 4000000 in
set_option maxRecDepth 100000 in
theorem kX5_sureBy (l : Launch) (dC : Nat → ClassId) (dI : Nat → Nat → Nat) (cI cQ cZ : ClassId) (ad : Nat → Nat) (tq : Int64) (ag : Nat → Int32) (lo : Nat → Int32) (ch : Nat → Int32) (al : Nat → Int32) (an : Nat) (sh : Nat → Int32) (wa : Nat → Int32) (pl : Int32) (rm : Int32) (lk : Int32) (br : Int32) (row : Nat → Option Nat) (dn : Nat) (dy : Nat → Int32) (lv : Nat → Int32) (od : Nat → Int32) (sn : Nat) (L : List Nat) (pd : Nat → DT) (st : Int32) (hdn : dn ≤ 8) (hrw : ∀ j y, row j = some y → y ∈ L) : Met l yX5_sureBy wsX5_sureBy rX5_sureBy (va_Pc [.ref (ad 0), .int st] (cd_rp dC dI cI cQ cZ (wCx cI cQ ad tq ag lo ch al an sh wa pl rm lk br row dn dy lv od sn ++ dpl L pd))) (vp_Si (fun r => r = sX5_sureBy sh wa pl rm lk br row dn pd st)) 0 0 (fun _ => False) := by
  have hiX1 : ∀ w ∈ u_ws RX1 TX1 6, w ∈ wsX5_sureBy := by decide +kernel
  have hiX5 : ∀ w ∈ u_ws RX5 TX5 5, w ∈ wsX5_sureBy := by decide +kernel
  generalize hex : sX5_sureBy sh wa pl rm lk br row dn pd st = ex
  unfold sX5_sureBy at hex
  refine cd_mRi [.ref (ad 0), .int st] (by decide) rfl (Nat.le_of_ble_eq_true rfl) ?_
  intro Q p e s m args below meth c ls hx hb hml hown hts hret ⟨hK, hP⟩ hl
  have hl : lv_has ls 2 [(0, .ref (ad 0)), (1, .int st)] := hl
  refine lv_aload_n hx hb dX5_sureBy_0 rfl (lv_at hl 0 rfl) ?_
  refine va_get (D := (dC, dI)) (ci := 5) (v := .ref (ad 6)) (C := RX5) (T := TX5) (N := 5) hx hb hts hiX5 hown hK.1 hP 0 rfl rfl 0 (by decide) (hts (.fieldLink RX5 10 "CellDays" "cell" "LCellDays$Cell;") (by decide +kernel)) (fun _ h9 => h9) rfl dX5_sureBy_1 ?_
  refine lv_aload_n hx hb dX5_sureBy_4 rfl (lv_at hl 0 rfl) ?_
  refine va_get (D := (dC, dI)) (ci := 5) (v := .ref (ad 9)) (C := RX5) (T := TX5) (N := 5) hx hb hts hiX5 hown hK.1 hP 0 rfl rfl 1 (by decide) (hts (.fieldLink RX5 19 "CellDays" "duties" "LCellDays$Duties;") (by decide +kernel)) (fun _ h9 => h9) rfl dX5_sureBy_5 ?_
  refine lv_iload_n hx hb dX5_sureBy_8 rfl (lv_at hl 1 rfl) ?_
  refine lv_iconst (v := 5) hx hb dX5_sureBy_9 (by decide) ?_
  refine lv_aload_n hx hb dX5_sureBy_10 rfl (lv_at hl 0 rfl) ?_
  refine va_get (D := (dC, dI)) (ci := 5) (v := .ref (ad 6)) (C := RX5) (T := TX5) (N := 5) hx hb hts hiX5 hown hK.1 hP 0 rfl rfl 0 (by decide) (hts (.fieldLink RX5 10 "CellDays" "cell" "LCellDays$Cell;") (by decide +kernel)) (fun _ h9 => h9) rfl dX5_sureBy_11 ?_
  refine va_getN (D := (dC, dI)) (ci := 1) (v := .int br) (C := RX1) (T := TX1) (N := 6) hx hb hts hiX1 hown hK.1 hP 6 rfl rfl 5 (by decide) (va_Nw.use rfl (hK.2.1 (.fieldLinkNest RX5 113 RX1 "bar" "I" RX5) (by decide +kernel))) (fun _ h9 => h9) rfl dX5_sureBy_14 ?_
  refine cd_rV (As := [.int st, .int 5, .int br]) (b := (ad 9)) (ci := 2) (q := (RX2, TX2, 2)) (rest := [.ref (ad 6)]) ⟨hx, hb, hml, hown, hts⟩ (kX2_loadOf l dC dI cI cQ cZ (ad 9) (ad 10) row dn L pd st 5 br hdn hrw) (cwV 3 hts gX5_sureBy_X2_loadOf rfl rfl rfl (by decide +kernel) ⟨by decide, by decide⟩) hK (hP.part (cx := wDs cQ (ad 9) (ad 10) row dn) [9, 10] rfl) rfl rfl rfl hl.1 rfl (Nat.le_of_ble_eq_true rfl) dX5_sureBy_17 ⟨by decide, by decide⟩ ?_
  refine cd_rV (As := [.int (sX2_loadOf row dn pd st 5 br)]) (b := (ad 6)) (ci := 1) (q := (RX1, TX1, 6)) (rest := []) ⟨hx, hb, hml, hown, hts⟩ (kX1_daysLasted l dC dI cI cQ cZ (ad 6) (ad 7) (ad 8) sh wa pl rm lk br (sX2_loadOf row dn pd st 5 br)) (cwV 1 hts gX5_sureBy_X1_daysLasted rfl rfl rfl (by decide +kernel) ⟨by decide, by decide⟩) hK (hP.sub (ws' := (wCl cI (ad 6) (ad 7) (ad 8) sh wa pl rm lk br)) [6, 7, 8] rfl) rfl rfl rfl hl.1 rfl (Nat.le_of_ble_eq_true rfl) dX5_sureBy_20 ⟨by decide, by decide⟩ ?_
  subst hex
  exact hret _ _ dX5_sureBy_23

def rX5_price : Room := { frames := 4, cells := 0, slots := 0, locals := 91 }
def sX5_price (sh : Nat → Int32) (wa : Nat → Int32) (pl : Int32) (rm : Int32) (lk : Int32) (br : Int32) (row : Nat → Option Nat) (dn : Nat) (pd : Nat → DT) (du : Int32) : Int32 := (match sX2_numbered row dn du with | none => (-1) | some y_1 => ((sX5_sureBy sh wa pl rm lk br row dn pd ((sX2_setOfOn row dn pd) &&& ((1 <<< (du &&& 31)) ^^^ (-1)))) - (sX5_sureBy sh wa pl rm lk br row dn pd ((sX2_setOfOn row dn pd) ||| (1 <<< (du &&& 31))))))
set_option maxHeartbeats 4000000 in
set_option maxRecDepth 100000 in
theorem kX5_price (l : Launch) (dC : Nat → ClassId) (dI : Nat → Nat → Nat) (cI cQ cZ : ClassId) (ad : Nat → Nat) (tq : Int64) (ag : Nat → Int32) (lo : Nat → Int32) (ch : Nat → Int32) (al : Nat → Int32) (an : Nat) (sh : Nat → Int32) (wa : Nat → Int32) (pl : Int32) (rm : Int32) (lk : Int32) (br : Int32) (row : Nat → Option Nat) (dn : Nat) (dy : Nat → Int32) (lv : Nat → Int32) (od : Nat → Int32) (sn : Nat) (L : List Nat) (pd : Nat → DT) (du : Int32) (hdn : dn ≤ 8) (hrw : ∀ j y, row j = some y → y ∈ L) : Met l yX5_price wsX5_price rX5_price (va_Pc [.ref (ad 0), .int du] (cd_rp dC dI cI cQ cZ (wCx cI cQ ad tq ag lo ch al an sh wa pl rm lk br row dn dy lv od sn ++ dpl L pd))) (vp_Si (fun r => r = sX5_price sh wa pl rm lk br row dn pd du)) 0 0 (fun _ => False) := by
  have hiX5 : ∀ w ∈ u_ws RX5 TX5 5, w ∈ wsX5_price := by decide +kernel
  generalize hex : sX5_price sh wa pl rm lk br row dn pd du = ex
  unfold sX5_price at hex
  refine cd_mRi [.ref (ad 0), .int du] (by decide) rfl (Nat.le_of_ble_eq_true rfl) ?_
  intro Q p e s m args below meth c ls hx hb hml hown hts hret ⟨hK, hP⟩ hl
  have hl : lv_has ls 4 [(0, .ref (ad 0)), (1, .int du)] := hl
  refine lv_aload_n hx hb dX5_price_0 rfl (lv_at hl 0 rfl) ?_
  refine va_get (D := (dC, dI)) (ci := 5) (v := .ref (ad 9)) (C := RX5) (T := TX5) (N := 5) hx hb hts hiX5 hown hK.1 hP 0 rfl rfl 1 (by decide) (hts (.fieldLink RX5 19 "CellDays" "duties" "LCellDays$Duties;") (by decide +kernel)) (fun _ h9 => h9) rfl dX5_price_1 ?_
  refine lv_iload_n hx hb dX5_price_4 rfl (lv_at hl 1 rfl) ?_
  refine cd_rVq (As := [.int du]) (b := (ad 9)) (ci := 2) (q := (RX2, TX2, 2)) (rest := []) ⟨hx, hb, hml, hown, hts⟩ (kX2_numbered l dC dI cI cQ cZ (ad 9) (ad 10) row dn du) (cwV 1 hts gX5_price_X2_numbered rfl rfl rfl (by decide +kernel) ⟨by decide, by decide⟩) hK (hP.sub (ws' := (wDs cQ (ad 9) (ad 10) row dn)) [9, 10] rfl) rfl rfl rfl hl.1 rfl (Nat.le_of_ble_eq_true rfl) dX5_price_5 ⟨by decide, by decide⟩ ?_
  rcases hq_2 : sX2_numbered row dn du with _ | y_1
  · rw [hq_2] at hex
    dsimp only at hex
    show W p l e rX5_price s m args below meth c s.heap [] 0 0 Q (F0 m 8 ls [.null])
    refine lv_ifnonnullN hx hb dX5_price_8 ?_
    refine lv_iconst (v := (-1)) hx hb dX5_price_11 (by decide) ?_
    subst hex
    exact hret _ _ dX5_price_12
  · rw [hq_2] at hex
    dsimp only at hex
    show W p l e rX5_price s m args below meth c s.heap [] 0 0 Q (F0 m 8 ls [.ref y_1])
    refine lv_ifnonnull (tgt := 13) hx hb dX5_price_8 (by decide) ?_
    refine lv_iconst (v := 1) hx hb dX5_price_13 (by decide) ?_
    refine lv_iload_n hx hb dX5_price_14 rfl (lv_at hl 1 rfl) ?_
    refine lv_ishl hx hb dX5_price_15 ?_
    refine lv_istore_n (lv' := [(2, .int (1 <<< (du &&& 31))), (0, .ref (ad 0)), (1, .int du)]) hx hb dX5_price_16 rfl hl (by decide) rfl (fun ls hl => ?_)
    refine lv_aload_n hx hb dX5_price_17 rfl (lv_at hl 1 rfl) ?_
    refine va_get (D := (dC, dI)) (ci := 5) (v := .ref (ad 9)) (C := RX5) (T := TX5) (N := 5) hx hb hts hiX5 hown hK.1 hP 0 rfl rfl 1 (by decide) (hts (.fieldLink RX5 19 "CellDays" "duties" "LCellDays$Duties;") (by decide +kernel)) (fun _ h9 => h9) rfl dX5_price_18 ?_
    refine cd_rV (As := []) (b := (ad 9)) (ci := 2) (q := (RX2, TX2, 2)) (rest := []) ⟨hx, hb, hml, hown, hts⟩ (kX2_setOfOn l dC dI cI cQ cZ (ad 9) (ad 10) row dn L pd hdn hrw) (cwV 0 hts gX5_price_X2_setOfOn rfl rfl rfl (by decide +kernel) ⟨by decide, by decide⟩) hK (hP.part (cx := wDs cQ (ad 9) (ad 10) row dn) [9, 10] rfl) rfl rfl rfl hl.1 rfl (Nat.le_of_ble_eq_true rfl) dX5_price_21 ⟨by decide, by decide⟩ ?_
    refine lv_istore_n (lv' := [(3, .int (sX2_setOfOn row dn pd)), (2, .int (1 <<< (du &&& 31))), (0, .ref (ad 0)), (1, .int du)]) hx hb dX5_price_24 rfl hl (by decide) rfl (fun ls hl => ?_)
    refine lv_aload_n hx hb dX5_price_25 rfl (lv_at hl 2 rfl) ?_
    refine lv_iload_n hx hb dX5_price_26 rfl (lv_at hl 0 rfl) ?_
    refine lv_iload_n hx hb dX5_price_27 rfl (lv_at hl 1 rfl) ?_
    refine lv_iconst (v := (-1)) hx hb dX5_price_28 (by decide) ?_
    refine lv_ixor hx hb dX5_price_29 ?_
    refine lv_iand hx hb dX5_price_30 ?_
    refine cd_rV (As := [.int ((sX2_setOfOn row dn pd) &&& ((1 <<< (du &&& 31)) ^^^ (-1)))]) (b := (ad 0)) (ci := 5) (q := (RX5, TX5, 5)) (rest := []) ⟨hx, hb, hml, hown, hts⟩ (kX5_sureBy l dC dI cI cQ cZ ad tq ag lo ch al an sh wa pl rm lk br row dn dy lv od sn L pd ((sX2_setOfOn row dn pd) &&& ((1 <<< (du &&& 31)) ^^^ (-1))) hdn hrw) (cwV 1 hts gX5_price_X5_sureBy rfl rfl rfl (by decide +kernel) ⟨by decide, by decide⟩) hK hP rfl rfl rfl hl.1 rfl (Nat.le_of_ble_eq_true rfl) dX5_price_31 ⟨by decide, by decide⟩ ?_
    refine lv_aload_n hx hb dX5_price_34 rfl (lv_at hl 2 rfl) ?_
    refine lv_iload_n hx hb dX5_price_35 rfl (lv_at hl 0 rfl) ?_
    refine lv_iload_n hx hb dX5_price_36 rfl (lv_at hl 1 rfl) ?_
    refine lv_ior hx hb dX5_price_37 ?_
    refine cd_rV (As := [.int ((sX2_setOfOn row dn pd) ||| (1 <<< (du &&& 31)))]) (b := (ad 0)) (ci := 5) (q := (RX5, TX5, 5)) (rest := [.int (sX5_sureBy sh wa pl rm lk br row dn pd ((sX2_setOfOn row dn pd) &&& ((1 <<< (du &&& 31)) ^^^ (-1))))]) ⟨hx, hb, hml, hown, hts⟩ (kX5_sureBy l dC dI cI cQ cZ ad tq ag lo ch al an sh wa pl rm lk br row dn dy lv od sn L pd ((sX2_setOfOn row dn pd) ||| (1 <<< (du &&& 31))) hdn hrw) (cwV 1 hts gX5_price_X5_sureBy rfl rfl rfl (by decide +kernel) ⟨by decide, by decide⟩) hK hP rfl rfl rfl hl.1 rfl (Nat.le_of_ble_eq_true rfl) dX5_price_38 ⟨by decide, by decide⟩ ?_
    refine lv_isub hx hb dX5_price_41 ?_
    subst hex
    exact hret _ _ dX5_price_42

def rX5_worthiestSet : Room := { frames := 4, cells := 0, slots := 0, locals := 91 }
def sX5_worthiestSet_L19 (sh : Nat → Int32) (wa : Nat → Int32) (pl : Int32) (rm : Int32) (lk : Int32) (br : Int32) (row : Nat → Option Nat) (dn : Nat) (pd : Nat → DT) (nn : Int32) : Nat → Int32 → Int32 → Nat → Int32
  | 0, bs, mo, k => 0
  | n + 1, bs, mo, k => (if (nI (2 ^ dn)) ≤ (nI k) then bs else (if (sX2_worthOf row dn pd (nI k)) ≤ mo then sX5_worthiestSet_L19 sh wa pl rm lk br row dn pd nn n bs mo (k + 1) else (if (sX5_sureBy sh wa pl rm lk br row dn pd (nI k)) < nn then sX5_worthiestSet_L19 sh wa pl rm lk br row dn pd nn n bs mo (k + 1) else sX5_worthiestSet_L19 sh wa pl rm lk br row dn pd nn n (nI k) (sX2_worthOf row dn pd (nI k)) (k + 1))))
def sX5_worthiestSet (sh : Nat → Int32) (wa : Nat → Int32) (pl : Int32) (rm : Int32) (lk : Int32) (br : Int32) (row : Nat → Option Nat) (dn : Nat) (pd : Nat → DT) (nn : Int32) : Int32 := sX5_worthiestSet_L19 sh wa pl rm lk br row dn pd nn 257 (-9) (-1) 0
set_option maxHeartbeats 4000000 in
set_option maxRecDepth 100000 in
theorem kX5_worthiestSet (l : Launch) (dC : Nat → ClassId) (dI : Nat → Nat → Nat) (cI cQ cZ : ClassId) (ad : Nat → Nat) (tq : Int64) (ag : Nat → Int32) (lo : Nat → Int32) (ch : Nat → Int32) (al : Nat → Int32) (an : Nat) (sh : Nat → Int32) (wa : Nat → Int32) (pl : Int32) (rm : Int32) (lk : Int32) (br : Int32) (row : Nat → Option Nat) (dn : Nat) (dy : Nat → Int32) (lv : Nat → Int32) (od : Nat → Int32) (sn : Nat) (L : List Nat) (pd : Nat → DT) (nn : Int32) (hdn : dn ≤ 8) (hrw : ∀ j y, row j = some y → y ∈ L) : Met l yX5_worthiestSet wsX5_worthiestSet rX5_worthiestSet (va_Pc [.ref (ad 0), .int nn] (cd_rp dC dI cI cQ cZ (wCx cI cQ ad tq ag lo ch al an sh wa pl rm lk br row dn dy lv od sn ++ dpl L pd))) (vp_Si (fun r => r = sX5_worthiestSet sh wa pl rm lk br row dn pd nn)) 0 0 (fun _ => False) := by
  have hiX2 : ∀ w ∈ u_ws RX2 TX2 2, w ∈ wsX5_worthiestSet := by decide +kernel
  have hiX5 : ∀ w ∈ u_ws RX5 TX5 5, w ∈ wsX5_worthiestSet := by decide +kernel
  generalize hex : sX5_worthiestSet sh wa pl rm lk br row dn pd nn = ex
  unfold sX5_worthiestSet at hex
  refine cd_mRi [.ref (ad 0), .int nn] (by decide) rfl (Nat.le_of_ble_eq_true rfl) ?_
  intro Q p e s m args below meth c ls hx hb hml hown hts hret ⟨hK, hP⟩ hl
  have hl : lv_has ls 7 [(0, .ref (ad 0)), (1, .int nn)] := hl
  have hp8 := pow_8 hdn
  refine lv_bipush (v := (-9)) hx hb dX5_worthiestSet_0 (by decide) ?_
  refine lv_istore_n (lv' := [(2, .int (-9)), (0, .ref (ad 0)), (1, .int nn)]) hx hb dX5_worthiestSet_2 rfl hl (by decide) rfl (fun ls hl => ?_)
  refine lv_iconst (v := (-1)) hx hb dX5_worthiestSet_3 (by decide) ?_
  refine lv_istore_n (lv' := [(3, .int (-1)), (2, .int (-9)), (0, .ref (ad 0)), (1, .int nn)]) hx hb dX5_worthiestSet_4 rfl hl (by decide) rfl (fun ls hl => ?_)
  refine lv_iconst (v := 1) hx hb dX5_worthiestSet_5 (by decide) ?_
  refine lv_aload_n hx hb dX5_worthiestSet_6 rfl (lv_at hl 2 rfl) ?_
  refine va_get (D := (dC, dI)) (ci := 5) (v := .ref (ad 9)) (C := RX5) (T := TX5) (N := 5) hx hb hts hiX5 hown hK.1 hP 0 rfl rfl 1 (by decide) (hts (.fieldLink RX5 19 "CellDays" "duties" "LCellDays$Duties;") (by decide +kernel)) (fun _ h9 => h9) rfl dX5_worthiestSet_7 ?_
  refine va_getN (D := (dC, dI)) (ci := 2) (v := .int (nI dn)) (C := RX2) (T := TX2) (N := 2) hx hb hts hiX2 hown hK.1 hP 9 rfl rfl 1 (by decide) (va_Nw.use rfl (hK.2.1 (.fieldLinkNest RX5 99 RX2 "size" "I" RX5) (by decide +kernel))) (fun _ h9 => h9) rfl dX5_worthiestSet_10 ?_
  refine lv_ishl hx hb dX5_worthiestSet_13 ?_
  refine W.eq (g2 := F0 m 14 ls [.int (nI (2 ^ dn))]) (by rw [shl_nI hdn]) ?_
  refine lv_istore (lv' := [(4, .int (nI (2 ^ dn))), (3, .int (-1)), (2, .int (-9)), (0, .ref (ad 0)), (1, .int nn)]) hx hb dX5_worthiestSet_14 hl (by decide) rfl (fun ls hl => ?_)
  refine lv_iconst (v := 0) hx hb dX5_worthiestSet_16 (by decide) ?_
  refine lv_istore (lv' := [(5, .int 0), (4, .int (nI (2 ^ dn))), (3, .int (-1)), (2, .int (-9)), (0, .ref (ad 0)), (1, .int nn)]) hx hb dX5_worthiestSet_17 hl (by decide) rfl (fun ls hl => ?_)
  have L19 : ∀ (n : Nat) (bs : Int32) (mo : Int32) (k : Nat), (k ≤ 256) → 256 - k < n → sX5_worthiestSet_L19 sh wa pl rm lk br row dn pd nn n bs mo k = ex → ∀ (ls : Array Slot), lv_has ls 7 [(5, .int (nI k)), (4, .int (nI (2 ^ dn))), (3, .int mo), (2, .int bs), (0, .ref (ad 0)), (1, .int nn)] → W p l e rX5_worthiestSet s m args below meth c s.heap [] 0 0 Q (F0 m 19 ls []) := by
    intro n
    induction n with
    | zero => intro bs mo k hk hm; exact absurd hm (Nat.not_lt_zero _)
    | succ n ih =>
      intro bs mo k hk hm hex ls hl
      rw [sX5_worthiestSet_L19] at hex
      refine lv_iload hx hb dX5_worthiestSet_19 (lv_at hl 0 rfl) ?_
      refine lv_iload hx hb dX5_worthiestSet_21 (lv_at hl 1 rfl) ?_
      refine lv_icmp_ge (tgt := 65) hx hb dX5_worthiestSet_23 (by decide) (fun c_1 => ?_) (fun c_1 => ?_)
      · rw [if_pos c_1] at hex
        try have n_1 : (2 ^ dn) ≤ k := (nI_leI (a := (2 ^ dn)) (b := k) (by omega) (by omega)).mp c_1
        refine lv_iload_n hx hb dX5_worthiestSet_65 rfl (lv_at hl 3 rfl) ?_
        subst hex
        exact hret _ _ dX5_worthiestSet_66
      · rw [if_neg c_1] at hex
        try have n_1 : ¬ (2 ^ dn) ≤ k := fun h9 => c_1 ((nI_leI (a := (2 ^ dn)) (b := k) (by omega) (by omega)).mpr h9)
        refine lv_aload_n hx hb dX5_worthiestSet_26 rfl (lv_at hl 4 rfl) ?_
        refine va_get (D := (dC, dI)) (ci := 5) (v := .ref (ad 9)) (C := RX5) (T := TX5) (N := 5) hx hb hts hiX5 hown hK.1 hP 0 rfl rfl 1 (by decide) (hts (.fieldLink RX5 19 "CellDays" "duties" "LCellDays$Duties;") (by decide +kernel)) (fun _ h9 => h9) rfl dX5_worthiestSet_27 ?_
        refine lv_iload hx hb dX5_worthiestSet_30 (lv_at hl 0 rfl) ?_
        refine cd_rV (As := [.int (nI k)]) (b := (ad 9)) (ci := 2) (q := (RX2, TX2, 2)) (rest := []) ⟨hx, hb, hml, hown, hts⟩ (kX2_worthOf l dC dI cI cQ cZ (ad 9) (ad 10) row dn L pd (nI k) hdn hrw) (cwV 1 hts gX5_worthiestSet_X2_worthOf rfl rfl rfl (by decide +kernel) ⟨by decide, by decide⟩) hK (hP.part (cx := wDs cQ (ad 9) (ad 10) row dn) [9, 10] rfl) rfl rfl rfl hl.1 rfl (Nat.le_of_ble_eq_true rfl) dX5_worthiestSet_32 ⟨by decide, by decide⟩ ?_
        refine lv_istore (lv' := [(6, .int (sX2_worthOf row dn pd (nI k))), (5, .int (nI k)), (4, .int (nI (2 ^ dn))), (3, .int mo), (2, .int bs), (0, .ref (ad 0)), (1, .int nn)]) hx hb dX5_worthiestSet_35 hl (by decide) rfl (fun ls hl => ?_)
        refine lv_iload hx hb dX5_worthiestSet_37 (lv_at hl 0 rfl) ?_
        refine lv_iload_n hx hb dX5_worthiestSet_39 rfl (lv_at hl 3 rfl) ?_
        refine lv_icmp_le (tgt := 59) hx hb dX5_worthiestSet_40 (by decide) (fun c_2 => ?_) (fun c_2 => ?_)
        · rw [if_pos c_2] at hex
          refine lv_iinc (v := nI (k + 1)) (lv' := [(5, .int (nI (k + 1))), (6, .int (sX2_worthOf row dn pd (nI k))), (4, .int (nI (2 ^ dn))), (3, .int mo), (2, .int bs), (0, .ref (ad 0)), (1, .int nn)]) hx hb dX5_worthiestSet_59 hl (k := 1) rfl (nI_1 k) (by decide) rfl (fun ls hl => ?_)
          refine lv_goto (tgt := 19) hx hb dX5_worthiestSet_62 (by decide) ?_
          exact ih bs mo (k + 1) (by omega) (by omega) hex _ (lv_sub hl [0, 2, 3, 4, 5, 6] rfl)
        · rw [if_neg c_2] at hex
          refine lv_aload_n hx hb dX5_worthiestSet_43 rfl (lv_at hl 5 rfl) ?_
          refine lv_iload hx hb dX5_worthiestSet_44 (lv_at hl 1 rfl) ?_
          refine cd_rV (As := [.int (nI k)]) (b := (ad 0)) (ci := 5) (q := (RX5, TX5, 5)) (rest := []) ⟨hx, hb, hml, hown, hts⟩ (kX5_sureBy l dC dI cI cQ cZ ad tq ag lo ch al an sh wa pl rm lk br row dn dy lv od sn L pd (nI k) hdn hrw) (cwV 1 hts gX5_worthiestSet_X5_sureBy rfl rfl rfl (by decide +kernel) ⟨by decide, by decide⟩) hK hP rfl rfl rfl hl.1 rfl (Nat.le_of_ble_eq_true rfl) dX5_worthiestSet_46 ⟨by decide, by decide⟩ ?_
          refine lv_iload_n hx hb dX5_worthiestSet_49 rfl (lv_at hl 6 rfl) ?_
          refine lv_icmp_lt (tgt := 59) hx hb dX5_worthiestSet_50 (by decide) (fun c_3 => ?_) (fun c_3 => ?_)
          · rw [if_pos c_3] at hex
            refine lv_iinc (v := nI (k + 1)) (lv' := [(5, .int (nI (k + 1))), (6, .int (sX2_worthOf row dn pd (nI k))), (4, .int (nI (2 ^ dn))), (3, .int mo), (2, .int bs), (0, .ref (ad 0)), (1, .int nn)]) hx hb dX5_worthiestSet_59 hl (k := 1) rfl (nI_1 k) (by decide) rfl (fun ls hl => ?_)
            refine lv_goto (tgt := 19) hx hb dX5_worthiestSet_62 (by decide) ?_
            exact ih bs mo (k + 1) (by omega) (by omega) hex _ (lv_sub hl [0, 2, 3, 4, 5, 6] rfl)
          · rw [if_neg c_3] at hex
            refine lv_iload hx hb dX5_worthiestSet_53 (lv_at hl 1 rfl) ?_
            refine lv_istore_n (lv' := [(2, .int (nI k)), (6, .int (sX2_worthOf row dn pd (nI k))), (5, .int (nI k)), (4, .int (nI (2 ^ dn))), (3, .int mo), (0, .ref (ad 0)), (1, .int nn)]) hx hb dX5_worthiestSet_55 rfl hl (by decide) rfl (fun ls hl => ?_)
            refine lv_iload hx hb dX5_worthiestSet_56 (lv_at hl 1 rfl) ?_
            refine lv_istore_n (lv' := [(3, .int (sX2_worthOf row dn pd (nI k))), (2, .int (nI k)), (6, .int (sX2_worthOf row dn pd (nI k))), (5, .int (nI k)), (4, .int (nI (2 ^ dn))), (0, .ref (ad 0)), (1, .int nn)]) hx hb dX5_worthiestSet_58 rfl hl (by decide) rfl (fun ls hl => ?_)
            refine lv_iinc (v := nI (k + 1)) (lv' := [(5, .int (nI (k + 1))), (3, .int (sX2_worthOf row dn pd (nI k))), (2, .int (nI k)), (6, .int (sX2_worthOf row dn pd (nI k))), (4, .int (nI (2 ^ dn))), (0, .ref (ad 0)), (1, .int nn)]) hx hb dX5_worthiestSet_59 hl (k := 3) rfl (nI_1 k) (by decide) rfl (fun ls hl => ?_)
            refine lv_goto (tgt := 19) hx hb dX5_worthiestSet_62 (by decide) ?_
            exact ih (nI k) (sX2_worthOf row dn pd (nI k)) (k + 1) (by omega) (by omega) hex _ (lv_sub hl [0, 4, 1, 2, 5, 6] rfl)
  exact L19 257 (-9) (-1) 0 (by decide) (by decide) hex _ (lv_sub hl [0, 1, 2, 3, 4, 5] rfl)

def rX5_plan : Room := { frames := 5, cells := 0, slots := 0, locals := 117 }
def sX5_plan (sh : Nat → Int32) (wa : Nat → Int32) (pl : Int32) (rm : Int32) (lk : Int32) (br : Int32) (row : Nat → Option Nat) (dn : Nat) (pd : Nat → DT) (nn : Int32) (wh : Int32) : Int32 := (if (sX5_within nn 1 400) = 0 then (-1) else (if (sX5_within wh 0 2) = 0 then (-1) else (if (sX5_worthiestSet sh wa pl rm lk br row dn pd nn) = (-9) then (-9) else (if wh = 0 then (sX5_worthiestSet sh wa pl rm lk br row dn pd nn) else (if wh = 1 then (sX2_worthOf row dn pd (sX5_worthiestSet sh wa pl rm lk br row dn pd nn)) else (sX5_sureBy sh wa pl rm lk br row dn pd (sX5_worthiestSet sh wa pl rm lk br row dn pd nn)))))))
set_option maxHeartbeats 4000000 in
set_option maxRecDepth 100000 in
theorem kX5_plan (l : Launch) (dC : Nat → ClassId) (dI : Nat → Nat → Nat) (cI cQ cZ : ClassId) (ad : Nat → Nat) (tq : Int64) (ag : Nat → Int32) (lo : Nat → Int32) (ch : Nat → Int32) (al : Nat → Int32) (an : Nat) (sh : Nat → Int32) (wa : Nat → Int32) (pl : Int32) (rm : Int32) (lk : Int32) (br : Int32) (row : Nat → Option Nat) (dn : Nat) (dy : Nat → Int32) (lv : Nat → Int32) (od : Nat → Int32) (sn : Nat) (L : List Nat) (pd : Nat → DT) (nn : Int32) (wh : Int32) (hdn : dn ≤ 8) (hrw : ∀ j y, row j = some y → y ∈ L) : Met l yX5_plan wsX5_plan rX5_plan (va_Pc [.ref (ad 0), .int nn, .int wh] (cd_rp dC dI cI cQ cZ (wCx cI cQ ad tq ag lo ch al an sh wa pl rm lk br row dn dy lv od sn ++ dpl L pd))) (vp_Si (fun r => r = sX5_plan sh wa pl rm lk br row dn pd nn wh)) 0 0 (fun _ => False) := by
  have hiX5 : ∀ w ∈ u_ws RX5 TX5 5, w ∈ wsX5_plan := by decide +kernel
  generalize hex : sX5_plan sh wa pl rm lk br row dn pd nn wh = ex
  unfold sX5_plan at hex
  refine cd_mRi [.ref (ad 0), .int nn, .int wh] (by decide) rfl (Nat.le_of_ble_eq_true rfl) ?_
  intro Q p e s m args below meth c ls hx hb hml hown hts hret ⟨hK, hP⟩ hl
  have hl : lv_has ls 4 [(0, .ref (ad 0)), (1, .int nn), (2, .int wh)] := hl
  refine lv_iload_n hx hb dX5_plan_0 rfl (lv_at hl 1 rfl) ?_
  refine lv_iconst (v := 1) hx hb dX5_plan_1 (by decide) ?_
  refine lv_sipush (v := 400) hx hb dX5_plan_2 (by decide) ?_
  refine cd_rS (As := [.int nn, .int 1, .int 400]) (rest := []) ⟨hx, hb, hml, hown, hts⟩ (kX5_within l dC dI cI cQ cZ nn 1 400) (va_cwS 3 hts gX5_plan_X5_within rfl rfl rfl (by decide +kernel) ⟨by decide, by decide⟩) hK cd_P0 rfl hl.1 rfl (Nat.le_of_ble_eq_true rfl) dX5_plan_5 ⟨by decide, by decide⟩ ?_
  refine lv_if_eq (tgt := 20) hx hb dX5_plan_8 (by decide) (fun c_1 => ?_) (fun c_1 => ?_)
  · rw [if_pos c_1] at hex
    refine lv_iconst (v := (-1)) hx hb dX5_plan_20 (by decide) ?_
    subst hex
    exact hret _ _ dX5_plan_21
  · rw [if_neg c_1] at hex
    refine lv_iload_n hx hb dX5_plan_11 rfl (lv_at hl 2 rfl) ?_
    refine lv_iconst (v := 0) hx hb dX5_plan_12 (by decide) ?_
    refine lv_iconst (v := 2) hx hb dX5_plan_13 (by decide) ?_
    refine cd_rS (As := [.int wh, .int 0, .int 2]) (rest := []) ⟨hx, hb, hml, hown, hts⟩ (kX5_within l dC dI cI cQ cZ wh 0 2) (va_cwS 3 hts gX5_plan_X5_within rfl rfl rfl (by decide +kernel) ⟨by decide, by decide⟩) hK cd_P0 rfl hl.1 rfl (Nat.le_of_ble_eq_true rfl) dX5_plan_14 ⟨by decide, by decide⟩ ?_
    refine lv_if_ne (tgt := 22) hx hb dX5_plan_17 (by decide) (fun c_2 => ?_) (fun c_2 => ?_)
    · rw [if_neg c_2] at hex
      refine lv_aload_n hx hb dX5_plan_22 rfl (lv_at hl 0 rfl) ?_
      refine lv_iload_n hx hb dX5_plan_23 rfl (lv_at hl 1 rfl) ?_
      refine cd_rV (As := [.int nn]) (b := (ad 0)) (ci := 5) (q := (RX5, TX5, 5)) (rest := []) ⟨hx, hb, hml, hown, hts⟩ (kX5_worthiestSet l dC dI cI cQ cZ ad tq ag lo ch al an sh wa pl rm lk br row dn dy lv od sn L pd nn hdn hrw) (cwV 1 hts gX5_plan_X5_worthiestSet rfl rfl rfl (by decide +kernel) ⟨by decide, by decide⟩) hK hP rfl rfl rfl hl.1 rfl (Nat.le_of_ble_eq_true rfl) dX5_plan_24 ⟨by decide, by decide⟩ ?_
      refine lv_istore_n (lv' := [(3, .int (sX5_worthiestSet sh wa pl rm lk br row dn pd nn)), (0, .ref (ad 0)), (1, .int nn), (2, .int wh)]) hx hb dX5_plan_27 rfl hl (by decide) rfl (fun ls hl => ?_)
      refine lv_iload_n hx hb dX5_plan_28 rfl (lv_at hl 0 rfl) ?_
      refine lv_bipush (v := (-9)) hx hb dX5_plan_29 (by decide) ?_
      refine lv_icmp_ne (tgt := 37) hx hb dX5_plan_31 (by decide) (fun c_3 => ?_) (fun c_3 => ?_)
      · rw [if_neg c_3] at hex
        refine lv_iload_n hx hb dX5_plan_37 rfl (lv_at hl 3 rfl) ?_
        by_cases c_4 : wh = 0
        · rw [if_pos c_4] at hex
          refine lv_lookup (tgt := 64) hx hb dX5_plan_38 (by decide) (off := 26) (by rw [c_4] <;> decide +kernel) (by decide) ?_
          refine lv_iload_n hx hb dX5_plan_64 rfl (lv_at hl 0 rfl) ?_
          subst hex
          exact hret _ _ dX5_plan_65
        · rw [if_neg c_4] at hex
          by_cases c_5 : wh = 1
          · rw [if_pos c_5] at hex
            refine lv_lookup (tgt := 66) hx hb dX5_plan_38 (by decide) (off := 28) (by rw [c_5] <;> decide +kernel) (by decide) ?_
            refine lv_aload_n hx hb dX5_plan_66 rfl (lv_at hl 1 rfl) ?_
            refine va_get (D := (dC, dI)) (ci := 5) (v := .ref (ad 9)) (C := RX5) (T := TX5) (N := 5) hx hb hts hiX5 hown hK.1 hP 0 rfl rfl 1 (by decide) (hts (.fieldLink RX5 19 "CellDays" "duties" "LCellDays$Duties;") (by decide +kernel)) (fun _ h9 => h9) rfl dX5_plan_67 ?_
            refine lv_iload_n hx hb dX5_plan_70 rfl (lv_at hl 0 rfl) ?_
            refine cd_rV (As := [.int (sX5_worthiestSet sh wa pl rm lk br row dn pd nn)]) (b := (ad 9)) (ci := 2) (q := (RX2, TX2, 2)) (rest := []) ⟨hx, hb, hml, hown, hts⟩ (kX2_worthOf l dC dI cI cQ cZ (ad 9) (ad 10) row dn L pd (sX5_worthiestSet sh wa pl rm lk br row dn pd nn) hdn hrw) (cwV 1 hts gX5_plan_X2_worthOf rfl rfl rfl (by decide +kernel) ⟨by decide, by decide⟩) hK (hP.part (cx := wDs cQ (ad 9) (ad 10) row dn) [9, 10] rfl) rfl rfl rfl hl.1 rfl (Nat.le_of_ble_eq_true rfl) dX5_plan_71 ⟨by decide, by decide⟩ ?_
            subst hex
            exact hret _ _ dX5_plan_74
          · rw [if_neg c_5] at hex
            refine lv_lookup (tgt := 75) hx hb dX5_plan_38 (by decide) (off := 37) (by rw [lv_osw c_4 (a := 0) (by decide)]; rw [lv_osw c_5 (a := 1) (by decide)]; rfl) (by decide) ?_
            refine lv_aload_n hx hb dX5_plan_75 rfl (lv_at hl 1 rfl) ?_
            refine lv_iload_n hx hb dX5_plan_76 rfl (lv_at hl 0 rfl) ?_
            refine cd_rV (As := [.int (sX5_worthiestSet sh wa pl rm lk br row dn pd nn)]) (b := (ad 0)) (ci := 5) (q := (RX5, TX5, 5)) (rest := []) ⟨hx, hb, hml, hown, hts⟩ (kX5_sureBy l dC dI cI cQ cZ ad tq ag lo ch al an sh wa pl rm lk br row dn dy lv od sn L pd (sX5_worthiestSet sh wa pl rm lk br row dn pd nn) hdn hrw) (cwV 1 hts gX5_plan_X5_sureBy rfl rfl rfl (by decide +kernel) ⟨by decide, by decide⟩) hK hP rfl rfl rfl hl.1 rfl (Nat.le_of_ble_eq_true rfl) dX5_plan_77 ⟨by decide, by decide⟩ ?_
            subst hex
            exact hret _ _ dX5_plan_80
      · rw [if_pos c_3] at hex
        refine lv_bipush (v := (-9)) hx hb dX5_plan_34 (by decide) ?_
        subst hex
        exact hret _ _ dX5_plan_36
    · rw [if_pos c_2] at hex
      refine lv_iconst (v := (-1)) hx hb dX5_plan_20 (by decide) ?_
      subst hex
      exact hret _ _ dX5_plan_21

def rX5_sign : Room := { frames := 4, cells := 0, slots := 0, locals := 86 }
def sX5_sign (dy : Nat → Int32) (lv : Nat → Int32) (od : Nat → Int32) (sn : Nat) (dd : Int32) (lw : Int32) : Int32 × (Nat → Int32) × (Nat → Int32) × (Nat → Int32) × (Nat) := (if (sX5_isDay dd) = 0 then ((-1), dy, lv, od, sn) else (if (sX5_within lw 0 9) = 0 then ((-1), dy, lv, od, sn) else (if (sX4_isFull sn) = 0 then ((sX4_add dy lv od sn dd lw).1, (sX4_add dy lv od sn dd lw).2.1, (sX4_add dy lv od sn dd lw).2.2.1, (sX4_add dy lv od sn dd lw).2.2.2.1, (sX4_add dy lv od sn dd lw).2.2.2.2) else ((-3), dy, lv, od, sn))))
set_option maxHeartbeats 4000000 in
set_option maxRecDepth 100000 in
theorem kX5_sign (l : Launch) (dC : Nat → ClassId) (dI : Nat → Nat → Nat) (cI cQ cZ : ClassId) (ad : Nat → Nat) (tq : Int64) (ag : Nat → Int32) (lo : Nat → Int32) (ch : Nat → Int32) (al : Nat → Int32) (an : Nat) (sh : Nat → Int32) (wa : Nat → Int32) (pl : Int32) (rm : Int32) (lk : Int32) (br : Int32) (row : Nat → Option Nat) (dn : Nat) (dy : Nat → Int32) (lv : Nat → Int32) (od : Nat → Int32) (sn : Nat) (L : List Nat) (pd : Nat → DT) (dd : Int32) (lw : Int32) (sz : Nat) (hsn : sn ≤ 12) : Met l yX5_sign wsX5_sign rX5_sign (va_Pc [.ref (ad 0), .int dd, .int lw] (cd_pre dC dI cI cQ cZ (wCx cI cQ ad tq ag lo ch al an sh wa pl rm lk br row dn dy lv od sn ++ dpl L pd) sz)) (va_Qi (fun r _ => r = (sX5_sign dy lv od sn dd lw).1) (cd_post dC dI (wCx cI cQ ad tq ag lo ch al an sh wa pl rm lk br row dn dy lv od sn ++ dpl L pd) (wCx cI cQ ad tq ag lo ch al an sh wa pl rm lk br row dn ((sX5_sign dy lv od sn dd lw).2.1) ((sX5_sign dy lv od sn dd lw).2.2.1) ((sX5_sign dy lv od sn dd lw).2.2.2.1) ((sX5_sign dy lv od sn dd lw).2.2.2.2) ++ dpl L pd) sz) (va_A (wCx cI cQ ad tq ag lo ch al an sh wa pl rm lk br row dn dy lv od sn ++ dpl L pd) sz)) 0 0 (va_A (wCx cI cQ ad tq ag lo ch al an sh wa pl rm lk br row dn dy lv od sn ++ dpl L pd) sz) := by
  have hiX5 : ∀ w ∈ u_ws RX5 TX5 5, w ∈ wsX5_sign := by decide +kernel
  generalize hex : sX5_sign dy lv od sn dd lw = ex
  unfold sX5_sign at hex
  refine cd_mMi [.ref (ad 0), .int dd, .int lw] (by decide) rfl (Nat.le_of_ble_eq_true rfl) ?_
  intro Q A p e s m args below meth c ls hx hb hml hown hts hA hret hK hP hD hS hl
  have hl : lv_has ls 3 [(0, .ref (ad 0)), (1, .int dd), (2, .int lw)] := hl
  refine lv_iload_n hx hb dX5_sign_0 rfl (lv_at hl 1 rfl) ?_
  refine cd_rS (As := [.int dd]) (rest := []) ⟨hx, hb, hml, hown, hts⟩ (kX5_isDay l dC dI cI cQ cZ dd) (va_cwS 1 hts gX5_sign_X5_isDay rfl rfl rfl (by decide +kernel) ⟨by decide, by decide⟩) hK cd_P0 rfl hl.1 rfl (Nat.le_of_ble_eq_true rfl) dX5_sign_1 ⟨by decide, by decide⟩ ?_
  refine lv_if_eq (tgt := 17) hx hb dX5_sign_4 (by decide) (fun c_1 => ?_) (fun c_1 => ?_)
  · rw [if_pos c_1] at hex
    refine lv_iconst (v := (-1)) hx hb dX5_sign_17 (by decide) ?_
    subst hex
    exact hret _ _ _ _ dX5_sign_18 hP hD hS
  · rw [if_neg c_1] at hex
    refine lv_iload_n hx hb dX5_sign_7 rfl (lv_at hl 2 rfl) ?_
    refine lv_iconst (v := 0) hx hb dX5_sign_8 (by decide) ?_
    refine lv_bipush (v := 9) hx hb dX5_sign_9 (by decide) ?_
    refine cd_rS (As := [.int lw, .int 0, .int 9]) (rest := []) ⟨hx, hb, hml, hown, hts⟩ (kX5_within l dC dI cI cQ cZ lw 0 9) (va_cwS 3 hts gX5_sign_X5_within rfl rfl rfl (by decide +kernel) ⟨by decide, by decide⟩) hK cd_P0 rfl hl.1 rfl (Nat.le_of_ble_eq_true rfl) dX5_sign_11 ⟨by decide, by decide⟩ ?_
    refine lv_if_ne (tgt := 19) hx hb dX5_sign_14 (by decide) (fun c_2 => ?_) (fun c_2 => ?_)
    · rw [if_neg c_2] at hex
      refine lv_aload_n hx hb dX5_sign_19 rfl (lv_at hl 0 rfl) ?_
      refine va_get (D := (dC, dI)) (ci := 5) (v := .ref (ad 11)) (C := RX5) (T := TX5) (N := 5) hx hb hts hiX5 hown hK.1 hP 0 rfl rfl 2 (by decide) (hts (.fieldLink RX5 26 "CellDays" "signs" "LCellDays$Signs;") (by decide +kernel)) (fun _ h9 => h9) rfl dX5_sign_20 ?_
      refine cd_rV (As := []) (b := (ad 11)) (ci := 4) (q := (RX4, TX4, 4)) (rest := []) ⟨hx, hb, hml, hown, hts⟩ (kX4_isFull l dC dI cI cQ cZ (ad 11) (ad 12) (ad 13) (ad 14) dy lv od sn) (cwV 0 hts gX5_sign_X4_isFull rfl rfl rfl (by decide +kernel) ⟨by decide, by decide⟩) hK (hP.sub (ws' := (wSg cI (ad 11) (ad 12) (ad 13) (ad 14) dy lv od sn)) [11, 12, 13, 14] rfl) rfl rfl rfl hl.1 rfl (Nat.le_of_ble_eq_true rfl) dX5_sign_23 ⟨by decide, by decide⟩ ?_
      refine lv_if_eq (tgt := 34) hx hb dX5_sign_26 (by decide) (fun c_3 => ?_) (fun c_3 => ?_)
      · rw [if_pos c_3] at hex
        refine lv_aload_n hx hb dX5_sign_34 rfl (lv_at hl 0 rfl) ?_
        refine va_get (D := (dC, dI)) (ci := 5) (v := .ref (ad 11)) (C := RX5) (T := TX5) (N := 5) hx hb hts hiX5 hown hK.1 hP 0 rfl rfl 2 (by decide) (hts (.fieldLink RX5 26 "CellDays" "signs" "LCellDays$Signs;") (by decide +kernel)) (fun _ h9 => h9) rfl dX5_sign_35 ?_
        refine lv_iload_n hx hb dX5_sign_38 rfl (lv_at hl 1 rfl) ?_
        refine lv_iload_n hx hb dX5_sign_39 rfl (lv_at hl 2 rfl) ?_
        have hDc : va_D A (wSg cI (ad 11) (ad 12) (ad 13) (ad 14) dy lv od sn) := (hD.sub (ws' := (wSg cI (ad 11) (ad 12) (ad 13) (ad 14) dy lv od sn)) [11, 12, 13, 14] (by decide) rfl)
        have hFc := cd_F hDc hS hA
        refine cd_wV (As := [.int dd, .int lw]) (b := (ad 11)) (ci := 4) (q := (RX4, TX4, 4)) (rest := []) ⟨hx, hb, hml, hown, hts⟩ (kX4_add l dC dI cI cQ cZ (ad 11) (ad 12) (ad 13) (ad 14) dy lv od sn dd lw s.heap.size (full4_b hsn c_3)) (cwV 2 hts gX5_sign_X4_add rfl rfl rfl (by decide +kernel) ⟨by decide, by decide⟩) hK (hP.sub (ws' := (wSg cI (ad 11) (ad 12) (ad 13) (ad 14) dy lv od sn)) [11, 12, 13, 14] rfl) hDc hFc hS rfl rfl rfl hl.1 rfl (Nat.le_of_ble_eq_true rfl) dX5_sign_40 ⟨by decide, by decide⟩ (fun H1 locs hP1 hD1 hk1 hS => ?_)
        obtain ⟨hP, hD⟩ := va_joinQ (X := wCx cI cQ ad tq ag lo ch al an sh wa pl rm lk br row dn dy lv od sn) (cx := (wSg cI (ad 11) (ad 12) (ad 13) (ad 14) dy lv od sn)) (wr := [(ad 0, .inr (5, [.ref (ad 6), .ref (ad 9), .ref (ad 11), .ref (ad 1), .long tq])), (ad 1, .inr (0, [.ref (ad 6), .ref (ad 9), .ref (ad 11), .ref (ad 2), .ref (ad 3), .ref (ad 4), .ref (ad 5), .int (nI an)])), (ad 2, .inl (cI, 150, .inl ag)), (ad 3, .inl (cI, 150, .inl lo)), (ad 4, .inl (cI, 150, .inl ch)), (ad 5, .inl (cI, 10, .inl al)), (ad 6, .inr (1, [.ref (ad 7), .ref (ad 8), .int pl, .int rm, .int lk, .int br])), (ad 7, .inl (cI, 3, .inl sh)), (ad 8, .inl (cI, 12, .inl wa)), (ad 9, .inr (2, [.ref (ad 10), .int (nI dn)])), (ad 10, .inl (cQ, 8, .inr (.inr (.inr (.inr row)))))]) (w1 := (wSg cI (ad 11) (ad 12) (ad 13) (ad 14) ((sX4_add dy lv od sn dd lw).2.1) ((sX4_add dy lv od sn dd lw).2.2.1) ((sX4_add dy lv od sn dd lw).2.2.2.1) ((sX4_add dy lv od sn dd lw).2.2.2.2))) hP hD [11, 12, 13, 14] [0, 1, 2, 3, 4, 5, 6, 7, 8, 9, 10] rfl rfl (by decide) (by decide) hk1 hFc hP1 hD1
        have hP := hP.part (cx := wCx cI cQ ad tq ag lo ch al an sh wa pl rm lk br row dn ((sX4_add dy lv od sn dd lw).2.1) ((sX4_add dy lv od sn dd lw).2.2.1) ((sX4_add dy lv od sn dd lw).2.2.2.1) ((sX4_add dy lv od sn dd lw).2.2.2.2)) [0, 1, 2, 3, 4, 5, 6, 7, 8, 9, 10, 11, 12, 13, 14] rfl
        have hD := hD.part (cx := wCx cI cQ ad tq ag lo ch al an sh wa pl rm lk br row dn ((sX4_add dy lv od sn dd lw).2.1) ((sX4_add dy lv od sn dd lw).2.2.1) ((sX4_add dy lv od sn dd lw).2.2.2.1) ((sX4_add dy lv od sn dd lw).2.2.2.2)) [0, 1, 2, 3, 4, 5, 6, 7, 8, 9, 10, 11, 12, 13, 14] (by decide) rfl
        generalize H1 = H at hP hS ⊢
        have hP : va_P (dC, dI) vwCl (wCx cI cQ ad tq ag lo ch al an sh wa pl rm lk br row dn ((sX4_add dy lv od sn dd lw).2.1) ((sX4_add dy lv od sn dd lw).2.2.1) ((sX4_add dy lv od sn dd lw).2.2.2.1) ((sX4_add dy lv od sn dd lw).2.2.2.2) ++ dpl L pd) H := hP
        have hD : va_D A (wCx cI cQ ad tq ag lo ch al an sh wa pl rm lk br row dn ((sX4_add dy lv od sn dd lw).2.1) ((sX4_add dy lv od sn dd lw).2.2.1) ((sX4_add dy lv od sn dd lw).2.2.2.1) ((sX4_add dy lv od sn dd lw).2.2.2.2) ++ dpl L pd) := hD
        subst hex
        exact hret _ _ _ _ dX5_sign_43 hP hD hS
      · rw [if_neg c_3] at hex
        refine lv_bipush (v := (-3)) hx hb dX5_sign_29 (by decide) ?_
        refine lv_goto (tgt := 43) hx hb dX5_sign_31 (by decide) ?_
        subst hex
        exact hret _ _ _ _ dX5_sign_43 hP hD hS
    · rw [if_pos c_2] at hex
      refine lv_iconst (v := (-1)) hx hb dX5_sign_17 (by decide) ?_
      subst hex
      exact hret _ _ _ _ dX5_sign_18 hP hD hS

def rX5_forget : Room := { frames := 4, cells := 0, slots := 0, locals := 84 }
def sX5_forget (dy : Nat → Int32) (od : Nat → Int32) (sn : Nat) : Int32 × (Nat → Int32) × (Nat) := (if (nI sn) = 0 then ((-2), od, sn) else ((sX4_removeLatest dy od sn).1, (sX4_removeLatest dy od sn).2.1, (sX4_removeLatest dy od sn).2.2))
set_option maxHeartbeats 4000000 in
set_option maxRecDepth 100000 in
theorem kX5_forget (l : Launch) (dC : Nat → ClassId) (dI : Nat → Nat → Nat) (cI cQ cZ : ClassId) (ad : Nat → Nat) (tq : Int64) (ag : Nat → Int32) (lo : Nat → Int32) (ch : Nat → Int32) (al : Nat → Int32) (an : Nat) (sh : Nat → Int32) (wa : Nat → Int32) (pl : Int32) (rm : Int32) (lk : Int32) (br : Int32) (row : Nat → Option Nat) (dn : Nat) (dy : Nat → Int32) (lv : Nat → Int32) (od : Nat → Int32) (sn : Nat) (L : List Nat) (pd : Nat → DT) (sz : Nat) (hsn : sn ≤ 12) : Met l yX5_forget wsX5_forget rX5_forget (va_Pc [.ref (ad 0)] (cd_pre dC dI cI cQ cZ (wCx cI cQ ad tq ag lo ch al an sh wa pl rm lk br row dn dy lv od sn ++ dpl L pd) sz)) (va_Qi (fun r _ => r = (sX5_forget dy od sn).1) (cd_post dC dI (wCx cI cQ ad tq ag lo ch al an sh wa pl rm lk br row dn dy lv od sn ++ dpl L pd) (wCx cI cQ ad tq ag lo ch al an sh wa pl rm lk br row dn dy lv ((sX5_forget dy od sn).2.1) ((sX5_forget dy od sn).2.2) ++ dpl L pd) sz) (va_A (wCx cI cQ ad tq ag lo ch al an sh wa pl rm lk br row dn dy lv od sn ++ dpl L pd) sz)) 0 0 (va_A (wCx cI cQ ad tq ag lo ch al an sh wa pl rm lk br row dn dy lv od sn ++ dpl L pd) sz) := by
  have hiX4 : ∀ w ∈ u_ws RX4 TX4 4, w ∈ wsX5_forget := by decide +kernel
  have hiX5 : ∀ w ∈ u_ws RX5 TX5 5, w ∈ wsX5_forget := by decide +kernel
  generalize hex : sX5_forget dy od sn = ex
  unfold sX5_forget at hex
  refine cd_mMi [.ref (ad 0)] (by decide) rfl (Nat.le_of_ble_eq_true rfl) ?_
  intro Q A p e s m args below meth c ls hx hb hml hown hts hA hret hK hP hD hS hl
  have hl : lv_has ls 1 [(0, .ref (ad 0))] := hl
  refine lv_aload_n hx hb dX5_forget_0 rfl (lv_at hl 0 rfl) ?_
  refine va_get (D := (dC, dI)) (ci := 5) (v := .ref (ad 11)) (C := RX5) (T := TX5) (N := 5) hx hb hts hiX5 hown hK.1 hP 0 rfl rfl 2 (by decide) (hts (.fieldLink RX5 26 "CellDays" "signs" "LCellDays$Signs;") (by decide +kernel)) (fun _ h9 => h9) rfl dX5_forget_1 ?_
  refine va_getN (D := (dC, dI)) (ci := 4) (v := .int (nI sn)) (C := RX4) (T := TX4) (N := 4) hx hb hts hiX4 hown hK.1 hP 11 rfl rfl 3 (by decide) (va_Nw.use rfl (hK.2.1 (.fieldLinkNest RX5 153 RX4 "size" "I" RX5) (by decide +kernel))) (fun _ h9 => h9) rfl dX5_forget_4 ?_
  refine lv_if_ne (tgt := 15) hx hb dX5_forget_7 (by decide) (fun c_1 => ?_) (fun c_1 => ?_)
  · rw [if_neg c_1] at hex
    try have n_1 : ¬ sn = 0 := fun h9 => c_1 ((nI_eq (a := sn) (b := 0) (by omega) (by omega)).mpr h9)
    refine lv_aload_n hx hb dX5_forget_15 rfl (lv_at hl 0 rfl) ?_
    refine va_get (D := (dC, dI)) (ci := 5) (v := .ref (ad 11)) (C := RX5) (T := TX5) (N := 5) hx hb hts hiX5 hown hK.1 hP 0 rfl rfl 2 (by decide) (hts (.fieldLink RX5 26 "CellDays" "signs" "LCellDays$Signs;") (by decide +kernel)) (fun _ h9 => h9) rfl dX5_forget_16 ?_
    have hDc : va_D A (wSg cI (ad 11) (ad 12) (ad 13) (ad 14) dy lv od sn) := (hD.sub (ws' := (wSg cI (ad 11) (ad 12) (ad 13) (ad 14) dy lv od sn)) [11, 12, 13, 14] (by decide) rfl)
    have hFc := cd_F hDc hS hA
    refine cd_wV (As := []) (b := (ad 11)) (ci := 4) (q := (RX4, TX4, 4)) (rest := []) ⟨hx, hb, hml, hown, hts⟩ (kX4_removeLatest l dC dI cI cQ cZ (ad 11) (ad 12) (ad 13) (ad 14) dy lv od sn s.heap.size hsn (by omega)) (cwV 0 hts gX5_forget_X4_removeLatest rfl rfl rfl (by decide +kernel) ⟨by decide, by decide⟩) hK (hP.sub (ws' := (wSg cI (ad 11) (ad 12) (ad 13) (ad 14) dy lv od sn)) [11, 12, 13, 14] rfl) hDc hFc hS rfl rfl rfl hl.1 rfl (Nat.le_of_ble_eq_true rfl) dX5_forget_19 ⟨by decide, by decide⟩ (fun H1 locs hP1 hD1 hk1 hS => ?_)
    obtain ⟨hP, hD⟩ := va_joinQ (X := wCx cI cQ ad tq ag lo ch al an sh wa pl rm lk br row dn dy lv od sn) (cx := (wSg cI (ad 11) (ad 12) (ad 13) (ad 14) dy lv od sn)) (wr := [(ad 0, .inr (5, [.ref (ad 6), .ref (ad 9), .ref (ad 11), .ref (ad 1), .long tq])), (ad 1, .inr (0, [.ref (ad 6), .ref (ad 9), .ref (ad 11), .ref (ad 2), .ref (ad 3), .ref (ad 4), .ref (ad 5), .int (nI an)])), (ad 2, .inl (cI, 150, .inl ag)), (ad 3, .inl (cI, 150, .inl lo)), (ad 4, .inl (cI, 150, .inl ch)), (ad 5, .inl (cI, 10, .inl al)), (ad 6, .inr (1, [.ref (ad 7), .ref (ad 8), .int pl, .int rm, .int lk, .int br])), (ad 7, .inl (cI, 3, .inl sh)), (ad 8, .inl (cI, 12, .inl wa)), (ad 9, .inr (2, [.ref (ad 10), .int (nI dn)])), (ad 10, .inl (cQ, 8, .inr (.inr (.inr (.inr row)))))]) (w1 := (wSg cI (ad 11) (ad 12) (ad 13) (ad 14) dy lv ((sX4_removeLatest dy od sn).2.1) ((sX4_removeLatest dy od sn).2.2))) hP hD [11, 12, 13, 14] [0, 1, 2, 3, 4, 5, 6, 7, 8, 9, 10] rfl rfl (by decide) (by decide) hk1 hFc hP1 hD1
    have hP := hP.part (cx := wCx cI cQ ad tq ag lo ch al an sh wa pl rm lk br row dn dy lv ((sX4_removeLatest dy od sn).2.1) ((sX4_removeLatest dy od sn).2.2)) [0, 1, 2, 3, 4, 5, 6, 7, 8, 9, 10, 11, 12, 13, 14] rfl
    have hD := hD.part (cx := wCx cI cQ ad tq ag lo ch al an sh wa pl rm lk br row dn dy lv ((sX4_removeLatest dy od sn).2.1) ((sX4_removeLatest dy od sn).2.2)) [0, 1, 2, 3, 4, 5, 6, 7, 8, 9, 10, 11, 12, 13, 14] (by decide) rfl
    generalize H1 = H at hP hS ⊢
    have hP : va_P (dC, dI) vwCl (wCx cI cQ ad tq ag lo ch al an sh wa pl rm lk br row dn dy lv ((sX4_removeLatest dy od sn).2.1) ((sX4_removeLatest dy od sn).2.2) ++ dpl L pd) H := hP
    have hD : va_D A (wCx cI cQ ad tq ag lo ch al an sh wa pl rm lk br row dn dy lv ((sX4_removeLatest dy od sn).2.1) ((sX4_removeLatest dy od sn).2.2) ++ dpl L pd) := hD
    subst hex
    exact hret _ _ _ _ dX5_forget_22 hP hD hS
  · rw [if_pos c_1] at hex
    try have n_1 : sn = 0 := (nI_eq (a := sn) (b := 0) (by omega) (by omega)).mp c_1
    refine lv_bipush (v := (-2)) hx hb dX5_forget_10 (by decide) ?_
    refine lv_goto (tgt := 22) hx hb dX5_forget_12 (by decide) ?_
    subst hex
    exact hret _ _ _ _ dX5_forget_22 hP hD hS

def rX5_level : Room := { frames := 5, cells := 0, slots := 0, locals := 115 }
def sX5_level (sh : Nat → Int32) (wa : Nat → Int32) (pl : Int32) (rm : Int32) (lk : Int32) (br : Int32) (row : Nat → Option Nat) (dn : Nat) (pd : Nat → DT) (nu : Int32) (dd : Int32) : Int32 := (if (sX0_isNumber nu) = 0 then (-1) else (if (sX5_isDay dd) = 0 then (-1) else (sX0_levelAhead sh wa pl rm lk br row dn pd nu dd)))
set_option maxHeartbeats 4000000 in
set_option maxRecDepth 100000 in
theorem kX5_level (l : Launch) (dC : Nat → ClassId) (dI : Nat → Nat → Nat) (cI cQ cZ : ClassId) (ad : Nat → Nat) (tq : Int64) (ag : Nat → Int32) (lo : Nat → Int32) (ch : Nat → Int32) (al : Nat → Int32) (an : Nat) (sh : Nat → Int32) (wa : Nat → Int32) (pl : Int32) (rm : Int32) (lk : Int32) (br : Int32) (row : Nat → Option Nat) (dn : Nat) (dy : Nat → Int32) (lv : Nat → Int32) (od : Nat → Int32) (sn : Nat) (L : List Nat) (pd : Nat → DT) (nu : Int32) (dd : Int32) (hdn : dn ≤ 8) (hrw : ∀ j y, row j = some y → y ∈ L) : Met l yX5_level wsX5_level rX5_level (va_Pc [.ref (ad 0), .int nu, .int dd] (cd_rp dC dI cI cQ cZ (wCx cI cQ ad tq ag lo ch al an sh wa pl rm lk br row dn dy lv od sn ++ dpl L pd))) (vp_Si (fun r => r = sX5_level sh wa pl rm lk br row dn pd nu dd)) 0 0 (fun _ => False) := by
  have hiX5 : ∀ w ∈ u_ws RX5 TX5 5, w ∈ wsX5_level := by decide +kernel
  generalize hex : sX5_level sh wa pl rm lk br row dn pd nu dd = ex
  unfold sX5_level at hex
  refine cd_mRi [.ref (ad 0), .int nu, .int dd] (by decide) rfl (Nat.le_of_ble_eq_true rfl) ?_
  intro Q p e s m args below meth c ls hx hb hml hown hts hret ⟨hK, hP⟩ hl
  have hl : lv_has ls 3 [(0, .ref (ad 0)), (1, .int nu), (2, .int dd)] := hl
  refine lv_iload_n hx hb dX5_level_0 rfl (lv_at hl 1 rfl) ?_
  refine cd_rS (As := [.int nu]) (rest := []) ⟨hx, hb, hml, hown, hts⟩ (kX0_isNumber l dC dI cI cQ cZ nu) (va_cwS 1 hts gX5_level_X0_isNumber rfl rfl rfl (by decide +kernel) ⟨by decide, by decide⟩) hK cd_P0 rfl hl.1 rfl (Nat.le_of_ble_eq_true rfl) dX5_level_1 ⟨by decide, by decide⟩ ?_
  refine lv_if_eq (tgt := 26) hx hb dX5_level_4 (by decide) (fun c_1 => ?_) (fun c_1 => ?_)
  · rw [if_pos c_1] at hex
    refine lv_iconst (v := (-1)) hx hb dX5_level_26 (by decide) ?_
    subst hex
    exact hret _ _ dX5_level_27
  · rw [if_neg c_1] at hex
    refine lv_iload_n hx hb dX5_level_7 rfl (lv_at hl 2 rfl) ?_
    refine cd_rS (As := [.int dd]) (rest := []) ⟨hx, hb, hml, hown, hts⟩ (kX5_isDay l dC dI cI cQ cZ dd) (va_cwS 1 hts gX5_level_X5_isDay rfl rfl rfl (by decide +kernel) ⟨by decide, by decide⟩) hK cd_P0 rfl hl.1 rfl (Nat.le_of_ble_eq_true rfl) dX5_level_8 ⟨by decide, by decide⟩ ?_
    refine lv_if_eq (tgt := 26) hx hb dX5_level_11 (by decide) (fun c_2 => ?_) (fun c_2 => ?_)
    · rw [if_pos c_2] at hex
      refine lv_iconst (v := (-1)) hx hb dX5_level_26 (by decide) ?_
      subst hex
      exact hret _ _ dX5_level_27
    · rw [if_neg c_2] at hex
      refine lv_aload_n hx hb dX5_level_14 rfl (lv_at hl 0 rfl) ?_
      refine va_get (D := (dC, dI)) (ci := 5) (v := .ref (ad 1)) (C := RX5) (T := TX5) (N := 5) hx hb hts hiX5 hown hK.1 hP 0 rfl rfl 3 (by decide) (hts (.fieldLink RX5 35 "CellDays" "cases" "LCellDays$Cases;") (by decide +kernel)) (fun _ h9 => h9) rfl dX5_level_15 ?_
      refine lv_iload_n hx hb dX5_level_18 rfl (lv_at hl 1 rfl) ?_
      refine lv_iload_n hx hb dX5_level_19 rfl (lv_at hl 2 rfl) ?_
      refine cd_rV (As := [.int nu, .int dd]) (b := (ad 1)) (ci := 0) (q := (RX0, TX0, 8)) (rest := []) ⟨hx, hb, hml, hown, hts⟩ (kX0_levelAhead l dC dI cI cQ cZ ad ag lo ch al an sh wa pl rm lk br row dn dy lv od sn L pd nu dd hdn hrw (by have := isDay_b c_2; omega)) (cwV 2 hts gX5_level_X0_levelAhead rfl rfl rfl (by decide +kernel) ⟨by decide, by decide⟩) hK (hP.part (cx := wKx cI cQ ad ag lo ch al an sh wa pl rm lk br row dn dy lv od sn) [1, 2, 3, 4, 5, 6, 7, 8, 9, 10, 11, 12, 13, 14] rfl) rfl rfl rfl hl.1 rfl (Nat.le_of_ble_eq_true rfl) dX5_level_20 ⟨by decide, by decide⟩ ?_
      refine lv_goto (tgt := 27) hx hb dX5_level_23 (by decide) ?_
      subst hex
      exact hret _ _ dX5_level_27

def rX5_agrees : Room := { frames := 5, cells := 0, slots := 0, locals := 119 }
def sX5_agrees (sh : Nat → Int32) (wa : Nat → Int32) (pl : Int32) (rm : Int32) (lk : Int32) (br : Int32) (row : Nat → Option Nat) (dn : Nat) (dy : Nat → Int32) (lv : Nat → Int32) (od : Nat → Int32) (sn : Nat) (pd : Nat → DT) (nu : Int32) : Int32 := (if (sX0_isNumber nu) = 0 then (-1) else (if (sX0_fitsSigns sh wa pl rm lk br row dn dy lv od sn pd nu) = 0 then 0 else 1))
set_option maxHeartbeats 4000000 in
set_option maxRecDepth 100000 in
theorem kX5_agrees (l : Launch) (dC : Nat → ClassId) (dI : Nat → Nat → Nat) (cI cQ cZ : ClassId) (ad : Nat → Nat) (tq : Int64) (ag : Nat → Int32) (lo : Nat → Int32) (ch : Nat → Int32) (al : Nat → Int32) (an : Nat) (sh : Nat → Int32) (wa : Nat → Int32) (pl : Int32) (rm : Int32) (lk : Int32) (br : Int32) (row : Nat → Option Nat) (dn : Nat) (dy : Nat → Int32) (lv : Nat → Int32) (od : Nat → Int32) (sn : Nat) (L : List Nat) (pd : Nat → DT) (nu : Int32) (hdn : dn ≤ 8) (hrw : ∀ j y, row j = some y → y ∈ L) (hsn : sn ≤ 12) (hdy : ∀ j, 0 ≤ (dy j).toInt ∧ (dy j).toInt ≤ 399) : Met l yX5_agrees wsX5_agrees rX5_agrees (va_Pc [.ref (ad 0), .int nu] (cd_rp dC dI cI cQ cZ (wCx cI cQ ad tq ag lo ch al an sh wa pl rm lk br row dn dy lv od sn ++ dpl L pd))) (vp_Si (fun r => r = sX5_agrees sh wa pl rm lk br row dn dy lv od sn pd nu)) 0 0 (fun _ => False) := by
  have hiX5 : ∀ w ∈ u_ws RX5 TX5 5, w ∈ wsX5_agrees := by decide +kernel
  generalize hex : sX5_agrees sh wa pl rm lk br row dn dy lv od sn pd nu = ex
  unfold sX5_agrees at hex
  refine cd_mRi [.ref (ad 0), .int nu] (by decide) rfl (Nat.le_of_ble_eq_true rfl) ?_
  intro Q p e s m args below meth c ls hx hb hml hown hts hret ⟨hK, hP⟩ hl
  have hl : lv_has ls 2 [(0, .ref (ad 0)), (1, .int nu)] := hl
  refine lv_iload_n hx hb dX5_agrees_0 rfl (lv_at hl 1 rfl) ?_
  refine cd_rS (As := [.int nu]) (rest := []) ⟨hx, hb, hml, hown, hts⟩ (kX0_isNumber l dC dI cI cQ cZ nu) (va_cwS 1 hts gX5_agrees_X0_isNumber rfl rfl rfl (by decide +kernel) ⟨by decide, by decide⟩) hK cd_P0 rfl hl.1 rfl (Nat.le_of_ble_eq_true rfl) dX5_agrees_1 ⟨by decide, by decide⟩ ?_
  refine lv_if_ne (tgt := 9) hx hb dX5_agrees_4 (by decide) (fun c_1 => ?_) (fun c_1 => ?_)
  · rw [if_neg c_1] at hex
    refine lv_aload_n hx hb dX5_agrees_9 rfl (lv_at hl 0 rfl) ?_
    refine va_get (D := (dC, dI)) (ci := 5) (v := .ref (ad 1)) (C := RX5) (T := TX5) (N := 5) hx hb hts hiX5 hown hK.1 hP 0 rfl rfl 3 (by decide) (hts (.fieldLink RX5 35 "CellDays" "cases" "LCellDays$Cases;") (by decide +kernel)) (fun _ h9 => h9) rfl dX5_agrees_10 ?_
    refine lv_iload_n hx hb dX5_agrees_13 rfl (lv_at hl 1 rfl) ?_
    refine cd_rV (As := [.int nu]) (b := (ad 1)) (ci := 0) (q := (RX0, TX0, 8)) (rest := []) ⟨hx, hb, hml, hown, hts⟩ (kX0_fitsSigns l dC dI cI cQ cZ ad ag lo ch al an sh wa pl rm lk br row dn dy lv od sn L pd nu hdn hrw hsn hdy) (cwV 1 hts gX5_agrees_X0_fitsSigns rfl rfl rfl (by decide +kernel) ⟨by decide, by decide⟩) hK (hP.part (cx := wKx cI cQ ad ag lo ch al an sh wa pl rm lk br row dn dy lv od sn) [1, 2, 3, 4, 5, 6, 7, 8, 9, 10, 11, 12, 13, 14] rfl) rfl rfl rfl hl.1 rfl (Nat.le_of_ble_eq_true rfl) dX5_agrees_14 ⟨by decide, by decide⟩ ?_
    refine lv_if_eq (tgt := 24) hx hb dX5_agrees_17 (by decide) (fun c_2 => ?_) (fun c_2 => ?_)
    · rw [if_pos c_2] at hex
      refine lv_iconst (v := 0) hx hb dX5_agrees_24 (by decide) ?_
      subst hex
      exact hret _ _ dX5_agrees_25
    · rw [if_neg c_2] at hex
      refine lv_iconst (v := 1) hx hb dX5_agrees_20 (by decide) ?_
      refine lv_goto (tgt := 25) hx hb dX5_agrees_21 (by decide) ?_
      subst hex
      exact hret _ _ dX5_agrees_25
  · rw [if_pos c_1] at hex
    refine lv_iconst (v := (-1)) hx hb dX5_agrees_7 (by decide) ?_
    subst hex
    exact hret _ _ dX5_agrees_8

def rX5_field : Room := { frames := 6, cells := 0, slots := 0, locals := 140 }
def sX5_field (ag : Nat → Int32) (lo : Nat → Int32) (ch : Nat → Int32) (al : Nat → Int32) (an : Nat) (sh : Nat → Int32) (wa : Nat → Int32) (pl : Int32) (rm : Int32) (lk : Int32) (br : Int32) (row : Nat → Option Nat) (dn : Nat) (dy : Nat → Int32) (lv : Nat → Int32) (od : Nat → Int32) (sn : Nat) (pd : Nat → DT) (wh : Int32) : Int32 × (Nat → Int32) × (Nat) × (Nat → Int32) × (Nat → Int32) × (Nat → Int32) := (if (sX5_within wh 0 3) = 0 then ((-1), ag, an, lo, ch, al) else (if wh = 0 then (nI ((sX0_gatherAgreeing ag sh wa pl rm lk br row dn dy lv od sn pd).2), (sX0_gatherAgreeing ag sh wa pl rm lk br row dn dy lv od sn pd).1, (sX0_gatherAgreeing ag sh wa pl rm lk br row dn dy lv od sn pd).2, lo, ch, al) else (if wh = 1 then (sX0_leastAgreeing ((sX0_gatherAgreeing ag sh wa pl rm lk br row dn dy lv od sn pd).1) ((sX0_gatherAgreeing ag sh wa pl rm lk br row dn dy lv od sn pd).2), (sX0_gatherAgreeing ag sh wa pl rm lk br row dn dy lv od sn pd).1, (sX0_gatherAgreeing ag sh wa pl rm lk br row dn dy lv od sn pd).2, lo, ch, al) else (if wh = 2 then (if (sX0_isOdd ((sX0_gatherAgreeing ag sh wa pl rm lk br row dn dy lv od sn pd).1) ((sX0_gatherAgreeing ag sh wa pl rm lk br row dn dy lv od sn pd).2)) = 0 then (0, (sX0_gatherAgreeing ag sh wa pl rm lk br row dn dy lv od sn pd).1, (sX0_gatherAgreeing ag sh wa pl rm lk br row dn dy lv od sn pd).2, lo, ch, al) else (1, (sX0_gatherAgreeing ag sh wa pl rm lk br row dn dy lv od sn pd).1, (sX0_gatherAgreeing ag sh wa pl rm lk br row dn dy lv od sn pd).2, lo, ch, al)) else ((sX0_dayThatTellsMost ((sX0_gatherAgreeing ag sh wa pl rm lk br row dn dy lv od sn pd).1) lo ch al ((sX0_gatherAgreeing ag sh wa pl rm lk br row dn dy lv od sn pd).2) sh wa pl rm lk br row dn pd).1, (sX0_gatherAgreeing ag sh wa pl rm lk br row dn dy lv od sn pd).1, (sX0_gatherAgreeing ag sh wa pl rm lk br row dn dy lv od sn pd).2, (sX0_dayThatTellsMost ((sX0_gatherAgreeing ag sh wa pl rm lk br row dn dy lv od sn pd).1) lo ch al ((sX0_gatherAgreeing ag sh wa pl rm lk br row dn dy lv od sn pd).2) sh wa pl rm lk br row dn pd).2.1, (sX0_dayThatTellsMost ((sX0_gatherAgreeing ag sh wa pl rm lk br row dn dy lv od sn pd).1) lo ch al ((sX0_gatherAgreeing ag sh wa pl rm lk br row dn dy lv od sn pd).2) sh wa pl rm lk br row dn pd).2.2.1, (sX0_dayThatTellsMost ((sX0_gatherAgreeing ag sh wa pl rm lk br row dn dy lv od sn pd).1) lo ch al ((sX0_gatherAgreeing ag sh wa pl rm lk br row dn dy lv od sn pd).2) sh wa pl rm lk br row dn pd).2.2.2)))))
set_option maxHeartbeats 4000000 in
set_option maxRecDepth 100000 in
theorem kX5_field (l : Launch) (dC : Nat → ClassId) (dI : Nat → Nat → Nat) (cI cQ cZ : ClassId) (ad : Nat → Nat) (tq : Int64) (ag : Nat → Int32) (lo : Nat → Int32) (ch : Nat → Int32) (al : Nat → Int32) (an : Nat) (sh : Nat → Int32) (wa : Nat → Int32) (pl : Int32) (rm : Int32) (lk : Int32) (br : Int32) (row : Nat → Option Nat) (dn : Nat) (dy : Nat → Int32) (lv : Nat → Int32) (od : Nat → Int32) (sn : Nat) (L : List Nat) (pd : Nat → DT) (wh : Int32) (sz : Nat) (hdn : dn ≤ 8) (hrw : ∀ j y, row j = some y → y ∈ L) (hsn : sn ≤ 12) (hdy : ∀ j, 0 ≤ (dy j).toInt ∧ (dy j).toInt ≤ 399) : Met l yX5_field wsX5_field rX5_field (va_Pc [.ref (ad 0), .int wh] (cd_pre dC dI cI cQ cZ (wCx cI cQ ad tq ag lo ch al an sh wa pl rm lk br row dn dy lv od sn ++ dpl L pd) sz)) (va_Qi (fun r _ => r = (sX5_field ag lo ch al an sh wa pl rm lk br row dn dy lv od sn pd wh).1) (cd_post dC dI (wCx cI cQ ad tq ag lo ch al an sh wa pl rm lk br row dn dy lv od sn ++ dpl L pd) (wCx cI cQ ad tq ((sX5_field ag lo ch al an sh wa pl rm lk br row dn dy lv od sn pd wh).2.1) ((sX5_field ag lo ch al an sh wa pl rm lk br row dn dy lv od sn pd wh).2.2.2.1) ((sX5_field ag lo ch al an sh wa pl rm lk br row dn dy lv od sn pd wh).2.2.2.2.1) ((sX5_field ag lo ch al an sh wa pl rm lk br row dn dy lv od sn pd wh).2.2.2.2.2) ((sX5_field ag lo ch al an sh wa pl rm lk br row dn dy lv od sn pd wh).2.2.1) sh wa pl rm lk br row dn dy lv od sn ++ dpl L pd) sz) (va_A (wCx cI cQ ad tq ag lo ch al an sh wa pl rm lk br row dn dy lv od sn ++ dpl L pd) sz)) 0 0 (va_A (wCx cI cQ ad tq ag lo ch al an sh wa pl rm lk br row dn dy lv od sn ++ dpl L pd) sz) := by
  have hiX0 : ∀ w ∈ u_ws RX0 TX0 8, w ∈ wsX5_field := by decide +kernel
  have hiX5 : ∀ w ∈ u_ws RX5 TX5 5, w ∈ wsX5_field := by decide +kernel
  generalize hex : sX5_field ag lo ch al an sh wa pl rm lk br row dn dy lv od sn pd wh = ex
  unfold sX5_field at hex
  refine cd_mMi [.ref (ad 0), .int wh] (by decide) rfl (Nat.le_of_ble_eq_true rfl) ?_
  intro Q A p e s m args below meth c ls hx hb hml hown hts hA hret hK hP hD hS hl
  have hl : lv_has ls 2 [(0, .ref (ad 0)), (1, .int wh)] := hl
  refine lv_iload_n hx hb dX5_field_0 rfl (lv_at hl 1 rfl) ?_
  refine lv_iconst (v := 0) hx hb dX5_field_1 (by decide) ?_
  refine lv_iconst (v := 3) hx hb dX5_field_2 (by decide) ?_
  refine cd_rS (As := [.int wh, .int 0, .int 3]) (rest := []) ⟨hx, hb, hml, hown, hts⟩ (kX5_within l dC dI cI cQ cZ wh 0 3) (va_cwS 3 hts gX5_field_X5_within rfl rfl rfl (by decide +kernel) ⟨by decide, by decide⟩) hK cd_P0 rfl hl.1 rfl (Nat.le_of_ble_eq_true rfl) dX5_field_3 ⟨by decide, by decide⟩ ?_
  refine lv_if_ne (tgt := 11) hx hb dX5_field_6 (by decide) (fun c_1 => ?_) (fun c_1 => ?_)
  · rw [if_neg c_1] at hex
    refine lv_aload_n hx hb dX5_field_11 rfl (lv_at hl 0 rfl) ?_
    refine va_get (D := (dC, dI)) (ci := 5) (v := .ref (ad 1)) (C := RX5) (T := TX5) (N := 5) hx hb hts hiX5 hown hK.1 hP 0 rfl rfl 3 (by decide) (hts (.fieldLink RX5 35 "CellDays" "cases" "LCellDays$Cases;") (by decide +kernel)) (fun _ h9 => h9) rfl dX5_field_12 ?_
    have hDc : va_D A (wKx cI cQ ad ag lo ch al an sh wa pl rm lk br row dn dy lv od sn ++ dpl L pd) := (hD.part (cx := wKx cI cQ ad ag lo ch al an sh wa pl rm lk br row dn dy lv od sn) [1, 2, 3, 4, 5, 6, 7, 8, 9, 10, 11, 12, 13, 14] (by decide) rfl)
    have hFc := cd_F hDc hS hA
    refine cd_wVv (As := []) (b := (ad 1)) (ci := 0) (q := (RX0, TX0, 8)) (rest := []) ⟨hx, hb, hml, hown, hts⟩ (kX0_gatherAgreeing l dC dI cI cQ cZ ad ag lo ch al an sh wa pl rm lk br row dn dy lv od sn L pd s.heap.size hdn hrw hsn hdy) (cwV 0 hts gX5_field_X0_gatherAgreeing rfl rfl rfl (by decide +kernel) ⟨by decide, by decide⟩) hK (hP.part (cx := wKx cI cQ ad ag lo ch al an sh wa pl rm lk br row dn dy lv od sn) [1, 2, 3, 4, 5, 6, 7, 8, 9, 10, 11, 12, 13, 14] rfl) hDc hFc hS rfl rfl rfl hl.1 rfl (Nat.le_of_ble_eq_true rfl) dX5_field_15 ⟨by decide, by decide⟩ (fun H1 locs hP1 hD1 hk1 hS => ?_)
    obtain ⟨hP, hD⟩ := va_joinP (X := wCx cI cQ ad tq ag lo ch al an sh wa pl rm lk br row dn dy lv od sn) (cx := wKx cI cQ ad ag lo ch al an sh wa pl rm lk br row dn dy lv od sn) (wr := [(ad 0, .inr (5, [.ref (ad 6), .ref (ad 9), .ref (ad 11), .ref (ad 1), .long tq]))]) (rx := wKx cI cQ ad ((sX0_gatherAgreeing ag sh wa pl rm lk br row dn dy lv od sn pd).1) lo ch al ((sX0_gatherAgreeing ag sh wa pl rm lk br row dn dy lv od sn pd).2) sh wa pl rm lk br row dn dy lv od sn) hP hD [1, 2, 3, 4, 5, 6, 7, 8, 9, 10, 11, 12, 13, 14] [0] rfl rfl (by decide) (by decide) hk1 hFc hP1 hD1
    have hP := hP.part (cx := wCx cI cQ ad tq ((sX0_gatherAgreeing ag sh wa pl rm lk br row dn dy lv od sn pd).1) lo ch al ((sX0_gatherAgreeing ag sh wa pl rm lk br row dn dy lv od sn pd).2) sh wa pl rm lk br row dn dy lv od sn) [0, 1, 2, 3, 4, 5, 6, 7, 8, 9, 10, 11, 12, 13, 14] rfl
    have hD := hD.part (cx := wCx cI cQ ad tq ((sX0_gatherAgreeing ag sh wa pl rm lk br row dn dy lv od sn pd).1) lo ch al ((sX0_gatherAgreeing ag sh wa pl rm lk br row dn dy lv od sn pd).2) sh wa pl rm lk br row dn dy lv od sn) [0, 1, 2, 3, 4, 5, 6, 7, 8, 9, 10, 11, 12, 13, 14] (by decide) rfl
    generalize H1 = H at hP hS ⊢
    have hP : va_P (dC, dI) vwCl (wCx cI cQ ad tq ((sX0_gatherAgreeing ag sh wa pl rm lk br row dn dy lv od sn pd).1) lo ch al ((sX0_gatherAgreeing ag sh wa pl rm lk br row dn dy lv od sn pd).2) sh wa pl rm lk br row dn dy lv od sn ++ dpl L pd) H := hP
    have hD : va_D A (wCx cI cQ ad tq ((sX0_gatherAgreeing ag sh wa pl rm lk br row dn dy lv od sn pd).1) lo ch al ((sX0_gatherAgreeing ag sh wa pl rm lk br row dn dy lv od sn pd).2) sh wa pl rm lk br row dn dy lv od sn ++ dpl L pd) := hD
    refine lv_iload_n hx hb dX5_field_18 rfl (lv_at hl 1 rfl) ?_
    by_cases c_2 : wh = 0
    · rw [if_pos c_2] at hex
      refine lv_tableIn (tgt := 44) hx hb dX5_field_19 (off := 25) (by rw [c_2] <;> decide) (by rw [c_2] <;> decide) (by rw [c_2] <;> decide +kernel) (by decide) ?_
      refine lv_aload_n hx hb dX5_field_44 rfl (lv_at hl 0 rfl) ?_
      refine va_get (D := (dC, dI)) (ci := 5) (v := .ref (ad 1)) (C := RX5) (T := TX5) (N := 5) hx hb hts hiX5 hown hK.1 hP 0 rfl rfl 3 (by decide) (hts (.fieldLink RX5 35 "CellDays" "cases" "LCellDays$Cases;") (by decide +kernel)) (fun _ h9 => h9) rfl dX5_field_45 ?_
      refine va_getN (D := (dC, dI)) (ci := 0) (v := .int (nI ((sX0_gatherAgreeing ag sh wa pl rm lk br row dn dy lv od sn pd).2))) (C := RX0) (T := TX0) (N := 8) hx hb hts hiX0 hown hK.1 hP 1 rfl rfl 7 (by decide) (va_Nw.use rfl (hK.2.1 (.fieldLinkNest RX5 167 RX0 "agreed" "I" RX5) (by decide +kernel))) (fun _ h9 => h9) rfl dX5_field_48 ?_
      subst hex
      exact hret _ _ _ _ dX5_field_51 hP hD hS
    · rw [if_neg c_2] at hex
      by_cases c_3 : wh = 1
      · rw [if_pos c_3] at hex
        refine lv_tableIn (tgt := 52) hx hb dX5_field_19 (off := 33) (by rw [c_3] <;> decide) (by rw [c_3] <;> decide) (by rw [c_3] <;> decide +kernel) (by decide) ?_
        refine lv_aload_n hx hb dX5_field_52 rfl (lv_at hl 0 rfl) ?_
        refine va_get (D := (dC, dI)) (ci := 5) (v := .ref (ad 1)) (C := RX5) (T := TX5) (N := 5) hx hb hts hiX5 hown hK.1 hP 0 rfl rfl 3 (by decide) (hts (.fieldLink RX5 35 "CellDays" "cases" "LCellDays$Cases;") (by decide +kernel)) (fun _ h9 => h9) rfl dX5_field_53 ?_
        refine cd_rV (As := []) (b := (ad 1)) (ci := 0) (q := (RX0, TX0, 8)) (rest := []) ⟨hx, hb, hml, hown, hts⟩ (kX0_leastAgreeing l dC dI cI cQ cZ ad ((sX0_gatherAgreeing ag sh wa pl rm lk br row dn dy lv od sn pd).1) lo ch al ((sX0_gatherAgreeing ag sh wa pl rm lk br row dn dy lv od sn pd).2) sh wa pl rm lk br row dn dy lv od sn L pd) (cwV 0 hts gX5_field_X0_leastAgreeing rfl rfl rfl (by decide +kernel) ⟨by decide, by decide⟩) hK (hP.part (cx := wKx cI cQ ad ((sX0_gatherAgreeing ag sh wa pl rm lk br row dn dy lv od sn pd).1) lo ch al ((sX0_gatherAgreeing ag sh wa pl rm lk br row dn dy lv od sn pd).2) sh wa pl rm lk br row dn dy lv od sn) [1, 2, 3, 4, 5, 6, 7, 8, 9, 10, 11, 12, 13, 14] rfl) rfl rfl rfl hl.1 rfl (Nat.le_of_ble_eq_true rfl) dX5_field_56 ⟨by decide, by decide⟩ ?_
        subst hex
        exact hret _ _ _ _ dX5_field_59 hP hD hS
      · rw [if_neg c_3] at hex
        by_cases c_4 : wh = 2
        · rw [if_pos c_4] at hex
          refine lv_tableIn (tgt := 60) hx hb dX5_field_19 (off := 41) (by rw [c_4] <;> decide) (by rw [c_4] <;> decide) (by rw [c_4] <;> decide +kernel) (by decide) ?_
          refine lv_aload_n hx hb dX5_field_60 rfl (lv_at hl 0 rfl) ?_
          refine va_get (D := (dC, dI)) (ci := 5) (v := .ref (ad 1)) (C := RX5) (T := TX5) (N := 5) hx hb hts hiX5 hown hK.1 hP 0 rfl rfl 3 (by decide) (hts (.fieldLink RX5 35 "CellDays" "cases" "LCellDays$Cases;") (by decide +kernel)) (fun _ h9 => h9) rfl dX5_field_61 ?_
          refine cd_rV (As := []) (b := (ad 1)) (ci := 0) (q := (RX0, TX0, 8)) (rest := []) ⟨hx, hb, hml, hown, hts⟩ (kX0_isOdd l dC dI cI cQ cZ ad ((sX0_gatherAgreeing ag sh wa pl rm lk br row dn dy lv od sn pd).1) lo ch al ((sX0_gatherAgreeing ag sh wa pl rm lk br row dn dy lv od sn pd).2) sh wa pl rm lk br row dn dy lv od sn L pd gather_le') (cwV 0 hts gX5_field_X0_isOdd rfl rfl rfl (by decide +kernel) ⟨by decide, by decide⟩) hK (hP.part (cx := wKx cI cQ ad ((sX0_gatherAgreeing ag sh wa pl rm lk br row dn dy lv od sn pd).1) lo ch al ((sX0_gatherAgreeing ag sh wa pl rm lk br row dn dy lv od sn pd).2) sh wa pl rm lk br row dn dy lv od sn) [1, 2, 3, 4, 5, 6, 7, 8, 9, 10, 11, 12, 13, 14] rfl) rfl rfl rfl hl.1 rfl (Nat.le_of_ble_eq_true rfl) dX5_field_64 ⟨by decide, by decide⟩ ?_
          refine lv_if_eq (tgt := 74) hx hb dX5_field_67 (by decide) (fun c_5 => ?_) (fun c_5 => ?_)
          · rw [if_pos c_5] at hex
            refine lv_iconst (v := 0) hx hb dX5_field_74 (by decide) ?_
            subst hex
            exact hret _ _ _ _ dX5_field_75 hP hD hS
          · rw [if_neg c_5] at hex
            refine lv_iconst (v := 1) hx hb dX5_field_70 (by decide) ?_
            refine lv_goto (tgt := 75) hx hb dX5_field_71 (by decide) ?_
            subst hex
            exact hret _ _ _ _ dX5_field_75 hP hD hS
        · rw [if_neg c_4] at hex
          refine lv_tableOut (tgt := 76) hx hb dX5_field_19 (by have z0 := lv_neT c_2 (a := 0) (by decide); have z1 := lv_neT c_3 (a := 1) (by decide); have z2 := lv_neT c_4 (a := 2) (by decide); omega) (by decide) ?_
          refine lv_aload_n hx hb dX5_field_76 rfl (lv_at hl 0 rfl) ?_
          refine va_get (D := (dC, dI)) (ci := 5) (v := .ref (ad 1)) (C := RX5) (T := TX5) (N := 5) hx hb hts hiX5 hown hK.1 hP 0 rfl rfl 3 (by decide) (hts (.fieldLink RX5 35 "CellDays" "cases" "LCellDays$Cases;") (by decide +kernel)) (fun _ h9 => h9) rfl dX5_field_77 ?_
          have hDc : va_D A (wKx cI cQ ad ((sX0_gatherAgreeing ag sh wa pl rm lk br row dn dy lv od sn pd).1) lo ch al ((sX0_gatherAgreeing ag sh wa pl rm lk br row dn dy lv od sn pd).2) sh wa pl rm lk br row dn dy lv od sn ++ dpl L pd) := (hD.part (cx := wKx cI cQ ad ((sX0_gatherAgreeing ag sh wa pl rm lk br row dn dy lv od sn pd).1) lo ch al ((sX0_gatherAgreeing ag sh wa pl rm lk br row dn dy lv od sn pd).2) sh wa pl rm lk br row dn dy lv od sn) [1, 2, 3, 4, 5, 6, 7, 8, 9, 10, 11, 12, 13, 14] (by decide) rfl)
          have hFc := cd_F hDc hS hA
          refine cd_wV (As := []) (b := (ad 1)) (ci := 0) (q := (RX0, TX0, 8)) (rest := []) ⟨hx, hb, hml, hown, hts⟩ (kX0_dayThatTellsMost l dC dI cI cQ cZ ad ((sX0_gatherAgreeing ag sh wa pl rm lk br row dn dy lv od sn pd).1) lo ch al ((sX0_gatherAgreeing ag sh wa pl rm lk br row dn dy lv od sn pd).2) sh wa pl rm lk br row dn dy lv od sn L pd H.size hdn hrw gather_le') (cwV 0 hts gX5_field_X0_dayThatTellsMost rfl rfl rfl (by decide +kernel) ⟨by decide, by decide⟩) hK (hP.part (cx := wKx cI cQ ad ((sX0_gatherAgreeing ag sh wa pl rm lk br row dn dy lv od sn pd).1) lo ch al ((sX0_gatherAgreeing ag sh wa pl rm lk br row dn dy lv od sn pd).2) sh wa pl rm lk br row dn dy lv od sn) [1, 2, 3, 4, 5, 6, 7, 8, 9, 10, 11, 12, 13, 14] rfl) hDc hFc hS rfl rfl rfl hl.1 rfl (Nat.le_of_ble_eq_true rfl) dX5_field_80 ⟨by decide, by decide⟩ (fun H1 locs hP1 hD1 hk1 hS => ?_)
          obtain ⟨hP, hD⟩ := va_joinP (X := wCx cI cQ ad tq ((sX0_gatherAgreeing ag sh wa pl rm lk br row dn dy lv od sn pd).1) lo ch al ((sX0_gatherAgreeing ag sh wa pl rm lk br row dn dy lv od sn pd).2) sh wa pl rm lk br row dn dy lv od sn) (cx := wKx cI cQ ad ((sX0_gatherAgreeing ag sh wa pl rm lk br row dn dy lv od sn pd).1) lo ch al ((sX0_gatherAgreeing ag sh wa pl rm lk br row dn dy lv od sn pd).2) sh wa pl rm lk br row dn dy lv od sn) (wr := [(ad 0, .inr (5, [.ref (ad 6), .ref (ad 9), .ref (ad 11), .ref (ad 1), .long tq]))]) (rx := wKx cI cQ ad ((sX0_gatherAgreeing ag sh wa pl rm lk br row dn dy lv od sn pd).1) ((sX0_dayThatTellsMost ((sX0_gatherAgreeing ag sh wa pl rm lk br row dn dy lv od sn pd).1) lo ch al ((sX0_gatherAgreeing ag sh wa pl rm lk br row dn dy lv od sn pd).2) sh wa pl rm lk br row dn pd).2.1) ((sX0_dayThatTellsMost ((sX0_gatherAgreeing ag sh wa pl rm lk br row dn dy lv od sn pd).1) lo ch al ((sX0_gatherAgreeing ag sh wa pl rm lk br row dn dy lv od sn pd).2) sh wa pl rm lk br row dn pd).2.2.1) ((sX0_dayThatTellsMost ((sX0_gatherAgreeing ag sh wa pl rm lk br row dn dy lv od sn pd).1) lo ch al ((sX0_gatherAgreeing ag sh wa pl rm lk br row dn dy lv od sn pd).2) sh wa pl rm lk br row dn pd).2.2.2) ((sX0_gatherAgreeing ag sh wa pl rm lk br row dn dy lv od sn pd).2) sh wa pl rm lk br row dn dy lv od sn) hP hD [1, 2, 3, 4, 5, 6, 7, 8, 9, 10, 11, 12, 13, 14] [0] rfl rfl (by decide) (by decide) hk1 hFc hP1 hD1
          have hP := hP.part (cx := wCx cI cQ ad tq ((sX0_gatherAgreeing ag sh wa pl rm lk br row dn dy lv od sn pd).1) ((sX0_dayThatTellsMost ((sX0_gatherAgreeing ag sh wa pl rm lk br row dn dy lv od sn pd).1) lo ch al ((sX0_gatherAgreeing ag sh wa pl rm lk br row dn dy lv od sn pd).2) sh wa pl rm lk br row dn pd).2.1) ((sX0_dayThatTellsMost ((sX0_gatherAgreeing ag sh wa pl rm lk br row dn dy lv od sn pd).1) lo ch al ((sX0_gatherAgreeing ag sh wa pl rm lk br row dn dy lv od sn pd).2) sh wa pl rm lk br row dn pd).2.2.1) ((sX0_dayThatTellsMost ((sX0_gatherAgreeing ag sh wa pl rm lk br row dn dy lv od sn pd).1) lo ch al ((sX0_gatherAgreeing ag sh wa pl rm lk br row dn dy lv od sn pd).2) sh wa pl rm lk br row dn pd).2.2.2) ((sX0_gatherAgreeing ag sh wa pl rm lk br row dn dy lv od sn pd).2) sh wa pl rm lk br row dn dy lv od sn) [0, 1, 2, 3, 4, 5, 6, 7, 8, 9, 10, 11, 12, 13, 14] rfl
          have hD := hD.part (cx := wCx cI cQ ad tq ((sX0_gatherAgreeing ag sh wa pl rm lk br row dn dy lv od sn pd).1) ((sX0_dayThatTellsMost ((sX0_gatherAgreeing ag sh wa pl rm lk br row dn dy lv od sn pd).1) lo ch al ((sX0_gatherAgreeing ag sh wa pl rm lk br row dn dy lv od sn pd).2) sh wa pl rm lk br row dn pd).2.1) ((sX0_dayThatTellsMost ((sX0_gatherAgreeing ag sh wa pl rm lk br row dn dy lv od sn pd).1) lo ch al ((sX0_gatherAgreeing ag sh wa pl rm lk br row dn dy lv od sn pd).2) sh wa pl rm lk br row dn pd).2.2.1) ((sX0_dayThatTellsMost ((sX0_gatherAgreeing ag sh wa pl rm lk br row dn dy lv od sn pd).1) lo ch al ((sX0_gatherAgreeing ag sh wa pl rm lk br row dn dy lv od sn pd).2) sh wa pl rm lk br row dn pd).2.2.2) ((sX0_gatherAgreeing ag sh wa pl rm lk br row dn dy lv od sn pd).2) sh wa pl rm lk br row dn dy lv od sn) [0, 1, 2, 3, 4, 5, 6, 7, 8, 9, 10, 11, 12, 13, 14] (by decide) rfl
          generalize H1 = H at hP hS ⊢
          have hP : va_P (dC, dI) vwCl (wCx cI cQ ad tq ((sX0_gatherAgreeing ag sh wa pl rm lk br row dn dy lv od sn pd).1) ((sX0_dayThatTellsMost ((sX0_gatherAgreeing ag sh wa pl rm lk br row dn dy lv od sn pd).1) lo ch al ((sX0_gatherAgreeing ag sh wa pl rm lk br row dn dy lv od sn pd).2) sh wa pl rm lk br row dn pd).2.1) ((sX0_dayThatTellsMost ((sX0_gatherAgreeing ag sh wa pl rm lk br row dn dy lv od sn pd).1) lo ch al ((sX0_gatherAgreeing ag sh wa pl rm lk br row dn dy lv od sn pd).2) sh wa pl rm lk br row dn pd).2.2.1) ((sX0_dayThatTellsMost ((sX0_gatherAgreeing ag sh wa pl rm lk br row dn dy lv od sn pd).1) lo ch al ((sX0_gatherAgreeing ag sh wa pl rm lk br row dn dy lv od sn pd).2) sh wa pl rm lk br row dn pd).2.2.2) ((sX0_gatherAgreeing ag sh wa pl rm lk br row dn dy lv od sn pd).2) sh wa pl rm lk br row dn dy lv od sn ++ dpl L pd) H := hP
          have hD : va_D A (wCx cI cQ ad tq ((sX0_gatherAgreeing ag sh wa pl rm lk br row dn dy lv od sn pd).1) ((sX0_dayThatTellsMost ((sX0_gatherAgreeing ag sh wa pl rm lk br row dn dy lv od sn pd).1) lo ch al ((sX0_gatherAgreeing ag sh wa pl rm lk br row dn dy lv od sn pd).2) sh wa pl rm lk br row dn pd).2.1) ((sX0_dayThatTellsMost ((sX0_gatherAgreeing ag sh wa pl rm lk br row dn dy lv od sn pd).1) lo ch al ((sX0_gatherAgreeing ag sh wa pl rm lk br row dn dy lv od sn pd).2) sh wa pl rm lk br row dn pd).2.2.1) ((sX0_dayThatTellsMost ((sX0_gatherAgreeing ag sh wa pl rm lk br row dn dy lv od sn pd).1) lo ch al ((sX0_gatherAgreeing ag sh wa pl rm lk br row dn dy lv od sn pd).2) sh wa pl rm lk br row dn pd).2.2.2) ((sX0_gatherAgreeing ag sh wa pl rm lk br row dn dy lv od sn pd).2) sh wa pl rm lk br row dn dy lv od sn ++ dpl L pd) := hD
          subst hex
          exact hret _ _ _ _ dX5_field_83 hP hD hS
  · rw [if_pos c_1] at hex
    refine lv_iconst (v := (-1)) hx hb dX5_field_9 (by decide) ?_
    subst hex
    exact hret _ _ _ _ dX5_field_10 hP hD hS

def rX5_count : Room := { frames := 2, cells := 0, slots := 0, locals := 44 }
def sX5_count (rm : Int32) (lk : Int32) (br : Int32) (row : Nat → Option Nat) (dn : Nat) (sn : Nat) (pd : Nat → DT) (wh : Int32) : Int32 := (if wh = 0 then (nI dn) else (if wh = 1 then (sJ6_bitCount_0f7a4 (sX2_setOfOn row dn pd)) else (if wh = 2 then (nI sn) else (if wh = 3 then rm else (if wh = 4 then lk else (if wh = 5 then br else (-1)))))))
set_option maxHeartbeats 4000000 in
set_option maxRecDepth 100000 in
theorem kX5_count (l : Launch) (dC : Nat → ClassId) (dI : Nat → Nat → Nat) (cI cQ cZ : ClassId) (ad : Nat → Nat) (tq : Int64) (ag : Nat → Int32) (lo : Nat → Int32) (ch : Nat → Int32) (al : Nat → Int32) (an : Nat) (sh : Nat → Int32) (wa : Nat → Int32) (pl : Int32) (rm : Int32) (lk : Int32) (br : Int32) (row : Nat → Option Nat) (dn : Nat) (dy : Nat → Int32) (lv : Nat → Int32) (od : Nat → Int32) (sn : Nat) (L : List Nat) (pd : Nat → DT) (wh : Int32) (hdn : dn ≤ 8) (hrw : ∀ j y, row j = some y → y ∈ L) : Met l yX5_count wsX5_count rX5_count (va_Pc [.ref (ad 0), .int wh] (cd_rp dC dI cI cQ cZ (wCx cI cQ ad tq ag lo ch al an sh wa pl rm lk br row dn dy lv od sn ++ dpl L pd))) (vp_Si (fun r => r = sX5_count rm lk br row dn sn pd wh)) 0 0 (fun _ => False) := by
  have hiX1 : ∀ w ∈ u_ws RX1 TX1 6, w ∈ wsX5_count := by decide +kernel
  have hiX2 : ∀ w ∈ u_ws RX2 TX2 2, w ∈ wsX5_count := by decide +kernel
  have hiX4 : ∀ w ∈ u_ws RX4 TX4 4, w ∈ wsX5_count := by decide +kernel
  have hiX5 : ∀ w ∈ u_ws RX5 TX5 5, w ∈ wsX5_count := by decide +kernel
  generalize hex : sX5_count rm lk br row dn sn pd wh = ex
  unfold sX5_count at hex
  refine cd_mRi [.ref (ad 0), .int wh] (by decide) rfl (Nat.le_of_ble_eq_true rfl) ?_
  intro Q p e s m args below meth c ls hx hb hml hown hts hret ⟨hK, hP⟩ hl
  have hl : lv_has ls 2 [(0, .ref (ad 0)), (1, .int wh)] := hl
  refine lv_iload_n hx hb dX5_count_0 rfl (lv_at hl 1 rfl) ?_
  by_cases c_1 : wh = 0
  · rw [if_pos c_1] at hex
    refine lv_tableIn (tgt := 40) hx hb dX5_count_1 (off := 39) (by rw [c_1] <;> decide) (by rw [c_1] <;> decide) (by rw [c_1] <;> decide +kernel) (by decide) ?_
    refine lv_aload_n hx hb dX5_count_40 rfl (lv_at hl 0 rfl) ?_
    refine va_get (D := (dC, dI)) (ci := 5) (v := .ref (ad 9)) (C := RX5) (T := TX5) (N := 5) hx hb hts hiX5 hown hK.1 hP 0 rfl rfl 1 (by decide) (hts (.fieldLink RX5 19 "CellDays" "duties" "LCellDays$Duties;") (by decide +kernel)) (fun _ h9 => h9) rfl dX5_count_41 ?_
    refine va_getN (D := (dC, dI)) (ci := 2) (v := .int (nI dn)) (C := RX2) (T := TX2) (N := 2) hx hb hts hiX2 hown hK.1 hP 9 rfl rfl 1 (by decide) (va_Nw.use rfl (hK.2.1 (.fieldLinkNest RX5 99 RX2 "size" "I" RX5) (by decide +kernel))) (fun _ h9 => h9) rfl dX5_count_44 ?_
    subst hex
    exact hret _ _ dX5_count_47
  · rw [if_neg c_1] at hex
    by_cases c_2 : wh = 1
    · rw [if_pos c_2] at hex
      refine lv_tableIn (tgt := 48) hx hb dX5_count_1 (off := 47) (by rw [c_2] <;> decide) (by rw [c_2] <;> decide) (by rw [c_2] <;> decide +kernel) (by decide) ?_
      refine lv_aload_n hx hb dX5_count_48 rfl (lv_at hl 0 rfl) ?_
      refine va_get (D := (dC, dI)) (ci := 5) (v := .ref (ad 9)) (C := RX5) (T := TX5) (N := 5) hx hb hts hiX5 hown hK.1 hP 0 rfl rfl 1 (by decide) (hts (.fieldLink RX5 19 "CellDays" "duties" "LCellDays$Duties;") (by decide +kernel)) (fun _ h9 => h9) rfl dX5_count_49 ?_
      refine cd_rV (As := []) (b := (ad 9)) (ci := 2) (q := (RX2, TX2, 2)) (rest := []) ⟨hx, hb, hml, hown, hts⟩ (kX2_setOfOn l dC dI cI cQ cZ (ad 9) (ad 10) row dn L pd hdn hrw) (cwV 0 hts gX5_count_X2_setOfOn rfl rfl rfl (by decide +kernel) ⟨by decide, by decide⟩) hK (hP.part (cx := wDs cQ (ad 9) (ad 10) row dn) [9, 10] rfl) rfl rfl rfl hl.1 rfl (Nat.le_of_ble_eq_true rfl) dX5_count_52 ⟨by decide, by decide⟩ ?_
      refine cd_rS (As := [.int (sX2_setOfOn row dn pd)]) (rest := []) ⟨hx, hb, hml, hown, hts⟩ (kJ6_bitCount_0f7a4 l dC dI cI cQ cZ (sX2_setOfOn row dn pd)) (va_cwS 1 hts gX5_count_J6_bitCount_0f7a4 rfl rfl rfl (by decide +kernel) ⟨by decide, by decide⟩) hK cd_P0 rfl hl.1 rfl (Nat.le_of_ble_eq_true rfl) dX5_count_55 ⟨by decide, by decide⟩ ?_
      subst hex
      exact hret _ _ dX5_count_58
    · rw [if_neg c_2] at hex
      by_cases c_3 : wh = 2
      · rw [if_pos c_3] at hex
        refine lv_tableIn (tgt := 59) hx hb dX5_count_1 (off := 58) (by rw [c_3] <;> decide) (by rw [c_3] <;> decide) (by rw [c_3] <;> decide +kernel) (by decide) ?_
        refine lv_aload_n hx hb dX5_count_59 rfl (lv_at hl 0 rfl) ?_
        refine va_get (D := (dC, dI)) (ci := 5) (v := .ref (ad 11)) (C := RX5) (T := TX5) (N := 5) hx hb hts hiX5 hown hK.1 hP 0 rfl rfl 2 (by decide) (hts (.fieldLink RX5 26 "CellDays" "signs" "LCellDays$Signs;") (by decide +kernel)) (fun _ h9 => h9) rfl dX5_count_60 ?_
        refine va_getN (D := (dC, dI)) (ci := 4) (v := .int (nI sn)) (C := RX4) (T := TX4) (N := 4) hx hb hts hiX4 hown hK.1 hP 11 rfl rfl 3 (by decide) (va_Nw.use rfl (hK.2.1 (.fieldLinkNest RX5 153 RX4 "size" "I" RX5) (by decide +kernel))) (fun _ h9 => h9) rfl dX5_count_63 ?_
        subst hex
        exact hret _ _ dX5_count_66
      · rw [if_neg c_3] at hex
        by_cases c_4 : wh = 3
        · rw [if_pos c_4] at hex
          refine lv_tableIn (tgt := 67) hx hb dX5_count_1 (off := 66) (by rw [c_4] <;> decide) (by rw [c_4] <;> decide) (by rw [c_4] <;> decide +kernel) (by decide) ?_
          refine lv_aload_n hx hb dX5_count_67 rfl (lv_at hl 0 rfl) ?_
          refine va_get (D := (dC, dI)) (ci := 5) (v := .ref (ad 6)) (C := RX5) (T := TX5) (N := 5) hx hb hts hiX5 hown hK.1 hP 0 rfl rfl 0 (by decide) (hts (.fieldLink RX5 10 "CellDays" "cell" "LCellDays$Cell;") (by decide +kernel)) (fun _ h9 => h9) rfl dX5_count_68 ?_
          refine va_getN (D := (dC, dI)) (ci := 1) (v := .int rm) (C := RX1) (T := TX1) (N := 6) hx hb hts hiX1 hown hK.1 hP 6 rfl rfl 3 (by decide) (va_Nw.use rfl (hK.2.1 (.fieldLinkNest RX5 184 RX1 "room" "I" RX5) (by decide +kernel))) (fun _ h9 => h9) rfl dX5_count_71 ?_
          subst hex
          exact hret _ _ dX5_count_74
        · rw [if_neg c_4] at hex
          by_cases c_5 : wh = 4
          · rw [if_pos c_5] at hex
            refine lv_tableIn (tgt := 75) hx hb dX5_count_1 (off := 74) (by rw [c_5] <;> decide) (by rw [c_5] <;> decide) (by rw [c_5] <;> decide +kernel) (by decide) ?_
            refine lv_aload_n hx hb dX5_count_75 rfl (lv_at hl 0 rfl) ?_
            refine va_get (D := (dC, dI)) (ci := 5) (v := .ref (ad 6)) (C := RX5) (T := TX5) (N := 5) hx hb hts hiX5 hown hK.1 hP 0 rfl rfl 0 (by decide) (hts (.fieldLink RX5 10 "CellDays" "cell" "LCellDays$Cell;") (by decide +kernel)) (fun _ h9 => h9) rfl dX5_count_76 ?_
            refine va_getN (D := (dC, dI)) (ci := 1) (v := .int lk) (C := RX1) (T := TX1) (N := 6) hx hb hts hiX1 hown hK.1 hP 6 rfl rfl 4 (by decide) (va_Nw.use rfl (hK.2.1 (.fieldLinkNest RX5 130 RX1 "leak" "I" RX5) (by decide +kernel))) (fun _ h9 => h9) rfl dX5_count_79 ?_
            subst hex
            exact hret _ _ dX5_count_82
          · rw [if_neg c_5] at hex
            by_cases c_6 : wh = 5
            · rw [if_pos c_6] at hex
              refine lv_tableIn (tgt := 83) hx hb dX5_count_1 (off := 82) (by rw [c_6] <;> decide) (by rw [c_6] <;> decide) (by rw [c_6] <;> decide +kernel) (by decide) ?_
              refine lv_aload_n hx hb dX5_count_83 rfl (lv_at hl 0 rfl) ?_
              refine va_get (D := (dC, dI)) (ci := 5) (v := .ref (ad 6)) (C := RX5) (T := TX5) (N := 5) hx hb hts hiX5 hown hK.1 hP 0 rfl rfl 0 (by decide) (hts (.fieldLink RX5 10 "CellDays" "cell" "LCellDays$Cell;") (by decide +kernel)) (fun _ h9 => h9) rfl dX5_count_84 ?_
              refine va_getN (D := (dC, dI)) (ci := 1) (v := .int br) (C := RX1) (T := TX1) (N := 6) hx hb hts hiX1 hown hK.1 hP 6 rfl rfl 5 (by decide) (va_Nw.use rfl (hK.2.1 (.fieldLinkNest RX5 113 RX1 "bar" "I" RX5) (by decide +kernel))) (fun _ h9 => h9) rfl dX5_count_87 ?_
              subst hex
              exact hret _ _ dX5_count_90
            · rw [if_neg c_6] at hex
              refine lv_tableOut (tgt := 91) hx hb dX5_count_1 (by have z0 := lv_neT c_1 (a := 0) (by decide); have z1 := lv_neT c_2 (a := 1) (by decide); have z2 := lv_neT c_3 (a := 2) (by decide); have z3 := lv_neT c_4 (a := 3) (by decide); have z4 := lv_neT c_5 (a := 4) (by decide); have z5 := lv_neT c_6 (a := 5) (by decide); omega) (by decide) ?_
              refine lv_iconst (v := (-1)) hx hb dX5_count_91 (by decide) ?_
              subst hex
              exact hret _ _ dX5_count_92

def rX5_trace : Room := { frames := 0, cells := 0, slots := 0, locals := 0 }
def sX5_trace (tq : Int64) : Int64 := tq
set_option maxHeartbeats 4000000 in
set_option maxRecDepth 100000 in
theorem kX5_trace (l : Launch) (dC : Nat → ClassId) (dI : Nat → Nat → Nat) (cI cQ cZ : ClassId) (ad : Nat → Nat) (tq : Int64) (ag : Nat → Int32) (lo : Nat → Int32) (ch : Nat → Int32) (al : Nat → Int32) (an : Nat) (sh : Nat → Int32) (wa : Nat → Int32) (pl : Int32) (rm : Int32) (lk : Int32) (br : Int32) (row : Nat → Option Nat) (dn : Nat) (dy : Nat → Int32) (lv : Nat → Int32) (od : Nat → Int32) (sn : Nat) (L : List Nat) (pd : Nat → DT) : Met l yX5_trace wsX5_trace rX5_trace (va_Pc [.ref (ad 0)] (cd_rp dC dI cI cQ cZ (wCx cI cQ ad tq ag lo ch al an sh wa pl rm lk br row dn dy lv od sn ++ dpl L pd))) (vp_Sl (fun r => r = sX5_trace tq)) 0 0 (fun _ => False) := by
  have hiX5 : ∀ w ∈ u_ws RX5 TX5 5, w ∈ wsX5_trace := by decide +kernel
  generalize hex : sX5_trace tq = ex
  unfold sX5_trace at hex
  refine cd_mRl [.ref (ad 0)] (by decide) rfl (Nat.le_of_ble_eq_true rfl) ?_
  intro Q p e s m args below meth c ls hx hb hml hown hts hret ⟨hK, hP⟩ hl
  have hl : lv_has ls 1 [(0, .ref (ad 0))] := hl
  refine lv_aload_n hx hb dX5_trace_0 rfl (lv_at hl 0 rfl) ?_
  refine va_get (D := (dC, dI)) (ci := 5) (v := .long tq) (C := RX5) (T := TX5) (N := 5) hx hb hts hiX5 hown hK.1 hP 0 rfl rfl 4 (by decide) (hts (.fieldLink RX5 39 "CellDays" "asked" "J") (by decide +kernel)) (fun _ h9 => h9) rfl dX5_trace_1 ?_
  subst hex
  exact hret _ _ dX5_trace_4
