/-! the law's loop. Mine. -/
section LL
variable {p : Program} {l : Launch} {e : Env} {s : State} {m : MethodId} {below : List Frame} {meth : Method} {c : Code} {Q : State → Prop} {b L i : Nat} {xs : Nat → Int32} {A : Nat → Prop} {dC : Nat → ClassId} {dI : Nat → Nat → Nat} {cI cP cL : ClassId} {qL qG qo a0 : Nat} {aN aT aS : Nat → Nat} {t0 t1 t2 h0 h1 : Nat} {pa : Nat → Nat → Nat} {o q0 q1 : Nat}
variable {fo : Nat → Int64} {PN PT PS : PV} {f : Nat → Int32} {u : Int32} {Ps : Nat → PV} {oh vh : Nat} {k : Int32} {F x M : Nat → Int32} {h : Int64} {H : Heap} {locs : List Loc} {ls : Array Slot} {cells slots : Nat}

theorem law_head (C : LBd p s m c b L xs A dC dI cI cP cL qL qG) (hS : va_S A s.heap H locs) (hl : lv_has ls 9 [(0, .ref b), (1, .ref a0), (2, .ref o), (3, .ref qo), (4, .int (nI i))]) (hi : i ≤ 2048) (hL : L ≤ 2048) (k1 : ¬ i + 4 ≤ L → W p l e room_1 s m #[Value.ref b] below meth c H locs cells slots Q (F0 m 1857 ls [])) (k2 : i + 4 ≤ L → W p l e room_1 s m #[Value.ref b] below meth c H locs cells slots Q (F0 m 32 ls [])) : W p l e room_1 s m #[Value.ref b] below meth c H locs cells slots Q (F0 m 23 ls []) := by
  obtain ⟨hx, hb, hml, hown, hts, hX, hbl, hbA, hA, hK, hn, hXo, hN, hT⟩ := C
  refine lv_iload hx hb dL_law_23 (lv_at hl 4 rfl) ?_
  refine lv_aload_n hx hb dL_law_25 rfl (lv_at hl 0 rfl) ?_
  refine va_slen hx hb hX hbl hbA hS dL_law_26 ?_
  refine lv_iconst (v := nI 4) hx hb dL_law_27 rfl ?_
  refine lv_isub hx hb dL_law_28 ?_
  have e1 : (nI L - nI 4).toInt = (L : Int) - 4 := pk_sub_toInt (by omega) (by decide)
  refine lv_icmp_gt (tgt := 1857) hx hb dL_law_29 (by decide) (fun c9 => k1 ?_) (fun c9 => k2 ?_)
  · have c9 : nI L - nI 4 < nI i := c9
    rw [Int32.lt_iff_toInt_lt, e1, nI_toInt (by omega)] at c9
    omega
  · have c9 : ¬ nI L - nI 4 < nI i := c9
    rw [Int32.lt_iff_toInt_lt, e1, nI_toInt (by omega)] at c9
    omega
set_option maxHeartbeats 4000000 in
theorem law_case (hst : l.stackTraces = false) (C : LBd p s m c b L xs A dC dI cI cP cL qL qG) (hI : LI PN PS Ps oh vh k F M f u x) (hi : i + 4 ≤ L) (hL : L ≤ 2048) (hP : va_P (dC, dI) vwCl (fl [outW cL qo fo, fW cI cP a0 aN aT aS t0 t1 t2 h0 h1 pa PN PT PS f u Ps oh vh k, mW cI o q0 q1 F x M h]) H) (hD : va_D A (fl [outW cL qo fo, fW cI cP a0 aN aT aS t0 t1 t2 h0 h1 pa PN PT PS f u Ps oh vh k, mW cI o q0 q1 F x M h])) (hS : va_S A s.heap H locs) (hl : lv_has ls 9 [(0, .ref b), (1, .ref a0), (2, .ref o), (3, .ref qo), (4, .int (nI i))]) (hc : cells + 3 ≤ 601024) (hs : slots + 18 ≤ 7293034) (kk : NX p l e s m below meth c Q b i A dC dI cI cP cL qo a0 aN aT aS t0 t1 t2 h0 h1 pa o q0 q1 (cells + 3) (slots + 18)) : W p l e room_1 s m #[Value.ref b] below meth c H locs cells slots Q (F0 m 32 ls []) := by
  have C0 := C
  obtain ⟨hx, hb, hml, hown, hts, hX, hbl, hbA, hA, hK, hn, hXo, hN, hT⟩ := C
  refine lv_aload_n hx hb dL_law_32 rfl (lv_at hl 0 rfl) ?_
  refine lv_iload hx hb dL_law_33 (lv_at hl 4 rfl) ?_
  refine va_sld hx hb hX hbl hbA hS (vp_in_nI (show i < L by omega) (by omega)) dL_law_35 ?_
  refine lv_bipush (v := 31) hx hb dL_law_36 (by decide) ?_
  refine lv_iand hx hb dL_law_38 ?_
  obtain ⟨j, hj, ej⟩ := pk_andE (xs (nI i).toNatClampNeg) (m := 31) 5 (by decide)
  rw [ej]
  have hj : j < 32 := hj
  rcases (show j = 0 ∨ j = 1 ∨ j = 2 ∨ j = 3 ∨ j = 4 ∨ j = 5 ∨ j = 6 ∨ j = 7 ∨ j = 8 ∨ j = 9 ∨ j = 10 ∨ j = 11 ∨ j = 12 ∨ j = 13 ∨ j = 14 ∨ j = 15 ∨ j = 16 ∨ j = 17 ∨ j = 18 ∨ j = 19 ∨ j = 20 ∨ j = 21 ∨ j = 22 ∨ j = 23 ∨ j = 24 ∨ j = 25 ∨ j = 26 ∨ j = 27 ∨ j = 28 ∨ j = 29 ∨ j = 30 ∨ j = 31 by omega) with rfl | rfl | rfl | rfl | rfl | rfl | rfl | rfl | rfl | rfl | rfl | rfl | rfl | rfl | rfl | rfl | rfl | rfl | rfl | rfl | rfl | rfl | rfl | rfl | rfl | rfl | rfl | rfl | rfl | rfl | rfl | rfl
  · exact lv_tableIn (off := 137) (tgt := 176) hx hb dL_law_39 (by decide) (by decide) (by decide) (by decide) (lc_guest hst C0 hI hi hL hP hD hS hl hc hs kk)
  · exact lv_tableIn (off := 205) (tgt := 244) hx hb dL_law_39 (by decide) (by decide) (by decide) (by decide) (lc_wish hst C0 hI hi hL hP hD hS hl hc hs kk)
  · exact lv_tableIn (off := 273) (tgt := 312) hx hb dL_law_39 (by decide) (by decide) (by decide) (by decide) (lc_table hst C0 hI hi hL hP hD hS hl hc hs kk)
  · exact lv_tableIn (off := 329) (tgt := 368) hx hb dL_law_39 (by decide) (by decide) (by decide) (by decide) (lc_feud hst C0 hI hi hL hP hD hS hl hc hs kk)
  · exact lv_tableIn (off := 397) (tgt := 436) hx hb dL_law_39 (by decide) (by decide) (by decide) (by decide) (lc_peace hst C0 hI hi hL hP hD hS hl hc hs kk)
  · exact lv_tableIn (off := 465) (tgt := 504) hx hb dL_law_39 (by decide) (by decide) (by decide) (by decide) (lc_set hst C0 hI hi hL hP hD hS hl hc hs kk)
  · exact lv_tableIn (off := 533) (tgt := 572) hx hb dL_law_39 (by decide) (by decide) (by decide) (by decide) (lc_sit hst C0 hI hi hL hP hD hS hl hc hs kk)
  · exact lv_tableIn (off := 613) (tgt := 652) hx hb dL_law_39 (by decide) (by decide) (by decide) (by decide) (lc_rise hst C0 hI hi hL hP hD hS hl hc hs kk)
  · exact lv_tableIn (off := 669) (tgt := 708) hx hb dL_law_39 (by decide) (by decide) (by decide) (by decide) (lc_swap hst C0 hI hi hL hP hD hS hl hc hs kk)
  · exact lv_tableIn (off := 737) (tgt := 776) hx hb dL_law_39 (by decide) (by decide) (by decide) (by decide) (lc_seatAll hst C0 hI hi hL hP hD hS hl hc hs kk)
  · exact lv_tableIn (off := 750) (tgt := 789) hx hb dL_law_39 (by decide) (by decide) (by decide) (by decide) (lc_append hst C0 hI hi hL hP hD hS hl hc hs kk)
  · exact lv_tableIn (off := 806) (tgt := 845) hx hb dL_law_39 (by decide) (by decide) (by decide) (by decide) (lc_clearBuffer hst C0 hI hi hL hP hD hS hl hc hs kk)
  · exact lv_tableIn (off := 819) (tgt := 858) hx hb dL_law_39 (by decide) (by decide) (by decide) (by decide) (lc_firstError hst C0 hI hi hL hP hD hS hl hc hs kk)
  · exact lv_tableIn (off := 832) (tgt := 871) hx hb dL_law_39 (by decide) (by decide) (by decide) (by decide) (lc_seats hst C0 hI hi hL hP hD hS hl hc hs kk)
  · exact lv_tableIn (off := 876) (tgt := 915) hx hb dL_law_39 (by decide) (by decide) (by decide) (by decide) (lc_told hst C0 hI hi hL hP hD hS hl hc hs kk)
  · exact lv_tableIn (off := 944) (tgt := 983) hx hb dL_law_39 (by decide) (by decide) (by decide) (by decide) (lc_undo hst C0 hI hi hL hP hD hS hl hc hs kk)
  · exact lv_tableIn (off := 988) (tgt := 1027) hx hb dL_law_39 (by decide) (by decide) (by decide) (by decide) (lc_keep hst C0 hI hi hL hP hD hS hl hc hs kk)
  · exact lv_tableIn (off := 1001) (tgt := 1040) hx hb dL_law_39 (by decide) (by decide) (by decide) (by decide) (lc_restore hst C0 hI hi hL hP hD hS hl hc hs kk)
  · exact lv_tableIn (off := 1045) (tgt := 1084) hx hb dL_law_39 (by decide) (by decide) (by decide) (by decide) (lc_guestOf hst C0 hI hi hL hP hD hS hl hc hs kk)
  · exact lv_tableIn (off := 1113) (tgt := 1152) hx hb dL_law_39 (by decide) (by decide) (by decide) (by decide) (lc_tableOf hst C0 hI hi hL hP hD hS hl hc hs kk)
  · exact lv_tableIn (off := 1181) (tgt := 1220) hx hb dL_law_39 (by decide) (by decide) (by decide) (by decide) (lc_who hst C0 hI hi hL hP hD hS hl hc hs kk)
  · exact lv_tableIn (off := 1249) (tgt := 1288) hx hb dL_law_39 (by decide) (by decide) (by decide) (by decide) (lc_seated hst C0 hI hi hL hP hD hS hl hc hs kk)
  · exact lv_tableIn (off := 1305) (tgt := 1344) hx hb dL_law_39 (by decide) (by decide) (by decide) (by decide) (lc_feudAt hst C0 hI hi hL hP hD hS hl hc hs kk)
  · exact lv_tableIn (off := 1361) (tgt := 1400) hx hb dL_law_39 (by decide) (by decide) (by decide) (by decide) (lc_count hst C0 hI hi hL hP hD hS hl hc hs kk)
  · exact lv_tableIn (off := 1417) (tgt := 1456) hx hb dL_law_39 (by decide) (by decide) (by decide) (by decide) (lc_whyNot hst C0 hI hi hL hP hD hS hl hc hs kk)
  · exact lv_tableIn (off := 1497) (tgt := 1536) hx hb dL_law_39 (by decide) (by decide) (by decide) (by decide) (lc_ifSat hst C0 hI hi hL hP hD hS hl hc hs kk)
  · exact lv_tableIn (off := 1577) (tgt := 1616) hx hb dL_law_39 (by decide) (by decide) (by decide) (by decide) (lc_bestSeat hst C0 hI hi hL hP hD hS hl hc hs kk)
  · exact lv_tableIn (off := 1633) (tgt := 1672) hx hb dL_law_39 (by decide) (by decide) (by decide) (by decide) (lc_ifFeud hst C0 hI hi hL hP hD hS hl hc hs kk)
  · exact lv_tableIn (off := 1701) (tgt := 1740) hx hb dL_law_39 (by decide) (by decide) (by decide) (by decide) (lc_ifSeated hst C0 hI hi hL hP hD hS hl hc hs kk)
  · exact lv_tableIn (off := 1757) (tgt := 1796) hx hb dL_law_39 (by decide) (by decide) (by decide) (by decide) (lc_met hst C0 hI hi hL hP hD hS hl hc hs kk)
  · exact lv_tableIn (off := 1798) (tgt := 1837) hx hb dL_law_39 (by decide) (by decide) (by decide) (by decide) (lc_digest hst C0 hI hi hL hP hD hS hl hc hs kk)
  · exact lv_tableOut (tgt := 1851) hx hb dL_law_39 (Or.inr (by decide)) (by decide) (W.widen (Nat.le_add_right _ _) (Nat.le_add_right _ _) (kk _ _ _ _ _ _ _ _ _ _ _ _ _ _ _ _ _ hI hP hD hS hl))
theorem law_loop (hst : l.stackTraces = false) (C : LBd p s m c b L xs A dC dI cI cP cL qL qG) (hL : L ≤ 2048) (fin : ∀ (H : Heap) (locs : List Loc) (ls : Array Slot) (cells slots : Nat), cells ≤ 601024 → slots ≤ 7293034 → va_S A s.heap H locs → W p l e room_1 s m #[Value.ref b] below meth c H locs cells slots Q (F0 m 1857 ls [])) : ∀ (d i cells slots : Nat) (fo : Nat → Int64) (PN PT PS : PV) (f : Nat → Int32) (u : Int32) (Ps : Nat → PV) (oh vh : Nat) (k : Int32) (F x M : Nat → Int32) (h : Int64) (H : Heap) (locs : List Loc) (ls : Array Slot), L ≤ i + 4 * d + 3 → i ≤ 2048 → cells + 3 * d ≤ 601024 → slots + 18 * d ≤ 7293034 → LI PN PS Ps oh vh k F M f u x → va_P (dC, dI) vwCl (fl [outW cL qo fo, fW cI cP a0 aN aT aS t0 t1 t2 h0 h1 pa PN PT PS f u Ps oh vh k, mW cI o q0 q1 F x M h]) H → va_D A (fl [outW cL qo fo, fW cI cP a0 aN aT aS t0 t1 t2 h0 h1 pa PN PT PS f u Ps oh vh k, mW cI o q0 q1 F x M h]) → va_S A s.heap H locs → lv_has ls 9 [(0, .ref b), (1, .ref a0), (2, .ref o), (3, .ref qo), (4, .int (nI i))] → W p l e room_1 s m #[Value.ref b] below meth c H locs cells slots Q (F0 m 23 ls []) := by
  intro d
  induction d with
  | zero =>
    intro i cells slots fo PN PT PS f u Ps oh vh k F x M h H locs ls h1 h2 h3 h4 hI hP hD hS hl
    exact law_head C hS hl h2 hL (fun _ => fin H locs ls cells slots (by omega) (by omega) hS) (fun z => absurd z (by omega))
  | succ d ih =>
    intro i cells slots fo PN PT PS f u Ps oh vh k F x M h H locs ls h1 h2 h3 h4 hI hP hD hS hl
    refine law_head C hS hl h2 hL (fun _ => fin H locs ls cells slots (by omega) (by omega) hS) (fun hi => ?_)
    refine law_case hst C hI hi hL hP hD hS hl (by omega) (by omega) ?_
    intro fo' PN' PT' PS' f' u' Ps' oh' vh' k' F' x' M' h' H' locs' ls' hI' hP' hD' hS' hl'
    refine lv_iinc (v := nI (i + 4)) (lv' := [(4, .int (nI (i + 4))), (0, .ref b), (1, .ref a0), (2, .ref o), (3, .ref qo)]) C.1 C.2.1 dL_law_1851 hl' (k := 4) rfl (nI_add i 4) (by decide) rfl (fun ls hl => ?_)
    refine lv_goto (tgt := 23) C.1 C.2.1 dL_law_1854 (by decide) ?_
    exact ih (i + 4) (cells + 3) (slots + 18) fo' PN' PT' PS' f' u' Ps' oh' vh' k' F' x' M' h' H' locs' ls (by omega) (by omega) (by omega) (by omega) hI' hP' hD' hS' (lv_sub hl [1, 2, 3, 4, 0] rfl)
end LL
