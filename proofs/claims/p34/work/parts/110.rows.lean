def fX3_at (n : Nat) (f : Nat → Int32) (i : Int32) : Int32 :=
  (if i < 0 then (-1) else (if (nI n) ≤ i then (-1) else (f i.toNatClampNeg)))
abbrev rmX3_at : Room := { frames := 0, cells := 0, slots := 0, locals := 0 }
set_option maxHeartbeats 4000000 in
set_option maxRecDepth 100000 in
theorem mX3_at (l : Launch) (dC : Nat → ClassId) (dI : Nat → Nat → Nat) (cI : ClassId) (q n : Nat) (hn9 : n < 2 ^ 31) (f : Nat → Int32) (i : Int32) : Met l yX3_at (ws_ yX3_at cX3_at 2 (some .int)) rmX3_at (pcR (dC, dI) [(cI, .int)] (aW cI q n f) [.ref q, .int i]) (vp_Si (fun r => r = fX3_at n f i)) 0 0 (fun _ => False) := by
  refine Met.ofW (cc := cX3_at) (maxL := 2) (ret := (some .int)) (by decide) rfl ?_
  intro p e s m args below meth c s₁ B hml hv
  obtain ⟨ha, hP, hK, hn⟩ := hv
  have hx := B.exec
  have hb := B.bytes
  have hr := B.returns
  have hts0 := atoms_spec (ws := (ws_ yX3_at cX3_at 2 (some .int))) B.pre
  have hts : ∀ w ∈ lw_all, w.before args s = true := fun w h => hts0 w (List.mem_cons_of_mem _ h)
  have hown : s.vm.findClass RX3 = some m.cls := findClass_of_methodNamed B.named
  have hlocks := B.notSynchronized
  obtain ⟨Q, hQ⟩ : ∃ Q, Q = MQ below (vp_Si (fun r => r = fX3_at n f i)) args s 0 0 (fun _ => False) := ⟨_, rfl⟩
  rw [← hQ]
  have hl := lv_entry ([.ref q, .int i]) (n := 2) (Nat.le_of_ble_eq_true rfl)
  rw [ha, lg_entry_eq, ← ha]
  generalize (lg_sl ([.ref q, .int i]) ++ List.replicate (2 - (lg_sl ([.ref q, .int i])).length) Slot.unset).toArray = ls at hl ⊢
  have hl : lv_has ls 2 [(0, .ref q), (1, .int i)] := hl
  show W p l e rmX3_at s m args below meth c s.heap [] 0 0 Q (F0 m 0 ls [])
  have hF : fX3_at n f i = fX3_at n f i := rfl
  refine lv_iload_n hx hb dX3_at_0 rfl (lv_at hl 1 rfl) ?_
  refine lv_if_lt (tgt := 16) hx hb dX3_at_1 (by decide) (fun c_1 => ?_) (fun c_1 => ?_)
  · have hF := hF.trans (if_pos c_1)
    refine lv_iconst (v := (-1)) hx hb dX3_at_16 (by decide) ?_
    rw [hQ]
    exact W.iret (v := (-1)) hx hb hr (fun t ht hW => ⟨(-1), rfl, hF.symm, ht⟩) (fun q hq => absurd hq List.not_mem_nil) dX3_at_17
  have hF := hF.trans (if_neg c_1)
  refine lv_iload_n hx hb dX3_at_4 rfl (lv_at hl 1 rfl) ?_
  refine lv_aload_n hx hb dX3_at_5 rfl (lv_at hl 0 rfl) ?_
  refine va_alen (v := (nI n)) hx hb hK hP 0 0 rfl rfl rfl dX3_at_6 ?_
  refine lv_icmp_ge (tgt := 16) hx hb dX3_at_7 (by decide) (fun c_7 => ?_) (fun c_7 => ?_)
  · have hF := hF.trans (if_pos c_7)
    refine lv_iconst (v := (-1)) hx hb dX3_at_16 (by decide) ?_
    rw [hQ]
    exact W.iret (v := (-1)) hx hb hr (fun t ht hW => ⟨(-1), rfl, hF.symm, ht⟩) (fun q hq => absurd hq List.not_mem_nil) dX3_at_17
  have hF := hF.trans (if_neg c_7)
  refine lv_aload_n hx hb dX3_at_10 rfl (lv_at hl 0 rfl) ?_
  refine lv_iload_n hx hb dX3_at_11 rfl (lv_at hl 1 rfl) ?_
  refine va_iald hx hb hK hP 0 0 rfl rfl (vin hn9 c_1 c_7) dX3_at_12 ?_
  refine lv_goto (tgt := 17) hx hb dX3_at_13 (by decide) ?_
  rw [hQ]
  exact W.iret (v := (f i.toNatClampNeg)) hx hb hr (fun t ht hW => ⟨(f i.toNatClampNeg), rfl, hF.symm, ht⟩) (fun q hq => absurd hq List.not_mem_nil) dX3_at_17

def fX3_put (n : Nat) (f : Nat → Int32) (i : Int32) (v : Int32) : (Nat → Int32) :=
  (if i < 0 then f else (if (nI n) ≤ i then f else (upd f i.toNatClampNeg v)))
abbrev rmX3_put : Room := { frames := 0, cells := 0, slots := 0, locals := 0 }
set_option maxHeartbeats 4000000 in
set_option maxRecDepth 100000 in
theorem mX3_put (l : Launch) (dC : Nat → ClassId) (dI : Nat → Nat → Nat) (cI : ClassId) (q n : Nat) (hn9 : n < 2 ^ 31) (f : Nat → Int32) (i : Int32) (v : Int32) : Met l yX3_put (ws_ yX3_put cX3_put 3 none) rmX3_put (pcM (dC, dI) [(cI, .int)] (aW cI q n f) [.ref q, .int i, .int v]) (va_Qv (fun (u9 : (Nat → Int32)) => u9 = fX3_put n f i v) (fun u9 t => va_P (dC, dI) vwCl ((fun (v : Nat → Int32) => aW cI q n v) u9) t.heap) (adr (aW cI q n f))) 0 0 (adr (aW cI q n f)) := by
  refine Met.ofW (cc := cX3_put) (maxL := 3) (ret := none) (by decide) rfl ?_
  intro p e s m args below meth c s₁ B hml hv
  obtain ⟨ha, hP, hK, hn, hD0⟩ := hv
  have hx := B.exec
  have hb := B.bytes
  have hr := B.returns
  have hts0 := atoms_spec (ws := (ws_ yX3_put cX3_put 3 none)) B.pre
  have hts : ∀ w ∈ lw_all, w.before args s = true := fun w h => hts0 w (List.mem_cons_of_mem _ h)
  have hown : s.vm.findClass RX3 = some m.cls := findClass_of_methodNamed B.named
  have hlocks := B.notSynchronized
  have hD := adr_self hD0
  obtain ⟨A, hA⟩ : ∃ A, A = adr (aW cI q n f) := ⟨_, rfl⟩
  rw [← hA] at hD
  have hS : va_S A s.heap s.heap [] := va_S.rf
  obtain ⟨Q, hQ⟩ : ∃ Q, Q = MQ below (va_Qv (fun (u9 : (Nat → Int32)) => u9 = fX3_put n f i v) (fun u9 t => va_P (dC, dI) vwCl ((fun (v : Nat → Int32) => aW cI q n v) u9) t.heap) (adr (aW cI q n f))) args s 0 0 (adr (aW cI q n f)) := ⟨_, rfl⟩
  rw [← hQ]
  rw [← hA] at hQ
  have hl := lv_entry ([.ref q, .int i, .int v]) (n := 3) (Nat.le_of_ble_eq_true rfl)
  rw [ha, lg_entry_eq, ← ha]
  generalize (lg_sl ([.ref q, .int i, .int v]) ++ List.replicate (3 - (lg_sl ([.ref q, .int i, .int v])).length) Slot.unset).toArray = ls at hl ⊢
  have hl : lv_has ls 3 [(0, .ref q), (1, .int i), (2, .int v)] := hl
  show W p l e rmX3_put s m args below meth c s.heap [] 0 0 Q (F0 m 0 ls [])
  have hF : fX3_put n f i v = fX3_put n f i v := rfl
  refine lv_iload_n hx hb dX3_put_0 rfl (lv_at hl 1 rfl) ?_
  refine lv_if_lt (tgt := 14) hx hb dX3_put_1 (by decide) (fun c_1 => ?_) (fun c_1 => ?_)
  · have hF := hF.trans (if_pos c_1)
    rw [hQ]
    exact W.vret hx hb hr (fun t ht hW => ⟨⟨f, rfl, hF.symm, toH ht hP⟩, hS.F ht⟩) hS.2.2 dX3_put_14
  have hF := hF.trans (if_neg c_1)
  refine lv_iload_n hx hb dX3_put_4 rfl (lv_at hl 1 rfl) ?_
  refine lv_aload_n hx hb dX3_put_5 rfl (lv_at hl 0 rfl) ?_
  refine va_alen (v := (nI n)) hx hb hK hP 0 0 rfl rfl rfl dX3_put_6 ?_
  refine lv_icmp_ge (tgt := 14) hx hb dX3_put_7 (by decide) (fun c_7 => ?_) (fun c_7 => ?_)
  · have hF := hF.trans (if_pos c_7)
    rw [hQ]
    exact W.vret hx hb hr (fun t ht hW => ⟨⟨f, rfl, hF.symm, toH ht hP⟩, hS.F ht⟩) hS.2.2 dX3_put_14
  have hF := hF.trans (if_neg c_7)
  refine lv_aload_n hx hb dX3_put_10 rfl (lv_at hl 0 rfl) ?_
  refine lv_iload_n hx hb dX3_put_11 rfl (lv_at hl 1 rfl) ?_
  refine lv_iload_n hx hb dX3_put_12 rfl (lv_at hl 2 rfl) ?_
  refine va_iast hx hb hK hP hD hS 0 0 rfl rfl (vin hn9 c_1 c_7) dX3_put_13 (fun H locs hP hD hS => ?_)
  have hP : va_P (dC, dI) vwCl (aW cI q n (upd f i.toNatClampNeg v)) H := hP
  have hD : va_D A (aW cI q n (upd f i.toNatClampNeg v)) := hD
  rw [hQ]
  exact W.vret hx hb hr (fun t ht hW => ⟨⟨(upd f i.toNatClampNeg v), rfl, hF.symm, toH ht hP⟩, hS.F ht⟩) hS.2.2 dX3_put_14

def fX3_copy_b2 (f : Nat → Int32) (n2 : Nat) (kk2 : Nat) (U2_0 : Nat → Int32) (nextkk2 : (Nat → Int32) → (Nat → Int32)) : (Nat → Int32) :=
  (if (nI n2) ≤ (nI kk2) then U2_0 else (nextkk2 (upd U2_0 (nI kk2).toNatClampNeg (f (nI kk2).toNatClampNeg))))
def fX3_copy_r2 (U2_0 : Nat → Int32) : (Nat → Int32) :=
  U2_0
def fX3_copy (n : Nat) (f : Nat → Int32) (n2 : Nat) (f2 : Nat → Int32) : (Nat → Int32) :=
  (lq1 (fX3_copy_b2 f n2) fX3_copy_r2 ((nI n).toNatClampNeg) 0 f2)
abbrev rmX3_copy : Room := { frames := 0, cells := 0, slots := 0, locals := 0 }
set_option maxHeartbeats 4000000 in
set_option maxRecDepth 100000 in
theorem mX3_copy (l : Launch) (dC : Nat → ClassId) (dI : Nat → Nat → Nat) (cI : ClassId) (q n : Nat) (hn9 : n < 2 ^ 31) (f : Nat → Int32) (q9 n2 : Nat) (hn8 : n2 < 2 ^ 31) (f2 : Nat → Int32) : Met l yX3_copy (ws_ yX3_copy cX3_copy 3 none) rmX3_copy (pcM (dC, dI) [(cI, .int)] (aW cI q n f ++ aW cI q9 n2 f2) [.ref q, .ref q9]) (va_Qv (fun (u9 : (Nat → Int32)) => u9 = fX3_copy n f n2 f2) (fun u9 t => va_P (dC, dI) vwCl ((fun (v : (Nat → Int32)) => aW cI q n f ++ aW cI q9 n2 v) u9) t.heap) (adr (aW cI q n f ++ aW cI q9 n2 f2))) 0 0 (adr (aW cI q n f ++ aW cI q9 n2 f2)) := by
  refine Met.ofW (cc := cX3_copy) (maxL := 3) (ret := none) (by decide) rfl ?_
  intro p e s m args below meth c s₁ B hml hv
  obtain ⟨ha, hP, hK, hn, hD0⟩ := hv
  have hx := B.exec
  have hb := B.bytes
  have hr := B.returns
  have hts0 := atoms_spec (ws := (ws_ yX3_copy cX3_copy 3 none)) B.pre
  have hts : ∀ w ∈ lw_all, w.before args s = true := fun w h => hts0 w (List.mem_cons_of_mem _ h)
  have hown : s.vm.findClass RX3 = some m.cls := findClass_of_methodNamed B.named
  have hlocks := B.notSynchronized
  have hD := adr_self hD0
  obtain ⟨A, hA⟩ : ∃ A, A = adr (aW cI q n f ++ aW cI q9 n2 f2) := ⟨_, rfl⟩
  rw [← hA] at hD
  have hS : va_S A s.heap s.heap [] := va_S.rf
  obtain ⟨Q, hQ⟩ : ∃ Q, Q = MQ below (va_Qv (fun (u9 : (Nat → Int32)) => u9 = fX3_copy n f n2 f2) (fun u9 t => va_P (dC, dI) vwCl ((fun (v : (Nat → Int32)) => aW cI q n f ++ aW cI q9 n2 v) u9) t.heap) (adr (aW cI q n f ++ aW cI q9 n2 f2))) args s 0 0 (adr (aW cI q n f ++ aW cI q9 n2 f2)) := ⟨_, rfl⟩
  rw [← hQ]
  rw [← hA] at hQ
  have hl := lv_entry ([.ref q, .ref q9]) (n := 3) (Nat.le_of_ble_eq_true rfl)
  rw [ha, lg_entry_eq, ← ha]
  generalize (lg_sl ([.ref q, .ref q9]) ++ List.replicate (3 - (lg_sl ([.ref q, .ref q9])).length) Slot.unset).toArray = ls at hl ⊢
  have hl : lv_has ls 3 [(0, .ref q), (1, .ref q9)] := hl
  show W p l e rmX3_copy s m args below meth c s.heap [] 0 0 Q (F0 m 0 ls [])
  have hF : fX3_copy n f n2 f2 = fX3_copy n f n2 f2 := rfl
  refine lv_iconst (v := 0) hx hb dX3_copy_0 (by decide) ?_
  refine lv_istore_n (lv' := [(2, .int 0), (0, .ref q), (1, .ref q9)]) hx hb dX3_copy_1 rfl hl (by decide) rfl (fun ls hl => ?_)
  have L2 : ∀ (jj2 kk2 : Nat) (U2_0 : Nat → Int32), kk2 + jj2 = ((nI n).toNatClampNeg) → fX3_copy n f n2 f2 = lq1 (fX3_copy_b2 f n2) fX3_copy_r2 jj2 kk2 U2_0 → ∀ (H : Heap) (locs : List Loc), va_P (dC, dI) vwCl (aW cI q n f ++ aW cI q9 n2 U2_0) H → va_D A (aW cI q n f ++ aW cI q9 n2 U2_0) → va_S A s.heap H locs → ∀ (ls : Array Slot), lv_has ls 3 [(2, .int (nI kk2)), (0, .ref q), (1, .ref q9)] → W p l e rmX3_copy s m args below meth c H locs 0 0 Q (F0 m 2 ls []) := by
    intro jj2
    induction jj2 using Nat.strongRecOn with
    | _ jj2 ihkk2 =>
      intro kk2 U2_0 hkkk2 hF H locs hP hD hS ls hl
      refine lv_iload_n hx hb dX3_copy_2 rfl (lv_at hl 0 rfl) ?_
      refine lv_aload_n hx hb dX3_copy_3 rfl (lv_at hl 1 rfl) ?_
      refine va_alen (v := (nI n)) hx hb hK hP 0 0 rfl rfl rfl dX3_copy_4 ?_
      refine lv_icmp_ge (tgt := 26) hx hb dX3_copy_5 (by decide) (fun c_5 => ?_) (fun c_5 => ?_)
      · obtain rfl := cn_exit hkkk2 c_5
        have hF := hF.trans (lq1_z _ _ _ _)
        rw [hQ]
        exact W.vret hx hb hr (fun t ht hW => ⟨⟨U2_0, rfl, hF.symm, toH ht hP⟩, hS.F ht⟩) hS.2.2 dX3_copy_26
      obtain ⟨jj2, rfl⟩ := cn_go hkkk2 c_5
      have hF := hF.trans (lq1_s _ _ _ _ _)
      obtain ⟨nextkk2, hnextkk2⟩ : ∃ y9, y9 = lq1 (fX3_copy_b2 f n2) fX3_copy_r2 jj2 (kk2 + 1) := ⟨_, rfl⟩
      rw [← hnextkk2] at hF
      refine lv_iload_n hx hb dX3_copy_8 rfl (lv_at hl 0 rfl) ?_
      refine lv_aload_n hx hb dX3_copy_9 rfl (lv_at hl 2 rfl) ?_
      refine va_alen (v := (nI n2)) hx hb hK hP 1 0 rfl rfl rfl dX3_copy_10 ?_
      refine lv_icmp_ge (tgt := 26) hx hb dX3_copy_11 (by decide) (fun c_11 => ?_) (fun c_11 => ?_)
      · have hF := hF.trans (if_pos c_11)
        rw [hQ]
        exact W.vret hx hb hr (fun t ht hW => ⟨⟨U2_0, rfl, hF.symm, toH ht hP⟩, hS.F ht⟩) hS.2.2 dX3_copy_26
      have hF := hF.trans (if_neg c_11)
      refine lv_aload_n hx hb dX3_copy_14 rfl (lv_at hl 2 rfl) ?_
      refine lv_iload_n hx hb dX3_copy_15 rfl (lv_at hl 0 rfl) ?_
      refine lv_aload_n hx hb dX3_copy_16 rfl (lv_at hl 1 rfl) ?_
      refine lv_iload_n hx hb dX3_copy_17 rfl (lv_at hl 0 rfl) ?_
      refine va_iald hx hb hK hP 0 0 rfl rfl (vin_k hn9 hkkk2 c_5) dX3_copy_18 ?_
      refine va_iast hx hb hK hP hD hS 1 0 rfl rfl (vin_k hn8 hkkk2 c_11) dX3_copy_19 (fun H locs hP hD hS => ?_)
      have hP : va_P (dC, dI) vwCl (aW cI q n f ++ aW cI q9 n2 (upd U2_0 (nI kk2).toNatClampNeg (f (nI kk2).toNatClampNeg))) H := hP
      have hD : va_D A (aW cI q n f ++ aW cI q9 n2 (upd U2_0 (nI kk2).toNatClampNeg (f (nI kk2).toNatClampNeg))) := hD
      refine lv_iinc (v := (nI (kk2 + 1))) (lv' := [(2, .int (nI (kk2 + 1))), (0, .ref q), (1, .ref q9)]) hx hb dX3_copy_20 hl (k := 0) rfl (nI_1 _) (by decide) rfl (fun ls hl => ?_)
      refine lv_goto (tgt := 2) hx hb dX3_copy_23 (by decide) ?_
      have hF : fX3_copy n f n2 f2 = nextkk2 (upd U2_0 (nI kk2).toNatClampNeg (f (nI kk2).toNatClampNeg)) := hF
      rw [hnextkk2] at hF
      exact ihkk2 jj2 (Nat.lt_succ_self _) (kk2 + 1) (upd U2_0 (nI kk2).toNatClampNeg (f (nI kk2).toNatClampNeg)) (cn_next hkkk2) hF _ _ hP hD hS ls (lv_sub hl [0, 1, 2] rfl)
  exact L2 ((nI n).toNatClampNeg) 0 f2 (Nat.zero_add _) hF _ _ hP hD hS ls (lv_sub hl [0, 1, 2] rfl)

