/-! the class's static rows, as the statement gives them. Mine. -/
def fLV (k : Nat) : Int32 := if k = 0 then 1 else 0
def fGV (k : Nat) : Int32 := if k = 0 then 8 else if k = 1 then 20 else if k = 2 then 20 else 9
def fFV (k : Nat) : Int32 := if k = 0 then 3 else if k = 1 then 5 else if k = 2 then 3 else 2
def xst (A : Nat → Prop) (cI : ClassId) (qL qG : Nat) (U : State) : Prop := va_Z RX6 "LEAST_VALUES" "[I" (.ref qL) A U U.heap ∧ va_Z RX6 "GREATEST_VALUES" "[I" (.ref qG) A U U.heap ∧ va_T .int qL 4 (fun k => .int (fLV k)) A U U.heap ∧ va_T .int qG 4 (fun k => .int (fGV k)) A U U.heap ∧ ¬ A qL ∧ ¬ A qG ∧ (cI = cI)
theorem xst_at {A B : Nat → Prop} {cI : ClassId} {qL qG : Nat} {s U : State} {H : Heap} {locs : List Loc} (h : xst A cI qL qG s) (hS : va_S A s.heap H locs) (hU : U.heap = H) (hW : s.WarmedH U.vm) (hAB : ∀ q, B q → A q) : xst B cI qL qG U := by
  obtain ⟨h1, h2, h3, h4, h5, h6, h7⟩ := h
  refine ⟨?_, ?_, ?_, ?_, fun z => h5 (hAB _ z), fun z => h6 (hAB _ z), rfl⟩
  · rw [hU]
    exact (va_Z.moved hW.alike (h1.kept hS.2.1)).narrow hAB
  · rw [hU]
    exact (va_Z.moved hW.alike (h2.kept hS.2.1)).narrow hAB
  · rw [hU]
    exact (va_T.moved hW.alike (h3.kept hS.2.1)).narrow hAB
  · rw [hU]
    exact (va_T.moved hW.alike (h4.kept hS.2.1)).narrow hAB
theorem xst_call {A : Nat → Prop} {cI : ClassId} {qL qG : Nat} {U : State} {g : JFrame} {mk : MethodId} {a : Array Value} (h : xst A cI qL qG U) : xst A cI qL qG (U.calling g mk a) :=
  ⟨va_Z.moved (u := U) (U := U.calling g mk a) (Vm.Alike.refl U.vm) h.1, va_Z.moved (u := U) (U := U.calling g mk a) (Vm.Alike.refl U.vm) h.2.1, va_T.moved (u := U) (U := U.calling g mk a) (Vm.Alike.refl U.vm) h.2.2.1, va_T.moved (u := U) (U := U.calling g mk a) (Vm.Alike.refl U.vm) h.2.2.2.1, h.2.2.2.2⟩
/-- a row that nobody writes, read -/
def pcT (q n : Nat) (f : Nat → Int32) (av : List Value) : Array Value → State → Prop := va_Pc av (fun U => va_T .int q n (fun k => .int (f k)) (fun _ => False) U U.heap ∧ nst U)
theorem pcT_blind {q n : Nat} {f : Nat → Int32} {av : List Value} : FrameBlind (pcT q n f av) := fun a U g mk h => ⟨h.1, va_T.moved (u := U) (U := U.calling g mk a) (Vm.Alike.refl U.vm) h.2.1, nst_same (u := U) (U := U.calling g mk a) rfl h.2.2⟩
theorem pcT_S {s : State} {H : Heap} {q n : Nat} {f : Nat → Int32} {A : Nat → Prop} {As : List Value} {locs : List Loc} (hT : va_T .int q n (fun k => .int (f k)) A s s.heap) (hn : nst s) (hS : va_S A s.heap H locs) : PreS s H (pcT q n f As) As := ⟨pcT_blind, fun U hU hW => ⟨rfl, by rw [hU]; exact (va_T.moved hW.alike (hT.kept hS.2.1)).narrow (fun _ h => h.elim), nst_warm hW hn⟩⟩
set_option maxHeartbeats 4000000 in
set_option maxRecDepth 100000 in
theorem mX3_atT (l : Launch) (q n : Nat) (hn9 : n < 2 ^ 31) (f : Nat → Int32) (i : Int32) : Met l yX3_at (ws_ yX3_at cX3_at 2 (some .int)) rmX3_at (pcT q n f [.ref q, .int i]) (vp_Si (fun r => r = fX3_at n f i)) 0 0 (fun _ => False) := by
  refine Met.ofW (cc := cX3_at) (maxL := 2) (ret := (some .int)) (by decide) rfl ?_
  intro p e s m args below meth c s₁ B hml hv
  obtain ⟨ha, hT, hn⟩ := hv
  have hS : va_S (fun _ => False) s.heap s.heap [] := va_S.rf
  have hx := B.exec
  have hb := B.bytes
  have hr := B.returns
  have hts0 := atoms_spec (ws := (ws_ yX3_at cX3_at 2 (some .int))) B.pre
  have hts : ∀ w ∈ lw_all, w.before args s = true := fun w h => hts0 w (List.mem_cons_of_mem _ h)
  have hown : s.vm.findClass RX3 = some m.cls := findClass_of_methodNamed B.named
  have hlocks := B.notSynchronized
  obtain ⟨Q, hQ⟩ : ∃ Q, Q = MQ below (vp_Si (fun r => r = fX3_at n f i)) args s 0 0 (fun _ => False) := ⟨_, rfl⟩
  rw [← hQ]
  have hl := lv_entry ([.ref q, .int i]) (n := 2) (Nat.le_of_ble_eq_true rfl)
  rw [ha, lg_entry_eq, ← ha]
  generalize (lg_sl ([.ref q, .int i]) ++ List.replicate (2 - (lg_sl ([.ref q, .int i])).length) Slot.unset).toArray = ls at hl ⊢
  have hl : lv_has ls 2 [(0, .ref q), (1, .int i)] := hl
  show W p l e rmX3_at s m args below meth c s.heap [] 0 0 Q (F0 m 0 ls [])
  have hF : fX3_at n f i = fX3_at n f i := rfl
  refine lv_iload_n hx hb dX3_at_0 rfl (lv_at hl 1 rfl) ?_
  refine lv_if_lt (tgt := 16) hx hb dX3_at_1 (by decide) (fun c_1 => ?_) (fun c_1 => ?_)
  · have hF := hF.trans (if_pos c_1)
    refine lv_iconst (v := (-1)) hx hb dX3_at_16 (by decide) ?_
    rw [hQ]
    exact W.iret (v := (-1)) hx hb hr (fun t ht hW => ⟨(-1), rfl, hF.symm, ht⟩) (fun q hq => absurd hq List.not_mem_nil) dX3_at_17
  have hF := hF.trans (if_neg c_1)
  refine lv_iload_n hx hb dX3_at_4 rfl (lv_at hl 1 rfl) ?_
  refine lv_aload_n hx hb dX3_at_5 rfl (lv_at hl 0 rfl) ?_
  refine va_tlen (v := (nI n)) hx hb hT hS rfl dX3_at_6 ?_
  refine lv_icmp_ge (tgt := 16) hx hb dX3_at_7 (by decide) (fun c_7 => ?_) (fun c_7 => ?_)
  · have hF := hF.trans (if_pos c_7)
    refine lv_iconst (v := (-1)) hx hb dX3_at_16 (by decide) ?_
    rw [hQ]
    exact W.iret (v := (-1)) hx hb hr (fun t ht hW => ⟨(-1), rfl, hF.symm, ht⟩) (fun q hq => absurd hq List.not_mem_nil) dX3_at_17
  have hF := hF.trans (if_neg c_7)
  refine lv_aload_n hx hb dX3_at_10 rfl (lv_at hl 0 rfl) ?_
  refine lv_iload_n hx hb dX3_at_11 rfl (lv_at hl 1 rfl) ?_
  refine va_ti hx hb hT hS (vin hn9 c_1 c_7) rfl dX3_at_12 ?_
  refine lv_goto (tgt := 17) hx hb dX3_at_13 (by decide) ?_
  rw [hQ]
  exact W.iret (v := (f i.toNatClampNeg)) hx hb hr (fun t ht hW => ⟨(f i.toNatClampNeg), rfl, hF.symm, ht⟩) (fun q hq => absurd hq List.not_mem_nil) dX3_at_17

