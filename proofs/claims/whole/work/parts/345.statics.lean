/-! the class's static rows, as the statement gives them. Mine. -/
def fLV (k : Nat) : Int32 := if k = 0 then 1 else 0
def fGV (k : Nat) : Int32 := if k = 0 then 8 else if k = 1 then 20 else if k = 2 then 20 else 9
def fFV (k : Nat) : Int32 := if k = 0 then 3 else if k = 1 then 5 else if k = 2 then 3 else 2
def xst (A : Nat → Prop) (cI : ClassId) (qL qG : Nat) (U : State) : Prop := va_Z RX6 "LEAST_VALUES" "[I" (.ref qL) A U U.heap ∧ va_Z RX6 "GREATEST_VALUES" "[I" (.ref qG) A U U.heap ∧ (∀ D : va_G, va_P D vwCl (aW cI qL 4 fLV) U.heap) ∧ (∀ D : va_G, va_P D vwCl (aW cI qG 4 fGV) U.heap) ∧ ¬ A qL ∧ ¬ A qG
theorem st_at {D : va_G} {A : Nat → Prop} {s : State} {H : Heap} {locs : List Loc} {cI : ClassId} {q n : Nat} {f : Nat → Int32} (h : va_P D vwCl (aW cI q n f) s.heap) (hS : va_S A s.heap H locs) (hq : ¬ A q) : va_P D vwCl (aW cI q n f) H := by
  refine h.kept (fun k q' hk => ?_)
  have hm : q' = (q, .inl (cI, n, .inl f)) := List.mem_singleton.mp (List.mem_of_getElem? hk)
  subst hm
  exact hS.2.1 q (vx_lt h (k := 0) rfl) hq
theorem xst_at {A B : Nat → Prop} {cI : ClassId} {qL qG : Nat} {s U : State} {H : Heap} {locs : List Loc} (h : xst A cI qL qG s) (hS : va_S A s.heap H locs) (hU : U.heap = H) (hW : s.WarmedH U.vm) (hAB : ∀ q, B q → A q) : xst B cI qL qG U := by
  obtain ⟨h1, h2, h3, h4, h5, h6⟩ := h
  refine ⟨?_, ?_, fun D => ?_, fun D => ?_, fun z => h5 (hAB _ z), fun z => h6 (hAB _ z)⟩
  · rw [hU]
    exact (va_Z.moved hW.alike (h1.kept hS.2.1)).narrow hAB
  · rw [hU]
    exact (va_Z.moved hW.alike (h2.kept hS.2.1)).narrow hAB
  · rw [hU]
    exact st_at (h3 D) hS h5
  · rw [hU]
    exact st_at (h4 D) hS h6
theorem xst_call {A : Nat → Prop} {cI : ClassId} {qL qG : Nat} {U : State} {g : JFrame} {mk : MethodId} {a : Array Value} (h : xst A cI qL qG U) : xst A cI qL qG (U.calling g mk a) :=
  ⟨va_Z.moved (u := U) (U := U.calling g mk a) (Vm.Alike.refl U.vm) h.1, va_Z.moved (u := U) (U := U.calling g mk a) (Vm.Alike.refl U.vm) h.2.1, h.2.2⟩
def pcY (D : va_G) (tys : List (ClassId × FieldType)) (ws : va_W) (av : List Value) (cI : ClassId) (qL qG : Nat) : Array Value → State → Prop := va_Pc av (fun U => va_P D vwCl ws U.heap ∧ va_K D vwCl tys U ∧ nst U ∧ va_D (fun _ => True) ws ∧ xok (adr ws) U ∧ xst (adr ws) cI qL qG U)
theorem pcY_blind {D : va_G} {tys : List (ClassId × FieldType)} {ws : va_W} {av : List Value} {cI : ClassId} {qL qG : Nat} : FrameBlind (pcY D tys ws av cI qL qG) := fun a U g mk q => ⟨q.1, q.2.1, va_K.moved (u := U) (U := U.calling g mk a) (Vm.Alike.refl U.vm) q.2.2.1, nst_same (u := U) (U := U.calling g mk a) rfl q.2.2.2.1, q.2.2.2.2.1, xok_call q.2.2.2.2.2.1, xst_call q.2.2.2.2.2.2⟩
theorem pcY_V {s : State} {H : Heap} {D : va_G} {tys : List (ClassId × FieldType)} {ws : va_W} {A : Nat → Prop} {a : Nat} {As : List Value} {ci q0 : Nat} {q : vw_C} {fs : List Value} {locs : List Loc} {cI : ClassId} {qL qG : Nat} (hP : va_P D vwCl ws H) (hK : va_K D vwCl tys s) (hn : nst s) (hD : va_D A ws) (hX : xok A s) (hT : xst A cI qL qG s) (hS : va_S A s.heap H locs) (hc : vwCl[ci]? = some q) (he : ws[q0]? = some (a, .inr (ci, fs))) : PreV s H q.1 a (pcY D tys ws (.ref a :: As) cI qL qG) As := ⟨pcY_blind, va_recv hK hP hc he, fun U hU hW => ⟨rfl, by rw [hU]; exact hP, va_K.moved hW.alike hK, nst_warm hW hn, hD.weaken (fun _ _ _ _ => trivial), xok_at hX hS hU hW (D_addr.mp hD).2, xst_at hT hS hU hW (D_addr.mp hD).2⟩⟩
