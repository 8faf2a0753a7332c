/-! what a throw stands on, and contracts of methods that throw. Mine. -/
def xname : Nat → String
  | 0 => "java/lang/IllegalArgumentException"
  | 1 => "java/lang/IllegalStateException"
  | _ => "java/lang/IndexOutOfBoundsException"
def xik : Nat → Nat
  | 0 => 44
  | 1 => 55
  | _ => 134
def xic : Nat → Nat
  | 0 => 48
  | 1 => 59
  | _ => 138
abbrev xsup : List String := ["java/lang/RuntimeException", "java/lang/Exception"]
def xstr : List (Nat × String) := [(46, "family or size is out of range"), (57, "there are 16 guests"), (72, "the friend is the guest"), (88, "seats is out of range"), (93, "there are 4 tables"), (117, "there is this feud already, or there are 8"), (122, "there is no such feud"), (136, "no such setting"), (145, "value is out of range"), (158, "the guest cannot take the seat"), (172, "the guest stands"), (177, "both are the same"), (185, "one of both stands, or cannot take the seat"), (190, "code is not 33 to 126"), (195, "the buffer has 60 characters"), (209, "the buffer is not complete seats as a text"), (217, "index is below 0"), (223, "there is no saved state"), (231, "there is no snapshot"), (233, "what is not 0 to 6"), (238, "what is not 0 to 4"), (255, "what is not 0 to 13"), (270, "what is neither 0 nor 1"), (298, "a family is out of range, or both are the same"), (300, "place is below 0"), (305, "no such guest"), (310, "no such table"), (315, "no such table or seat")]
/-- the throws' words that are no good words -/
def xB : List Cond := [.castable "java/lang/IllegalArgumentException" "java/lang/IllegalArgumentException", .castable "java/lang/IllegalStateException" "java/lang/IllegalStateException", .castable "java/lang/IndexOutOfBoundsException" "java/lang/IndexOutOfBoundsException", .declares (Bundle.initS "java/lang/RuntimeException"), .declares (Bundle.initS "java/lang/Exception"), .declares (Bundle.initS Bundle.tN)]
theorem xB_warm {s U : State} (hW : s.WarmedH U.vm) (h : ∀ w ∈ xB, va_Nw w s) : ∀ w ∈ xB, va_Nw w U := by
  intro w hw
  have hz := h w hw
  simp only [xB, List.mem_cons, List.not_mem_nil, or_false] at hw
  rcases hw with rfl | rfl | rfl | rfl | rfl | rfl <;> first | exact va_Nw.warmC hW hz | exact va_Nw.warmD hW hz
theorem xB_tab : ∀ w ∈ xB, w.onTables = true := by decide +kernel
def xok (A : Nat → Prop) (U : State) : Prop := vx_Zq Bundle.tN "UNASSIGNED_STACK" Bundle.steD A U U.heap ∧ vx_Zq Bundle.tN "SUPPRESSED_SENTINEL" Bundle.listD A U U.heap ∧ (∀ w ∈ xB, va_Nw w U) ∧ ∀ q ∈ xstr, ∃ sa : Nat, vk_R RX6 q.1 q.2 sa U
theorem xok_at {A B : Nat → Prop} {s U : State} {H : Heap} {locs : List Loc} (hX : xok A s) (hS : va_S A s.heap H locs) (hU : U.heap = H) (hW : s.WarmedH U.vm) (hAB : ∀ q, B q → A q) : xok B U := by
  obtain ⟨h1, h2, h3, h4⟩ := hX
  refine ⟨?_, ?_, xB_warm hW h3, fun q hq => ?_⟩
  · rw [hU]
    exact (vx_Zq.moved hW.alike (h1.kept hS.2.1)).narrow hAB
  · rw [hU]
    exact (vx_Zq.moved hW.alike (h2.kept hS.2.1)).narrow hAB
  · obtain ⟨sa, h⟩ := h4 q hq
    exact ⟨sa, vk_R.warm hW h⟩
def pcX (D : va_G) (tys : List (ClassId × FieldType)) (ws : va_W) (av : List Value) : Array Value → State → Prop := va_Pc av (fun U => va_P D vwCl ws U.heap ∧ va_K D vwCl tys U ∧ nst U ∧ va_D (fun _ => True) ws ∧ xok (adr ws) U)
theorem xok_call {A : Nat → Prop} {U : State} {g : JFrame} {mk : MethodId} {a : Array Value} (h : xok A U) : xok A (U.calling g mk a) := by
  obtain ⟨h1, h2, h3, h4⟩ := h
  refine ⟨vx_Zq.moved (u := U) (U := U.calling g mk a) (Vm.Alike.refl U.vm) h1, vx_Zq.moved (u := U) (U := U.calling g mk a) (Vm.Alike.refl U.vm) h2, fun w hw => va_Nw.same (xB_tab w hw) (show U.vm = (U.calling g mk a).vm from rfl) (h3 w hw), fun q hq => ?_⟩
  obtain ⟨sa, h⟩ := h4 q hq
  exact ⟨sa, vk_R.same rfl h⟩
theorem pcX_blind {D : va_G} {tys : List (ClassId × FieldType)} {ws : va_W} {av : List Value} : FrameBlind (pcX D tys ws av) := fun a U g mk q => ⟨q.1, q.2.1, va_K.moved (u := U) (U := U.calling g mk a) (Vm.Alike.refl U.vm) q.2.2.1, nst_same (u := U) (U := U.calling g mk a) rfl q.2.2.2.1, q.2.2.2.2.1, xok_call q.2.2.2.2.2⟩
theorem pcX_V {s : State} {H : Heap} {D : va_G} {tys : List (ClassId × FieldType)} {ws : va_W} {A : Nat → Prop} {a : Nat} {As : List Value} {ci q0 : Nat} {q : vw_C} {fs : List Value} {locs : List Loc} (hP : va_P D vwCl ws H) (hK : va_K D vwCl tys s) (hn : nst s) (hD : va_D A ws) (hX : xok A s) (hS : va_S A s.heap H locs) (hc : vwCl[ci]? = some q) (he : ws[q0]? = some (a, .inr (ci, fs))) : PreV s H q.1 a (pcX D tys ws (.ref a :: As)) As := ⟨pcX_blind, va_recv hK hP hc he, fun U hU hW => ⟨rfl, by rw [hU]; exact hP, va_K.moved hW.alike hK, nst_warm hW hn, hD.weaken (fun _ _ _ _ => trivial), xok_at hX hS hU hW (D_addr.mp hD).2⟩⟩
theorem pcX_S {s : State} {H : Heap} {D : va_G} {tys : List (ClassId × FieldType)} {ws : va_W} {A : Nat → Prop} {As : List Value} {locs : List Loc} (hP : va_P D vwCl ws H) (hK : va_K D vwCl tys s) (hn : nst s) (hD : va_D A ws) (hX : xok A s) (hS : va_S A s.heap H locs) : PreS s H (pcX D tys ws As) As := ⟨pcX_blind, fun U hU hW => ⟨rfl, by rw [hU]; exact hP, va_K.moved hW.alike hK, nst_warm hW hn, hD.weaken (fun _ _ _ _ => trivial), xok_at hX hS hU hW (D_addr.mp hD).2⟩⟩
theorem xw0 : ∀ w ∈ (vx_atS RX6 48 "java/lang/IllegalArgumentException" xsup).filter goodWord, w ∈ lw_all := fun w h => List.mem_filter.mpr ⟨(by decide +kernel : ∀ w ∈ (vx_atS RX6 48 "java/lang/IllegalArgumentException" xsup).filter goodWord, w ∈ lw_tbl) w h, (List.mem_filter.mp h).2⟩
theorem xw1 : ∀ w ∈ (vx_atS RX6 59 "java/lang/IllegalStateException" xsup).filter goodWord, w ∈ lw_all := fun w h => List.mem_filter.mpr ⟨(by decide +kernel : ∀ w ∈ (vx_atS RX6 59 "java/lang/IllegalStateException" xsup).filter goodWord, w ∈ lw_tbl) w h, (List.mem_filter.mp h).2⟩
theorem xw2 : ∀ w ∈ (vx_atS RX6 138 "java/lang/IndexOutOfBoundsException" xsup).filter goodWord, w ∈ lw_all := fun w h => List.mem_filter.mpr ⟨(by decide +kernel : ∀ w ∈ (vx_atS RX6 138 "java/lang/IndexOutOfBoundsException" xsup).filter goodWord, w ∈ lw_tbl) w h, (List.mem_filter.mp h).2⟩
theorem xn0 : ∀ w ∈ (vx_atS RX6 48 "java/lang/IllegalArgumentException" xsup).filter (fun w => !goodWord w), w ∈ xB := by decide +kernel
theorem xn1 : ∀ w ∈ (vx_atS RX6 59 "java/lang/IllegalStateException" xsup).filter (fun w => !goodWord w), w ∈ xB := by decide +kernel
theorem xn2 : ∀ w ∈ (vx_atS RX6 138 "java/lang/IndexOutOfBoundsException" xsup).filter (fun w => !goodWord w), w ∈ xB := by decide +kernel
theorem xo0 : ∀ w ∈ Cond.classLink RX6 44 "java/lang/IllegalArgumentException" :: Cond.initialized "java/lang/IllegalArgumentException" :: vx_atS RX6 48 "java/lang/IllegalArgumentException" xsup, vx_ot w = true := by decide +kernel
theorem xo1 : ∀ w ∈ Cond.classLink RX6 55 "java/lang/IllegalStateException" :: Cond.initialized "java/lang/IllegalStateException" :: vx_atS RX6 59 "java/lang/IllegalStateException" xsup, vx_ot w = true := by decide +kernel
theorem xo2 : ∀ w ∈ Cond.classLink RX6 134 "java/lang/IndexOutOfBoundsException" :: Cond.initialized "java/lang/IndexOutOfBoundsException" :: vx_atS RX6 138 "java/lang/IndexOutOfBoundsException" xsup, vx_ot w = true := by decide +kernel
theorem xcast {A : Nat → Prop} {s : State} {args : Array Value} (hX : xok A s) : ∀ w ∈ xB, w.before args s = true := fun w hw => va_Nw.use (A := args) (xB_tab w hw) (hX.2.2.1 w hw)
section KX
variable {p : Program} {l : Launch} {e : Env} {R : Room} {s : State} {m : MethodId} {args : Array Value} {below : List Frame} {meth : Method} {c : Code} {H : Heap} {locs : List Loc} {cells slots : Nat} {Q : State → Prop}
variable {pc : Nat} {ls : Array Slot} {rest st0 : List Value} {a : Array Value} {A : Nat → Prop} {D : va_G} {ws : va_W} {cc : ByteArray} {mc ms : Nat} {free : Addr → Prop}
variable {Qc : Array Value → State → Outcome → State → Prop} {XC : String → State → State → Prop}
theorem k_throwS {cd is : Nat} {text : String} (hcd : cd < 3) (hexec : p.tables.exec = Jvm.exec) (hb : c.code = cc) (hst : l.stackTraces = false) (hown : s.vm.findClass RX6 = some m.cls) (hts : ∀ w ∈ lw_all, w.before args s = true) (hX : xok A s) (hS : va_S A s.heap H locs) (hsize : ls.size = c.maxLocals) (hstr : (is, text) ∈ xstr)
    (d0 : decode cc pc = .ok (.new (xik cd), 3)) (d3 : decode cc (pc + 3) = .ok (.dup, 1)) (d4 : decode cc (pc + 4) = .ok (.ldc is, 2)) (d6 : decode cc (pc + 6) = .ok (.invokespecial (xic cd), 3)) (d9 : decode cc (pc + 9) = .ok (.athrow, 1))
    (hout : ∀ x ∈ c.exceptionTable.toList, False) (hRframes : 6 ≤ R.frames) (hRlocals : (rest.map fun v => v.category).sum + 82 ≤ R.locals) (hRcells : cells + 1 ≤ R.cells) (hRslots : slots + 6 ≤ R.slots) (hlocks : meth.locks = false)
    (hx : ∀ t : State, s.vm.Alike t.vm → H.size ≤ t.heap.size → (∀ q : Nat, q < H.size → t.heap[q]? = H[q]?) → XC (xname cd) s t) (hf : ∀ z ∈ locs, free z.base) (hc : cells + 1 ≤ mc) (hs : slots + 6 ≤ ms) :
    W p l e R s m args below meth c H locs cells slots (vx_MQ below Qc XC args s mc ms free) (F0 m pc ls rest) := by
  obtain ⟨sa, hsa⟩ := hX.2.2.2 _ hstr
  rcases (show cd = 0 ∨ cd = 1 ∨ cd = 2 by omega) with rfl | rfl | rfl
  · exact vx_throwS (ik := 44) (is := is) (ic := 48) (cls := "java/lang/IllegalArgumentException") (names := xsup) hexec hb hst hown (by decide +kernel) (by decide +kernel) (hts _ u_451) (hts _ u_11) hsa (vx_hat (fun w h => hts w (xw0 w h)) xn0 (xcast hX)) xo0 hX.1 hX.2.1 hS hsize d0 d3 d4 d6 d9 (fun x h => (hout x h).elim) hRframes hRlocals hRcells hRslots hlocks hx hf hc hs
  · exact vx_throwS (ik := 55) (is := is) (ic := 59) (cls := "java/lang/IllegalStateException") (names := xsup) hexec hb hst hown (by decide +kernel) (by decide +kernel) (hts _ u_519) (hts _ u_12) hsa (vx_hat (fun w h => hts w (xw1 w h)) xn1 (xcast hX)) xo1 hX.1 hX.2.1 hS hsize d0 d3 d4 d6 d9 (fun x h => (hout x h).elim) hRframes hRlocals hRcells hRslots hlocks hx hf hc hs
  · exact vx_throwS (ik := 134) (is := is) (ic := 138) (cls := "java/lang/IndexOutOfBoundsException") (names := xsup) hexec hb hst hown (by decide +kernel) (by decide +kernel) (hts _ u_552) (hts _ u_14) hsa (vx_hat (fun w h => hts w (xw2 w h)) xn2 (xcast hX)) xo2 hX.1 hX.2.1 hS hsize d0 d3 d4 d6 d9 (fun x h => (hout x h).elim) hRframes hRlocals hRcells hRslots hlocks hx hf hc hs
theorem k_throwSW {cd is : Nat} {text : String} (hcd : cd < 3) (hexec : p.tables.exec = Jvm.exec) (hb : c.code = cc) (hst : l.stackTraces = false) (hown : s.vm.findClass RX6 = some m.cls) (hts : ∀ w ∈ lw_all, w.before args s = true) (hX : xok A s) (hS : va_S A s.heap H locs) (hsize : ls.size = c.maxLocals) (hstr : (is, text) ∈ xstr)
    (d0 : decode cc pc = .ok (.new (xik cd), 3)) (d3 : decode cc (pc + 3) = .ok (.dup, 1)) (d4 : decode cc (pc + 4) = .ok (.ldc_w is, 3)) (d7 : decode cc (pc + 7) = .ok (.invokespecial (xic cd), 3)) (d10 : decode cc (pc + 10) = .ok (.athrow, 1))
    (hout : ∀ x ∈ c.exceptionTable.toList, False) (hRframes : 6 ≤ R.frames) (hRlocals : (rest.map fun v => v.category).sum + 82 ≤ R.locals) (hRcells : cells + 1 ≤ R.cells) (hRslots : slots + 6 ≤ R.slots) (hlocks : meth.locks = false)
    (hx : ∀ t : State, s.vm.Alike t.vm → H.size ≤ t.heap.size → (∀ q : Nat, q < H.size → t.heap[q]? = H[q]?) → XC (xname cd) s t) (hf : ∀ z ∈ locs, free z.base) (hc : cells + 1 ≤ mc) (hs : slots + 6 ≤ ms) :
    W p l e R s m args below meth c H locs cells slots (vx_MQ below Qc XC args s mc ms free) (F0 m pc ls rest) := by
  obtain ⟨sa, hsa⟩ := hX.2.2.2 _ hstr
  rcases (show cd = 0 ∨ cd = 1 ∨ cd = 2 by omega) with rfl | rfl | rfl
  · exact vx_throwSW (ik := 44) (is := is) (ic := 48) (cls := "java/lang/IllegalArgumentException") (names := xsup) hexec hb hst hown (by decide +kernel) (by decide +kernel) (hts _ u_451) (hts _ u_11) hsa (vx_hat (fun w h => hts w (xw0 w h)) xn0 (xcast hX)) xo0 hX.1 hX.2.1 hS hsize d0 d3 d4 d7 d10 (fun x h => (hout x h).elim) hRframes hRlocals hRcells hRslots hlocks hx hf hc hs
  · exact vx_throwSW (ik := 55) (is := is) (ic := 59) (cls := "java/lang/IllegalStateException") (names := xsup) hexec hb hst hown (by decide +kernel) (by decide +kernel) (hts _ u_519) (hts _ u_12) hsa (vx_hat (fun w h => hts w (xw1 w h)) xn1 (xcast hX)) xo1 hX.1 hX.2.1 hS hsize d0 d3 d4 d7 d10 (fun x h => (hout x h).elim) hRframes hRlocals hRcells hRslots hlocks hx hf hc hs
  · exact vx_throwSW (ik := 134) (is := is) (ic := 138) (cls := "java/lang/IndexOutOfBoundsException") (names := xsup) hexec hb hst hown (by decide +kernel) (by decide +kernel) (hts _ u_552) (hts _ u_14) hsa (vx_hat (fun w h => hts w (xw2 w h)) xn2 (xcast hX)) xo2 hX.1 hX.2.1 hS hsize d0 d3 d4 d7 d10 (fun x h => (hout x h).elim) hRframes hRlocals hRcells hRslots hlocks hx hf hc hs
/-- what a thrower leaves: by a new throw, by one that goes through -/
theorem xc_new {β : Type} {Ft : Nat ⊕ β} {cd : Nat} (hF : Ft = Sum.inl cd) (hP : va_P D vwCl ws H) (hS : va_S A s.heap H locs) : ∀ t : State, s.vm.Alike t.vm → H.size ≤ t.heap.size → (∀ q : Nat, q < H.size → t.heap[q]? = H[q]?) → vx_X (fun c9 : Nat => Ft = Sum.inl c9) (fun E c9 t => E = xname c9 ∧ va_P D vwCl ws t.heap) A (xname cd) s t :=
  fun t _ hz hq => ⟨cd, hF, ⟨rfl, hP.kept (fun k q hk => hq q.1 (vx_lt hP hk))⟩, ⟨Nat.le_trans hS.1 hz, fun q h1 h2 => (hq q (Nat.lt_of_lt_of_le h1 hS.1)).trans (hS.2.1 q h1 h2)⟩⟩
theorem xc_out {β : Type} {Ft : Nat ⊕ β} {cd : Nat} (hF : Ft = Sum.inl cd) (hP : va_P D vwCl ws H) (hS : va_S A s.heap H locs) : ∀ t : State, t.heap = H → s.vm.Alike t.vm → vx_X (fun c9 : Nat => Ft = Sum.inl c9) (fun E c9 t => E = xname c9 ∧ va_P D vwCl ws t.heap) A (xname cd) s t :=
  fun t ht _ => ⟨cd, hF, ⟨rfl, toH ht hP⟩, hS.F ht⟩
theorem xv_new {Ft : Int32} {cd : Nat} (hF : Ft = 1) (hP : va_P D vwCl ws H) (hS : va_S A s.heap H locs) : ∀ t : State, s.vm.Alike t.vm → H.size ≤ t.heap.size → (∀ q : Nat, q < H.size → t.heap[q]? = H[q]?) → vx_X (fun _ : Unit => ¬ Ft = 0) (fun E _ t => E = xname cd ∧ va_P D vwCl ws t.heap) A (xname cd) s t :=
  fun t _ hz hq => ⟨(), by rw [hF]; decide, ⟨rfl, hP.kept (fun k q hk => hq q.1 (vx_lt hP hk))⟩, ⟨Nat.le_trans hS.1 hz, fun q h1 h2 => (hq q (Nat.lt_of_lt_of_le h1 hS.1)).trans (hS.2.1 q h1 h2)⟩⟩
theorem xv_out {Ft : Int32} {cd : Nat} (hF : Ft = 1) (hP : va_P D vwCl ws H) (hS : va_S A s.heap H locs) : ∀ t : State, t.heap = H → s.vm.Alike t.vm → vx_X (fun _ : Unit => ¬ Ft = 0) (fun E _ t => E = xname cd ∧ va_P D vwCl ws t.heap) A (xname cd) s t :=
  fun t ht _ => ⟨(), by rw [hF]; decide, ⟨rfl, toH ht hP⟩, hS.F ht⟩
/-- a test that throws or lets pass -/
theorem k_need {F : Int32} {cd : Nat} (hr : vx_Run p l e R s m args below meth c H locs cells slots mc ms (F0 m pc ls st0) rest (va_Qv (fun _ : Unit => F = 0) (fun _ t => va_P D vwCl ws t.heap) (adr ws) a) (vx_X (fun _ : Unit => ¬ F = 0) (fun E _ t => E = xname cd ∧ va_P D vwCl ws t.heap) (adr ws)) (adr ws)) (hS : va_S A s.heap H locs) (hD : va_D A ws)
    (kx : ¬ F = 0 → ∀ (ce : Cell) (q9 : Addr) (H1 : Heap) (locs1 : List Loc), va_P D vwCl ws H1 → va_S A s.heap H1 locs1 → H1[q9]? = some ce → ce.vm = .none → s.vm.findClass (xname cd) = some ce.cls → vx_W p l e R s m args below meth c H1 locs1 (cells + mc) (slots + ms) Q (F0 m pc ls rest) q9)
    (kk : F = 0 → ∀ (H1 : Heap) (locs1 : List Loc), va_P D vwCl ws H1 → va_S A s.heap H1 locs1 → W p l e R s m args below meth c H1 locs1 (cells + mc) (slots + ms) Q (F0 m (pc + 3) ls rest)) : W p l e R s m args below meth c H locs cells slots Q (F0 m pc ls st0) := by
  have hA := (D_addr.mp hD).2
  refine vx_callv hr hS (fun q _ h => hA q h) hA (fun q _ h => hA q h) (fun E ce q9 u t H1 locs1 ht hvm hp hB hz hk hS1 he hv hc => ?_) (fun u t H1 locs1 ht hvm hp hB hz hk hS1 => ?_)
  · obtain ⟨rfl, hB⟩ := hB
    rw [ht] at hB
    exact kx hp ce q9 H1 locs1 hB hS1 he hv hc
  · rw [ht] at hB
    exact kk hp H1 locs1 hB hS1
/-- the same of a static test, which sees no cell -/
theorem k_need0 {F : Int32} {cd : Nat} (hr : vx_Run p l e R s m args below meth c H locs cells slots mc ms (F0 m pc ls st0) rest (va_Qv (fun _ : Unit => F = 0) (fun _ t => va_P D vwCl [] t.heap) (adr []) a) (vx_X (fun _ : Unit => ¬ F = 0) (fun E _ t => E = xname cd ∧ va_P D vwCl [] t.heap) (adr [])) (adr [])) (hS : va_S A s.heap H locs) (hP : va_P D vwCl ws H)
    (kx : ¬ F = 0 → ∀ (ce : Cell) (q9 : Addr) (H1 : Heap) (locs1 : List Loc), va_P D vwCl ws H1 → va_S A s.heap H1 locs1 → H1[q9]? = some ce → ce.vm = .none → s.vm.findClass (xname cd) = some ce.cls → vx_W p l e R s m args below meth c H1 locs1 (cells + mc) (slots + ms) Q (F0 m pc ls rest) q9)
    (kk : F = 0 → ∀ (H1 : Heap) (locs1 : List Loc), va_P D vwCl ws H1 → va_S A s.heap H1 locs1 → W p l e R s m args below meth c H1 locs1 (cells + mc) (slots + ms) Q (F0 m (pc + 3) ls rest)) : W p l e R s m args below meth c H locs cells slots Q (F0 m pc ls st0) := by
  have hA : ∀ q, adr [] q → A q := fun q h => by simp [adr] at h
  have hkeep : ∀ H1 : Heap, (∀ q : Nat, q < H.size → ¬ adr [] q → H1[q]? = H[q]?) → va_P D vwCl ws H1 := fun H1 h => hP.kept (fun k q hk => h q.1 (vx_lt hP hk) (fun z => by simp [adr] at z))
  refine vx_callv hr hS (fun q _ h => hA q h) hA (fun q _ h => hA q h) (fun E ce q9 u t H1 locs1 ht hvm hp hB hz hk hS1 he hv hc => ?_) (fun u t H1 locs1 ht hvm hp hB hz hk hS1 => ?_)
  · obtain ⟨rfl, hB⟩ := hB
    exact kx hp ce q9 H1 locs1 (hkeep H1 hk) hS1 he hv hc
  · exact kk hp H1 locs1 (hkeep H1 hk) hS1
end KX
