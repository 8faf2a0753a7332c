/-! constructors: new cells beside a world. Mine. -/
theorem joinN {D : va_G} {A : Nat → Prop} {ws w1 : va_W} {cell : Nat × va_E} {H H1 : Heap} (hP : va_P D vwCl (ws ++ [cell]) H) (hD : va_D A (ws ++ [cell])) (hF : ∀ q, va_A [cell] H.size q → A q) (hk : ∀ q : Nat, q < H.size → ¬ va_A [cell] H.size q → H1[q]? = H[q]?) (hP1 : va_P D vwCl w1 H1) (hD1 : va_D (va_A [cell] H.size) w1) : va_P D vwCl (ws ++ w1) H1 ∧ va_D A (ws ++ w1) := by
  obtain ⟨n1, n2⟩ := D_addr.mp hD
  rw [List.map_append] at n1 n2
  obtain ⟨m1, m2, m3⟩ := List.nodup_append.mp n1
  have hPs : ∀ q ∈ ws, va_at D vwCl q H := fun q hq => P_mem.mp hP q (List.mem_append_left _ hq)
  have hlt : ∀ q ∈ ws, q.1 < H.size := fun q hq => (hPs q hq).lt
  have hne : ∀ q ∈ ws, q.1 ≠ cell.1 := fun q hq => m3 q.1 (List.mem_map.mpr ⟨q, hq, rfl⟩) cell.1 (by simp)
  have hout : ∀ q ∈ ws, ¬ va_A [cell] H.size q.1 := by
    intro q hq z
    rcases z with ⟨k, e, hk9⟩ | z
    · have := List.mem_singleton.mp (List.mem_of_getElem? hk9)
      exact hne q hq (by rw [← this])
    · have := hlt q hq
      omega
  have hPw : va_P D vwCl ws H := P_mem.mpr hPs
  refine ⟨(hPw.kept (fun k q hq => hk q.1 (hlt q (List.mem_of_getElem? hq)) (hout q (List.mem_of_getElem? hq)))).app hP1, ?_⟩
  obtain ⟨k1, k2⟩ := D_addr.mp hD1
  refine D_addr.mpr ⟨?_, ?_⟩
  · rw [List.map_append]
    refine List.nodup_append.mpr ⟨m1, k1, fun a ha b hb e => ?_⟩
    subst e
    obtain ⟨q, hq, rfl⟩ := List.mem_map.mp ha
    exact hout q hq (k2 _ hb)
  · intro a ha
    rw [List.map_append] at ha
    rcases List.mem_append.mp ha with h | h
    · exact n2 a (List.mem_append_left _ h)
    · exact hF a (k2 a h)
theorem K_int {c1 c2 : ClassId} {U : State} (h1 : va_RA U c1 .int) (h2 : va_RA U c2 .int) : c1 = c2 := Option.some.inj ((show U.vm.findClass _ = some c1 from h1).symm.trans h2)
theorem K_obj {C : String} {c1 c2 : ClassId} {U : State} (h1 : va_RA U c1 (.object C)) (h2 : va_RA U c2 (.object C)) : c1 = c2 := by
  obtain ⟨_, _, _, _, _, e1⟩ := h1
  obtain ⟨_, _, _, _, _, e2⟩ := h2
  exact Option.some.inj (e1.symm.trans e2)
/-- the static row of first values -/
def xfv (A : Nat → Prop) (cI : ClassId) (qF : Nat) (U : State) : Prop := va_Z RX6 "FIRST_VALUES" "[I" (.ref qF) A U U.heap ∧ va_T .int qF 4 (fun k => .int (fFV k)) A U U.heap ∧ ¬ A qF ∧ (cI = cI)
theorem xfv_at {A B : Nat → Prop} {cI : ClassId} {qF : Nat} {s U : State} {H : Heap} {locs : List Loc} (h : xfv A cI qF s) (hS : va_S A s.heap H locs) (hU : U.heap = H) (hW : s.WarmedH U.vm) (hAB : ∀ q, B q → A q) : xfv B cI qF U := by
  obtain ⟨h1, h3, h5, h7⟩ := h
  refine ⟨?_, ?_, fun z => h5 (hAB _ z), rfl⟩
  · rw [hU]
    exact (va_Z.moved hW.alike (h1.kept hS.2.1)).narrow hAB
  · rw [hU]
    exact (va_T.moved hW.alike (h3.kept hS.2.1)).narrow hAB
theorem xfv_call {A : Nat → Prop} {cI : ClassId} {qF : Nat} {U : State} {g : JFrame} {mk : MethodId} {a : Array Value} (h : xfv A cI qF U) : xfv A cI qF (U.calling g mk a) := ⟨va_Z.moved (u := U) (U := U.calling g mk a) (Vm.Alike.refl U.vm) h.1, va_T.moved (u := U) (U := U.calling g mk a) (Vm.Alike.refl U.vm) h.2.1, h.2.2⟩
def pcN (D : va_G) (tys : List (ClassId × FieldType)) (ws : va_W) (av : List Value) (sz : Nat) (cI : ClassId) (qF : Nat) : Array Value → State → Prop := va_Pc av (fun U => U.heap.size = sz ∧ va_P D vwCl ws U.heap ∧ va_K D vwCl tys U ∧ nst U ∧ va_D (fun _ => True) ws ∧ xfv (va_A ws sz) cI qF U ∧ va_AO "SupperSeats$Plan" U)
theorem pcN_blind {D : va_G} {tys : List (ClassId × FieldType)} {ws : va_W} {av : List Value} {sz : Nat} {cI : ClassId} {qF : Nat} : FrameBlind (pcN D tys ws av sz cI qF) := fun a U g mk q => ⟨q.1, q.2.1, q.2.2.1, va_K.moved (u := U) (U := U.calling g mk a) (Vm.Alike.refl U.vm) q.2.2.2.1, nst_same (u := U) (U := U.calling g mk a) rfl q.2.2.2.2.1, q.2.2.2.2.2.1, xfv_call q.2.2.2.2.2.2.1, va_AO.moved (u := U) (U := U.calling g mk a) (Vm.Alike.refl U.vm) q.2.2.2.2.2.2.2⟩
theorem pcN_I {s : State} {H : Heap} {D : va_G} {tys : List (ClassId × FieldType)} {wc : va_W} {A : Nat → Prop} {b : Nat} {As : List Value} {locs : List Loc} {cI : ClassId} {qF : Nat} (hP : va_P D vwCl wc H) (hK : va_K D vwCl tys s) (hn : nst s) (hD : va_D A wc) (hF : xfv A cI qF s) (hO : va_AO "SupperSeats$Plan" s) (hS : va_S A s.heap H locs) (hAB : ∀ q, va_A wc H.size q → A q) : PreS s H (pcN D tys wc (.ref b :: As) H.size cI qF) (.ref b :: As) := ⟨pcN_blind, fun U hU hW => ⟨rfl, by rw [hU], by rw [hU]; exact hP, va_K.moved hW.alike hK, nst_warm hW hn, hD.weaken (fun _ _ _ _ => trivial), xfv_at hF hS hU hW hAB, va_AO.moved hW.alike hO⟩⟩
theorem last_P {D : va_G} {ws : va_W} {cell : Nat × va_E} {H : Heap} (hP : va_P D vwCl (ws ++ [cell]) H) : va_P D vwCl [cell] H := P_mem.mpr (fun q hq => P_mem.mp hP q (List.mem_append_right _ hq))
theorem last_D {A : Nat → Prop} {ws : va_W} {cell : Nat × va_E} (hD : va_D A (ws ++ [cell])) : va_D A [cell] := by
  obtain ⟨n1, n2⟩ := D_addr.mp hD
  rw [List.map_append] at n1 n2
  exact D_addr.mpr ⟨(List.nodup_append.mp n1).2.1, fun a ha => n2 a (List.mem_append_right _ ha)⟩
theorem last_A {A : Nat → Prop} {ws : va_W} {cell : Nat × va_E} {H0 H : Heap} {locs : List Loc} (hD : va_D A (ws ++ [cell])) (hS : va_S A H0 H locs) (hA : ∀ q, H0.size ≤ q → A q) : ∀ q, va_A [cell] H.size q → A q := by
  intro q h
  rcases h with ⟨k, e, hk⟩ | h
  · have := List.mem_singleton.mp (List.mem_of_getElem? hk)
    have h2 := (D_addr.mp (last_D hD)).2 cell.1 (by simp)
    rw [← this] at h2
    exact h2
  · exact hA q (Nat.le_trans hS.1 h)
section KN
variable {p : Program} {l : Launch} {e : Env} {R : Room} {s : State} {m : MethodId} {args : Array Value} {below : List Frame} {meth : Method} {c : Code} {H : Heap} {locs : List Loc} {cells slots : Nat} {Q : State → Prop}
variable {pc : Nat} {ls : Array Slot} {rest st0 : List Value} {a : Array Value} {A : Nat → Prop} {D : va_G} {ws : va_W} {cc : ByteArray} {mc ms : Nat} {tys : List (ClassId × FieldType)}
/-- a new row of ints, of the class that is known -/
theorem k_newi {cI : ClassId} {n : Int32} {N' : Nat} (hexec : p.tables.exec = Jvm.exec) (hb : c.code = cc) (harr : (Cond.arrayClass .int).before args s = true) (hK : va_K D vwCl tys s) (hP : va_P D vwCl ws H) (hD : va_D A ws) (hS : va_S A s.heap H locs) (hA : ∀ q, s.heap.size ≤ q → A q) (h0 : tys[0]? = some (cI, .int))
    (hn : ¬ n < 0) (hN : n.toNatClampNeg = N') (hb4 : N' * componentBytes .int ≤ 536870912) (hcells : cells + 1 ≤ R.cells) (hslots : slots + N' ≤ R.slots) (hdg : decode cc pc = .ok (.newarray .int, 2))
    (kk : ∀ (q : Nat) (H1 : Heap), va_P D vwCl (ws ++ [(q, .inl (cI, N', .inl (fun _ => 0)))]) H1 → va_D A (ws ++ [(q, .inl (cI, N', .inl (fun _ => 0)))]) → va_S A s.heap H1 locs → W p l e R s m args below meth c H1 locs (cells + 1) (slots + N') Q (F0 m (pc + 2) ls (.ref q :: rest))) : W p l e R s m args below meth c H locs cells slots Q (F0 m pc ls (.int n :: rest)) := by
  refine va_newa (atype := .int) (ty := .int) (a0 := (N', .inl (fun _ => 0))) hexec hb harr rfl hK hP hD hS hA (fun cA => rfl) hn hN hb4 hcells hslots hdg (fun q cA H1 hK1 hP1 hD1 hS1 => ?_)
  have e : cA = cI := by
    have h1 := (hK1.2 tys.length (cA, .int) (by simp)).2
    exact K_int h1 (hK.2 0 _ h0).2
  subst e
  exact kk q H1 hP1 hD1 hS1
/-- a constructor of the cell just made -/
theorem k_ctor {S : Type} {post : S → Prop} {W1 : S → va_W} {cell : Nat × va_E} (hr : va_Run p l e R s m args below meth c H locs cells slots mc ms (F0 m pc ls st0) rest (va_Qv post (fun u t => va_P D vwCl (W1 u) t.heap ∧ va_D (va_A [cell] H.size) (W1 u)) (va_A [cell] H.size) a) (va_A [cell] H.size))
    (hP : va_P D vwCl (ws ++ [cell]) H) (hD : va_D A (ws ++ [cell])) (hS : va_S A s.heap H locs) (hA : ∀ q, s.heap.size ≤ q → A q)
    (kk : ∀ (u : S) (H1 : Heap) (locs1 : List Loc), post u → va_P D vwCl (ws ++ W1 u) H1 → va_D A (ws ++ W1 u) → va_S A s.heap H1 locs1 → W p l e R s m args below meth c H1 locs1 (cells + mc) (slots + ms) Q (F0 m (pc + 3) ls rest)) : W p l e R s m args below meth c H locs cells slots Q (F0 m pc ls st0) := by
  have hF := last_A hD hS hA
  refine va_callv hr hS (fun q _ h => hF q h) hF (fun u t H1 locs1 ht hvm hp hB hz hk hS1 => ?_)
  obtain ⟨hP1, hD1⟩ := hB
  rw [ht] at hP1
  obtain ⟨h1, h2⟩ := joinN hP hD hF hk hP1 hD1
  exact kk u H1 locs1 hp h1 h2 hS1
end KN
/-- rows alike where they are read -/
theorem arrV_congr {cA : ClassId} {n : Nat} {f g : Nat → Value} (h : ∀ k : Nat, k < n → f k = g k) : arrV cA n f = arrV cA n g := by
  unfold arrV
  congr 1
  apply Array.ext
  · simp
  · intro i h1 h2
    simp at h1
    simp [h i h1]

