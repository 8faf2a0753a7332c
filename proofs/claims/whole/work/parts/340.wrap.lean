/-! the law's small methods: a call, its answer into a row of one, or the place of what it throws. Mine. -/
def outW (cL : ClassId) (qo : Nat) (fo : Nat → Int64) : va_W := [(qo, .inl (cL, 1, .inr (.inl fo)))]
def wsw_ (y : MethodName) (b : ByteArray) (n : Nat) (r : Option FieldType) (hh : List (Nat × Nat × Nat × Nat)) : List Cond := .codeWith y b n r hh :: lw_all
def lct : Nat → Nat
  | 0 => 13
  | 1 => 15
  | _ => 20
def ltb (en : Nat) (l : List (Nat × Nat)) : List (Nat × Nat × Nat × Nat) := l.map (fun q => (0, en, q.1, lct q.2))
def xnc (U : State) : Prop := ∀ a b : Nat, a < 3 → b < 3 → a ≠ b → va_Nc (xname a) (xname b) U
theorem xnc_moved {u U : State} (h : u.vm.Alike U.vm) (k : xnc u) : xnc U := fun a b ha hb hab => (k a b ha hb hab).moved h
def pcL (D : va_G) (tys : List (ClassId × FieldType)) (ws : va_W) (av : List Value) : Array Value → State → Prop := va_Pc av (fun U => va_P D vwCl ws U.heap ∧ va_K D vwCl tys U ∧ nst U ∧ va_D (fun _ => True) ws ∧ xok (adr ws) U ∧ xnc U)
theorem pcL_blind {D : va_G} {tys : List (ClassId × FieldType)} {ws : va_W} {av : List Value} : FrameBlind (pcL D tys ws av) := fun a U g mk q => ⟨q.1, q.2.1, va_K.moved (u := U) (U := U.calling g mk a) (Vm.Alike.refl U.vm) q.2.2.1, nst_same (u := U) (U := U.calling g mk a) rfl q.2.2.2.1, q.2.2.2.2.1, xok_call q.2.2.2.2.2.1, xnc_moved (u := U) (U := U.calling g mk a) (Vm.Alike.refl U.vm) q.2.2.2.2.2.2⟩
theorem pcL_S {s : State} {H : Heap} {D : va_G} {tys : List (ClassId × FieldType)} {ws : va_W} {A : Nat → Prop} {As : List Value} {locs : List Loc} (hP : va_P D vwCl ws H) (hK : va_K D vwCl tys s) (hn : nst s) (hD : va_D A ws) (hX : xok A s) (hN : xnc s) (hS : va_S A s.heap H locs) : PreS s H (pcL D tys ws As) As := ⟨pcL_blind, fun U hU hW => ⟨rfl, by rw [hU]; exact hP, va_K.moved hW.alike hK, nst_warm hW hn, hD.weaken (fun _ _ _ _ => trivial), xok_at hX hS hU hW (D_addr.mp hD).2, xnc_moved hW.alike hN⟩⟩
theorem gi_W {z : Cond} {own : String} {idx : Nat} {y : MethodName} {b : ByteArray} {n : Nat} {r : Option FieldType} {hh : List (Nat × Nat × Nat × Nat)} (h1 : Cond.methodLink own idx y ∈ lw_all) (h2 : Cond.static y ∈ lw_all) (h4 : Cond.initialized y.cls ∈ lw_all) (h5 : Cond.codeWith y b n r hh ∈ lw_all) : GoodIn (z :: lw_all) (va_wsS own idx y (wsw_ y b n r hh)) := gi_cons (gi_one h1) (gi_cons (gi_one h2) (gi_cons (gi_one h4) (gi_cons (gi_one h5) (fun w hw => ⟨List.mem_cons_of_mem _ hw, lw_good w hw⟩))))
section KL
variable {p : Program} {l : Launch} {e : Env} {R : Room} {s : State} {m : MethodId} {args : Array Value} {below : List Frame} {meth : Method} {c : Code} {H : Heap} {locs : List Loc} {cells slots : Nat} {Q : State → Prop}
variable {pc : Nat} {ls : Array Slot} {rest st0 : List Value} {a : Array Value} {A : Nat → Prop} {D : va_G} {wf wo : va_W} {cc : ByteArray} {mc ms : Nat} {free : Addr → Prop}
theorem k_catch {cd hp en : Nat} {pre suf : List (Nat × Nat)} {ce : Cell} {q : Addr} (hT : c.exceptionTable.toList = tableOf (ltb en (pre ++ (hp, cd) :: suf))) (hpre : ∀ z ∈ pre, z.2 < 3 ∧ z.2 ≠ cd) (hcd : cd < 3) (hpc : decide (pc < en) = true) (hown : s.vm.findClass RL = some m.cls) (hts : ∀ w ∈ lw_all, w.before args s = true) (hX : xok A s) (hN : xnc s)
    (hcell : H[q]? = some ce) (hv : ce.vm = .none) (hcl : s.vm.findClass (xname cd) = some ce.cls) (kk : W p l e R s m args below meth c H locs cells slots Q (F0 m hp ls [.ref q])) : vx_W p l e R s m args below meth c H locs cells slots Q (F0 m pc ls rest) q := by
  have hlk : ∀ k : Nat, k < 3 → (Cond.classLink RL (lct k) (xname k)).before args s = true := fun k hk => by
    rcases (show k = 0 ∨ k = 1 ∨ k = 2 by omega) with rfl | rfl | rfl
    · exact hts _ u_442
    · exact hts _ u_443
    · exact hts _ u_542
  have hct : ∀ k : Nat, lct k ≠ 0 := fun k => by
    unfold lct
    split <;> decide
  have hcov : ∀ q9 : Nat × Nat, covers (⟨0, en, q9.1, lct q9.2⟩ : ExceptionTableEntry) pc = true := fun q9 => by
    have := of_decide_eq_true hpc
    simp [covers, this]
  refine vx_catch (own := RL) (name := xname cd) hown (tableOf (ltb en pre)) ⟨0, en, hp, lct cd⟩ (tableOf (ltb en suf)) (by rw [hT]; simp [ltb, tableOf]) (fun z hz => ?_) (hcov (hp, cd)) (hct cd) (hlk cd hcd) (xcast hX _ ?_) hcell hv hcl kk
  · right
    obtain ⟨y, hy, rfl⟩ := List.mem_map.mp hz
    obtain ⟨x, hx, rfl⟩ := List.mem_map.mp hy
    obtain ⟨h1, h2⟩ := hpre x hx
    exact ⟨hct x.2, xname x.2, hlk x.2 h1, hN cd x.2 hcd h1 (Ne.symm h2)⟩
  · rcases (show cd = 0 ∨ cd = 1 ∨ cd = 2 by omega) with rfl | rfl | rfl <;> simp [xB, xname]
/-- a call on the first of two blocks, which may throw -/
theorem k_bthr {S : Type} {post : Int32 → S → Prop} {px : Nat → Prop} {W1 : S → va_W} (hr : vx_Run p l e R s m args below meth c H locs cells slots mc ms (F0 m pc ls st0) rest (va_Qi post (fun u t => va_P D vwCl (W1 u) t.heap) (adr wf) a) (vx_X px (fun E c9 t => E = xname c9 ∧ va_P D vwCl wf t.heap) (adr wf)) (adr wf))
    (hP : va_P D vwCl (fl [wf, wo]) H) (hD : va_D A (fl [wf, wo])) (hS : va_S A s.heap H locs) (hw : ∀ u, (W1 u).map (fun c => c.1) = wf.map (fun c => c.1))
    (kx : ∀ (c9 : Nat) (ce : Cell) (q9 : Addr) (H1 : Heap) (locs1 : List Loc), px c9 → va_P D vwCl (fl [wf, wo]) H1 → va_S A s.heap H1 locs1 → H1[q9]? = some ce → ce.vm = .none → s.vm.findClass (xname c9) = some ce.cls → vx_W p l e R s m args below meth c H1 locs1 (cells + mc) (slots + ms) Q (F0 m pc ls rest) q9)
    (kk : ∀ (r : Int32) (u : S) (H1 : Heap) (locs1 : List Loc), post r u → va_P D vwCl (fl [W1 u, wo]) H1 → va_D A (fl [W1 u, wo]) → va_S A s.heap H1 locs1 → W p l e R s m args below meth c H1 locs1 (cells + mc) (slots + ms) Q (F0 m (pc + 3) ls (.int r :: rest))) : W p l e R s m args below meth c H locs cells slots Q (F0 m pc ls st0) := by
  have hA : ∀ q, adr wf q → A q := adr_fl (wc := [wf]) hD [0] rfl rfl
  refine vx_calli hr hS (fun q _ h => hA q h) hA (fun q _ h => hA q h) (fun E ce q9 u t H1 locs1 ht hvm hp hB hz hk hS1 he hv hc => ?_) (fun r u t H1 locs1 ht hvm hp hB hz hk hS1 => ?_)
  · obtain ⟨rfl, hB⟩ := hB
    rw [ht] at hB
    exact kx u ce q9 H1 locs1 hp (blk (wc := [wf]) (w1 := [wf]) hP hD [0] rfl rfl rfl hk hB).1 hS1 he hv hc
  · rw [ht] at hB
    obtain ⟨h1, h2⟩ := blk (wc := [wf]) (w1 := [W1 u]) hP hD [0] rfl rfl (by simp only [bad, List.map_cons, List.map_nil, hw u]) hk hB
    exact kk r u H1 locs1 hp h1 h2 hS1
/-- the same where a throw may leave one thing written -/
theorem k_bthrT {S V : Type} {post : Int32 → S → Prop} {px : Nat → Prop} {W1 : S → va_W} {WX : V → va_W} (hr : vx_Run p l e R s m args below meth c H locs cells slots mc ms (F0 m pc ls st0) rest (va_Qi post (fun u t => va_P D vwCl (W1 u) t.heap) (adr wf) a) (vx_X px (fun E c9 t => E = xname c9 ∧ ∃ v : V, va_P D vwCl (WX v) t.heap) (adr wf)) (adr wf))
    (hP : va_P D vwCl (fl [wf, wo]) H) (hD : va_D A (fl [wf, wo])) (hS : va_S A s.heap H locs) (hw : ∀ u, (W1 u).map (fun c => c.1) = wf.map (fun c => c.1)) (hx : ∀ v, (WX v).map (fun c => c.1) = wf.map (fun c => c.1))
    (kx : ∀ (c9 : Nat) (v : V) (ce : Cell) (q9 : Addr) (H1 : Heap) (locs1 : List Loc), px c9 → va_P D vwCl (fl [WX v, wo]) H1 → va_D A (fl [WX v, wo]) → va_S A s.heap H1 locs1 → H1[q9]? = some ce → ce.vm = .none → s.vm.findClass (xname c9) = some ce.cls → vx_W p l e R s m args below meth c H1 locs1 (cells + mc) (slots + ms) Q (F0 m pc ls rest) q9)
    (kk : ∀ (r : Int32) (u : S) (H1 : Heap) (locs1 : List Loc), post r u → va_P D vwCl (fl [W1 u, wo]) H1 → va_D A (fl [W1 u, wo]) → va_S A s.heap H1 locs1 → W p l e R s m args below meth c H1 locs1 (cells + mc) (slots + ms) Q (F0 m (pc + 3) ls (.int r :: rest))) : W p l e R s m args below meth c H locs cells slots Q (F0 m pc ls st0) := by
  have hA : ∀ q, adr wf q → A q := adr_fl (wc := [wf]) hD [0] rfl rfl
  refine vx_calli hr hS (fun q _ h => hA q h) hA (fun q _ h => hA q h) (fun E ce q9 u t H1 locs1 ht hvm hp hB hz hk hS1 he hv hc => ?_) (fun r u t H1 locs1 ht hvm hp hB hz hk hS1 => ?_)
  · obtain ⟨rfl, v, hB⟩ := hB
    rw [ht] at hB
    obtain ⟨h1, h2⟩ := blk (wc := [wf]) (w1 := [WX v]) hP hD [0] rfl rfl (by simp only [bad, List.map_cons, List.map_nil, hx v]) hk hB
    exact kx u v ce q9 H1 locs1 hp h1 h2 hS1 he hv hc
  · rw [ht] at hB
    obtain ⟨h1, h2⟩ := blk (wc := [wf]) (w1 := [W1 u]) hP hD [0] rfl rfl (by simp only [bad, List.map_cons, List.map_nil, hw u]) hk hB
    exact kk r u H1 locs1 hp h1 h2 hS1
end KL
