/-! The class's worlds, the shapes of contracts, and calls of them. Mine. -/
/-- a plan's rows, by number (0 families, 1 sizes, 2 wishes, 3 tableAt, 4 seatAt, 5 tableSeats, 6 holders, 7 settings, 8 feuds, 9 order; 10: guests, tables, timesSat, timesRisen, feuds used, order used) -/
abbrev PV : Type := Nat → Nat → Int32
def rset (P : PV) (a : Nat) (f : Nat → Int32) : PV := fun b => if b = a then f else P b
def sset (P : PV) (k : Nat) (v : Int32) : PV := rset P 10 (upd (P 10) k v)
def aW (cI : ClassId) (q n : Nat) (f : Nat → Int32) : va_W := [(q, .inl (cI, n, .inl f))]
def lW (cI : ClassId) (q0 q1 n : Nat) (f : Nat → Int32) (u : Int32) : va_W := [(q0, .inr (1, [.ref q1, .int u])), (q1, .inl (cI, n, .inl f))]
def pW (cI : ClassId) (ad : Nat → Nat) (P : PV) : va_W :=
  [(ad 0, .inr (2, [.ref (ad 1), .ref (ad 2), .ref (ad 3), .ref (ad 4), .ref (ad 5), .ref (ad 6), .ref (ad 7), .ref (ad 8), .ref (ad 9), .ref (ad 11), .int (P 10 0), .int (P 10 1), .int (P 10 2), .int (P 10 3)])),
   (ad 1, .inl (cI, 16, .inl (P 0))), (ad 2, .inl (cI, 16, .inl (P 1))), (ad 3, .inl (cI, 16, .inl (P 2))), (ad 4, .inl (cI, 16, .inl (P 3))), (ad 5, .inl (cI, 16, .inl (P 4))),
   (ad 6, .inl (cI, 4, .inl (P 5))), (ad 7, .inl (cI, 32, .inl (P 6))), (ad 8, .inl (cI, 4, .inl (P 7))),
   (ad 9, .inr (1, [.ref (ad 10), .int (P 10 4)])), (ad 10, .inl (cI, 8, .inl (P 8))),
   (ad 11, .inr (1, [.ref (ad 12), .int (P 10 5)])), (ad 12, .inl (cI, 16, .inl (P 9)))]
/-- the text: its line, and the line's row -/
def xW (cI : ClassId) (t0 t1 t2 : Nat) (f : Nat → Int32) (u : Int32) : va_W := [(t0, .inr (3, [.ref t1])), (t1, .inr (1, [.ref t2, .int u])), (t2, .inl (cI, 60, .inl f))]
/-- the reference: its object, the row s, the row text; M: thrown 0, saved 1, isKept 2, length 3, at 4, isRise 5, first 6, second 7, third 8 -/
def mW (cI : ClassId) (o q0 q1 : Nat) (f : Nat → Int32) (x : Nat → Int32) (M : Nat → Int32) (h : Int64) : va_W :=
  [(o, .inr (5, [.int (M 0), .ref q0, .int (M 1), .int (M 2), .ref q1, .int (M 3), .int (M 4), .int (M 5), .int (M 6), .int (M 7), .int (M 8), .long h])),
   (q0, .inl (cI, 1062, .inl f)), (q1, .inl (cI, 60, .inl x))]
/-! loops, as functions: n rounds left, the counter k -/
section LQ
variable {A B C D E ρ : Type}
def lq0 (b : Nat → ρ → ρ) (r : ρ) : Nat → Nat → ρ
  | 0, _ => r
  | n + 1, k => b k (lq0 b r n (k + 1))
def lq1 (b : Nat → A → (A → ρ) → ρ) (r : A → ρ) : Nat → Nat → A → ρ
  | 0, _, x => r x
  | n + 1, k, x => b k x (lq1 b r n (k + 1))
def lq2 (b : Nat → A → B → (A → B → ρ) → ρ) (r : A → B → ρ) : Nat → Nat → A → B → ρ
  | 0, _, x, y => r x y
  | n + 1, k, x, y => b k x y (lq2 b r n (k + 1))
def lq3 (b : Nat → A → B → C → (A → B → C → ρ) → ρ) (r : A → B → C → ρ) : Nat → Nat → A → B → C → ρ
  | 0, _, x, y, z => r x y z
  | n + 1, k, x, y, z => b k x y z (lq3 b r n (k + 1))
def lq4 (b : Nat → A → B → C → D → (A → B → C → D → ρ) → ρ) (r : A → B → C → D → ρ) : Nat → Nat → A → B → C → D → ρ
  | 0, _, x, y, z, w => r x y z w
  | n + 1, k, x, y, z, w => b k x y z w (lq4 b r n (k + 1))
theorem lq0_z (b : Nat → ρ → ρ) (r : ρ) (k : Nat) : lq0 b r 0 k = r := rfl
theorem lq0_s (b : Nat → ρ → ρ) (r : ρ) (n k : Nat) : lq0 b r (n + 1) k = b k (lq0 b r n (k + 1)) := rfl
theorem lq1_z (b : Nat → A → (A → ρ) → ρ) (r : A → ρ) (k : Nat) (x : A) : lq1 b r 0 k x = r x := rfl
theorem lq1_s (b : Nat → A → (A → ρ) → ρ) (r : A → ρ) (n k : Nat) (x : A) : lq1 b r (n + 1) k x = b k x (lq1 b r n (k + 1)) := rfl
theorem lq2_z (b : Nat → A → B → (A → B → ρ) → ρ) (r : A → B → ρ) (k : Nat) (x : A) (y : B) : lq2 b r 0 k x y = r x y := rfl
theorem lq2_s (b : Nat → A → B → (A → B → ρ) → ρ) (r : A → B → ρ) (n k : Nat) (x : A) (y : B) : lq2 b r (n + 1) k x y = b k x y (lq2 b r n (k + 1)) := rfl
theorem lq3_z (b : Nat → A → B → C → (A → B → C → ρ) → ρ) (r : A → B → C → ρ) (k : Nat) (x : A) (y : B) (z : C) : lq3 b r 0 k x y z = r x y z := rfl
theorem lq3_s (b : Nat → A → B → C → (A → B → C → ρ) → ρ) (r : A → B → C → ρ) (n k : Nat) (x : A) (y : B) (z : C) : lq3 b r (n + 1) k x y z = b k x y z (lq3 b r n (k + 1)) := rfl
theorem lq4_z (b : Nat → A → B → C → D → (A → B → C → D → ρ) → ρ) (r : A → B → C → D → ρ) (k : Nat) (x : A) (y : B) (z : C) (w : D) : lq4 b r 0 k x y z w = r x y z w := rfl
theorem lq4_s (b : Nat → A → B → C → D → (A → B → C → D → ρ) → ρ) (r : A → B → C → D → ρ) (n k : Nat) (x : A) (y : B) (z : C) (w : D) : lq4 b r (n + 1) k x y z w = b k x y z w (lq4 b r n (k + 1)) := rfl
/-- a value that is named -/
def bd (x : A) (f : A → ρ) : ρ := f x
theorem bd_at {x v : A} {f : A → ρ} {F : ρ} (h : F = bd x f) (hv : v = x) : F = f v := by subst hv; exact h
def bd2 (x : A × B) (f : A → B → ρ) : ρ := f x.1 x.2
theorem bd2_at {x : A × B} {a : A} {b : B} {f : A → B → ρ} {F : ρ} (h : F = bd2 x f) (hv : (a, b) = x) : F = f a b := by subst hv; exact h
def bd3 (x : A × B × C) (f : A → B → C → ρ) : ρ := f x.1 x.2.1 x.2.2
theorem bd3_at {x : A × B × C} {a : A} {b : B} {c : C} {f : A → B → C → ρ} {F : ρ} (h : F = bd3 x f) (hv : (a, b, c) = x) : F = f a b c := by subst hv; exact h
def bd4 (x : A × B × C × D) (f : A → B → C → D → ρ) : ρ := f x.1 x.2.1 x.2.2.1 x.2.2.2
theorem bd4_at {x : A × B × C × D} {a : A} {b : B} {c : C} {d : D} {f : A → B → C → D → ρ} {F : ρ} (h : F = bd4 x f) (hv : (a, b, c, d) = x) : F = f a b c d := by subst hv; exact h
theorem nb01 {x : Int32} (h : x = 0 ∨ x = 1) : narrow .boolean (.int x) = .int x := by rcases h with rfl | rfl <;> rfl
end LQ
/-! counters -/
theorem cn_clamp_lt (x : Int32) : x.toNatClampNeg < 2 ^ 31 := by
  have h := Int32.toInt_lt x
  rw [← Int32.toNat_toInt]
  omega
theorem cn_le {x : Int32} {k : Nat} (hk : k ≤ x.toNatClampNeg) : x ≤ nI k ↔ x.toNatClampNeg ≤ k := by
  have h0 := cn_clamp_lt x
  rw [Int32.le_iff_toInt_le, nI_toInt (by omega), ← Int32.toNat_toInt]
  omega
theorem cn_exit {x : Int32} {k n : Nat} (h : k + n = x.toNatClampNeg) (c : x ≤ nI k) : n = 0 := by
  have := (cn_le (by omega)).mp c
  omega
theorem cn_go {x : Int32} {k n : Nat} (h : k + n = x.toNatClampNeg) (c : ¬ x ≤ nI k) : ∃ j, n = j + 1 := by
  cases n with
  | zero => exact absurd ((cn_le (by omega)).mpr (by omega)) c
  | succ j => exact ⟨j, rfl⟩
theorem cn_next {k n N : Nat} (h : k + (n + 1) = N) : (k + 1) + n = N := by omega
theorem vin_k {k j n : Nat} {x : Int32} (hn : n < 2 ^ 31) (hk : k + (j + 1) = x.toNatClampNeg) (c : ¬ nI n ≤ nI k) : vp_in (nI k) n := by
  have h0 := cn_clamp_lt x
  rw [nI_leI hn (by omega)] at c
  exact vp_in_nI (by omega) hn
theorem toH {D : va_G} {cl : List vw_C} {ws : va_W} {H H1 : Heap} (e : H1 = H) (h : va_P D cl ws H) : va_P D cl ws H1 := by rw [e]; exact h
theorem vin {i : Int32} {n : Nat} (hn : n < 2 ^ 31) (c1 : ¬ i < 0) (c2 : ¬ nI n ≤ i) : vp_in i n := by
  intro h
  rcases h with h | h
  · exact c1 h
  · apply c2
    rw [Int32.le_iff_toInt_le, nI_toInt hn]
    rw [← Int32.toNat_toInt] at h
    rw [Int32.lt_iff_toInt_lt] at c1
    have : (0 : Int32).toInt = 0 := rfl
    omega
/-! reading contracts -/
def pcR (D : va_G) (tys : List (ClassId × FieldType)) (ws : va_W) (av : List Value) : Array Value → State → Prop := va_Pc av (fun U => va_P D vwCl ws U.heap ∧ va_K D vwCl tys U ∧ nst U)
theorem pcR_blind {D : va_G} {tys : List (ClassId × FieldType)} {ws : va_W} {av : List Value} : FrameBlind (pcR D tys ws av) := fun a U g mk q => ⟨q.1, q.2.1, va_K.moved (u := U) (U := U.calling g mk a) (Vm.Alike.refl U.vm) q.2.2.1, nst_same (u := U) (U := U.calling g mk a) rfl q.2.2.2⟩
theorem pcR_S {s : State} {H : Heap} {D : va_G} {tys : List (ClassId × FieldType)} {ws : va_W} {As : List Value} (hP : va_P D vwCl ws H) (hK : va_K D vwCl tys s) (hn : nst s) : PreS s H (pcR D tys ws As) As := ⟨pcR_blind, fun U hU hW => ⟨rfl, by rw [hU]; exact hP, va_K.moved hW.alike hK, nst_warm hW hn⟩⟩
theorem pcR_V {s : State} {H : Heap} {D : va_G} {tys : List (ClassId × FieldType)} {ws : va_W} {a : Nat} {As : List Value} {ci q0 : Nat} {q : vw_C} {fs : List Value} (hP : va_P D vwCl ws H) (hK : va_K D vwCl tys s) (hn : nst s) (hc : vwCl[ci]? = some q) (he : ws[q0]? = some (a, .inr (ci, fs))) : PreV s H q.1 a (pcR D tys ws (.ref a :: As)) As := ⟨pcR_blind, va_recv hK hP hc he, fun U hU hW => ⟨rfl, by rw [hU]; exact hP, va_K.moved hW.alike hK, nst_warm hW hn⟩⟩
/-! changing contracts: a world's cells alone, none new -/
def adr (ws : va_W) : Nat → Prop := fun q => q ∈ ws.map (fun c => c.1)
def pcM (D : va_G) (tys : List (ClassId × FieldType)) (ws : va_W) (av : List Value) : Array Value → State → Prop := va_Pc av (fun U => va_P D vwCl ws U.heap ∧ va_K D vwCl tys U ∧ nst U ∧ va_D (fun _ => True) ws)
theorem pcM_blind {D : va_G} {tys : List (ClassId × FieldType)} {ws : va_W} {av : List Value} : FrameBlind (pcM D tys ws av) := fun a U g mk q => ⟨q.1, q.2.1, va_K.moved (u := U) (U := U.calling g mk a) (Vm.Alike.refl U.vm) q.2.2.1, nst_same (u := U) (U := U.calling g mk a) rfl q.2.2.2.1, q.2.2.2.2⟩
theorem pcM_S {s : State} {H : Heap} {D : va_G} {tys : List (ClassId × FieldType)} {ws : va_W} {A : Nat → Prop} {As : List Value} (hP : va_P D vwCl ws H) (hK : va_K D vwCl tys s) (hn : nst s) (hD : va_D A ws) : PreS s H (pcM D tys ws As) As := ⟨pcM_blind, fun U hU hW => ⟨rfl, by rw [hU]; exact hP, va_K.moved hW.alike hK, nst_warm hW hn, hD.weaken (fun _ _ _ _ => trivial)⟩⟩
theorem pcM_V {s : State} {H : Heap} {D : va_G} {tys : List (ClassId × FieldType)} {ws : va_W} {A : Nat → Prop} {a : Nat} {As : List Value} {ci q0 : Nat} {q : vw_C} {fs : List Value} (hP : va_P D vwCl ws H) (hK : va_K D vwCl tys s) (hn : nst s) (hD : va_D A ws) (hc : vwCl[ci]? = some q) (he : ws[q0]? = some (a, .inr (ci, fs))) : PreV s H q.1 a (pcM D tys ws (.ref a :: As)) As := ⟨pcM_blind, va_recv hK hP hc he, fun U hU hW => ⟨rfl, by rw [hU]; exact hP, va_K.moved hW.alike hK, nst_warm hW hn, hD.weaken (fun _ _ _ _ => trivial)⟩⟩
theorem adr_self {ws : va_W} {B : Nat → Prop} (h : va_D B ws) : va_D (adr ws) ws := ⟨h.1, fun k q hk => List.mem_map.mpr ⟨q, List.mem_of_getElem? hk, rfl⟩⟩
/-- a world with some of its cells written anew -/
def plug (ws : va_W) : List Nat → va_W → va_W
  | i :: is, q :: w => plug (ws.set i q) is w
  | _, _ => ws
theorem plug_get : ∀ (is : List Nat) (w ws : va_W), va_nd is = true → is.length = w.length → ∀ k, (plug ws is w)[k]? = (if k ∈ is then (if k < ws.length then w[is.idxOf k]? else none) else ws[k]?)
  | [], w, ws, _, _, k => by cases w <;> simp [plug]
  | i :: is, [], ws, _, hl, k => by simp at hl
  | i :: is, q :: w, ws, hn, hl, k => by
    simp only [va_nd, Bool.and_eq_true, decide_eq_true_eq] at hn
    simp only [List.length_cons, Nat.add_right_cancel_iff] at hl
    rw [plug, plug_get is w (ws.set i q) hn.2 hl k]
    by_cases hki : k = i
    · subst hki
      rw [if_neg hn.1, if_pos List.mem_cons_self]
      by_cases hlt : k < ws.length
      · rw [if_pos hlt, List.getElem?_set_self hlt]; simp
      · rw [if_neg hlt, List.getElem?_eq_none (by rw [List.length_set]; omega)]
    · by_cases hk : k ∈ is
      · rw [if_pos hk, if_pos (List.mem_cons_of_mem _ hk), List.length_set]
        split
        · have e : (i == k) = false := by simp [Ne.symm hki]
          rw [List.idxOf_cons, e]; simp
        · rfl
      · rw [if_neg hk, if_neg (by simp [hki, hk]), List.getElem?_set_ne (Ne.symm hki)]
theorem plug_world {D : va_G} {A : Nat → Prop} {ws wc w1 : va_W} {H H1 : Heap} (hP : va_P D vwCl ws H) (hD : va_D A ws) (is : List Nat) (hn : va_nd is = true) (hC : is.map (fun i => ws[i]?) = wc.map some) (h1 : w1.map (fun c => c.1) = wc.map (fun c => c.1))
    (hk : ∀ q : Nat, q < H.size → ¬ adr wc q → H1[q]? = H[q]?) (hP1 : va_P D vwCl w1 H1) : va_P D vwCl (plug ws is w1) H1 ∧ va_D A (plug ws is w1) := by
  have hl : is.length = w1.length := by
    have a := congrArg List.length hC
    have b := congrArg List.length h1
    simp only [List.length_map] at a b
    omega
  have key : ∀ (k : Nat) (q : Nat × va_E), (plug ws is w1)[k]? = some q → (∃ j : Nat, is[j]? = some k ∧ w1[j]? = some q ∧ ∃ q0, ws[k]? = some q0 ∧ q0.1 = q.1) ∨ (k ∉ is ∧ ws[k]? = some q) := by
    intro k q hq
    rw [plug_get is w1 ws hn hl k] at hq
    by_cases hm : k ∈ is
    · rw [if_pos hm] at hq
      left
      split at hq
      · have hj : is.idxOf k < is.length := List.idxOf_lt_length_of_mem hm
        have hjk : is[is.idxOf k]? = some k := by rw [List.getElem?_eq_getElem hj, List.getElem_idxOf hj]
        refine ⟨is.idxOf k, hjk, hq, ?_⟩
        have e1 := congrArg (fun l => l[is.idxOf k]?) hC
        have e2 := congrArg (fun l => l[is.idxOf k]?) h1
        simp only [List.getElem?_map, hjk, hq, Option.map_some] at e1 e2
        cases hw : wc[is.idxOf k]? with
        | none => rw [hw] at e2; simp at e2
        | some z =>
          rw [hw] at e1 e2
          simp only [Option.map_some, Option.some.injEq] at e1 e2
          exact ⟨z, e1, e2.symm⟩
      · cases hq
    · rw [if_neg hm] at hq
      exact Or.inr ⟨hm, hq⟩
  have addr : ∀ (k : Nat) (q : Nat × va_E), (plug ws is w1)[k]? = some q → ∃ q0, ws[k]? = some q0 ∧ q0.1 = q.1 := by
    intro k q hq
    rcases key k q hq with ⟨_, _, _, h⟩ | ⟨_, h⟩
    · exact h
    · exact ⟨q, h, rfl⟩
  refine ⟨fun k q hq => ?_, fun i j p q hi hj hpq => ?_, fun k q hq => ?_⟩
  · rcases key k q hq with ⟨j, _, h2, _⟩ | ⟨hm, hw⟩
    · exact hP1 j q h2
    · refine (hP k q hw).kept (hk q.1 (hP k q hw).lt fun hc => ?_)
      obtain ⟨z, hz, hz1⟩ := List.mem_map.mp hc
      obtain ⟨j, hj⟩ := List.getElem?_of_mem hz
      have e1 := congrArg (fun l => l[j]?) hC
      simp only [List.getElem?_map, hj, Option.map_some] at e1
      cases hi : is[j]? with
      | none => rw [hi] at e1; simp at e1
      | some i =>
        rw [hi] at e1
        simp only [Option.map_some, Option.some.injEq] at e1
        have := hD.1 i k z q e1 hw hz1
        subst this
        exact hm (List.mem_of_getElem? hi)
  · obtain ⟨p0, a1, a2⟩ := addr i p hi
    obtain ⟨q0, b1, b2⟩ := addr j q hj
    exact hD.1 i j p0 q0 a1 b1 (a2.trans (hpq.trans b2.symm))
  · obtain ⟨q0, a1, a2⟩ := addr k q hq
    rw [← a2]
    exact hD.2 k q0 a1
theorem adr_in {A : Nat → Prop} {ws wc : va_W} (hD : va_D A ws) (is : List Nat) (hC : is.map (fun i => ws[i]?) = wc.map some) : ∀ q, adr wc q → A q := by
  intro q hq
  obtain ⟨z, hz, rfl⟩ := List.mem_map.mp hq
  obtain ⟨j, hj⟩ := List.getElem?_of_mem hz
  have e1 := congrArg (fun l => l[j]?) hC
  simp only [List.getElem?_map, hj, Option.map_some] at e1
  cases hi : is[j]? with
  | none => rw [hi] at e1; simp at e1
  | some i =>
    rw [hi] at e1
    simp only [Option.map_some, Option.some.injEq] at e1
    exact hD.2 i z e1
section KC
variable {p : Program} {l : Launch} {e : Env} {R : Room} {s : State} {m : MethodId} {args : Array Value} {below : List Frame} {meth : Method} {c : Code} {H : Heap} {locs : List Loc} {cells slots : Nat} {Q : State → Prop}
variable {pc : Nat} {ls : Array Slot} {rest st0 : List Value} {a : Array Value} {A : Nat → Prop} {H0 : Heap} {D : va_G} {ws wc : va_W}
/-- an int comes back, the callee's cells are written anew -/
theorem k_muti {S : Type} {post : Int32 → S → Prop} {Wd : S → va_W} (hr : va_Run p l e R s m args below meth c H locs cells slots 0 0 (F0 m pc ls st0) rest (va_Qi post (fun u t => va_P D vwCl (Wd u) t.heap) (adr wc) a) (adr wc))
    (hP : va_P D vwCl ws H) (hD : va_D A ws) (hS : va_S A H0 H locs) (is : List Nat) (hn : va_nd is = true) (hC : is.map (fun i => ws[i]?) = wc.map some) (hw : ∀ u, (Wd u).map (fun c => c.1) = wc.map (fun c => c.1))
    (kk : ∀ (r : Int32) (u : S) (H1 : Heap) (locs1 : List Loc), post r u → va_P D vwCl (plug ws is (Wd u)) H1 → va_D A (plug ws is (Wd u)) → va_S A H0 H1 locs1 → W p l e R s m args below meth c H1 locs1 cells slots Q (F0 m (pc + 3) ls (.int r :: rest))) : W p l e R s m args below meth c H locs cells slots Q (F0 m pc ls st0) := by
  have hA := adr_in hD is hC
  refine va_calli hr hS (fun q _ h => hA q h) hA (fun r u t H1 locs1 ht hvm hp hB hz hk hS1 => ?_)
  rw [ht] at hB
  obtain ⟨h1, h2⟩ := plug_world hP hD is hn hC (hw u) hk hB
  exact kk r u H1 locs1 hp h1 h2 hS1
theorem k_mutv {S : Type} {post : S → Prop} {Wd : S → va_W} (hr : va_Run p l e R s m args below meth c H locs cells slots 0 0 (F0 m pc ls st0) rest (va_Qv post (fun u t => va_P D vwCl (Wd u) t.heap) (adr wc) a) (adr wc))
    (hP : va_P D vwCl ws H) (hD : va_D A ws) (hS : va_S A H0 H locs) (is : List Nat) (hn : va_nd is = true) (hC : is.map (fun i => ws[i]?) = wc.map some) (hw : ∀ u, (Wd u).map (fun c => c.1) = wc.map (fun c => c.1))
    (kk : ∀ (u : S) (H1 : Heap) (locs1 : List Loc), post u → va_P D vwCl (plug ws is (Wd u)) H1 → va_D A (plug ws is (Wd u)) → va_S A H0 H1 locs1 → W p l e R s m args below meth c H1 locs1 cells slots Q (F0 m (pc + 3) ls rest)) : W p l e R s m args below meth c H locs cells slots Q (F0 m pc ls st0) := by
  have hA := adr_in hD is hC
  refine va_callv hr hS (fun q _ h => hA q h) hA (fun u t H1 locs1 ht hvm hp hB hz hk hS1 => ?_)
  rw [ht] at hB
  obtain ⟨h1, h2⟩ := plug_world hP hD is hn hC (hw u) hk hB
  exact kk u H1 locs1 hp h1 h2 hS1
end KC

