/-! worlds of blocks: a world is some worlds side by side, each seen as one thing. Mine. -/
def fl : List va_W → va_W
  | [] => []
  | a :: l => match l with
    | [] => a
    | b :: m => a ++ fl (b :: m)
theorem fl_eq : ∀ Bs : List va_W, fl Bs = Bs.flatten
  | [] => rfl
  | [a] => by show a = [a].flatten; simp
  | a :: b :: m => by
    show a ++ fl (b :: m) = (a :: b :: m).flatten
    rw [fl_eq (b :: m), List.flatten_cons (l := a)]
theorem P_mem {D : va_G} {cl : List vw_C} {ws : va_W} {H : Heap} : va_P D cl ws H ↔ ∀ q ∈ ws, va_at D cl q H := by
  refine ⟨fun h q hq => ?_, fun h k q hk => h q (List.mem_of_getElem? hk)⟩
  obtain ⟨k, hk⟩ := List.getElem?_of_mem hq
  exact h k q hk
theorem fl_P {D : va_G} {cl : List vw_C} {Bs : List va_W} {H : Heap} : va_P D cl (fl Bs) H ↔ ∀ b ∈ Bs, va_P D cl b H := by
  rw [fl_eq, P_mem]
  refine ⟨fun h b hb => P_mem.mpr (fun q hq => h q (List.mem_flatten.mpr ⟨b, hb, hq⟩)), fun h q hq => ?_⟩
  obtain ⟨b, hb, hq⟩ := List.mem_flatten.mp hq
  exact P_mem.mp (h b hb) q hq
theorem fl_at {D : va_G} {cl : List vw_C} {Bs : List va_W} {H : Heap} (h : va_P D cl (fl Bs) H) (i : Nat) {b : va_W} (hb : Bs[i]? = some b) : va_P D cl b H := fl_P.mp h b (List.mem_of_getElem? hb)
/-- cells apart, by their addresses alone -/
theorem D_addr {A : Nat → Prop} {ws : va_W} : va_D A ws ↔ (ws.map (fun c => c.1)).Nodup ∧ ∀ a ∈ ws.map (fun c => c.1), A a := by
  constructor
  · intro h
    refine ⟨(List.pairwise_iff_getElem (R := (· ≠ ·))).mpr (fun i j hi hj hij e => ?_), fun a ha => ?_⟩
    · rw [List.length_map] at hi hj
      rw [List.getElem_map, List.getElem_map] at e
      have := h.1 i j _ _ (List.getElem?_eq_getElem hi) (List.getElem?_eq_getElem hj) e
      omega
    · obtain ⟨q, hq, rfl⟩ := List.mem_map.mp ha
      obtain ⟨k, hk⟩ := List.getElem?_of_mem hq
      exact h.2 k q hk
  · intro h
    refine ⟨fun i j p q hi hj hpq => ?_, fun k q hk => h.2 q.1 (List.mem_map.mpr ⟨q, List.mem_of_getElem? hk, rfl⟩)⟩
    obtain ⟨li, ei⟩ := List.getElem?_eq_some_iff.mp hi
    obtain ⟨lj, ej⟩ := List.getElem?_eq_some_iff.mp hj
    have k : ∀ (i j : Nat) (hi : i < ws.length) (hj : j < ws.length), i < j → ws[i].1 ≠ ws[j].1 := fun i j hi hj hij => by
      have := (List.pairwise_iff_getElem (R := (· ≠ ·))).mp h.1 i j (by rw [List.length_map]; exact hi) (by rw [List.length_map]; exact hj) hij
      rw [List.getElem_map, List.getElem_map] at this
      exact this
    rcases Nat.lt_trichotomy i j with h9 | h9 | h9
    · exact absurd (by rw [ei, ej]; exact hpq) (k i j li lj h9)
    · exact h9
    · exact absurd (by rw [ei, ej]; exact hpq.symm) (k j i lj li h9)
def bplug : List va_W → List Nat → List va_W → List va_W
  | Bs, i :: is, w :: ws => bplug (Bs.set i w) is ws
  | Bs, _, _ => Bs
/-- the addresses of blocks -/
def bad (Bs : List va_W) : List (List Nat) := Bs.map (fun b => b.map (fun c => c.1))
theorem bad_fl (Bs : List va_W) : (fl Bs).map (fun c => c.1) = (bad Bs).flatten := by
  rw [fl_eq, bad, List.map_flatten]
theorem bplug_bad : ∀ (is : List Nat) (w1 wc Bs : List va_W), is.map (fun i => Bs[i]?) = wc.map some → va_nd is = true → bad w1 = bad wc → bad (bplug Bs is w1) = bad Bs
  | [], w1, wc, Bs, _, _, _ => by cases w1 <;> rfl
  | i :: is, [], wc, Bs, _, _, _ => rfl
  | i :: is, w :: ws, wc, Bs, hC, hn, h1 => by
    cases wc with
    | nil => simp [bad] at h1
    | cons v vs =>
      simp only [List.map_cons, List.cons.injEq] at hC
      simp only [bad, List.map_cons, List.cons.injEq] at h1
      simp only [va_nd, Bool.and_eq_true, decide_eq_true_eq] at hn
      have e : bad (Bs.set i w) = bad Bs := by
        unfold bad
        rw [List.map_set, h1.1]
        have : (List.map (fun b => List.map (fun c => c.1) b) Bs)[i]? = some (List.map (fun c => c.1) v) := by rw [List.getElem?_map, hC.1]; rfl
        exact List.ext_getElem? (fun k => by
          by_cases hk : i = k
          · subst hk
            have hl := (List.getElem?_eq_some_iff.mp this).1
            rw [List.getElem?_set_self hl, this]
          · rw [List.getElem?_set_ne hk])
      show bad (bplug (Bs.set i w) is ws) = bad Bs
      rw [bplug_bad is ws vs (Bs.set i w) ?_ hn.2 h1.2, e]
      rw [← hC.2]
      refine List.map_congr_left (fun j hj => ?_)
      rw [List.getElem?_set_ne (fun z => hn.1 (by rw [z]; exact hj))]
theorem bplug_mem : ∀ (is : List Nat) (w1 Bs : List va_W) (b : va_W) (k : Nat), va_nd is = true → is.length = w1.length → (bplug Bs is w1)[k]? = some b → b ∈ w1 ∨ (k ∉ is ∧ Bs[k]? = some b)
  | [], w1, Bs, b, k, _, _, h => by
    right
    cases w1 <;> exact ⟨by simp, h⟩
  | i :: is, [], Bs, b, k, _, hl, _ => by simp at hl
  | i :: is, w :: ws, Bs, b, k, hn, hl, h => by
    simp only [va_nd, Bool.and_eq_true, decide_eq_true_eq] at hn
    simp only [List.length_cons, Nat.add_right_cancel_iff] at hl
    rcases bplug_mem is ws (Bs.set i w) b k hn.2 hl h with h1 | ⟨h1, h2⟩
    · exact Or.inl (List.mem_cons_of_mem _ h1)
    · by_cases hk : i = k
      · subst hk
        have hlt := (List.getElem?_eq_some_iff.mp h2).1
        rw [List.length_set] at hlt
        rw [List.getElem?_set_self hlt] at h2
        exact Or.inl (List.mem_cons.mpr (Or.inl (Option.some.inj h2).symm))
      · rw [List.getElem?_set_ne hk] at h2
        exact Or.inr ⟨fun z => (List.mem_cons.mp z).elim (fun e => hk e.symm) h1, h2⟩
theorem fl_D {A : Nat → Prop} {Bs wc : List va_W} (hD : va_D A (fl Bs)) (is : List Nat) (hn : va_nd is = true) (hC : is.map (fun i => Bs[i]?) = wc.map some) : va_D A (fl wc) := by
  have key : ∀ (is : List Nat) (wc : List va_W), va_nd is = true → is.map (fun i => Bs[i]?) = wc.map some → ((bad wc).flatten).Nodup ∧ (∀ a ∈ (bad wc).flatten, A a) ∧ ∀ a ∈ (bad wc).flatten, ∃ i ∈ is, ∃ b, Bs[i]? = some b ∧ a ∈ b.map (fun c => c.1) := by
    obtain ⟨h1, h2⟩ := D_addr.mp hD
    rw [bad_fl] at h1 h2
    obtain ⟨n1, n2⟩ := (List.pairwise_flatten (R := (· ≠ ·))).mp h1
    intro is
    induction is with
    | nil =>
      intro wc _ hC
      cases wc with
      | nil => exact ⟨List.nodup_nil, by simp [bad], by simp [bad]⟩
      | cons => simp at hC
    | cons i is ih =>
      intro wc hn hC
      cases wc with
      | nil => simp at hC
      | cons v vs =>
        simp only [List.map_cons, List.cons.injEq] at hC
        simp only [va_nd, Bool.and_eq_true, decide_eq_true_eq] at hn
        obtain ⟨a1, a2, a3⟩ := ih vs hn.2 hC.2
        have hv : (v.map (fun c => c.1)) ∈ bad Bs := List.mem_map.mpr ⟨v, List.mem_of_getElem? hC.1, rfl⟩
        have hgv : (bad Bs)[i]? = some (v.map (fun c => c.1)) := by rw [bad, List.getElem?_map, hC.1]; rfl
        refine ⟨?_, ?_, ?_⟩
        · show (v.map (fun c => c.1) ++ (bad vs).flatten).Nodup
          refine List.nodup_append.mpr ⟨n1 _ hv, a1, fun a ha b hb e => ?_⟩
          subst e
          obtain ⟨j, hj, w, hw, haw⟩ := a3 a hb
          have hgw : (bad Bs)[j]? = some (w.map (fun c => c.1)) := by rw [bad, List.getElem?_map, hw]; rfl
          have hij : i ≠ j := fun z => hn.1 (z ▸ hj)
          have p := List.pairwise_iff_getElem.mp n2
          obtain ⟨li, ei⟩ := List.getElem?_eq_some_iff.mp hgv
          obtain ⟨lj, ej⟩ := List.getElem?_eq_some_iff.mp hgw
          rcases Nat.lt_or_gt_of_ne hij with h9 | h9
          · have := p i j li lj h9
            rw [ei, ej] at this
            exact this a ha a haw rfl
          · have := p j i lj li h9
            rw [ei, ej] at this
            exact this a haw a ha rfl
        · intro a ha
          rcases List.mem_append.mp (show a ∈ v.map (fun c => c.1) ++ (bad vs).flatten from ha) with h | h
          · exact h2 a (List.mem_flatten.mpr ⟨_, hv, h⟩)
          · exact a2 a h
        · intro a ha
          rcases List.mem_append.mp (show a ∈ v.map (fun c => c.1) ++ (bad vs).flatten from ha) with h | h
          · exact ⟨i, List.mem_cons_self, v, hC.1, h⟩
          · obtain ⟨j, hj, w, hw, haw⟩ := a3 a h
            exact ⟨j, List.mem_cons_of_mem _ hj, w, hw, haw⟩
  obtain ⟨k1, k2, -⟩ := key is wc hn hC
  exact D_addr.mpr ⟨by rw [bad_fl]; exact k1, by rw [bad_fl]; exact k2⟩
theorem fl_D1 {A : Nat → Prop} {Bs : List va_W} (hD : va_D A (fl Bs)) (i : Nat) {b : va_W} (hb : Bs[i]? = some b) : va_D A b := fl_D (wc := [b]) hD [i] rfl (by rw [List.map_cons, hb]; rfl)
theorem fl_sub {D : va_G} {cl : List vw_C} {Bs wc : List va_W} {H : Heap} (h : va_P D cl (fl Bs) H) (is : List Nat) (hC : is.map (fun i => Bs[i]?) = wc.map some) : va_P D cl (fl wc) H := by
  refine fl_P.mpr (fun b hb => ?_)
  obtain ⟨k, hk⟩ := List.getElem?_of_mem hb
  have e := congrArg (fun l => l[k]?) hC
  simp only [List.getElem?_map, hk, Option.map_some] at e
  cases hi : is[k]? with
  | none => rw [hi] at e; simp at e
  | some i =>
    rw [hi] at e
    simp only [Option.map_some, Option.some.injEq] at e
    exact fl_at h i e
/-- another block's cells are not among these -/
theorem fl_apart {A : Nat → Prop} {Bs wc : List va_W} (hD : va_D A (fl Bs)) (is : List Nat) (hC : is.map (fun i => Bs[i]?) = wc.map some) {k : Nat} {b : va_W} (hk : k ∉ is) (hb : Bs[k]? = some b) : ∀ q ∈ b, ¬ adr (fl wc) q.1 := by
  intro q hq hm
  obtain ⟨z, hz, hz1⟩ := List.mem_map.mp hm
  rw [fl_eq] at hz
  obtain ⟨w, hw, hzw⟩ := List.mem_flatten.mp hz
  obtain ⟨j, hj⟩ := List.getElem?_of_mem hw
  have e := congrArg (fun l => l[j]?) hC
  simp only [List.getElem?_map, hj, Option.map_some] at e
  cases hi : is[j]? with
  | none => rw [hi] at e; simp at e
  | some i =>
    rw [hi] at e
    simp only [Option.map_some, Option.some.injEq] at e
    have hne : k ≠ i := fun z => hk (z ▸ List.mem_of_getElem? hi)
    have hd := fl_D (wc := [b, w]) hD [k, i] (by simp [va_nd, hne]) (by rw [List.map_cons, List.map_cons, hb, e]; rfl)
    have n := (D_addr.mp hd).1
    have n2 : ((b ++ w).map (fun c => c.1)).Nodup := n
    rw [List.map_append] at n2
    exact (List.nodup_append.mp n2).2.2 q.1 (List.mem_map.mpr ⟨q, hq, rfl⟩) z.1 (List.mem_map.mpr ⟨z, hzw, rfl⟩) hz1.symm
/-- behind a change of some blocks -/
theorem blk {D : va_G} {cl : List vw_C} {A : Nat → Prop} {Bs wc w1 : List va_W} {H H1 : Heap} (hP : va_P D cl (fl Bs) H) (hD : va_D A (fl Bs)) (is : List Nat) (hn : va_nd is = true) (hC : is.map (fun i => Bs[i]?) = wc.map some) (h1 : bad w1 = bad wc)
    (hk : ∀ q : Nat, q < H.size → ¬ adr (fl wc) q → H1[q]? = H[q]?) (hP1 : va_P D cl (fl w1) H1) : va_P D cl (fl (bplug Bs is w1)) H1 ∧ va_D A (fl (bplug Bs is w1)) := by
  have hl : is.length = w1.length := by
    have a := congrArg List.length hC
    have b := congrArg List.length h1
    simp only [bad, List.length_map] at a b
    omega
  constructor
  · refine fl_P.mpr (fun b hb => ?_)
    obtain ⟨k, hk9⟩ := List.getElem?_of_mem hb
    rcases bplug_mem is w1 Bs b k hn hl hk9 with h | ⟨h, h2⟩
    · exact fl_P.mp hP1 b h
    · have hPb := fl_at hP k h2
      have hap := fl_apart hD is hC h h2
      exact hPb.kept (fun j q hj => hk q.1 (hPb j q hj).lt (hap q (List.mem_of_getElem? hj)))
  · obtain ⟨a1, a2⟩ := D_addr.mp hD
    rw [bad_fl] at a1 a2
    exact D_addr.mpr ⟨by rw [bad_fl, bplug_bad is w1 wc Bs hC hn h1]; exact a1, by rw [bad_fl, bplug_bad is w1 wc Bs hC hn h1]; exact a2⟩
theorem adr_fl {A : Nat → Prop} {Bs wc : List va_W} (hD : va_D A (fl Bs)) (is : List Nat) (hn : va_nd is = true) (hC : is.map (fun i => Bs[i]?) = wc.map some) : ∀ q, adr (fl wc) q → A q := (D_addr.mp (fl_D hD is hn hC)).2
/-- a change of some cells of one block -/
theorem blk1 {D : va_G} {A : Nat → Prop} {Bs : List va_W} {wb wc w1 : va_W} {H H1 : Heap} (hP : va_P D vwCl (fl Bs) H) (hD : va_D A (fl Bs)) (j : Nat) (hb : Bs[j]? = some wb) (is : List Nat) (hn : va_nd is = true) (hC : is.map (fun i => wb[i]?) = wc.map some) (h1 : w1.map (fun c => c.1) = wc.map (fun c => c.1))
    (hk : ∀ q : Nat, q < H.size → ¬ adr wc q → H1[q]? = H[q]?) (hP1 : va_P D vwCl w1 H1) : va_P D vwCl (fl (Bs.set j (plug wb is w1))) H1 ∧ va_D A (fl (Bs.set j (plug wb is w1))) := by
  have hPb := fl_at hP j hb
  have hDb := fl_D1 hD j hb
  obtain ⟨p1, p2⟩ := plug_world hPb hDb is hn hC h1 hk hP1
  have hsub : ∀ q, adr wc q → adr wb q := by
    intro q hq
    obtain ⟨z, hz, rfl⟩ := List.mem_map.mp hq
    obtain ⟨k, hk2⟩ := List.getElem?_of_mem hz
    have e := congrArg (fun l => l[k]?) hC
    simp only [List.getElem?_map, hk2, Option.map_some] at e
    cases hi : is[k]? with
    | none => rw [hi] at e; simp at e
    | some i =>
      rw [hi] at e
      simp only [Option.map_some, Option.some.injEq] at e
      exact List.mem_map.mpr ⟨z, List.mem_of_getElem? e, rfl⟩
  have ead : (plug wb is w1).map (fun c => c.1) = wb.map (fun c => c.1) := by
    have hl : is.length = w1.length := by
      have a := congrArg List.length hC
      have b := congrArg List.length h1
      simp only [List.length_map] at a b
      omega
    refine List.ext_getElem? (fun k => ?_)
    rw [List.getElem?_map, List.getElem?_map, plug_get is w1 wb hn hl k]
    by_cases hm : k ∈ is
    · rw [if_pos hm]
      have hlt : is.idxOf k < is.length := List.idxOf_lt_length_of_mem hm
      have hjk : is[is.idxOf k]? = some k := by rw [List.getElem?_eq_getElem hlt, List.getElem_idxOf hlt]
      have e1 := congrArg (fun l => l[is.idxOf k]?) hC
      have e2 := congrArg (fun l => l[is.idxOf k]?) h1
      simp only [List.getElem?_map, hjk, Option.map_some] at e1 e2
      cases hw : wc[is.idxOf k]? with
      | none =>
        have := congrArg List.length hC
        simp only [List.length_map] at this
        rw [List.getElem?_eq_none_iff] at hw
        omega
      | some z =>
        rw [hw] at e1 e2
        simp only [Option.map_some, Option.some.injEq] at e1
        have hkl := (List.getElem?_eq_some_iff.mp e1).1
        rw [if_pos hkl, e2, e1]
        try rfl
    · rw [if_neg hm]
  exact blk hP hD [j] rfl (by rw [List.map_cons, hb]; rfl) (w1 := [plug wb is w1]) (wc := [wb]) (by simp only [bad, List.map_cons, List.map_nil, ead]) (fun q hq hn2 => hk q hq (fun z => hn2 (hsub q z))) p1

