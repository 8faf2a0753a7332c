/-- one part is done, on both sides -/
theorem part_do {x U f : Nat → Int32} {P : PV} {n i e g G T : Nat} {L : List Nat} (hn : n ≤ 60) (hi : i < n) (hen : e ≤ n) (hR : REL P f 0 G T L) (h6 : U 6 = nI g) (hg : g ≤ 15)
    (hc : (U 5 = 1 ∧ x i = 45 ∧ fX5_numberIn x (nI n) (i + 1) (nI e) = nI g) ∨ (∃ t z : Nat, U 5 = 0 ∧ U 7 = nI t ∧ t < 4 ∧ U 8 = nI z ∧ z < 8 ∧ x i ≠ 45 ∧ i + 4 ≤ e ∧ fX5_numberIn x (nI n) i (nI (e - 3)) = nI g ∧ x (e - 2) = nI (48 + t) ∧ x (e - 1) = nI (97 + z))) :
    ∃ (r : Int32) (P' : PV) (F : Nat → Int32) (L' : List Nat), (if (fX1_itemAt 60 x (nI n) (nI i)) = 45 then (bd2 (fX5_doRise x (nI n) P (i + 1) (nI e)) (fun r65 U65 => (r65, U65))) else (bd2 (fX5_doSit x (nI n) P i (nI e)) (fun r76 U76 => (r76, U76)))) = (r, P') ∧ fX7_isDone f U = (r, F) ∧ REL P' F 0 G T L' ∧ ∀ j : Nat, 118 ≤ j → F j = f j := by
  have hG := hR.wf.G16
  have hT := hR.wf.hT
  have h10 : ¬ (1 : Int32) = 0 := by decide
  rw [item_in hn hi]
  unfold fX7_isDone
  rw [h6]
  rcases hc with ⟨h5, hx, hnum⟩ | ⟨t, z, h5, h7, ht, h8, hz, hx, hie, hnum, hxt, hxz⟩
  · rw [if_pos hx, bd2_eq, h5]
    unfold fX5_doRise
    rw [hnum]
    rcases guest_is hR (nI g) with ⟨c1, c2, y, hy, ey⟩ | ⟨c1, c2⟩
    · obtain rfl : g = y := (nI_eq (by omega) (by omega)).mp ey
      rw [c1, c2, if_neg h10, if_neg h10, if_neg h10, isSit_eq hR hy, nI_clamp (by omega)]
      by_cases c : fX7_of f 0 g 3 = -1
      · rw [if_pos c, if_pos rfl, if_pos c, bd_eq, if_pos (show nI 0 = 0 from rfl), bd_eq]
        exact ⟨0, P, f, L, rfl, rfl, hR, fun _ _ => rfl⟩
      · obtain ⟨s1, s2, s3, s4, s5, s6⟩ := stand_fr hR.wf.ro (show g < 16 by omega)
        rw [if_neg c, if_neg h10, if_neg c, bd_eq, bd_eq, if_neg (show ¬ nI 1 = 0 by decide), bd_eq, bd_eq]
        exact ⟨1, _, _, _, rfl, rfl, stand_REL hR hy c, fun j hj => s6 j (Or.inr (by omega))⟩
    · rw [c1, c2, if_pos rfl, if_pos rfl]
      exact ⟨0, P, f, L, rfl, rfl, hR, fun _ _ => rfl⟩
  · rw [if_neg hx, bd2_eq, h5]
    unfold fX5_doSit
    have s2 : (nI e - 2 : Int32) = nI (e - 2) := pk_sub (b := 2) (by omega)
    have s1 : (nI e - 1 : Int32) = nI (e - 1) := pk_sub (b := 1) (by omega)
    have s3 : (nI e - 3 : Int32) = nI (e - 3) := pk_sub (b := 3) (by omega)
    have e48 : nI (48 + t) - 48 = nI t := by
      rw [show (48 : Int32) = nI 48 from rfl, pk_sub (by omega), Nat.add_sub_cancel_left]
    have e97 : nI (97 + z) - 97 = nI z := by
      rw [show (97 : Int32) = nI 97 from rfl, pk_sub (by omega), Nat.add_sub_cancel_left]
    rw [s1, s2, s3, hnum, item_in hn (show e - 2 < n by omega), item_in hn (show e - 1 < n by omega), hxt, hxz, e48, e97, h7, h8]
    unfold fX2_mayTake
    rcases guest_is hR (nI g) with ⟨c1, c2, y, hy, ey⟩ | ⟨c1, c2⟩
    · obtain rfl : g = y := (nI_eq (by omega) (by omega)).mp ey
      rw [c1, c2, if_neg h10, if_neg h10, if_pos rfl, nI_clamp (by omega)]
      rcases seat_is hR (nI t) (nI z) with ⟨d1, d2, t', z', m, k1, k2, k3, k4, et, ez⟩ | ⟨d1, d2⟩
      · obtain rfl : t = t' := (nI_eq (by omega) (by omega)).mp et
        obtain rfl : z = z' := (nI_eq (by omega) (by omega)).mp ez
        rw [d1, d2, if_neg h10, if_neg h10, reason_eq hR hy k1 hz]
        by_cases c : fX7_reason f 0 g (nI t) (nI z) = 0
        · have hS := take_REL hR hy k1 k4 k2 k3 (reason_free c)
          have hfr : ∀ j : Nat, 118 ≤ j → fX7_sitsDown f 0 g (nI t) (nI z) j = f j := fun j hj => by
            by_cases cs : fX7_of f 0 g 3 = -1
            · obtain ⟨w1, w2, w3, w4, w5, w6⟩ := sit_fr hR.wf.ro hy cs (nI t) (nI z)
              exact w6 j (Or.inr (by omega))
            · obtain ⟨u1, u2, u3, u4, u5, u6⟩ := stand_fr hR.wf.ro (show g < 16 by omega)
              obtain ⟨w1, w2, w3, w4, w5, w6⟩ := sit_fr (RO_stands hR.wf.ro (show g < 16 by omega)) hy u3 (nI t) (nI z)
              rw [sits_split cs u3, w6 j (Or.inr (by omega)), u6 j (Or.inr (by omega))]
          rw [if_pos c, if_pos c, if_neg h10, bd_eq, bd_eq, if_neg (show ¬ nI 1 = 0 by decide), bd_eq, bd_eq]
          exact ⟨1, _, _, _, rfl, rfl, hS, hfr⟩
        · rw [if_neg c, if_neg c, if_pos rfl, bd_eq, if_pos (show nI 0 = 0 from rfl), bd_eq]
          exact ⟨0, P, f, L, rfl, rfl, hR, fun _ _ => rfl⟩
      · rw [d1, d2, if_pos rfl, if_pos rfl, if_pos rfl, bd_eq, if_pos (show nI 0 = 0 from rfl), bd_eq]
        exact ⟨0, P, f, L, rfl, rfl, hR, fun _ _ => rfl⟩
    · rw [c1, c2, if_pos rfl, if_pos rfl, if_pos rfl]
      exact ⟨0, P, f, L, rfl, rfl, hR, fun _ _ => rfl⟩
/-- the class goes over a part's characters -/
theorem skip_on {x : Nat → Int32} {n m bg : Nat} {y : Int32} {P : PV} (hn : n ≤ 60) : ∀ (d k : Nat), k + d ≤ n → (∀ j : Nat, k ≤ j → j < k + d → x j ≠ 59) → lq3 (fX5_doParts_b7 x (nI n)) fX5_doParts_r7 (d + m) k bg y P = lq3 (fX5_doParts_b7 x (nI n)) fX5_doParts_r7 m (k + d) bg y P
  | 0, k, hk, h => by rw [Nat.zero_add, Nat.add_zero]
  | d + 1, k, hk, h => by
    rw [show d + 1 + m = (d + m) + 1 by omega, lq3_s]
    unfold fX5_doParts_b7 fX1_length
    rw [if_neg (fun e => absurd ((nI_eq (by omega) (by omega)).mp e) (by omega)), item_in hn (by omega), if_neg (h k (Nat.le_refl k) (by omega))]
    have := skip_on (x := x) (n := n) (m := m) (bg := bg) (y := y) (P := P) hn d (k + 1) (by omega) (fun j j1 j2 => h j (by omega) (by omega))
    unfold fX5_doParts_b7 fX1_length at this
    exact this.trans (by rw [show k + 1 + d = k + (d + 1) by omega])
set_option maxHeartbeats 4000000 in
theorem parts_loop {x : Nat → Int32} {n G T : Nat} : ∀ (m k i : Nat) (y : Int32) (P : PV) (f M : Nat → Int32) (L : List Nat), n < i + m → AT M n i → lq1 (fX5_isComplete_b4 x (nI n)) fX5_isComplete_r4 (n - i) i 0 = 1 → REL P f 0 G T L → ∃ (y' : Int32) (P' : PV) (F M' : Nat → Int32) (L' : List Nat), lq3 (fX5_doParts_b7 x (nI n)) fX5_doParts_r7 (n + 1 - i) i i y P = (y', P') ∧ lq3 (fX7_seats_b32 x) fX7_seats_r32 m k y f M = (y', (F, M')) ∧ REL P' F 0 G T L' ∧ (∀ j : Nat, 118 ≤ j → F j = f j) ∧ M' 3 = 0 ∧ ∀ j : Nat, (j < 3 ∨ 8 < j) → M' j = M j := by
  intro m
  induction m with
  | zero => exact fun k i y P f M L hm hA hI hR => absurd hA.2.1 (by omega)
  | succ m ih =>
    intro k i y P f M L hm hA hI hR
    have hn := hA.1
    have hin := hA.2.1
    have h10 : ¬ (1 : Int32) = 0 := by decide
    have hlt : i < n := by
      rcases Nat.lt_or_ge i n with c | c
      · exact c
      · rw [show n - i = 0 by omega, lq1_z] at hI
        exact absurd hI (by decide)
    rw [lq3_s (fX7_seats_b32 x)]
    unfold fX7_seats_b32
    obtain ⟨r6, U6, e6⟩ : ∃ (r6 : Int32) (U6 : Nat → Int32), fX7_readsPart x M = (r6, U6) := ⟨_, _, pr_eta _⟩
    rw [e6, bd2_mk]
    obtain ⟨ko, hc⟩ := part_at hA e6.symm
    have good : ∀ e g : Nat, AT U6 n e → PG x n i e → r6 = 1 → U6 6 = nI g → g ≤ 15 → ((U6 5 = 1 ∧ x i = 45 ∧ fX5_numberIn x (nI n) (i + 1) (nI e) = nI g) ∨ (∃ t z : Nat, U6 5 = 0 ∧ U6 7 = nI t ∧ t < 4 ∧ U6 8 = nI z ∧ z < 8 ∧ x i ≠ 45 ∧ i + 4 ≤ e ∧ fX5_numberIn x (nI n) i (nI (e - 3)) = nI g ∧ x (e - 2) = nI (48 + t) ∧ x (e - 1) = nI (97 + z))) → ∃ (y' : Int32) (P' : PV) (F M' : Nat → Int32) (L' : List Nat), lq3 (fX5_doParts_b7 x (nI n)) fX5_doParts_r7 (n + 1 - i) i i y P = (y', P') ∧ (if r6 = 0 then (y, (f, (upd U6 3 0))) else (bd2 (fX7_isDone f U6) (fun r41 U41 => (bd ((if r41 = 0 then 0 else 1) : Nat) (fun v44_0 => (bd2 (fX7_takes x U6 59) (fun r57 U57 => (lq3 (fX7_seats_b32 x) fX7_seats_r32 m (k + 1) (y + (nI v44_0)) U41 U57)))))))) = (y', (F, M')) ∧ REL P' F 0 G T L' ∧ (∀ j : Nat, 118 ≤ j → F j = f j) ∧ M' 3 = 0 ∧ ∀ j : Nat, (j < 3 ∨ 8 < j) → M' j = M j := by
      intro e g hAe ⟨d, s, hd1, hde, hph, hs, hnx, hno⟩ h1 hu6 hg hcc
      have hen := hAe.2.1
      obtain ⟨rr, P1, F1, L1, p1, p2, p3, p4⟩ := part_do hn hlt hen hR hu6 hg hcc
      have ic := ic_path (m := n - e) hn hph (by omega)
      rw [show d + (n - e) = n - i by omega, hde, hI] at ic
      -- the class at the part's end
      have hsk := skip_on (x := x) (n := n) (m := n + 1 - e) (bg := i) (y := y) (P := P) hn d i (by omega) (fun j j1 j2 => hno j j1 (by omega))
      rw [show d + (n + 1 - e) = n + 1 - i by omega, hde, show n + 1 - e = (n - e) + 1 by omega, lq3_s] at hsk
      have hb : ∀ nx : Nat → Int32 → PV → Int32 × PV, (e = n ∨ x e = 59) → fX5_doParts_b7 x (nI n) e i y P nx = nx (e + 1) (if rr = 0 then y else y + 1) P1 := fun nx hc => by
        unfold fX5_doParts_b7 fX1_length
        rw [p1, bd2_eq, bd_eq]
        dsimp only
        by_cases c : e = n
        · rw [if_pos (by rw [c])]; rfl
        · rw [if_neg (fun z => c ((nI_eq (by omega) (by omega)).mp z)), item_in hn (by omega), if_pos (hc.resolve_left c)]; rfl
      have hcnt : (if rr = 0 then y else y + 1) = y + nI (if rr = 0 then 0 else 1) := by
        by_cases c : rr = 0
        · rw [if_pos c, if_pos c]; exact (Int32.add_zero _).symm
        · rw [if_neg c, if_neg c]; rfl
      rw [h1, if_neg h10, p2, bd2_eq, bd_eq]
      dsimp only
      obtain ⟨r28, U28, e28⟩ : ∃ (r28 : Int32) (U28 : Nat → Int32), fX7_takes x U6 59 = (r28, U28) := ⟨_, _, pr_eta _⟩
      rw [e28, bd2_mk]
      by_cases c : e = n
      · subst c
        rw [hb _ (Or.inl rfl), show e - e = 0 by omega, lq3_z, hcnt] at hsk
        rcases takes_is hAe (v := 59) (by decide) e28.symm with ⟨a1, _⟩ | ⟨a1, rfl, a4, a5⟩
        · exact absurd a1 (Nat.lt_irrefl _)
        · obtain ⟨m', rfl⟩ : ∃ m', m = m' + 1 := ⟨m - 1, by omega⟩
          rw [lq3_s (fX7_seats_b32 x)]
          unfold fX7_seats_b32
          obtain ⟨r9, U9, e9⟩ : ∃ (r9 : Int32) (U9 : Nat → Int32), fX7_readsPart x U28 = (r9, U9) := ⟨_, _, pr_eta _⟩
          rw [e9, bd2_mk]
          obtain ⟨ko9, hc9⟩ := part_at a4 e9.symm
          rcases hc9 with ⟨z0, _⟩ | ⟨_, e', _, hAe', ⟨d', s', k1, k2, _⟩, _⟩ | ⟨_, e', _, _, _, hAe', ⟨d', s', k1, k2, _⟩, _⟩
          · rw [z0, if_pos rfl]
            exact ⟨_, P1, F1, upd U9 3 0, L1, hsk, rfl, p3, p4, upd_eq, fun j hj => (upd_ne (by omega)).trans ((ko9 j (by omega)).trans ((a5 j).trans (ko j (by omega))))⟩
          · have := hAe'.2.1
            exact absurd k2 (by omega)
          · have := hAe'.2.1
            exact absurd k2 (by omega)
      · have hlt2 : e < n := by omega
        rcases takes_is hAe (v := 59) (by decide) e28.symm with ⟨a1, a2, rfl, a4, a5⟩ | ⟨a1, rfl, a4, a5⟩
        · have hs0 : fX5_next s (x e) = 0 := by
            rw [a2]
            rcases hs with rfl | rfl | rfl <;> decide
          have ic2 := ic_path (m := n - (e + 1)) hn (PH_1 hs0 (by decide)) (by omega)
          rw [show 1 + (n - (e + 1)) = n - e by omega, ← ic] at ic2
          rw [hb _ (Or.inr a2), hcnt] at hsk
          obtain ⟨y', P', F, M', L', q1, q2, q3, q4, q5, q6⟩ := ih (k + 1) (e + 1) (y + nI (if rr = 0 then 0 else 1)) P1 F1 U28 L1 (by omega) a4 ic2.symm p3
          rw [show n + 1 - (e + 1) = n - e by omega] at q1
          exact ⟨y', P', F, M', L', hsk.trans q1, q2, q3, fun j hj => (q4 j hj).trans (p4 j hj), q5, fun j hj => (q6 j hj).trans ((a5 j (by omega)).trans (ko j (by omega)))⟩
        · exfalso
          have hbr := hnx hlt2 (sg_lt a1 hlt2)
          rw [show n - e = (n - e - 1) + 1 by omega, lq1_s] at ic
          have ic : (1 : Int32) = lq1 (fX5_isComplete_b4 x (nI n)) fX5_isComplete_r4 (n - e - 1) (e + 1) (fX5_next s (fX1_itemAt 60 x (nI n) (nI e))) := ic
          rw [item_in hn hlt2, hbr, ic_broken] at ic
          exact absurd ic (by decide)
    rcases hc with ⟨h0, e, hAe, d, s, hde, hph, s5, s7, s8, hnx⟩ | ⟨h1, e, g, hAe, hpg, k5, k6, kg, kx, kn⟩ | ⟨h1, e, g, t, z, hAe, hpg, k5, k6, kg, k7, kt, k8, kz, kx, ke, kn, kxt, kxz⟩
    · exfalso
      have hen := hAe.2.1
      have ic := ic_path (m := n - e) hn hph (by omega)
      rw [show d + (n - e) = n - i by omega, hde, hI] at ic
      by_cases c : e = n
      · subst c
        rw [show e - e = 0 by omega, lq1_z] at ic
        unfold fX5_isComplete_r4 at ic
        rw [if_neg s5, if_neg s7, if_neg s8] at ic
        exact absurd ic (by decide)
      · rw [show n - e = (n - e - 1) + 1 by omega, lq1_s] at ic
        have ic : (1 : Int32) = lq1 (fX5_isComplete_b4 x (nI n)) fX5_isComplete_r4 (n - e - 1) (e + 1) (fX5_next s (fX1_itemAt 60 x (nI n) (nI e))) := ic
        rw [item_in hn (by omega), hnx (by omega), ic_broken] at ic
        exact absurd ic (by decide)
    · exact good e g hAe hpg h1 k6 kg (Or.inl ⟨k5, kx, kn⟩)
    · exact good e g hAe hpg h1 k6 kg (Or.inr ⟨t, z, k5, k7, kt, k8, kz, kx, ke, kn, kxt, kxz⟩)
theorem ST_Mk {PN PS : PV} {Ps : Nat → PV} {o v : Nat} {kp : Int32} {f M M' : Nat → Int32} (h : ST PN PS Ps o v kp f M) (e1 : M' 1 = M 1) (e2 : M' 2 = M 2) : ST PN PS Ps o v kp f M' := ⟨h.1, h.2.1, e1.trans h.2.2.1, e2.trans h.2.2.2.1, h.2.2.2.2⟩
/-- seats -/
theorem seats_ST {PN PS : PV} {Ps : Nat → PV} {o v : Nat} {kp : Int32} {f M tf x : Nat → Int32} {tu : Int32} (h : ST PN PS Ps o v kp f M) (hx : XT tf tu x M) :
    (fX6_seats PN tf tu Ps o v = Sum.inl 0 ∧ ∃ M' : Nat → Int32, fX7_seats f x M = (0, (f, M')) ∧ M' 0 = nI 1 ∧ ST PN PS Ps o v kp f M' ∧ XT tf tu x M') ∨ ∃ (r : Int32) (PN' : PV) (tf' : Nat → Int32) (tu' : Int32) (Ps' : Nat → PV) (o' v' : Nat) (F M' : Nat → Int32), fX6_seats PN tf tu Ps o v = Sum.inr (r, (PN', tf', tu', Ps', o', v')) ∧ fX7_seats f x M = (r, (F, M')) ∧ M' 0 = 0 ∧ ST PN' PS Ps' o' v' kp F M' ∧ XT tf' tu' x M' := by
  have h10 : ¬ (1 : Int32) = 0 := by decide
  have hxx := hx
  obtain ⟨n, hn, rfl, e2, e3⟩ := hx
  have hA : AT (upd M 4 0) n 0 := ⟨hn, Nat.zero_le n, by rw [upd_ne (by decide)]; exact e2, upd_eq⟩
  obtain ⟨r, U, e, q1, q2, q3, q4, q5, q6⟩ := seats_read (x := x) (n := n) 61 0 0 _ (by omega) hA
  rw [Nat.sub_zero] at q5
  have hic : fX5_isComplete tf (nI n) = r := by
    rw [ic_cg (item_cg hn (fun k hk => (e3 k hk).1))]
    unfold fX5_isComplete fX1_length
    rw [nI_clamp (by omega)]
    exact q5
  have ko : ∀ k : Nat, (k < 4 ∨ 8 < k) → U k = M k := fun k hk => (q3 k hk).trans (upd_ne (by omega))
  have hU : ST PN PS Ps o v kp f U := ST_Mk h (ko 1 (by decide)) (ko 2 (by decide))
  obtain ⟨G, T, L, hR⟩ := h.1
  obtain ⟨s1, s2, s3⟩ := ST_save hU hR
  have sv : (fX7_save f (upd U 0 0)).2 = upd (upd U 0 0) 1 (nI (fX0_save Ps o v PN).2.2) := (save_HI (M := upd U 0 0) hR hU.2.1 ((upd_ne (by decide)).trans hU.2.2.1)).2.1
  have eX : fX6_seats PN tf (nI n) Ps o v = if r = 0 then Sum.inl 0 else Sum.inr ((fX5_doParts tf (nI n) PN).1, ((fX5_doParts tf (nI n) PN).2, tf, 0, (fX0_save Ps o v PN).1, (fX0_save Ps o v PN).2.1, (fX0_save Ps o v PN).2.2)) := by
    unfold fX6_seats
    rw [hic]
    rfl
  have eY : fX7_seats f x M = bd (if r = 0 then 1 else 0 : Nat) (fun v5 => bd2 (fX7_holds U (nI v5)) (fun r13 U13 => (if r13 = 0 then (0, (f, U13)) else (bd (fX7_save f U13) (fun U22 => lq3 (fX7_seats_b32 x) fX7_seats_r32 61 0 0 U22.1 (upd U22.2 4 0)))))) := by
    unfold fX7_seats fX7_areSeats
    rw [q1]
    rfl
  rw [eX, eY]
  rcases q6 with rfl | rfl
  · rw [if_pos rfl, if_pos rfl, bd_eq, bd2_eq, holds_p (by decide) (by decide)]
    refine Or.inl ⟨rfl, upd U 0 (nI 1), if_pos rfl, upd_eq, ST_M hU _, XT_M hxx ((upd_ne (by decide)).trans (ko 3 (by decide)))⟩
  · have hA2 : AT (upd (fX7_save f (upd U 0 0)).2 4 0) n 0 := ⟨hn, Nat.zero_le n, by rw [upd_ne (by decide), sv, upd_ne (by decide), upd_ne (by decide)]; exact q2.2.2.1, upd_eq⟩
    have q5' : lq1 (fX5_isComplete_b4 x (nI n)) fX5_isComplete_r4 (n - 0) 0 0 = 1 := q5
    obtain ⟨y', P', F, M', L', p1, p2, p3, p4, p5, p6⟩ := parts_loop (x := x) (n := n) 61 0 0 0 PN (fX7_save f (upd U 0 0)).1 _ L (by omega) hA2 q5' s1
    have hdp : fX5_doParts tf (nI n) PN = (y', P') := by
      rw [dp_cg (item_cg hn (fun k hk => (e3 k hk).1))]
      unfold fX5_doParts
      rw [nI_clamp (by omega)]
      exact p1
    rw [if_neg h10, if_neg h10, bd_eq, bd2_eq, hdp, holds_0]
    refine Or.inr ⟨y', P', tf, 0, _, _, _, F, M', rfl, ?_, ?_, ?_, 0, by decide, rfl, p5, fun k hk => absurd hk (Nat.not_lt_zero k)⟩
    · refine (if_neg h10).trans ?_
      rw [bd_eq]
      exact p2
    · rw [p6 0 (by decide), upd_ne (by decide)]; exact s2.1
    · exact ST_Mk (s3 P' F G T L' (fun i hi _ => p4 i hi) p3) ((p6 1 (by decide)).trans (upd_ne (by decide))) ((p6 2 (by decide)).trans (upd_ne (by decide)))
