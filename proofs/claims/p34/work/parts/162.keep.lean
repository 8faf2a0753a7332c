theorem standFamilyUp_10_1 (P : PV) (tb a : Int32) : (fX2_standFamilyUp P tb a).2 10 1 = P 10 1 := by
  unfold fX2_standFamilyUp
  refine lq2_inv (I := fun _ (U : PV) => U 10 1 = P 10 1) (Z := fun (z : Int32 × PV) => z.2 10 1 = P 10 1) (fun k x U nx h hn => ?_) (fun x U h => h) _ _ _ _ rfl
  unfold fX2_standFamilyUp_b5 bd2
  refine hn _ _ ?_
  repeat' split
  all_goals exact h

