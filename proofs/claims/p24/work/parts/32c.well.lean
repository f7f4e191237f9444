theorem T_Well_takeFrom (b : Nat) (o1 : Nat) (M : Mem) : wpO (F_Well_takeFrom b o1 M) (fun r => Same (fun k => (b ≤ k ∧ k ≤ b + 12)) M r) := by
  unfold F_Well_takeFrom
  refine wp_bind (T_Row_takeFrom ((b + 2)) 18 ((o1 + 2)) 18 (mSI (mSI (mSI (mSI (mSI (mSI (mSI (mSI (mSI M b 0 (M.1 o1 0)) b 1 ((mSI M b 0 (M.1 o1 0)).1 o1 1)) b 2 ((mSI (mSI M b 0 (M.1 o1 0)) b 1 ((mSI M b 0 (M.1 o1 0)).1 o1 1)).1 o1 2)) b 3 ((mSI (mSI (mSI M b 0 (M.1 o1 0)) b 1 ((mSI M b 0 (M.1 o1 0)).1 o1 1)) b 2 ((mSI (mSI M b 0 (M.1 o1 0)) b 1 ((mSI M b 0 (M.1 o1 0)).1 o1 1)).1 o1 2)).1 o1 3)) b 4 ((mSI (mSI (mSI (mSI M b 0 (M.1 o1 0)) b 1 ((mSI M b 0 (M.1 o1 0)).1 o1 1)) b 2 ((mSI (mSI M b 0 (M.1 o1 0)) b 1 ((mSI M b 0 (M.1 o1 0)).1 o1 1)).1 o1 2)) b 3 ((mSI (mSI (mSI M b 0 (M.1 o1 0)) b 1 ((mSI M b 0 (M.1 o1 0)).1 o1 1)) b 2 ((mSI (mSI M b 0 (M.1 o1 0)) b 1 ((mSI M b 0 (M.1 o1 0)).1 o1 1)).1 o1 2)).1 o1 3)).1 o1 4)) b 5 ((mSI (mSI (mSI (mSI (mSI M b 0 (M.1 o1 0)) b 1 ((mSI M b 0 (M.1 o1 0)).1 o1 1)) b 2 ((mSI (mSI M b 0 (M.1 o1 0)) b 1 ((mSI M b 0 (M.1 o1 0)).1 o1 1)).1 o1 2)) b 3 ((mSI (mSI (mSI M b 0 (M.1 o1 0)) b 1 ((mSI M b 0 (M.1 o1 0)).1 o1 1)) b 2 ((mSI (mSI M b 0 (M.1 o1 0)) b 1 ((mSI M b 0 (M.1 o1 0)).1 o1 1)).1 o1 2)).1 o1 3)) b 4 ((mSI (mSI (mSI (mSI M b 0 (M.1 o1 0)) b 1 ((mSI M b 0 (M.1 o1 0)).1 o1 1)) b 2 ((mSI (mSI M b 0 (M.1 o1 0)) b 1 ((mSI M b 0 (M.1 o1 0)).1 o1 1)).1 o1 2)) b 3 ((mSI (mSI (mSI M b 0 (M.1 o1 0)) b 1 ((mSI M b 0 (M.1 o1 0)).1 o1 1)) b 2 ((mSI (mSI M b 0 (M.1 o1 0)) b 1 ((mSI M b 0 (M.1 o1 0)).1 o1 1)).1 o1 2)).1 o1 3)).1 o1 4)).1 o1 5)) b 6 ((mSI (mSI (mSI (mSI (mSI (mSI M b 0 (M.1 o1 0)) b 1 ((mSI M b 0 (M.1 o1 0)).1 o1 1)) b 2 ((mSI (mSI M b 0 (M.1 o1 0)) b 1 ((mSI M b 0 (M.1 o1 0)).1 o1 1)).1 o1 2)) b 3 ((mSI (mSI (mSI M b 0 (M.1 o1 0)) b 1 ((mSI M b 0 (M.1 o1 0)).1 o1 1)) b 2 ((mSI (mSI M b 0 (M.1 o1 0)) b 1 ((mSI M b 0 (M.1 o1 0)).1 o1 1)).1 o1 2)).1 o1 3)) b 4 ((mSI (mSI (mSI (mSI M b 0 (M.1 o1 0)) b 1 ((mSI M b 0 (M.1 o1 0)).1 o1 1)) b 2 ((mSI (mSI M b 0 (M.1 o1 0)) b 1 ((mSI M b 0 (M.1 o1 0)).1 o1 1)).1 o1 2)) b 3 ((mSI (mSI (mSI M b 0 (M.1 o1 0)) b 1 ((mSI M b 0 (M.1 o1 0)).1 o1 1)) b 2 ((mSI (mSI M b 0 (M.1 o1 0)) b 1 ((mSI M b 0 (M.1 o1 0)).1 o1 1)).1 o1 2)).1 o1 3)).1 o1 4)) b 5 ((mSI (mSI (mSI (mSI (mSI M b 0 (M.1 o1 0)) b 1 ((mSI M b 0 (M.1 o1 0)).1 o1 1)) b 2 ((mSI (mSI M b 0 (M.1 o1 0)) b 1 ((mSI M b 0 (M.1 o1 0)).1 o1 1)).1 o1 2)) b 3 ((mSI (mSI (mSI M b 0 (M.1 o1 0)) b 1 ((mSI M b 0 (M.1 o1 0)).1 o1 1)) b 2 ((mSI (mSI M b 0 (M.1 o1 0)) b 1 ((mSI M b 0 (M.1 o1 0)).1 o1 1)).1 o1 2)).1 o1 3)) b 4 ((mSI (mSI (mSI (mSI M b 0 (M.1 o1 0)) b 1 ((mSI M b 0 (M.1 o1 0)).1 o1 1)) b 2 ((mSI (mSI M b 0 (M.1 o1 0)) b 1 ((mSI M b 0 (M.1 o1 0)).1 o1 1)).1 o1 2)) b 3 ((mSI (mSI (mSI M b 0 (M.1 o1 0)) b 1 ((mSI M b 0 (M.1 o1 0)).1 o1 1)) b 2 ((mSI (mSI M b 0 (M.1 o1 0)) b 1 ((mSI M b 0 (M.1 o1 0)).1 o1 1)).1 o1 2)).1 o1 3)).1 o1 4)).1 o1 5)).1 o1 6)) b 7 ((mSI (mSI (mSI (mSI (mSI (mSI (mSI M b 0 (M.1 o1 0)) b 1 ((mSI M b 0 (M.1 o1 0)).1 o1 1)) b 2 ((mSI (mSI M b 0 (M.1 o1 0)) b 1 ((mSI M b 0 (M.1 o1 0)).1 o1 1)).1 o1 2)) b 3 ((mSI (mSI (mSI M b 0 (M.1 o1 0)) b 1 ((mSI M b 0 (M.1 o1 0)).1 o1 1)) b 2 ((mSI (mSI M b 0 (M.1 o1 0)) b 1 ((mSI M b 0 (M.1 o1 0)).1 o1 1)).1 o1 2)).1 o1 3)) b 4 ((mSI (mSI (mSI (mSI M b 0 (M.1 o1 0)) b 1 ((mSI M b 0 (M.1 o1 0)).1 o1 1)) b 2 ((mSI (mSI M b 0 (M.1 o1 0)) b 1 ((mSI M b 0 (M.1 o1 0)).1 o1 1)).1 o1 2)) b 3 ((mSI (mSI (mSI M b 0 (M.1 o1 0)) b 1 ((mSI M b 0 (M.1 o1 0)).1 o1 1)) b 2 ((mSI (mSI M b 0 (M.1 o1 0)) b 1 ((mSI M b 0 (M.1 o1 0)).1 o1 1)).1 o1 2)).1 o1 3)).1 o1 4)) b 5 ((mSI (mSI (mSI (mSI (mSI M b 0 (M.1 o1 0)) b 1 ((mSI M b 0 (M.1 o1 0)).1 o1 1)) b 2 ((mSI (mSI M b 0 (M.1 o1 0)) b 1 ((mSI M b 0 (M.1 o1 0)).1 o1 1)).1 o1 2)) b 3 ((mSI (mSI (mSI M b 0 (M.1 o1 0)) b 1 ((mSI M b 0 (M.1 o1 0)).1 o1 1)) b 2 ((mSI (mSI M b 0 (M.1 o1 0)) b 1 ((mSI M b 0 (M.1 o1 0)).1 o1 1)).1 o1 2)).1 o1 3)) b 4 ((mSI (mSI (mSI (mSI M b 0 (M.1 o1 0)) b 1 ((mSI M b 0 (M.1 o1 0)).1 o1 1)) b 2 ((mSI (mSI M b 0 (M.1 o1 0)) b 1 ((mSI M b 0 (M.1 o1 0)).1 o1 1)).1 o1 2)) b 3 ((mSI (mSI (mSI M b 0 (M.1 o1 0)) b 1 ((mSI M b 0 (M.1 o1 0)).1 o1 1)) b 2 ((mSI (mSI M b 0 (M.1 o1 0)) b 1 ((mSI M b 0 (M.1 o1 0)).1 o1 1)).1 o1 2)).1 o1 3)).1 o1 4)).1 o1 5)) b 6 ((mSI (mSI (mSI (mSI (mSI (mSI M b 0 (M.1 o1 0)) b 1 ((mSI M b 0 (M.1 o1 0)).1 o1 1)) b 2 ((mSI (mSI M b 0 (M.1 o1 0)) b 1 ((mSI M b 0 (M.1 o1 0)).1 o1 1)).1 o1 2)) b 3 ((mSI (mSI (mSI M b 0 (M.1 o1 0)) b 1 ((mSI M b 0 (M.1 o1 0)).1 o1 1)) b 2 ((mSI (mSI M b 0 (M.1 o1 0)) b 1 ((mSI M b 0 (M.1 o1 0)).1 o1 1)).1 o1 2)).1 o1 3)) b 4 ((mSI (mSI (mSI (mSI M b 0 (M.1 o1 0)) b 1 ((mSI M b 0 (M.1 o1 0)).1 o1 1)) b 2 ((mSI (mSI M b 0 (M.1 o1 0)) b 1 ((mSI M b 0 (M.1 o1 0)).1 o1 1)).1 o1 2)) b 3 ((mSI (mSI (mSI M b 0 (M.1 o1 0)) b 1 ((mSI M b 0 (M.1 o1 0)).1 o1 1)) b 2 ((mSI (mSI M b 0 (M.1 o1 0)) b 1 ((mSI M b 0 (M.1 o1 0)).1 o1 1)).1 o1 2)).1 o1 3)).1 o1 4)) b 5 ((mSI (mSI (mSI (mSI (mSI M b 0 (M.1 o1 0)) b 1 ((mSI M b 0 (M.1 o1 0)).1 o1 1)) b 2 ((mSI (mSI M b 0 (M.1 o1 0)) b 1 ((mSI M b 0 (M.1 o1 0)).1 o1 1)).1 o1 2)) b 3 ((mSI (mSI (mSI M b 0 (M.1 o1 0)) b 1 ((mSI M b 0 (M.1 o1 0)).1 o1 1)) b 2 ((mSI (mSI M b 0 (M.1 o1 0)) b 1 ((mSI M b 0 (M.1 o1 0)).1 o1 1)).1 o1 2)).1 o1 3)) b 4 ((mSI (mSI (mSI (mSI M b 0 (M.1 o1 0)) b 1 ((mSI M b 0 (M.1 o1 0)).1 o1 1)) b 2 ((mSI (mSI M b 0 (M.1 o1 0)) b 1 ((mSI M b 0 (M.1 o1 0)).1 o1 1)).1 o1 2)) b 3 ((mSI (mSI (mSI M b 0 (M.1 o1 0)) b 1 ((mSI M b 0 (M.1 o1 0)).1 o1 1)) b 2 ((mSI (mSI M b 0 (M.1 o1 0)) b 1 ((mSI M b 0 (M.1 o1 0)).1 o1 1)).1 o1 2)).1 o1 3)).1 o1 4)).1 o1 5)).1 o1 6)).1 o1 7)) b 8 ((mSI (mSI (mSI (mSI (mSI (mSI (mSI (mSI M b 0 (M.1 o1 0)) b 1 ((mSI M b 0 (M.1 o1 0)).1 o1 1)) b 2 ((mSI (mSI M b 0 (M.1 o1 0)) b 1 ((mSI M b 0 (M.1 o1 0)).1 o1 1)).1 o1 2)) b 3 ((mSI (mSI (mSI M b 0 (M.1 o1 0)) b 1 ((mSI M b 0 (M.1 o1 0)).1 o1 1)) b 2 ((mSI (mSI M b 0 (M.1 o1 0)) b 1 ((mSI M b 0 (M.1 o1 0)).1 o1 1)).1 o1 2)).1 o1 3)) b 4 ((mSI (mSI (mSI (mSI M b 0 (M.1 o1 0)) b 1 ((mSI M b 0 (M.1 o1 0)).1 o1 1)) b 2 ((mSI (mSI M b 0 (M.1 o1 0)) b 1 ((mSI M b 0 (M.1 o1 0)).1 o1 1)).1 o1 2)) b 3 ((mSI (mSI (mSI M b 0 (M.1 o1 0)) b 1 ((mSI M b 0 (M.1 o1 0)).1 o1 1)) b 2 ((mSI (mSI M b 0 (M.1 o1 0)) b 1 ((mSI M b 0 (M.1 o1 0)).1 o1 1)).1 o1 2)).1 o1 3)).1 o1 4)) b 5 ((mSI (mSI (mSI (mSI (mSI M b 0 (M.1 o1 0)) b 1 ((mSI M b 0 (M.1 o1 0)).1 o1 1)) b 2 ((mSI (mSI M b 0 (M.1 o1 0)) b 1 ((mSI M b 0 (M.1 o1 0)).1 o1 1)).1 o1 2)) b 3 ((mSI (mSI (mSI M b 0 (M.1 o1 0)) b 1 ((mSI M b 0 (M.1 o1 0)).1 o1 1)) b 2 ((mSI (mSI M b 0 (M.1 o1 0)) b 1 ((mSI M b 0 (M.1 o1 0)).1 o1 1)).1 o1 2)).1 o1 3)) b 4 ((mSI (mSI (mSI (mSI M b 0 (M.1 o1 0)) b 1 ((mSI M b 0 (M.1 o1 0)).1 o1 1)) b 2 ((mSI (mSI M b 0 (M.1 o1 0)) b 1 ((mSI M b 0 (M.1 o1 0)).1 o1 1)).1 o1 2)) b 3 ((mSI (mSI (mSI M b 0 (M.1 o1 0)) b 1 ((mSI M b 0 (M.1 o1 0)).1 o1 1)) b 2 ((mSI (mSI M b 0 (M.1 o1 0)) b 1 ((mSI M b 0 (M.1 o1 0)).1 o1 1)).1 o1 2)).1 o1 3)).1 o1 4)).1 o1 5)) b 6 ((mSI (mSI (mSI (mSI (mSI (mSI M b 0 (M.1 o1 0)) b 1 ((mSI M b 0 (M.1 o1 0)).1 o1 1)) b 2 ((mSI (mSI M b 0 (M.1 o1 0)) b 1 ((mSI M b 0 (M.1 o1 0)).1 o1 1)).1 o1 2)) b 3 ((mSI (mSI (mSI M b 0 (M.1 o1 0)) b 1 ((mSI M b 0 (M.1 o1 0)).1 o1 1)) b 2 ((mSI (mSI M b 0 (M.1 o1 0)) b 1 ((mSI M b 0 (M.1 o1 0)).1 o1 1)).1 o1 2)).1 o1 3)) b 4 ((mSI (mSI (mSI (mSI M b 0 (M.1 o1 0)) b 1 ((mSI M b 0 (M.1 o1 0)).1 o1 1)) b 2 ((mSI (mSI M b 0 (M.1 o1 0)) b 1 ((mSI M b 0 (M.1 o1 0)).1 o1 1)).1 o1 2)) b 3 ((mSI (mSI (mSI M b 0 (M.1 o1 0)) b 1 ((mSI M b 0 (M.1 o1 0)).1 o1 1)) b 2 ((mSI (mSI M b 0 (M.1 o1 0)) b 1 ((mSI M b 0 (M.1 o1 0)).1 o1 1)).1 o1 2)).1 o1 3)).1 o1 4)) b 5 ((mSI (mSI (mSI (mSI (mSI M b 0 (M.1 o1 0)) b 1 ((mSI M b 0 (M.1 o1 0)).1 o1 1)) b 2 ((mSI (mSI M b 0 (M.1 o1 0)) b 1 ((mSI M b 0 (M.1 o1 0)).1 o1 1)).1 o1 2)) b 3 ((mSI (mSI (mSI M b 0 (M.1 o1 0)) b 1 ((mSI M b 0 (M.1 o1 0)).1 o1 1)) b 2 ((mSI (mSI M b 0 (M.1 o1 0)) b 1 ((mSI M b 0 (M.1 o1 0)).1 o1 1)).1 o1 2)).1 o1 3)) b 4 ((mSI (mSI (mSI (mSI M b 0 (M.1 o1 0)) b 1 ((mSI M b 0 (M.1 o1 0)).1 o1 1)) b 2 ((mSI (mSI M b 0 (M.1 o1 0)) b 1 ((mSI M b 0 (M.1 o1 0)).1 o1 1)).1 o1 2)) b 3 ((mSI (mSI (mSI M b 0 (M.1 o1 0)) b 1 ((mSI M b 0 (M.1 o1 0)).1 o1 1)) b 2 ((mSI (mSI M b 0 (M.1 o1 0)) b 1 ((mSI M b 0 (M.1 o1 0)).1 o1 1)).1 o1 2)).1 o1 3)).1 o1 4)).1 o1 5)).1 o1 6)) b 7 ((mSI (mSI (mSI (mSI (mSI (mSI (mSI M b 0 (M.1 o1 0)) b 1 ((mSI M b 0 (M.1 o1 0)).1 o1 1)) b 2 ((mSI (mSI M b 0 (M.1 o1 0)) b 1 ((mSI M b 0 (M.1 o1 0)).1 o1 1)).1 o1 2)) b 3 ((mSI (mSI (mSI M b 0 (M.1 o1 0)) b 1 ((mSI M b 0 (M.1 o1 0)).1 o1 1)) b 2 ((mSI (mSI M b 0 (M.1 o1 0)) b 1 ((mSI M b 0 (M.1 o1 0)).1 o1 1)).1 o1 2)).1 o1 3)) b 4 ((mSI (mSI (mSI (mSI M b 0 (M.1 o1 0)) b 1 ((mSI M b 0 (M.1 o1 0)).1 o1 1)) b 2 ((mSI (mSI M b 0 (M.1 o1 0)) b 1 ((mSI M b 0 (M.1 o1 0)).1 o1 1)).1 o1 2)) b 3 ((mSI (mSI (mSI M b 0 (M.1 o1 0)) b 1 ((mSI M b 0 (M.1 o1 0)).1 o1 1)) b 2 ((mSI (mSI M b 0 (M.1 o1 0)) b 1 ((mSI M b 0 (M.1 o1 0)).1 o1 1)).1 o1 2)).1 o1 3)).1 o1 4)) b 5 ((mSI (mSI (mSI (mSI (mSI M b 0 (M.1 o1 0)) b 1 ((mSI M b 0 (M.1 o1 0)).1 o1 1)) b 2 ((mSI (mSI M b 0 (M.1 o1 0)) b 1 ((mSI M b 0 (M.1 o1 0)).1 o1 1)).1 o1 2)) b 3 ((mSI (mSI (mSI M b 0 (M.1 o1 0)) b 1 ((mSI M b 0 (M.1 o1 0)).1 o1 1)) b 2 ((mSI (mSI M b 0 (M.1 o1 0)) b 1 ((mSI M b 0 (M.1 o1 0)).1 o1 1)).1 o1 2)).1 o1 3)) b 4 ((mSI (mSI (mSI (mSI M b 0 (M.1 o1 0)) b 1 ((mSI M b 0 (M.1 o1 0)).1 o1 1)) b 2 ((mSI (mSI M b 0 (M.1 o1 0)) b 1 ((mSI M b 0 (M.1 o1 0)).1 o1 1)).1 o1 2)) b 3 ((mSI (mSI (mSI M b 0 (M.1 o1 0)) b 1 ((mSI M b 0 (M.1 o1 0)).1 o1 1)) b 2 ((mSI (mSI M b 0 (M.1 o1 0)) b 1 ((mSI M b 0 (M.1 o1 0)).1 o1 1)).1 o1 2)).1 o1 3)).1 o1 4)).1 o1 5)) b 6 ((mSI (mSI (mSI (mSI (mSI (mSI M b 0 (M.1 o1 0)) b 1 ((mSI M b 0 (M.1 o1 0)).1 o1 1)) b 2 ((mSI (mSI M b 0 (M.1 o1 0)) b 1 ((mSI M b 0 (M.1 o1 0)).1 o1 1)).1 o1 2)) b 3 ((mSI (mSI (mSI M b 0 (M.1 o1 0)) b 1 ((mSI M b 0 (M.1 o1 0)).1 o1 1)) b 2 ((mSI (mSI M b 0 (M.1 o1 0)) b 1 ((mSI M b 0 (M.1 o1 0)).1 o1 1)).1 o1 2)).1 o1 3)) b 4 ((mSI (mSI (mSI (mSI M b 0 (M.1 o1 0)) b 1 ((mSI M b 0 (M.1 o1 0)).1 o1 1)) b 2 ((mSI (mSI M b 0 (M.1 o1 0)) b 1 ((mSI M b 0 (M.1 o1 0)).1 o1 1)).1 o1 2)) b 3 ((mSI (mSI (mSI M b 0 (M.1 o1 0)) b 1 ((mSI M b 0 (M.1 o1 0)).1 o1 1)) b 2 ((mSI (mSI M b 0 (M.1 o1 0)) b 1 ((mSI M b 0 (M.1 o1 0)).1 o1 1)).1 o1 2)).1 o1 3)).1 o1 4)) b 5 ((mSI (mSI (mSI (mSI (mSI M b 0 (M.1 o1 0)) b 1 ((mSI M b 0 (M.1 o1 0)).1 o1 1)) b 2 ((mSI (mSI M b 0 (M.1 o1 0)) b 1 ((mSI M b 0 (M.1 o1 0)).1 o1 1)).1 o1 2)) b 3 ((mSI (mSI (mSI M b 0 (M.1 o1 0)) b 1 ((mSI M b 0 (M.1 o1 0)).1 o1 1)) b 2 ((mSI (mSI M b 0 (M.1 o1 0)) b 1 ((mSI M b 0 (M.1 o1 0)).1 o1 1)).1 o1 2)).1 o1 3)) b 4 ((mSI (mSI (mSI (mSI M b 0 (M.1 o1 0)) b 1 ((mSI M b 0 (M.1 o1 0)).1 o1 1)) b 2 ((mSI (mSI M b 0 (M.1 o1 0)) b 1 ((mSI M b 0 (M.1 o1 0)).1 o1 1)).1 o1 2)) b 3 ((mSI (mSI (mSI M b 0 (M.1 o1 0)) b 1 ((mSI M b 0 (M.1 o1 0)).1 o1 1)) b 2 ((mSI (mSI M b 0 (M.1 o1 0)) b 1 ((mSI M b 0 (M.1 o1 0)).1 o1 1)).1 o1 2)).1 o1 3)).1 o1 4)).1 o1 5)).1 o1 6)).1 o1 7)).1 o1 8))) (fun r1 hr1 => ?_)
  have mr1 : Same (fun k => (b ≤ k ∧ k ≤ b + 12)) M r1 := (((((((((((((((((((Same.rfl').sI (by first | omega | (dsimp only; omega)))).sI (by first | omega | (dsimp only; omega)))).sI (by first | omega | (dsimp only; omega)))).sI (by first | omega | (dsimp only; omega)))).sI (by first | omega | (dsimp only; omega)))).sI (by first | omega | (dsimp only; omega)))).sI (by first | omega | (dsimp only; omega)))).sI (by first | omega | (dsimp only; omega)))).sI (by first | omega | (dsimp only; omega)))).trans (hr1.mono (fun k hk => by first | omega | exact hk.elim | (dsimp only at hk ⊢; omega)))
  refine wp_bind (T_Row_takeFrom ((b + 4)) 117 ((o1 + 4)) 117 r1) (fun r2 hr2 => ?_)
  have mr2 : Same (fun k => (b ≤ k ∧ k ≤ b + 12)) M r2 := (mr1).trans (hr2.mono (fun k hk => by first | omega | exact hk.elim | (dsimp only at hk ⊢; omega)))
  refine wp_bind (T_Row_takeFrom ((b + 6)) 400 ((o1 + 6)) 400 r2) (fun r3 hr3 => ?_)
  have mr3 : Same (fun k => (b ≤ k ∧ k ≤ b + 12)) M r3 := (mr2).trans (hr3.mono (fun k hk => by first | omega | exact hk.elim | (dsimp only at hk ⊢; omega)))
  refine wp_bind (T_Row_takeFrom ((b + 8)) 8 ((o1 + 8)) 8 r3) (fun r4 hr4 => ?_)
  have mr4 : Same (fun k => (b ≤ k ∧ k ≤ b + 12)) M r4 := (mr3).trans (hr4.mono (fun k hk => by first | omega | exact hk.elim | (dsimp only at hk ⊢; omega)))
  refine wp_bind (T_Row_takeFrom ((b + 10)) 6 ((o1 + 10)) 6 r4) (fun r5 hr5 => ?_)
  have mr5 : Same (fun k => (b ≤ k ∧ k ≤ b + 12)) M r5 := (mr4).trans (hr5.mono (fun k hk => by first | omega | exact hk.elim | (dsimp only at hk ⊢; omega)))
  refine wp_bind (T_Row_takeFrom ((b + 12)) 6 ((o1 + 12)) 6 r5) (fun r6 hr6 => ?_)
  have mr6 : Same (fun k => (b ≤ k ∧ k ≤ b + 12)) M r6 := (mr5).trans (hr6.mono (fun k hk => by first | omega | exact hk.elim | (dsimp only at hk ⊢; omega)))
  exact wp_some mr6
theorem T_Well_setBrings (x1 : Int32) (x2 : Int32) (x3 : Int32) (x4 : Int32) (M : Mem) : wpO (F_Well_setBrings x1 x2 x3 x4 M) (fun r => Same (fun k => k = 3) M r) := by
  unfold F_Well_setBrings
  refine wp_bind (T_Row_put 3 18 (2 * ((3 * x1) + x2)) x3.toInt64 M) (fun r1 hr1 => ?_)
  have mr1 : Same (fun k => k = 3) M r1 := hr1.mono (fun k hk => by first | omega | exact hk.elim | (dsimp only at hk ⊢; omega))
  refine wp_bind (T_Row_put 3 18 ((2 * ((3 * x1) + x2)) + 1) x4.toInt64 r1) (fun r2 hr2 => ?_)
  have mr2 : Same (fun k => k = 3) M r2 := (mr1).trans (hr2.mono (fun k hk => by first | omega | exact hk.elim | (dsimp only at hk ⊢; omega)))
  exact wp_some mr2
theorem T_Well_bringsTo (x1 : Int32) (x2 : Int32) (x3 : Int32) (M : Mem) : wpO (F_Well_bringsTo x1 x2 x3 M) (fun r => True) := by
  unfold F_Well_bringsTo
  refine wp_bind (T_Row_small 3 18 ((2 * ((3 * x2) + x3)) + x1) M) (fun r1 hr1 => ?_)
  exact wp_some trivial
theorem T_Well_bringsOwn (x1 : Int32) (x2 : Int32) (x3 : Int32) (M : Mem) : wpO (F_Well_bringsOwn x1 x2 x3 M) (fun r => True) := by
  unfold F_Well_bringsOwn
  refine wp_if (fun c1 => ?_) (fun c1 => ?_)
  · unfold F_Well_bringsOwn_j27
    refine wp_bind (T_Row_small 3 18 (2 * ((3 * x2) + x3)) M) (fun r1_3 hr1_3 => ?_)
    exact wp_some trivial
  · unfold F_Well_bringsOwn_j27
    refine wp_bind (T_Row_small 3 18 ((2 * ((3 * x3) + x2)) + 1) M) (fun r1_4 hr1_4 => ?_)
    exact wp_some trivial
theorem T_Well_putWay_b2 (o2a : Nat) (o2n : Nat) (x1 : Int32) (z : Int32 × Mem) : wpO (F_Well_putWay_b2 o2a o2n x1 z) (fun r => (match r with | .inl s => Same (fun k => k = 5) z.2 s.2 ∧ muU s.1 < muU z.1 | .inr r => Same (fun k => k = 5) z.2 r)) := by
  unfold F_Well_putWay_b2
  refine wp_if (fun c1 => ?_) (fun c1 => ?_)
  · exact wp_some Same.rfl'
  · refine wp_bind (T_Row_at o2a o2n z.1 z.2) (fun r1 hr1 => ?_)
    refine wp_bind (T_Row_put 5 117 ((x1 * 13) + z.1) r1 z.2) (fun r2 hr2 => ?_)
    have mr2 : Same (fun k => k = 5) z.2 r2 := hr2.mono (fun k hk => by first | omega | exact hk.elim | (dsimp only at hk ⊢; omega))
    exact wp_some ⟨mr2, (muU_le c1)⟩
theorem T_Well_putWay (o2a : Nat) (o2n : Nat) (x1 : Int32) (M : Mem) : wpO (F_Well_putWay o2a o2n x1 M) (fun r => Same (fun k => k = 5) M r) := by
  unfold F_Well_putWay
  unfold F_Well_putWay_l2
  refine wp_bind (Ψ := fun r_5 => Same (fun k => k = 5) M r_5) (wp_while (P := fun w9 => Same (fun k => k = 5) M w9.2) (μ := fun w9 => muU w9.1) (fun w9 hz => wp_mono (T_Well_putWay_b2 o2a o2n x1 w9) (fun x hx => ?_)) FUEL ((0 : Int32), M) Same.rfl' (mu_fuel _)) ?_
  · rcases x with x | x
    · exact ⟨hz.trans (hx.1.mono (fun k hk => by first | omega | exact hk.elim | (dsimp only at hk ⊢; omega))), hx.2⟩
    · exact hz.trans (hx.mono (fun k hk => by first | omega | exact hk.elim | (dsimp only at hk ⊢; omega)))
  intro r_5 hr_5
  exact wp_some hr_5
theorem T_Well_putSpareWay_b16 (x1 : Int32) (x2 : Int32) (z : Int32 × Mem) : wpO (F_Well_putSpareWay_b16 x1 x2 z) (fun r => (match r with | .inl s => Same (fun k => k = 5) z.2 s.2 ∧ muU s.1 < muU z.1 | .inr r => Same (fun k => k = 5) z.2 r)) := by
  unfold F_Well_putSpareWay_b16
  refine wp_if (fun c1 => ?_) (fun c1 => ?_)
  · exact wp_some Same.rfl'
  · refine wp_bind (T_Row_put 5 117 ((x2 + 1) + (4 * z.1)) (((x1 >>> (z.1 &&& 31)) &&& 1).toInt64) z.2) (fun r2 hr2 => ?_)
    have mr2 : Same (fun k => k = 5) z.2 r2 := hr2.mono (fun k hk => by first | omega | exact hk.elim | (dsimp only at hk ⊢; omega))
    refine wp_bind (T_Row_put 5 117 (((x2 + 1) + (4 * z.1)) + 1) (((x1 >>> ((2 + (2 * z.1)) &&& 31)) &&& 1).toInt64) r2) (fun r3 hr3 => ?_)
    have mr3 : Same (fun k => k = 5) z.2 r3 := (mr2).trans (hr3.mono (fun k hk => by first | omega | exact hk.elim | (dsimp only at hk ⊢; omega)))
    refine wp_bind (T_Row_put 5 117 (((x2 + 1) + (4 * z.1)) + 2) (((x1 >>> ((3 + (2 * z.1)) &&& 31)) &&& 1).toInt64) r3) (fun r4 hr4 => ?_)
    have mr4 : Same (fun k => k = 5) z.2 r4 := (mr3).trans (hr4.mono (fun k hk => by first | omega | exact hk.elim | (dsimp only at hk ⊢; omega)))
    refine wp_bind (T_Row_put 5 117 (((x2 + 1) + (4 * z.1)) + 3) z.1.toInt64 r4) (fun r5 hr5 => ?_)
    have mr5 : Same (fun k => k = 5) z.2 r5 := (mr4).trans (hr5.mono (fun k hk => by first | omega | exact hk.elim | (dsimp only at hk ⊢; omega)))
    exact wp_some ⟨mr5, (muU_le c1)⟩
theorem T_Well_putSpareWay (x1 : Int32) (M : Mem) : wpO (F_Well_putSpareWay x1 M) (fun r => Same (fun k => k = 5) M r) := by
  unfold F_Well_putSpareWay
  refine wp_bind (T_Row_put 5 117 104 2 M) (fun r1 hr1 => ?_)
  have mr1 : Same (fun k => k = 5) M r1 := hr1.mono (fun k hk => by first | omega | exact hk.elim | (dsimp only at hk ⊢; omega))
  unfold F_Well_putSpareWay_l16
  refine wp_bind (Ψ := fun r_6 => Same (fun k => k = 5) M r_6) (wp_while (P := fun w9 => Same (fun k => k = 5) M w9.2) (μ := fun w9 => muU w9.1) (fun w9 hz => wp_mono (T_Well_putSpareWay_b16 x1 (104 : Int32) w9) (fun x hx => ?_)) FUEL ((0 : Int32), r1) mr1 (mu_fuel _)) ?_
  · rcases x with x | x
    · exact ⟨hz.trans (hx.1.mono (fun k hk => by first | omega | exact hk.elim | (dsimp only at hk ⊢; omega))), hx.2⟩
    · exact hz.trans (hx.mono (fun k hk => by first | omega | exact hk.elim | (dsimp only at hk ⊢; omega)))
  intro r_6 hr_6
  exact wp_some hr_6
theorem T_Well_moodsOf (x1 : Int32) (M : Mem) : wpO (F_Well_moodsOf x1 M) (fun r => True) := by
  unfold F_Well_moodsOf
  refine wp_bind (T_Row_small 5 117 (x1 * 13) M) (fun r1 hr1 => ?_)
  exact wp_some trivial
theorem T_Well_actOf (x1 : Int32) (x2 : Int32) (M : Mem) : wpO (F_Well_actOf x1 x2 M) (fun r => True) := by
  unfold F_Well_actOf
  refine wp_bind (T_Row_small 5 117 (((x1 * 13) + 1) + (4 * x2)) M) (fun r1 hr1 => ?_)
  exact wp_some trivial
theorem T_Well_nextOf (x1 : Int32) (x2 : Int32) (x3 : Int32) (M : Mem) : wpO (F_Well_nextOf x1 x2 x3 M) (fun r => True) := by
  unfold F_Well_nextOf
  refine wp_bind (T_Row_small 5 117 ((((x1 * 13) + 2) + (4 * x2)) + x3) M) (fun r1 hr1 => ?_)
  exact wp_some trivial
theorem T_Math_min_III (x0 : Int32) (x1 : Int32) (M : Mem) : wpO (F_Math_min_III x0 x1 M) (fun r => True) := by
  unfold F_Math_min_III
  refine wp_if (fun c1 => ?_) (fun c1 => ?_)
  · exact wp_some trivial
  · exact wp_some trivial
theorem T_Well_isBarred_b12 (x1 : Int32) (x2 : Int32) (M : Mem) (z : Int32) : wpO (F_Well_isBarred_b12 x1 x2 M z) (fun r => (match r with | .inl s => muU s < muU z | .inr r => (match r with | .inl s => True | .inr r => True))) := by
  unfold F_Well_isBarred_b12
  refine wp_if (fun c1 => ?_) (fun c1 => ?_)
  · exact wp_some trivial
  · refine wp_bind (T_Well_actOf x1 z M) (fun r3 hr3 => ?_)
    refine wp_if (fun c2 => ?_) (fun c2 => ?_)
    · exact wp_some (muU_le c1)
    · exact wp_some trivial
theorem T_Well_isBarred (x1 : Int32) (M : Mem) : wpO (F_Well_isBarred x1 M) (fun r => True) := by
  unfold F_Well_isBarred
  refine wp_bind (T_Well_moodsOf x1 M) (fun r1 hr1 => ?_)
  refine wp_bind (T_Math_min_III r1 3 M) (fun r2 hr2 => ?_)
  unfold F_Well_isBarred_l12
  refine wp_bind (Ψ := fun q_7 => (match q_7 with | .inl s => True | .inr r => True)) (wp_while (P := fun _ => True) (μ := fun w9 => muU w9) (fun w9 hz => wp_mono (T_Well_isBarred_b12 x1 r2 M w9) (fun x hx => ?_)) FUEL (0 : Int32) trivial (mu_fuel _)) ?_
  · rcases x with x | x
    · exact ⟨trivial, hx⟩
    · rcases x with x | x
      · trivial
      · trivial
  intro q_7 hq_7
  rcases q_7 with y1 | y1
  · exact wp_some trivial
  · exact wp_some trivial
theorem T_Well_barredWays_b4 (M : Mem) (z : Int32 × Int32) : wpO (F_Well_barredWays_b4 M z) (fun r => (match r with | .inl s => muU s.2 < muU z.2 | .inr r => True)) := by
  unfold F_Well_barredWays_b4
  refine wp_if (fun c1 => ?_) (fun c1 => ?_)
  · exact wp_some trivial
  · refine wp_if (fun c2 => ?_) (fun c2 => ?_)
    · exact wp_some trivial
    · refine wp_bind (T_Well_isBarred z.2 M) (fun r1 hr1 => ?_)
      refine wp_if (fun c3 => ?_) (fun c3 => ?_)
      · exact wp_some (muU_le c1)
      · exact wp_some (muU_le c1)
theorem T_Well_barredWays (M : Mem) : wpO (F_Well_barredWays M) (fun r => True) := by
  unfold F_Well_barredWays
  unfold F_Well_barredWays_l4
  refine wp_bind (Ψ := fun r_8 => True) (wp_while (P := fun _ => True) (μ := fun w9 => muU w9.2) (fun w9 hz => wp_mono (T_Well_barredWays_b4 M w9) (fun x hx => ?_)) FUEL ((0 : Int32), (0 : Int32)) trivial (mu_fuel _)) ?_
  · rcases x with x | x
    · exact ⟨trivial, hx⟩
    · trivial
  intro r_8 hr_8
  exact wp_some trivial
theorem T_Well_allBeings_b4 (M : Mem) (z : Int32 × Int32) : wpO (F_Well_allBeings_b4 M z) (fun r => (match r with | .inl s => muU s.2 < muU z.2 | .inr r => True)) := by
  unfold F_Well_allBeings_b4
  refine wp_if (fun c1 => ?_) (fun c1 => ?_)
  · exact wp_some trivial
  · refine wp_bind (T_Row_small 9 8 z.2 M) (fun r1 hr1 => ?_)
    exact wp_some (muU_le c1)
theorem T_Well_allBeings (M : Mem) : wpO (F_Well_allBeings M) (fun r => True) := by
  unfold F_Well_allBeings
  unfold F_Well_allBeings_l4
  refine wp_bind (Ψ := fun r_9 => True) (wp_while (P := fun _ => True) (μ := fun w9 => muU w9.2) (fun w9 hz => wp_mono (T_Well_allBeings_b4 M w9) (fun x hx => ?_)) FUEL ((0 : Int32), (0 : Int32)) trivial (mu_fuel _)) ?_
  · rcases x with x | x
    · exact ⟨trivial, hx⟩
    · trivial
  intro r_9 hr_9
  exact wp_some trivial
theorem T_Well_doesUnknownAct_b2 (M : Mem) (z : Int32) : wpO (F_Well_doesUnknownAct_b2 M z) (fun r => (match r with | .inl s => muU s < muU z | .inr r => (match r with | .inl s => True | .inr r => True))) := by
  unfold F_Well_doesUnknownAct_b2
  refine wp_if (fun c1 => ?_) (fun c1 => ?_)
  · exact wp_some trivial
  · refine wp_if (fun c2 => ?_) (fun c2 => ?_)
    · exact wp_some trivial
    · refine wp_bind (T_Row_at 7 400 z M) (fun r1 hr1 => ?_)
      refine wp_if (fun c3 => ?_) (fun c3 => ?_)
      · exact wp_some (muU_le c1)
      · exact wp_some trivial
theorem T_Well_doesUnknownAct (M : Mem) : wpO (F_Well_doesUnknownAct M) (fun r => True) := by
  unfold F_Well_doesUnknownAct
  unfold F_Well_doesUnknownAct_l2
  refine wp_bind (Ψ := fun q_10 => (match q_10 with | .inl s => True | .inr r => True)) (wp_while (P := fun _ => True) (μ := fun w9 => muU w9) (fun w9 hz => wp_mono (T_Well_doesUnknownAct_b2 M w9) (fun x hx => ?_)) FUEL (0 : Int32) trivial (mu_fuel _)) ?_
  · rcases x with x | x
    · exact ⟨trivial, hx⟩
    · rcases x with x | x
      · trivial
      · trivial
  intro q_10 hq_10
  rcases q_10 with y1 | y1
  · exact wp_some trivial
  · exact wp_some trivial
