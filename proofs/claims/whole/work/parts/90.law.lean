theorem law_ok (E : ME) (hL : E.1 ≤ 384) : mSem E 13 nL_law mH0 600000 7302250 mYes 0 [some (.ref 1000), none, none, none] [] mH0 := by sorry
