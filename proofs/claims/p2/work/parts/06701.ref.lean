theorem zp_X12_findSoon_0 (l : Launch) : zMet zkdm vwCl zTW zKPr l zk_X12_findSoon_0 := sorry
