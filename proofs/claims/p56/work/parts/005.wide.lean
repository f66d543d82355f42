/-- the float laws are wanted from the first part on (080.p57) -/
theorem zw_good : FP.Core.Good FP.Core.b64 := FP.Core.good_b64
