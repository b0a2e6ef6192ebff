theorem mjDec_ok : mjDec := fun k hk q hq => by
  have h := List.all_eq_true.mp (mjCd_ok k hk) q hq
  simpa using h
