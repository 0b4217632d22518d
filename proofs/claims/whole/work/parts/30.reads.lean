/-! printed by gen/pp.py: what a changed picture holds -/
theorem or_sI_n (S : ox_St) (F a : Nat) (v : Int32) : (S.sI F a v).n = S.n := rfl
theorem or_sI_K (S : ox_St) (F a : Nat) (v : Int32) : (S.sI F a v).K = S.K := rfl
theorem or_sI_len (S : ox_St) (F a : Nat) (v : Int32) : (S.sI F a v).len = S.len := rfl
theorem or_sI_I (S : ox_St) (F a : Nat) (v : Int32) (G q : Nat) : (S.sI F a v).I G q = if G = F ∧ q = a then v else S.I G q := rfl
theorem or_sI_R (S : ox_St) (F a : Nat) (v : Int32) : (S.sI F a v).R = S.R := rfl
theorem or_sI_J (S : ox_St) (F a : Nat) (v : Int32) : (S.sI F a v).J = S.J := rfl
theorem or_sI_rI (S : ox_St) (F a : Nat) (v : Int32) : (S.sI F a v).rI = S.rI := rfl
theorem or_sI_rR (S : ox_St) (F a : Nat) (v : Int32) : (S.sI F a v).rR = S.rR := rfl
theorem or_sI_rJ (S : ox_St) (F a : Nat) (v : Int32) : (S.sI F a v).rJ = S.rJ := rfl
theorem or_sR_n (S : ox_St) (F a : Nat) (v : Nat) : (S.sR F a v).n = S.n := rfl
theorem or_sR_K (S : ox_St) (F a : Nat) (v : Nat) : (S.sR F a v).K = S.K := rfl
theorem or_sR_len (S : ox_St) (F a : Nat) (v : Nat) : (S.sR F a v).len = S.len := rfl
theorem or_sR_I (S : ox_St) (F a : Nat) (v : Nat) : (S.sR F a v).I = S.I := rfl
theorem or_sR_R (S : ox_St) (F a : Nat) (v : Nat) (G q : Nat) : (S.sR F a v).R G q = if G = F ∧ q = a then v else S.R G q := rfl
theorem or_sR_J (S : ox_St) (F a : Nat) (v : Nat) : (S.sR F a v).J = S.J := rfl
theorem or_sR_rI (S : ox_St) (F a : Nat) (v : Nat) : (S.sR F a v).rI = S.rI := rfl
theorem or_sR_rR (S : ox_St) (F a : Nat) (v : Nat) : (S.sR F a v).rR = S.rR := rfl
theorem or_sR_rJ (S : ox_St) (F a : Nat) (v : Nat) : (S.sR F a v).rJ = S.rJ := rfl
theorem or_sJ_n (S : ox_St) (F a : Nat) (v : Int64) : (S.sJ F a v).n = S.n := rfl
theorem or_sJ_K (S : ox_St) (F a : Nat) (v : Int64) : (S.sJ F a v).K = S.K := rfl
theorem or_sJ_len (S : ox_St) (F a : Nat) (v : Int64) : (S.sJ F a v).len = S.len := rfl
theorem or_sJ_I (S : ox_St) (F a : Nat) (v : Int64) : (S.sJ F a v).I = S.I := rfl
theorem or_sJ_R (S : ox_St) (F a : Nat) (v : Int64) : (S.sJ F a v).R = S.R := rfl
theorem or_sJ_J (S : ox_St) (F a : Nat) (v : Int64) (G q : Nat) : (S.sJ F a v).J G q = if G = F ∧ q = a then v else S.J G q := rfl
theorem or_sJ_rI (S : ox_St) (F a : Nat) (v : Int64) : (S.sJ F a v).rI = S.rI := rfl
theorem or_sJ_rR (S : ox_St) (F a : Nat) (v : Int64) : (S.sJ F a v).rR = S.rR := rfl
theorem or_sJ_rJ (S : ox_St) (F a : Nat) (v : Int64) : (S.sJ F a v).rJ = S.rJ := rfl
theorem or_wI_n (S : ox_St) (F a : Nat) (v : Int32) : (S.wI F a v).n = S.n := rfl
theorem or_wI_K (S : ox_St) (F a : Nat) (v : Int32) : (S.wI F a v).K = S.K := rfl
theorem or_wI_len (S : ox_St) (F a : Nat) (v : Int32) : (S.wI F a v).len = S.len := rfl
theorem or_wI_I (S : ox_St) (F a : Nat) (v : Int32) : (S.wI F a v).I = S.I := rfl
theorem or_wI_R (S : ox_St) (F a : Nat) (v : Int32) : (S.wI F a v).R = S.R := rfl
theorem or_wI_J (S : ox_St) (F a : Nat) (v : Int32) : (S.wI F a v).J = S.J := rfl
theorem or_wI_rI (S : ox_St) (F a : Nat) (v : Int32) (G q : Nat) : (S.wI F a v).rI G q = if G = F ∧ q = a then v else S.rI G q := rfl
theorem or_wI_rR (S : ox_St) (F a : Nat) (v : Int32) : (S.wI F a v).rR = S.rR := rfl
theorem or_wI_rJ (S : ox_St) (F a : Nat) (v : Int32) : (S.wI F a v).rJ = S.rJ := rfl
theorem or_wR_n (S : ox_St) (F a : Nat) (v : Nat) : (S.wR F a v).n = S.n := rfl
theorem or_wR_K (S : ox_St) (F a : Nat) (v : Nat) : (S.wR F a v).K = S.K := rfl
theorem or_wR_len (S : ox_St) (F a : Nat) (v : Nat) : (S.wR F a v).len = S.len := rfl
theorem or_wR_I (S : ox_St) (F a : Nat) (v : Nat) : (S.wR F a v).I = S.I := rfl
theorem or_wR_R (S : ox_St) (F a : Nat) (v : Nat) : (S.wR F a v).R = S.R := rfl
theorem or_wR_J (S : ox_St) (F a : Nat) (v : Nat) : (S.wR F a v).J = S.J := rfl
theorem or_wR_rI (S : ox_St) (F a : Nat) (v : Nat) : (S.wR F a v).rI = S.rI := rfl
theorem or_wR_rR (S : ox_St) (F a : Nat) (v : Nat) (G q : Nat) : (S.wR F a v).rR G q = if G = F ∧ q = a then v else S.rR G q := rfl
theorem or_wR_rJ (S : ox_St) (F a : Nat) (v : Nat) : (S.wR F a v).rJ = S.rJ := rfl
theorem or_wJ_n (S : ox_St) (F a : Nat) (v : Int64) : (S.wJ F a v).n = S.n := rfl
theorem or_wJ_K (S : ox_St) (F a : Nat) (v : Int64) : (S.wJ F a v).K = S.K := rfl
theorem or_wJ_len (S : ox_St) (F a : Nat) (v : Int64) : (S.wJ F a v).len = S.len := rfl
theorem or_wJ_I (S : ox_St) (F a : Nat) (v : Int64) : (S.wJ F a v).I = S.I := rfl
theorem or_wJ_R (S : ox_St) (F a : Nat) (v : Int64) : (S.wJ F a v).R = S.R := rfl
theorem or_wJ_J (S : ox_St) (F a : Nat) (v : Int64) : (S.wJ F a v).J = S.J := rfl
theorem or_wJ_rI (S : ox_St) (F a : Nat) (v : Int64) : (S.wJ F a v).rI = S.rI := rfl
theorem or_wJ_rR (S : ox_St) (F a : Nat) (v : Int64) : (S.wJ F a v).rR = S.rR := rfl
theorem or_wJ_rJ (S : ox_St) (F a : Nat) (v : Int64) (G q : Nat) : (S.wJ F a v).rJ G q = if G = F ∧ q = a then v else S.rJ G q := rfl
theorem or_newO_n (S : ox_St) (κ : Nat) : (S.newO κ).n = S.n + 1 := rfl
theorem or_newA_n (S : ox_St) (κ N : Nat) : (S.newA κ N).n = S.n + 1 := rfl
theorem or_newO_K (S : ox_St) (κ : Nat) (q : Nat) : (S.newO κ).K q = if q = S.n then κ else S.K q := rfl
theorem or_newA_K (S : ox_St) (κ N : Nat) (q : Nat) : (S.newA κ N).K q = if q = S.n then κ else S.K q := rfl
theorem or_newO_len (S : ox_St) (κ : Nat) : (S.newO κ).len = S.len := rfl
theorem or_newA_len (S : ox_St) (κ N : Nat) (q : Nat) : (S.newA κ N).len q = if q = S.n then N else S.len q := rfl
theorem or_newO_I (S : ox_St) (κ : Nat) (G q : Nat) : (S.newO κ).I G q = if q = S.n then 0 else S.I G q := rfl
theorem or_newA_I (S : ox_St) (κ N : Nat) : (S.newA κ N).I = S.I := rfl
theorem or_newO_R (S : ox_St) (κ : Nat) (G q : Nat) : (S.newO κ).R G q = if q = S.n then 0 else S.R G q := rfl
theorem or_newA_R (S : ox_St) (κ N : Nat) : (S.newA κ N).R = S.R := rfl
theorem or_newO_J (S : ox_St) (κ : Nat) (G q : Nat) : (S.newO κ).J G q = if q = S.n then 0 else S.J G q := rfl
theorem or_newA_J (S : ox_St) (κ N : Nat) : (S.newA κ N).J = S.J := rfl
theorem or_newO_rI (S : ox_St) (κ : Nat) : (S.newO κ).rI = S.rI := rfl
theorem or_newA_rI (S : ox_St) (κ N : Nat) (G q : Nat) : (S.newA κ N).rI G q = if G = S.n then 0 else S.rI G q := rfl
theorem or_newO_rR (S : ox_St) (κ : Nat) : (S.newO κ).rR = S.rR := rfl
theorem or_newA_rR (S : ox_St) (κ N : Nat) (G q : Nat) : (S.newA κ N).rR G q = if G = S.n then 0 else S.rR G q := rfl
theorem or_newO_rJ (S : ox_St) (κ : Nat) : (S.newO κ).rJ = S.rJ := rfl
theorem or_newA_rJ (S : ox_St) (κ N : Nat) (G q : Nat) : (S.newA κ N).rJ G q = if G = S.n then 0 else S.rJ G q := rfl
