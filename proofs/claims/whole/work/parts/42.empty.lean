/-! printed by gen/trace2.py: read on an empty tape -/
theorem ap_rl {b : Nat} {S : ox_St} (hn : S.n = b) {a v : Nat} {l : List oOp} (h : oRK l a = some v) (h2 : ox_rdL v = true) : ox_rdL ((ap b l S).K (b + a)) = true := by
  rw [ap_K hn l h]; exact h2
section NNR
variable {b n_ : Nat} {S : ox_St}
theorem nn_sI {F a : Nat} {v : Int32} : (S.nn n_).sI F a v = (S.sI F a v).nn n_ := rfl
theorem ap_KN (hn : S.n = b) {a v : Nat} (l : List oOp) (h : oRK l a = some v) : ((ap b l S).nn n_).K (b + a) = v := ap_K hn l h
theorem ap_IN (hn : S.n = b) {F a : Nat} {v : Int} (l : List oOp) (h : oRI l F a = some v) : ((ap b l S).nn n_).I F (b + a) = Int32.ofInt v := ap_I hn l h
theorem ap_RN (hn : S.n = b) (hb : 0 < b) {F a v : Nat} (l : List oOp) (h : oRR l F a = some v) : ((ap b l S).nn n_).R F (b + a) = oVal b (S.R 142 0) v := ap_R hn hb l h
theorem ap_hasN (hn : S.n = b) {a v F : Nat} {l : List oOp} (h : oRK l a = some v) (h2 : ox_has v F = true) : ox_has (((ap b l S).nn n_).K (b + a)) F = true := ap_has hn h h2
end NNR
def oq_281 : List oOp := (2, 62, 0, 0) :: oq_280
def oq_282 : List oOp := (2, 63, 0, -1) :: oq_281
def oq_283 : List oOp := (2, 0, 2, 1) :: oq_282
def oq_284 : List oOp := (2, 2, 2, 0) :: oq_283
def oq_285 : List oOp := (2, 63, 0, 0) :: oq_284
def oq_286 : List oOp := (1, 15, 0, 0) :: oq_285
def oq_287 : List oOp := (1, 19, 0, 0) :: oq_286
def oq_288 : List oOp := (1, 16, 0, 0) :: oq_287
def oq_289 : List oOp := (0, 3, 0, 0) :: oq_288
def oq_290 : List oOp := (2, 6, 122, 10) :: oq_289
def oq_291 : List oOp := (2, 7, 122, -1) :: oq_290
def oq_292 : List oOp := (2, 8, 122, -1) :: oq_291
def oq_293 : List oOp := (2, 9, 122, -1) :: oq_292
def oq_294 : List oOp := (3, 10, 122, 119) :: oq_293
def oq_295 : List oOp := (3, 11, 122, 120) :: oq_294
def oq_296 : List oOp := (3, 12, 122, 121) :: oq_295
def oq_297 : List oOp := (2, 61, 0, 0) :: oq_296
def oq_298 : List oOp := (2, 121, 76, 0) :: oq_297
def oq_299 : List oOp := (2, 72, 76, 0) :: oq_298
def oq_300 : List oOp := (2, 120, 76, 0) :: oq_299
def oq_301 : List oOp := (2, 132, 76, 0) :: oq_300
def oq_302 : List oOp := (2, 70, 76, -1) :: oq_301
def oq_303 : List oOp := (2, 122, 76, 0) :: oq_302
def oq_304 : List oOp := (2, 123, 76, 0) :: oq_303
def oq_305 : List oOp := (2, 124, 76, 0) :: oq_304
def oq_306 : List oOp := (2, 125, 76, 0) :: oq_305
def oq_307 : List oOp := (2, 132, 76, 1) :: oq_306
def oq_308 : List oOp := (2, 70, 76, 0) :: oq_307
def oq_309 : List oOp := (2, 69, 76, 1) :: oq_308
def oq_310 : List oOp := (2, 76, 76, 0) :: oq_309
def oq_311 : List oOp := (2, 86, 76, 0) :: oq_310
def oq_312 : List oOp := (2, 87, 76, 0) :: oq_311
def oq_313 : List oOp := (2, 88, 76, 0) :: oq_312
set_option maxRecDepth 100000 in
set_option maxHeartbeats 40000000 in
theorem t_111 {sp : ox_E} (hsp : ox_mono sp) {S : ox_St} (hb : 0 < S.n) {Q : ox_Q} (h : Q (some (.inr (.inr 0))) (ap S.n oq_297 S)) : ox_M sp 1200 111 [.inr (.inr (S.n + 0))] 4 7 (ap S.n oq_280 S) Q := by
  refine f_111 (d := 1199) hsp (S := (ap S.n oq_280 S)) (mr := 4) (sr := 7) (x0 := (S.n + 0)) ?_
  unfold q_111
  refine ⟨(ap_has (b := S.n) (S := S) (l := oq_280) (a := 0) (v := 13) rfl (by decide +kernel) rfl), ?_⟩
  intro S1
  have e1 : S1 = (ap S.n oq_281 S) := rfl
  clear_value S1
  subst e1
  refine ⟨(ap_has (b := S.n) (S := S) (l := oq_281) (a := 0) (v := 13) rfl (by decide +kernel) rfl), ?_⟩
  intro S1
  have e1 : S1 = (ap S.n oq_282 S) := rfl
  clear_value S1
  subst e1
  refine ⟨(ap_has (b := S.n) (S := S) (l := oq_282) (a := 0) (v := 13) rfl (by decide +kernel) rfl), ?_⟩
  try rw [show (ap S.n oq_282 S).R 64 (S.n + 0) = (S.n + 2) from ap_R (b := S.n) (S := S) (F := 64) (a := 0) (v := 4) rfl hb oq_282 (by decide +kernel)]
  refine ⟨(by decide), (ap_K (b := S.n) (S := S) rfl oq_282 (a := 2) (v := 1) (by decide +kernel)), (by decide), 0, 0, (by decide), (by decide), ?_⟩
  refine f_227 (d := 1198) hsp (S := (ap S.n oq_282 S)) (mr := 0) (sr := 0) (x0 := (S.n + 2)) ?_
  unfold q_227
  refine ⟨(ap_has (b := S.n) (S := S) (l := oq_282) (a := 2) (v := 1) rfl (by decide +kernel) rfl), ?_⟩
  try rw [show (ap S.n oq_282 S).I 0 (S.n + 2) = 0 from (ap_I (b := S.n) (S := S) (F := 0) (a := 2) (v := 0) rfl oq_282 (by decide +kernel)).trans (by decide)]
  refine ⟨(ap_has (b := S.n) (S := S) (l := oq_282) (a := 2) (v := 1) rfl (by decide +kernel) rfl), ?_⟩
  intro S1
  have e1 : S1 = (ap S.n oq_283 S) := rfl
  clear_value S1
  subst e1
  refine ⟨(ap_has (b := S.n) (S := S) (l := oq_283) (a := 2) (v := 1) rfl (by decide +kernel) rfl), ?_⟩
  try rw [show (ap S.n oq_283 S).R 1 (S.n + 2) = (S.R 142 0) from ap_R (b := S.n) (S := S) (F := 1) (a := 2) (v := 1) rfl hb oq_283 (by decide +kernel)]
  refine ⟨(ap_has (b := S.n) (S := S) (l := oq_283) (a := 2) (v := 1) rfl (by decide +kernel) rfl), ?_⟩
  try rw [show (ap S.n oq_283 S).I 2 (S.n + 2) = 0 from (ap_I (b := S.n) (S := S) (F := 2) (a := 2) (v := 0) rfl oq_283 (by decide +kernel)).trans (by decide)]
  refine ⟨(ap_has (b := S.n) (S := S) (l := oq_283) (a := 2) (v := 1) rfl (by decide +kernel) rfl), ?_⟩
  intro S1
  have e1 : S1 = (ap S.n oq_284 S) := rfl
  clear_value S1
  subst e1
  refine f_227_27 (E := (ox_M sp 1198)) (ox_M_mono hsp _) (S := (ap S.n oq_284 S)) (mr := 0) (sr := 0) (x0 := (S.n + 2)) (x1 := (S.R 142 0)) (x2 := 0) (x3 := 0) ?_
  unfold q_227_27
  refine ⟨fun _ => ?_, fun h => absurd h (by first | decide | omega)⟩
  refine ⟨rfl, ?_⟩
  refine f_111_17 (E := (ox_M sp 1199)) (ox_M_mono hsp _) (S := (ap S.n oq_284 S)) (mr := 4) (sr := 7) (x0 := (S.n + 0)) ?_
  unfold q_111_17
  refine ⟨(by decide), (ap_K (b := S.n) (S := S) rfl oq_284 (a := 0) (v := 13) (by decide +kernel)), (by decide), 4, 7, (by decide), (by decide), ?_⟩
  refine f_123 (d := 1198) hsp (S := (ap S.n oq_284 S)) (mr := 4) (sr := 7) (x0 := (S.n + 0)) (x1 := 1) ?_
  unfold q_123
  refine ⟨(by decide), (ap_K (b := S.n) (S := S) rfl oq_284 (a := 0) (v := 13) (by decide +kernel)), (by decide), 0, 0, (by decide), (by decide), ?_⟩
  refine f_115 (d := 1197) hsp (S := (ap S.n oq_284 S)) (mr := 0) (sr := 0) (x0 := (S.n + 0)) (x1 := 99) (x2 := 99) ?_
  unfold q_115
  refine ⟨(ap_has (b := S.n) (S := S) (l := oq_284) (a := 0) (v := 13) rfl (by decide +kernel) rfl), ?_⟩
  try rw [show (ap S.n oq_284 S).I 63 (S.n + 0) = (-1) from (ap_I (b := S.n) (S := S) (F := 63) (a := 0) (v := -1) rfl oq_284 (by decide +kernel)).trans (by decide)]
  refine ⟨fun _ => ?_, fun h => absurd h (by first | decide | omega)⟩
  refine ⟨(ap_has (b := S.n) (S := S) (l := oq_284) (a := 0) (v := 13) rfl (by decide +kernel) rfl), ?_⟩
  try rw [show (ap S.n oq_284 S).I 62 (S.n + 0) = 0 from (ap_I (b := S.n) (S := S) (F := 62) (a := 0) (v := 0) rfl oq_284 (by decide +kernel)).trans (by decide)]
  refine ⟨(ap_has (b := S.n) (S := S) (l := oq_284) (a := 0) (v := 13) rfl (by decide +kernel) rfl), ?_⟩
  try rw [show (ap S.n oq_284 S).I 61 (S.n + 0) = 0 from (ap_I (b := S.n) (S := S) (F := 61) (a := 0) (v := 0) rfl oq_284 (by decide +kernel)).trans (by decide)]
  refine ⟨fun _ => ?_, fun h => absurd h (by first | decide | omega)⟩
  refine ⟨(ap_has (b := S.n) (S := S) (l := oq_284) (a := 0) (v := 13) rfl (by decide +kernel) rfl), ?_⟩
  try rw [show (ap S.n oq_284 S).I 62 (S.n + 0) = 0 from (ap_I (b := S.n) (S := S) (F := 62) (a := 0) (v := 0) rfl oq_284 (by decide +kernel)).trans (by decide)]
  refine ⟨(ap_has (b := S.n) (S := S) (l := oq_284) (a := 0) (v := 13) rfl (by decide +kernel) rfl), ?_⟩
  intro S1
  have e1 : S1 = (ap S.n oq_285 S) := rfl
  clear_value S1
  subst e1
  refine ⟨(by first | exact trivial | decide), ?_⟩
  refine f_123_8 (E := (ox_M sp 1198)) (ox_M_mono hsp _) (S := (ap S.n oq_285 S)) (mr := 4) (sr := 7) (x0 := (S.n + 0)) (x1 := 1) (y0 := (-1)) ?_
  unfold q_123_8
  refine ⟨(by decide), (ap_K (b := S.n) (S := S) rfl oq_285 (a := 0) (v := 13) (by decide +kernel)), (by decide), 0, 0, (by decide), (by decide), ?_⟩
  refine f_115 (d := 1197) hsp (S := (ap S.n oq_285 S)) (mr := 0) (sr := 0) (x0 := (S.n + 0)) (x1 := 0) (x2 := 4) ?_
  unfold q_115
  refine ⟨(ap_has (b := S.n) (S := S) (l := oq_285) (a := 0) (v := 13) rfl (by decide +kernel) rfl), ?_⟩
  try rw [show (ap S.n oq_285 S).I 63 (S.n + 0) = 0 from (ap_I (b := S.n) (S := S) (F := 63) (a := 0) (v := 0) rfl oq_285 (by decide +kernel)).trans (by decide)]
  refine ⟨fun h => absurd h (by first | decide | omega), fun _ => ?_⟩
  refine ⟨(by first | exact trivial | decide), ?_⟩
  refine f_123_15 (E := (ox_M sp 1198)) (ox_M_mono hsp _) (S := (ap S.n oq_285 S)) (mr := 4) (sr := 7) (x0 := (S.n + 0)) (x1 := 1) (y0 := (-1)) ?_
  unfold q_123_15
  refine ⟨(by decide), ?_⟩
  refine ⟨(by decide), (ap_K (b := S.n) (S := S) rfl oq_285 (a := 0) (v := 13) (by decide +kernel)), (by decide), 0, 0, (by decide), (by decide), ?_⟩
  refine f_115 (d := 1197) hsp (S := (ap S.n oq_285 S)) (mr := 0) (sr := 0) (x0 := (S.n + 0)) (x1 := 0) (x2 := 8) ?_
  unfold q_115
  refine ⟨(ap_has (b := S.n) (S := S) (l := oq_285) (a := 0) (v := 13) rfl (by decide +kernel) rfl), ?_⟩
  try rw [show (ap S.n oq_285 S).I 63 (S.n + 0) = 0 from (ap_I (b := S.n) (S := S) (F := 63) (a := 0) (v := 0) rfl oq_285 (by decide +kernel)).trans (by decide)]
  refine ⟨fun h => absurd h (by first | decide | omega), fun _ => ?_⟩
  refine ⟨(by first | exact trivial | decide), ?_⟩
  refine f_123_27 (E := (ox_M sp 1198)) (ox_M_mono hsp _) (S := (ap S.n oq_285 S)) (mr := 4) (sr := 7) (x0 := (S.n + 0)) (x1 := 1) (x2 := (-1)) (y0 := (-1)) ?_
  unfold q_123_27
  refine ⟨(by decide), (ap_K (b := S.n) (S := S) rfl oq_285 (a := 0) (v := 13) (by decide +kernel)), (by decide), 0, 0, (by decide), (by decide), ?_⟩
  refine f_115 (d := 1197) hsp (S := (ap S.n oq_285 S)) (mr := 0) (sr := 0) (x0 := (S.n + 0)) (x1 := 1) (x2 := 10) ?_
  unfold q_115
  refine ⟨(ap_has (b := S.n) (S := S) (l := oq_285) (a := 0) (v := 13) rfl (by decide +kernel) rfl), ?_⟩
  try rw [show (ap S.n oq_285 S).I 63 (S.n + 0) = 0 from (ap_I (b := S.n) (S := S) (F := 63) (a := 0) (v := 0) rfl oq_285 (by decide +kernel)).trans (by decide)]
  refine ⟨fun h => absurd h (by first | decide | omega), fun _ => ?_⟩
  refine ⟨(by first | exact trivial | decide), ?_⟩
  refine f_123_35 (E := (ox_M sp 1198)) (ox_M_mono hsp _) (S := (ap S.n oq_285 S)) (mr := 4) (sr := 7) (x0 := (S.n + 0)) (x1 := 1) (x2 := (-1)) (x3 := (-1)) (y0 := (-1)) ?_
  unfold q_123_35
  refine ⟨(by decide), (ap_K (b := S.n) (S := S) rfl oq_285 (a := 0) (v := 13) (by decide +kernel)), (by decide), 1, 0, (by decide), (by decide), ?_⟩
  refine f_124 (d := 1197) hsp (S := (ap S.n oq_285 S)) (mr := 1) (sr := 0) (x0 := (S.n + 0)) ?_
  unfold q_124
  refine ⟨(by decide), (ap_K (b := S.n) (S := S) rfl oq_285 (a := 0) (v := 13) (by decide +kernel)), (by decide), 0, 0, (by decide), (by decide), ?_⟩
  refine f_114 (d := 1196) hsp (S := (ap S.n oq_285 S)) (mr := 0) (sr := 0) (x0 := (S.n + 0)) ?_
  unfold q_114
  refine ⟨(ap_has (b := S.n) (S := S) (l := oq_285) (a := 0) (v := 13) rfl (by decide +kernel) rfl), ?_⟩
  try rw [show (ap S.n oq_285 S).I 62 (S.n + 0) = 0 from (ap_I (b := S.n) (S := S) (F := 62) (a := 0) (v := 0) rfl oq_285 (by decide +kernel)).trans (by decide)]
  refine ⟨(ap_has (b := S.n) (S := S) (l := oq_285) (a := 0) (v := 13) rfl (by decide +kernel) rfl), ?_⟩
  try rw [show (ap S.n oq_285 S).I 61 (S.n + 0) = 0 from (ap_I (b := S.n) (S := S) (F := 61) (a := 0) (v := 0) rfl oq_285 (by decide +kernel)).trans (by decide)]
  refine ⟨fun _ => ?_, fun h => absurd h (by first | decide | omega)⟩
  refine ⟨(by first | exact trivial | decide), ?_⟩
  refine f_124_4 (E := (ox_M sp 1197)) (ox_M_mono hsp _) (S := (ap S.n oq_285 S)) (mr := 1) (sr := 0) (x0 := (S.n + 0)) (y0 := (-1)) ?_
  unfold q_124_4
  refine ⟨(by first | decide | omega), ?_⟩
  refine ⟨fun h => absurd h (by first | decide | omega), fun _ => ?_⟩
  refine ⟨(by decide), (ap_K (b := S.n) (S := S) rfl oq_285 (a := 0) (v := 13) (by decide +kernel)), (by decide), 0, 0, (by decide), (by decide), ?_⟩
  refine f_113 (d := 1196) hsp (S := (ap S.n oq_285 S)) (mr := 0) (sr := 0) (x0 := (S.n + 0)) ?_
  unfold q_113
  refine ⟨(ap_has (b := S.n) (S := S) (l := oq_285) (a := 0) (v := 13) rfl (by decide +kernel) rfl), ?_⟩
  try rw [show (ap S.n oq_285 S).I 63 (S.n + 0) = 0 from (ap_I (b := S.n) (S := S) (F := 63) (a := 0) (v := 0) rfl oq_285 (by decide +kernel)).trans (by decide)]
  refine ⟨fun _ => ?_, fun h => absurd h (by first | decide | omega)⟩
  refine ⟨rfl, ?_⟩
  refine f_124_13 (E := (ox_M sp 1197)) (ox_M_mono hsp _) (S := (ap S.n oq_285 S)) (mr := 1) (sr := 0) (x0 := (S.n + 0)) ?_
  unfold q_124_13
  refine ⟨(by decide), (ap_K (b := S.n) (S := S) rfl oq_285 (a := 0) (v := 13) (by decide +kernel)), (by decide), 0, 0, (by decide), (by decide), ?_⟩
  refine f_115 (d := 1196) hsp (S := (ap S.n oq_285 S)) (mr := 0) (sr := 0) (x0 := (S.n + 0)) (x1 := 2) (x2 := 160) ?_
  unfold q_115
  refine ⟨(ap_has (b := S.n) (S := S) (l := oq_285) (a := 0) (v := 13) rfl (by decide +kernel) rfl), ?_⟩
  try rw [show (ap S.n oq_285 S).I 63 (S.n + 0) = 0 from (ap_I (b := S.n) (S := S) (F := 63) (a := 0) (v := 0) rfl oq_285 (by decide +kernel)).trans (by decide)]
  refine ⟨fun h => absurd h (by first | decide | omega), fun _ => ?_⟩
  refine ⟨(by first | exact trivial | decide), ?_⟩
  refine f_124_21 (E := (ox_M sp 1197)) (ox_M_mono hsp _) (S := (ap S.n oq_285 S)) (mr := 1) (sr := 0) (x0 := (S.n + 0)) (y0 := (-1)) ?_
  unfold q_124_21
  refine ⟨(by decide), (ap_K (b := S.n) (S := S) rfl oq_285 (a := 0) (v := 13) (by decide +kernel)), (by decide), 0, 0, (by decide), (by decide), ?_⟩
  refine f_115 (d := 1196) hsp (S := (ap S.n oq_285 S)) (mr := 0) (sr := 0) (x0 := (S.n + 0)) (x1 := 0) (x2 := 0) ?_
  unfold q_115
  refine ⟨(ap_has (b := S.n) (S := S) (l := oq_285) (a := 0) (v := 13) rfl (by decide +kernel) rfl), ?_⟩
  try rw [show (ap S.n oq_285 S).I 63 (S.n + 0) = 0 from (ap_I (b := S.n) (S := S) (F := 63) (a := 0) (v := 0) rfl oq_285 (by decide +kernel)).trans (by decide)]
  refine ⟨fun h => absurd h (by first | decide | omega), fun _ => ?_⟩
  refine ⟨(by first | exact trivial | decide), ?_⟩
  refine f_124_28 (E := (ox_M sp 1197)) (ox_M_mono hsp _) (S := (ap S.n oq_285 S)) (mr := 1) (sr := 0) (x0 := (S.n + 0)) (x1 := (-1)) (y0 := (-1)) ?_
  unfold q_124_28
  refine ⟨(by decide), ?_⟩
  refine ⟨(by decide), (by decide), (by decide), (by decide), ?_⟩
  intro S1
  have e1 : S1 = (ap S.n oq_286 S) := rfl
  clear_value S1
  subst e1
  refine f_124_39 (E := (ox_M sp 1197)) (ox_M_mono hsp _) (S := (ap S.n oq_286 S)) (mr := 0) (sr := 0) (x0 := (S.n + 0)) (x1 := (-1)) (x2 := (S.n + 119)) (x3 := 0) ?_
  unfold q_124_39
  refine ⟨(ap_rl (b := S.n) (S := S) (l := oq_286) (a := 119) (v := 15) rfl (by decide +kernel) rfl), ?_⟩
  try rw [show (ap S.n oq_286 S).len (S.n + 119) = 0 from ap_len (b := S.n) (S := S) (a := 119) (v := 0) rfl oq_286 (by decide +kernel)]
  refine ⟨fun _ => ?_, fun h => absurd h (by first | decide | omega)⟩
  refine ⟨rfl, ?_⟩
  refine f_123_41 (E := (ox_M sp 1198)) (ox_M_mono hsp _) (S := (ap S.n oq_286 S)) (mr := 3) (sr := 7) (x0 := (S.n + 0)) (x1 := 1) (x2 := (-1)) (x3 := (-1)) (x4 := (-1)) (y0 := (S.n + 119)) ?_
  unfold q_123_41
  refine ⟨(by decide), (ap_K (b := S.n) (S := S) rfl oq_286 (a := 0) (v := 13) (by decide +kernel)), (by decide), 0, 0, (by decide), (by decide), ?_⟩
  refine f_115 (d := 1197) hsp (S := (ap S.n oq_286 S)) (mr := 0) (sr := 0) (x0 := (S.n + 0)) (x1 := 0) (x2 := 12) ?_
  unfold q_115
  refine ⟨(ap_has (b := S.n) (S := S) (l := oq_286) (a := 0) (v := 13) rfl (by decide +kernel) rfl), ?_⟩
  try rw [show (ap S.n oq_286 S).I 63 (S.n + 0) = 0 from (ap_I (b := S.n) (S := S) (F := 63) (a := 0) (v := 0) rfl oq_286 (by decide +kernel)).trans (by decide)]
  refine ⟨fun h => absurd h (by first | decide | omega), fun _ => ?_⟩
  refine ⟨(by first | exact trivial | decide), ?_⟩
  refine f_123_51 (E := (ox_M sp 1198)) (ox_M_mono hsp _) (S := (ap S.n oq_286 S)) (mr := 3) (sr := 7) (x0 := (S.n + 0)) (x1 := 1) (x2 := (-1)) (x3 := (-1)) (x4 := (-1)) (x5 := (S.n + 119)) (y0 := (-1)) (y1 := (S.n + 0)) ?_
  unfold q_123_51
  refine ⟨(by decide), (ap_K (b := S.n) (S := S) rfl oq_286 (a := 0) (v := 13) (by decide +kernel)), (by decide), 1, 0, (by decide), (by decide), ?_⟩
  refine f_122 (d := 1197) hsp (S := (ap S.n oq_286 S)) (mr := 1) (sr := 0) (x0 := (S.n + 0)) (x1 := (-1)) (x2 := 2) ?_
  unfold q_122
  refine ⟨(by decide), ?_⟩
  refine ⟨(by decide), (by decide), (by decide), (by decide), ?_⟩
  intro S1
  have e1 : S1 = (ap S.n oq_287 S) := rfl
  clear_value S1
  subst e1
  refine f_122_12 (E := (ox_M sp 1197)) (ox_M_mono hsp _) (S := (ap S.n oq_287 S)) (mr := 0) (sr := 0) (x0 := (S.n + 0)) (x1 := (-1)) (x2 := 2) (x3 := (S.n + 120)) (x4 := 0) ?_
  unfold q_122_12
  refine ⟨(ap_rl (b := S.n) (S := S) (l := oq_287) (a := 120) (v := 19) rfl (by decide +kernel) rfl), ?_⟩
  try rw [show (ap S.n oq_287 S).len (S.n + 120) = 0 from ap_len (b := S.n) (S := S) (a := 120) (v := 0) rfl oq_287 (by decide +kernel)]
  refine ⟨fun _ => ?_, fun h => absurd h (by first | decide | omega)⟩
  refine ⟨rfl, ?_⟩
  refine f_123_57 (E := (ox_M sp 1198)) (ox_M_mono hsp _) (S := (ap S.n oq_287 S)) (mr := 2) (sr := 7) (x0 := (S.n + 0)) (x1 := 1) (x2 := (-1)) (x3 := (-1)) (x4 := (-1)) (x5 := (S.n + 119)) (y0 := (S.n + 120)) ?_
  unfold q_123_57
  refine ⟨(by decide), (ap_K (b := S.n) (S := S) rfl oq_287 (a := 0) (v := 13) (by decide +kernel)), (by decide), 0, 0, (by decide), (by decide), ?_⟩
  refine f_115 (d := 1197) hsp (S := (ap S.n oq_287 S)) (mr := 0) (sr := 0) (x0 := (S.n + 0)) (x1 := 0) (x2 := 12) ?_
  unfold q_115
  refine ⟨(ap_has (b := S.n) (S := S) (l := oq_287) (a := 0) (v := 13) rfl (by decide +kernel) rfl), ?_⟩
  try rw [show (ap S.n oq_287 S).I 63 (S.n + 0) = 0 from (ap_I (b := S.n) (S := S) (F := 63) (a := 0) (v := 0) rfl oq_287 (by decide +kernel)).trans (by decide)]
  refine ⟨fun h => absurd h (by first | decide | omega), fun _ => ?_⟩
  refine ⟨(by first | exact trivial | decide), ?_⟩
  refine f_123_67 (E := (ox_M sp 1198)) (ox_M_mono hsp _) (S := (ap S.n oq_287 S)) (mr := 2) (sr := 7) (x0 := (S.n + 0)) (x1 := 1) (x2 := (-1)) (x3 := (-1)) (x4 := (-1)) (x5 := (S.n + 119)) (x6 := (S.n + 120)) (y0 := (-1)) (y1 := (S.n + 0)) ?_
  unfold q_123_67
  refine ⟨(by decide), (ap_K (b := S.n) (S := S) rfl oq_287 (a := 0) (v := 13) (by decide +kernel)), (by decide), 1, 0, (by decide), (by decide), ?_⟩
  refine f_125 (d := 1197) hsp (S := (ap S.n oq_287 S)) (mr := 1) (sr := 0) (x0 := (S.n + 0)) (x1 := (-1)) ?_
  unfold q_125
  refine ⟨(by decide), ?_⟩
  refine ⟨(by decide), (by decide), (by decide), (by decide), ?_⟩
  intro S1
  have e1 : S1 = (ap S.n oq_288 S) := rfl
  clear_value S1
  subst e1
  refine f_125_10 (E := (ox_M sp 1197)) (ox_M_mono hsp _) (S := (ap S.n oq_288 S)) (mr := 0) (sr := 0) (x0 := (S.n + 0)) (x1 := (-1)) (x2 := (S.n + 121)) (x3 := 0) ?_
  unfold q_125_10
  refine ⟨(ap_rl (b := S.n) (S := S) (l := oq_288) (a := 121) (v := 16) rfl (by decide +kernel) rfl), ?_⟩
  try rw [show (ap S.n oq_288 S).len (S.n + 121) = 0 from ap_len (b := S.n) (S := S) (a := 121) (v := 0) rfl oq_288 (by decide +kernel)]
  refine ⟨fun _ => ?_, fun h => absurd h (by first | decide | omega)⟩
  refine ⟨rfl, ?_⟩
  refine f_123_70 (E := (ox_M sp 1198)) (ox_M_mono hsp _) (S := (ap S.n oq_288 S)) (mr := 1) (sr := 7) (x0 := (S.n + 0)) (x1 := 1) (x2 := (-1)) (x3 := (-1)) (x4 := (-1)) (x5 := (S.n + 119)) (x6 := (S.n + 120)) (y0 := (S.n + 121)) ?_
  unfold q_123_70
  refine ⟨(by decide), (by decide), ?_⟩
  intro S1
  have e1 : S1 = (ap S.n oq_289 S) := rfl
  clear_value S1
  subst e1
  refine ⟨(by decide), (ap_nz (S := S) hb 122), (by decide), 0, 0, (by decide), (by decide), ?_⟩
  refine f_15 (d := 1197) hsp (S := (ap S.n oq_289 S)) (mr := 0) (sr := 0) (x0 := (S.n + 122)) (x1 := (-1)) (x2 := (-1)) (x3 := (-1)) (x4 := (S.n + 119)) (x5 := (S.n + 120)) (x6 := (S.n + 121)) ?_
  unfold q_15
  refine ⟨(by decide), (ap_nz (S := S) hb 122), (by decide), 0, 0, (by decide), (by decide), ?_⟩
  refine f_89 (d := 1196) hsp (S := (ap S.n oq_289 S)) (mr := 0) (sr := 0) (x0 := (S.n + 122)) (x1 := 10) (x2 := (-1)) ?_
  unfold q_89
  refine ⟨(ap_nz (S := S) hb 122), (by decide), ?_⟩
  refine ⟨(ap_has (b := S.n) (S := S) (l := oq_289) (a := 122) (v := 3) rfl (by decide +kernel) rfl), ?_⟩
  intro S1
  have e1 : S1 = (ap S.n oq_290 S) := rfl
  clear_value S1
  subst e1
  refine ⟨(ap_has (b := S.n) (S := S) (l := oq_290) (a := 122) (v := 3) rfl (by decide +kernel) rfl), ?_⟩
  intro S1
  have e1 : S1 = (ap S.n oq_291 S) := rfl
  clear_value S1
  subst e1
  refine ⟨rfl, ?_⟩
  refine f_15_7 (E := (ox_M sp 1197)) (ox_M_mono hsp _) (S := (ap S.n oq_291 S)) (mr := 0) (sr := 0) (x0 := (S.n + 122)) (x1 := (-1)) (x2 := (-1)) (x3 := (-1)) (x4 := (S.n + 119)) (x5 := (S.n + 120)) (x6 := (S.n + 121)) ?_
  unfold q_15_7
  refine ⟨(ap_has (b := S.n) (S := S) (l := oq_291) (a := 122) (v := 3) rfl (by decide +kernel) rfl), ?_⟩
  intro S1
  have e1 : S1 = (ap S.n oq_292 S) := rfl
  clear_value S1
  subst e1
  refine ⟨(ap_has (b := S.n) (S := S) (l := oq_292) (a := 122) (v := 3) rfl (by decide +kernel) rfl), ?_⟩
  intro S1
  have e1 : S1 = (ap S.n oq_293 S) := rfl
  clear_value S1
  subst e1
  refine ⟨(ap_has (b := S.n) (S := S) (l := oq_293) (a := 122) (v := 3) rfl (by decide +kernel) rfl), ?_⟩
  intro S1
  have e1 : S1 = (ap S.n oq_294 S) := rfl
  clear_value S1
  subst e1
  refine ⟨(ap_has (b := S.n) (S := S) (l := oq_294) (a := 122) (v := 3) rfl (by decide +kernel) rfl), ?_⟩
  intro S1
  have e1 : S1 = (ap S.n oq_295 S) := rfl
  clear_value S1
  subst e1
  refine ⟨(ap_has (b := S.n) (S := S) (l := oq_295) (a := 122) (v := 3) rfl (by decide +kernel) rfl), ?_⟩
  intro S1
  have e1 : S1 = (ap S.n oq_296 S) := rfl
  clear_value S1
  subst e1
  refine ⟨rfl, ?_⟩
  refine f_123_89 (E := (ox_M sp 1198)) (ox_M_mono hsp _) (S := (ap S.n oq_296 S)) (mr := 0) (sr := 0) (x0 := (S.n + 0)) (x1 := 1) (x2 := (-1)) (x3 := (-1)) (x4 := (-1)) (x5 := (S.n + 119)) (x6 := (S.n + 120)) (x7 := (S.n + 121)) (y0 := (S.n + 122)) ?_
  unfold q_123_89
  refine ⟨(ap_has (b := S.n) (S := S) (l := oq_296) (a := 0) (v := 13) rfl (by decide +kernel) rfl), ?_⟩
  try rw [show (ap S.n oq_296 S).I 63 (S.n + 0) = 0 from (ap_I (b := S.n) (S := S) (F := 63) (a := 0) (v := 0) rfl oq_296 (by decide +kernel)).trans (by decide)]
  refine ⟨fun _ => ?_, fun h => absurd h (by first | decide | omega)⟩
  refine ⟨rfl, ?_⟩
  refine f_111_22 (E := (ox_M sp 1199)) (ox_M_mono hsp _) (S := (ap S.n oq_296 S)) (mr := 0) (sr := 0) (x0 := (S.n + 0)) (y0 := (S.n + 122)) ?_
  unfold q_111_22
  refine ⟨(ap_has (b := S.n) (S := S) (l := oq_296) (a := 0) (v := 13) rfl (by decide +kernel) rfl), ?_⟩
  try rw [show (ap S.n oq_296 S).I 62 (S.n + 0) = 0 from (ap_I (b := S.n) (S := S) (F := 62) (a := 0) (v := 0) rfl oq_296 (by decide +kernel)).trans (by decide)]
  refine ⟨(ap_has (b := S.n) (S := S) (l := oq_296) (a := 0) (v := 13) rfl (by decide +kernel) rfl), ?_⟩
  try rw [show (ap S.n oq_296 S).I 61 (S.n + 0) = 0 from (ap_I (b := S.n) (S := S) (F := 61) (a := 0) (v := 0) rfl oq_296 (by decide +kernel)).trans (by decide)]
  refine ⟨fun _ => ?_, fun h => absurd h (by first | decide | omega)⟩
  refine f_111_38 (E := (ox_M sp 1199)) (ox_M_mono hsp _) (S := (ap S.n oq_296 S)) (mr := 0) (sr := 0) (x0 := (S.n + 0)) (x1 := (S.n + 122)) ?_
  unfold q_111_38
  refine ⟨(ap_has (b := S.n) (S := S) (l := oq_296) (a := 0) (v := 13) rfl (by decide +kernel) rfl), ?_⟩
  intro S1
  have e1 : S1 = (ap S.n oq_297 S) := rfl
  clear_value S1
  subst e1
  refine ⟨(ap_has (b := S.n) (S := S) (l := oq_297) (a := 0) (v := 13) rfl (by decide +kernel) rfl), ?_⟩
  try rw [show (ap S.n oq_297 S).I 63 (S.n + 0) = 0 from (ap_I (b := S.n) (S := S) (F := 63) (a := 0) (v := 0) rfl oq_297 (by decide +kernel)).trans (by decide)]
  refine ⟨fun _ => ?_, fun h => absurd h (by first | decide | omega)⟩
  refine ⟨rfl, ?_⟩
  exact h
set_option maxRecDepth 100000 in
set_option maxHeartbeats 40000000 in
theorem t_161 {sp : ox_E} (hsp : ox_mono sp) {S : ox_St} (hb : 0 < S.n) {n_ : Nat} {Q : ox_Q} (h : Q none ((ap S.n oq_313 S).nn n_)) : ox_M sp 1200 161 [.inr (.inr (S.n + 76))] 0 0 ((ap S.n oq_297 S).nn n_) Q := by
  refine f_161 (d := 1199) hsp (S := ((ap S.n oq_297 S).nn n_)) (mr := 0) (sr := 0) (x0 := (S.n + 76)) ?_
  unfold q_161
  refine ⟨(ap_hasN (n_ := n_) (b := S.n) (S := S) (l := oq_297) (a := 76) (v := 14) rfl (by decide +kernel) rfl), ?_⟩
  try rw [show ((ap S.n oq_297 S).nn n_).I 72 (S.n + 76) = 0 from (ap_IN (n_ := n_) (b := S.n) (S := S) (F := 72) (a := 76) (v := 0) rfl oq_297 (by decide +kernel)).trans (by decide)]
  refine ⟨(ap_hasN (n_ := n_) (b := S.n) (S := S) (l := oq_297) (a := 76) (v := 14) rfl (by decide +kernel) rfl), ?_⟩
  intro S1
  have e1 : S1 = ((ap S.n oq_298 S).nn n_) := nn_sI
  clear_value S1
  subst e1
  refine ⟨(ap_hasN (n_ := n_) (b := S.n) (S := S) (l := oq_298) (a := 76) (v := 14) rfl (by decide +kernel) rfl), ?_⟩
  intro S1
  have e1 : S1 = ((ap S.n oq_299 S).nn n_) := nn_sI
  clear_value S1
  subst e1
  refine ⟨(ap_hasN (n_ := n_) (b := S.n) (S := S) (l := oq_299) (a := 76) (v := 14) rfl (by decide +kernel) rfl), ?_⟩
  intro S1
  have e1 : S1 = ((ap S.n oq_300 S).nn n_) := nn_sI
  clear_value S1
  subst e1
  refine ⟨(ap_hasN (n_ := n_) (b := S.n) (S := S) (l := oq_300) (a := 76) (v := 14) rfl (by decide +kernel) rfl), ?_⟩
  refine ⟨(by decide), ?_⟩
  intro S1
  have e1 : S1 = ((ap S.n oq_301 S).nn n_) := nn_sI
  clear_value S1
  subst e1
  refine ⟨(ap_hasN (n_ := n_) (b := S.n) (S := S) (l := oq_301) (a := 76) (v := 14) rfl (by decide +kernel) rfl), ?_⟩
  intro S1
  have e1 : S1 = ((ap S.n oq_302 S).nn n_) := nn_sI
  clear_value S1
  subst e1
  refine ⟨(ap_hasN (n_ := n_) (b := S.n) (S := S) (l := oq_302) (a := 76) (v := 14) rfl (by decide +kernel) rfl), ?_⟩
  intro S1
  have e1 : S1 = ((ap S.n oq_303 S).nn n_) := nn_sI
  clear_value S1
  subst e1
  refine ⟨(ap_hasN (n_ := n_) (b := S.n) (S := S) (l := oq_303) (a := 76) (v := 14) rfl (by decide +kernel) rfl), ?_⟩
  intro S1
  have e1 : S1 = ((ap S.n oq_304 S).nn n_) := nn_sI
  clear_value S1
  subst e1
  refine ⟨(ap_hasN (n_ := n_) (b := S.n) (S := S) (l := oq_304) (a := 76) (v := 14) rfl (by decide +kernel) rfl), ?_⟩
  intro S1
  have e1 : S1 = ((ap S.n oq_305 S).nn n_) := nn_sI
  clear_value S1
  subst e1
  refine ⟨(ap_hasN (n_ := n_) (b := S.n) (S := S) (l := oq_305) (a := 76) (v := 14) rfl (by decide +kernel) rfl), ?_⟩
  intro S1
  have e1 : S1 = ((ap S.n oq_306 S).nn n_) := nn_sI
  clear_value S1
  subst e1
  refine ⟨(ap_hasN (n_ := n_) (b := S.n) (S := S) (l := oq_306) (a := 76) (v := 14) rfl (by decide +kernel) rfl), ?_⟩
  try rw [show ((ap S.n oq_306 S).nn n_).I 75 (S.n + 76) = 16 from (ap_IN (n_ := n_) (b := S.n) (S := S) (F := 75) (a := 76) (v := 16) rfl oq_306 (by decide +kernel)).trans (by decide)]
  refine ⟨fun _ => ?_, fun h => absurd h (by first | decide | omega)⟩
  refine f_161_62 (E := (ox_M sp 1199)) (ox_M_mono hsp _) (S := ((ap S.n oq_306 S).nn n_)) (mr := 0) (sr := 0) (x0 := (S.n + 76)) ?_
  unfold q_161_62
  refine ⟨(ap_hasN (n_ := n_) (b := S.n) (S := S) (l := oq_306) (a := 76) (v := 14) rfl (by decide +kernel) rfl), ?_⟩
  try rw [show ((ap S.n oq_306 S).nn n_).I 76 (S.n + 76) = 0 from (ap_IN (n_ := n_) (b := S.n) (S := S) (F := 76) (a := 76) (v := 0) rfl oq_306 (by decide +kernel)).trans (by decide)]
  refine ⟨(ap_hasN (n_ := n_) (b := S.n) (S := S) (l := oq_306) (a := 76) (v := 14) rfl (by decide +kernel) rfl), ?_⟩
  try rw [show ((ap S.n oq_306 S).nn n_).I 86 (S.n + 76) = 0 from (ap_IN (n_ := n_) (b := S.n) (S := S) (F := 86) (a := 76) (v := 0) rfl oq_306 (by decide +kernel)).trans (by decide)]
  refine ⟨(ap_hasN (n_ := n_) (b := S.n) (S := S) (l := oq_306) (a := 76) (v := 14) rfl (by decide +kernel) rfl), ?_⟩
  try rw [show ((ap S.n oq_306 S).nn n_).I 87 (S.n + 76) = 0 from (ap_IN (n_ := n_) (b := S.n) (S := S) (F := 87) (a := 76) (v := 0) rfl oq_306 (by decide +kernel)).trans (by decide)]
  refine ⟨(ap_hasN (n_ := n_) (b := S.n) (S := S) (l := oq_306) (a := 76) (v := 14) rfl (by decide +kernel) rfl), ?_⟩
  try rw [show ((ap S.n oq_306 S).nn n_).I 88 (S.n + 76) = 0 from (ap_IN (n_ := n_) (b := S.n) (S := S) (F := 88) (a := 76) (v := 0) rfl oq_306 (by decide +kernel)).trans (by decide)]
  refine ⟨(by decide), (ap_KN (n_ := n_) (b := S.n) (S := S) rfl oq_306 (a := 76) (v := 14) (by decide +kernel)), (by decide), 0, 0, (by decide), (by decide), ?_⟩
  refine f_160 (d := 1198) hsp (S := ((ap S.n oq_306 S).nn n_)) (mr := 0) (sr := 0) (x0 := (S.n + 76)) (x1 := 1) ?_
  unfold q_160
  refine ⟨(ap_hasN (n_ := n_) (b := S.n) (S := S) (l := oq_306) (a := 76) (v := 14) rfl (by decide +kernel) rfl), ?_⟩
  try rw [show ((ap S.n oq_306 S).nn n_).I 122 (S.n + 76) = 0 from (ap_IN (n_ := n_) (b := S.n) (S := S) (F := 122) (a := 76) (v := 0) rfl oq_306 (by decide +kernel)).trans (by decide)]
  refine ⟨fun _ => ?_, fun h => absurd h (by first | decide | omega)⟩
  refine f_160_34 (E := (ox_M sp 1198)) (ox_M_mono hsp _) (S := ((ap S.n oq_306 S).nn n_)) (mr := 0) (sr := 0) (x0 := (S.n + 76)) (x1 := 1) ?_
  unfold q_160_34
  refine ⟨fun h => absurd h (by first | decide | omega), fun _ => ?_⟩
  refine ⟨(by decide), (ap_KN (n_ := n_) (b := S.n) (S := S) rfl oq_306 (a := 76) (v := 14) (by decide +kernel)), (by decide), 0, 0, (by decide), (by decide), ?_⟩
  refine f_151 (d := 1197) hsp (S := ((ap S.n oq_306 S).nn n_)) (mr := 0) (sr := 0) (x0 := (S.n + 76)) (x1 := 99) (x2 := 99) ?_
  unfold q_151
  refine ⟨(ap_hasN (n_ := n_) (b := S.n) (S := S) (l := oq_306) (a := 76) (v := 14) rfl (by decide +kernel) rfl), ?_⟩
  try rw [show ((ap S.n oq_306 S).nn n_).I 132 (S.n + 76) = 0 from (ap_IN (n_ := n_) (b := S.n) (S := S) (F := 132) (a := 76) (v := 0) rfl oq_306 (by decide +kernel)).trans (by decide)]
  refine ⟨fun _ => ?_, fun h => absurd h (by first | decide | omega)⟩
  refine ⟨(ap_hasN (n_ := n_) (b := S.n) (S := S) (l := oq_306) (a := 76) (v := 14) rfl (by decide +kernel) rfl), ?_⟩
  try rw [show ((ap S.n oq_306 S).nn n_).I 120 (S.n + 76) = 0 from (ap_IN (n_ := n_) (b := S.n) (S := S) (F := 120) (a := 76) (v := 0) rfl oq_306 (by decide +kernel)).trans (by decide)]
  refine ⟨(ap_hasN (n_ := n_) (b := S.n) (S := S) (l := oq_306) (a := 76) (v := 14) rfl (by decide +kernel) rfl), ?_⟩
  try rw [show ((ap S.n oq_306 S).nn n_).I 121 (S.n + 76) = 0 from (ap_IN (n_ := n_) (b := S.n) (S := S) (F := 121) (a := 76) (v := 0) rfl oq_306 (by decide +kernel)).trans (by decide)]
  refine ⟨fun h => absurd h (by first | decide | omega), fun _ => ?_⟩
  refine ⟨(ap_hasN (n_ := n_) (b := S.n) (S := S) (l := oq_306) (a := 76) (v := 14) rfl (by decide +kernel) rfl), ?_⟩
  try rw [show ((ap S.n oq_306 S).nn n_).I 121 (S.n + 76) = 0 from (ap_IN (n_ := n_) (b := S.n) (S := S) (F := 121) (a := 76) (v := 0) rfl oq_306 (by decide +kernel)).trans (by decide)]
  refine ⟨(by decide), (ap_KN (n_ := n_) (b := S.n) (S := S) rfl oq_306 (a := 76) (v := 14) (by decide +kernel)), (by decide), 0, 0, (by decide), (by decide), ?_⟩
  refine f_150 (d := 1196) hsp (S := ((ap S.n oq_306 S).nn n_)) (mr := 0) (sr := 0) (x0 := (S.n + 76)) (x1 := 0) ?_
  unfold q_150
  refine ⟨(ap_hasN (n_ := n_) (b := S.n) (S := S) (l := oq_306) (a := 76) (v := 14) rfl (by decide +kernel) rfl), ?_⟩
  try rw [show ((ap S.n oq_306 S).nn n_).I 132 (S.n + 76) = 0 from (ap_IN (n_ := n_) (b := S.n) (S := S) (F := 132) (a := 76) (v := 0) rfl oq_306 (by decide +kernel)).trans (by decide)]
  refine ⟨fun _ => ?_, fun h => absurd h (by first | decide | omega)⟩
  refine ⟨(ap_hasN (n_ := n_) (b := S.n) (S := S) (l := oq_306) (a := 76) (v := 14) rfl (by decide +kernel) rfl), ?_⟩
  refine ⟨(by decide), ?_⟩
  intro S1
  have e1 : S1 = ((ap S.n oq_307 S).nn n_) := nn_sI
  clear_value S1
  subst e1
  refine ⟨(ap_hasN (n_ := n_) (b := S.n) (S := S) (l := oq_307) (a := 76) (v := 14) rfl (by decide +kernel) rfl), ?_⟩
  intro S1
  have e1 : S1 = ((ap S.n oq_308 S).nn n_) := nn_sI
  clear_value S1
  subst e1
  refine ⟨rfl, ?_⟩
  refine f_151_28 (E := (ox_M sp 1197)) (ox_M_mono hsp _) (S := ((ap S.n oq_308 S).nn n_)) (mr := 0) (sr := 0) (x0 := (S.n + 76)) (x1 := 99) (x2 := 99) ?_
  unfold q_151_28
  refine f_151_65 (E := (ox_M sp 1197)) (ox_M_mono hsp _) (S := ((ap S.n oq_308 S).nn n_)) (mr := 0) (sr := 0) (x0 := (S.n + 76)) (x1 := 99) (x2 := 99) ?_
  unfold q_151_65
  refine ⟨(ap_hasN (n_ := n_) (b := S.n) (S := S) (l := oq_308) (a := 76) (v := 14) rfl (by decide +kernel) rfl), ?_⟩
  try rw [show ((ap S.n oq_308 S).nn n_).I 132 (S.n + 76) = 1 from (ap_IN (n_ := n_) (b := S.n) (S := S) (F := 132) (a := 76) (v := 1) rfl oq_308 (by decide +kernel)).trans (by decide)]
  refine ⟨fun h => absurd h (by first | decide | omega), fun _ => ?_⟩
  refine ⟨(by first | exact trivial | decide), ?_⟩
  refine f_160_46 (E := (ox_M sp 1198)) (ox_M_mono hsp _) (S := ((ap S.n oq_308 S).nn n_)) (mr := 0) (sr := 0) (x0 := (S.n + 76)) (x1 := 1) (y0 := 99) ?_
  unfold q_160_46
  refine f_160_57 (E := (ox_M sp 1198)) (ox_M_mono hsp _) (S := ((ap S.n oq_308 S).nn n_)) (mr := 0) (sr := 0) (x0 := (S.n + 76)) (x1 := 1) (y0 := 99) ?_
  unfold q_160_57
  refine ⟨(ap_hasN (n_ := n_) (b := S.n) (S := S) (l := oq_308) (a := 76) (v := 14) rfl (by decide +kernel) rfl), ?_⟩
  try rw [show ((ap S.n oq_308 S).nn n_).I 132 (S.n + 76) = 1 from (ap_IN (n_ := n_) (b := S.n) (S := S) (F := 132) (a := 76) (v := 1) rfl oq_308 (by decide +kernel)).trans (by decide)]
  refine ⟨fun h => absurd h (by first | decide | omega), fun _ => ?_⟩
  refine ⟨rfl, ?_⟩
  refine f_161_88 (E := (ox_M sp 1199)) (ox_M_mono hsp _) (S := ((ap S.n oq_308 S).nn n_)) (mr := 0) (sr := 0) (x0 := (S.n + 76)) (x1 := 0) (x2 := 0) (x3 := 0) (x4 := 0) ?_
  unfold q_161_88
  refine ⟨(ap_hasN (n_ := n_) (b := S.n) (S := S) (l := oq_308) (a := 76) (v := 14) rfl (by decide +kernel) rfl), ?_⟩
  try rw [show ((ap S.n oq_308 S).nn n_).I 132 (S.n + 76) = 1 from (ap_IN (n_ := n_) (b := S.n) (S := S) (F := 132) (a := 76) (v := 1) rfl oq_308 (by decide +kernel)).trans (by decide)]
  refine ⟨fun _ => ?_, fun h => absurd h (by first | decide | omega)⟩
  refine ⟨(ap_hasN (n_ := n_) (b := S.n) (S := S) (l := oq_308) (a := 76) (v := 14) rfl (by decide +kernel) rfl), ?_⟩
  try rw [show ((ap S.n oq_308 S).nn n_).I 132 (S.n + 76) = 1 from (ap_IN (n_ := n_) (b := S.n) (S := S) (F := 132) (a := 76) (v := 1) rfl oq_308 (by decide +kernel)).trans (by decide)]
  refine ⟨fun _ => ?_, fun h => absurd h (by first | decide | omega)⟩
  refine f_161_136 (E := (ox_M sp 1199)) (ox_M_mono hsp _) (S := ((ap S.n oq_308 S).nn n_)) (mr := 0) (sr := 0) (x0 := (S.n + 76)) (x1 := 0) (x2 := 0) (x3 := 0) (x4 := 0) ?_
  unfold q_161_136
  refine ⟨(ap_hasN (n_ := n_) (b := S.n) (S := S) (l := oq_308) (a := 76) (v := 14) rfl (by decide +kernel) rfl), ?_⟩
  try rw [show ((ap S.n oq_308 S).nn n_).I 132 (S.n + 76) = 1 from (ap_IN (n_ := n_) (b := S.n) (S := S) (F := 132) (a := 76) (v := 1) rfl oq_308 (by decide +kernel)).trans (by decide)]
  refine ⟨fun h => absurd h (by first | decide | omega), fun _ => ?_⟩
  refine ⟨(ap_hasN (n_ := n_) (b := S.n) (S := S) (l := oq_308) (a := 76) (v := 14) rfl (by decide +kernel) rfl), ?_⟩
  intro S1
  have e1 : S1 = ((ap S.n oq_309 S).nn n_) := nn_sI
  clear_value S1
  subst e1
  refine f_161_155 (E := (ox_M sp 1199)) (ox_M_mono hsp _) (S := ((ap S.n oq_309 S).nn n_)) (mr := 0) (sr := 0) (x0 := (S.n + 76)) (x1 := 0) (x2 := 0) (x3 := 0) (x4 := 0) (x5 := 0) ?_
  unfold q_161_155
  refine ⟨(ap_hasN (n_ := n_) (b := S.n) (S := S) (l := oq_309) (a := 76) (v := 14) rfl (by decide +kernel) rfl), ?_⟩
  try rw [show ((ap S.n oq_309 S).nn n_).I 124 (S.n + 76) = 0 from (ap_IN (n_ := n_) (b := S.n) (S := S) (F := 124) (a := 76) (v := 0) rfl oq_309 (by decide +kernel)).trans (by decide)]
  refine ⟨fun _ => ?_, fun h => absurd h (by first | decide | omega)⟩
  refine ⟨(ap_hasN (n_ := n_) (b := S.n) (S := S) (l := oq_309) (a := 76) (v := 14) rfl (by decide +kernel) rfl), ?_⟩
  try rw [show ((ap S.n oq_309 S).nn n_).I 69 (S.n + 76) = 1 from (ap_IN (n_ := n_) (b := S.n) (S := S) (F := 69) (a := 76) (v := 1) rfl oq_309 (by decide +kernel)).trans (by decide)]
  refine ⟨fun h => absurd h (by first | decide | omega), fun _ => ?_⟩
  refine ⟨(ap_hasN (n_ := n_) (b := S.n) (S := S) (l := oq_309) (a := 76) (v := 14) rfl (by decide +kernel) rfl), ?_⟩
  intro S1
  have e1 : S1 = ((ap S.n oq_310 S).nn n_) := nn_sI
  clear_value S1
  subst e1
  refine ⟨(ap_hasN (n_ := n_) (b := S.n) (S := S) (l := oq_310) (a := 76) (v := 14) rfl (by decide +kernel) rfl), ?_⟩
  intro S1
  have e1 : S1 = ((ap S.n oq_311 S).nn n_) := nn_sI
  clear_value S1
  subst e1
  refine ⟨(ap_hasN (n_ := n_) (b := S.n) (S := S) (l := oq_311) (a := 76) (v := 14) rfl (by decide +kernel) rfl), ?_⟩
  intro S1
  have e1 : S1 = ((ap S.n oq_312 S).nn n_) := nn_sI
  clear_value S1
  subst e1
  refine ⟨(ap_hasN (n_ := n_) (b := S.n) (S := S) (l := oq_312) (a := 76) (v := 14) rfl (by decide +kernel) rfl), ?_⟩
  intro S1
  have e1 : S1 = ((ap S.n oq_313 S).nn n_) := nn_sI
  clear_value S1
  subst e1
  refine ⟨rfl, ?_⟩
  exact h
