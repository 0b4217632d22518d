/-! the law's read and run: they catch -/
section OZV
variable {p : Program} {l : Launch} {e : Env} {R : Room} {s : State} {m : MethodId} {args : Array Value} {below : List Frame} {meth : Method} {c : Code} {Q : State → Prop} {D : va_G} {y : Nat → ClassId} {b nL : Nat} {ro : ox_St} {cc : ByteArray}
variable {pc mr sr : Nat} {L : ox_L} {st : List ox_V} {S : ox_St} {own : String} {d : Nat}
/-- a virtual call of a method that may throw -/
theorem oz_invX {rt : Option FieldType} (C : oz_Cx D y b ro p s m args meth c nL cc rt own) (hR : ox_Rd R d) {ix n j q p1 p2 p3 p4 : Nat} (hv : ox_vJ own (.invokevirtual ix) [2, n, j, q, p1, p2, p3, p4] = true) (hd : decode cc pc = .ok (.invokevirtual ix, 3)) (hn : n ≤ st.length) (hrc : ox_recv (st.take n).reverse (fun a => S.K a = q)) (hc : ((st.drop n).map ox_cat).sum ≤ 8)
    {mc ms : Nat} (g1 : mc ≤ mr) (g2 : ms ≤ sr) {Qq : ox_Q} {QX : String → ox_St → Prop} (hM : oz_Met l D y b ro d j (st.take n).reverse mc ms S Qq QX)
    (K1 : ∀ r S', Qq r S' → ox_X p l e R s m args below meth c Q D y b ro nL (pc + 3) L (r.toList ++ st.drop n) S' (mr - mc) (sr - ms))
    (K2 : ∀ E S', QX E S' → ∀ (H : Heap) (locs : List Loc) (cells slots : Nat) (ls : Array Slot) (q : Addr) (ce : Cell), ox_W D y b ro S' H → va_S (fun q => b ≤ q) s.heap H locs → ox_lh ls nL L → cells + (mr - mc) ≤ R.cells → slots + (sr - ms) ≤ R.slots → H[q]? = some ce → ce.vm = .none → s.vm.findClass E = some ce.cls → vx_W p l e R s m args below meth c H locs cells slots Q (F0 m pc ls ((st.drop n).map ox_val)) q) :
    ox_X p l e R s m args below meth c Q D y b ro nL pc L st S mr sr := by
  obtain ⟨hx, hb, hml, hr, hlocks, hown, hts, hK, hZ⟩ := C
  intro H locs cells slots ls hW hS hl h1 h2
  simp only [ox_vJ, Bool.and_eq_true, decide_eq_true_eq] at hv
  obtain ⟨⟨⟨⟨⟨⟨⟨q0, q15⟩, v1⟩, v2⟩, v3⟩, v4⟩, v5⟩, v6⟩ := hv
  obtain ⟨np, hnp, hn1⟩ := ox_np1 v6
  obtain ⟨a, as, has, haK⟩ := ox_recv_at hrc
  have hsp := ox_split (n := n) st
  have hlen : (st.take n).reverse.length = n := by rw [List.length_reverse, List.length_take]; omega
  rw [has] at hM hsp hlen
  have hk0 : S.K a ≠ 0 := by rw [haK]; exact q0
  have hk15 : S.K a < 15 := by rw [haK]; exact q15
  have ev : ox_val (.inr (.inr a)) = .ref (a - 1) := ox_rfs (hW.nz hk0)
  have hrv := va_recv hK.1 (hW.obj hk0 hk15) (ox_cl_at hk0 hk15) (q0 := 0) rfl
  rw [haK] at hrv
  have hr := vx_runV (below := below) (e := e) (R := R) (H := H) (locs := locs) (cells := cells) (slots := slots) (g := F0 m pc ls (st.map ox_val)) (As := as.map ox_val) (rest := (st.drop n).map ox_val) (b := a - 1) (C := ox_kn q) (p := p) (m := m) (c := c) (cc := cc) (nL := nL) (s := s) (args := args) (own := own) (meth := meth) ⟨hx, hb, hml, hown, hts⟩ hM ⟨ox_callB hR hts (ox_vMs v1) (ox_iw_in v5) (ox_iw_in v2) hnp, hts _ (ox_iw_in v3), hts _ (ox_iw_in v4)⟩ ⟨oz_blind, hrv, fun U hU hWm => by
      have h9 : oz_Pc D y b ro (.inr (.inr a) :: as) S ((.inr (.inr a) :: as).map ox_val).toArray U := ⟨⟨rfl, by rw [hU]; exact hW, hK.next hWm (fun q h1 h2 => by rw [hU]; exact hS.2.1 q h1 h2)⟩, hZ.next hWm (fun q h1 h2 => by rw [hU]; exact hS.2.1 q h1 h2)⟩
      rw [List.map_cons, ev] at h9
      exact h9⟩ rfl (by rw [List.length_map]; rw [List.length_cons] at hlen; omega) hl.1 (by
      show st.map ox_val = _
      rw [hsp, List.map_cons, ev, List.reverse_cons, List.append_assoc]
      rfl) (ox_room hc _ rfl) hd ⟨by omega, by omega⟩
  intro T hT X
  have step : ∀ {t T' : State} {LL : List Loc} {st₀ : State}, st₀.heap = H → T'.heap = t.heap → (∀ q ∈ LL, b ≤ q.base) → va_F (fun q => b ≤ q) st₀ t → va_S (fun q => b ≤ q) s.heap T'.heap (locs ++ LL) := by
    intro t T' LL st₀ h0 e1 hL hF
    obtain ⟨hz, hk⟩ := hF
    rw [h0] at hz hk
    exact ⟨Nat.le_trans hS.1 (by rw [e1]; exact hz), fun q h1 h2 => by rw [e1, hk q (Nat.lt_of_lt_of_le h1 hS.1) h2]; exact hS.2.1 q h1 h2, fun q hq => by
      rcases List.mem_append.mp hq with h | h
      · exact hS.2.2 q h
      · exact hL q h⟩
  rcases hr T hT X with ⟨v, st₀, t, T', LL, h0, X', hL, e1, e2, ⟨⟨r, S', hv, hq, hW'⟩, hF⟩, stp⟩ | ⟨q9, st₀, t, T', LL, E, ce, h0, X', hL, e1, e2, ⟨⟨S', hq, hW'⟩, hF⟩, hce, hcv, hcl, stp⟩
  · cases hv
    have h3 := K1 r S' hq T'.heap (locs ++ LL) (cells + mc) (slots + ms) ls (by rw [e1]; exact hW') (step h0 e1 hL hF) hl (by omega) (by omega)
    rw [List.map_append] at h3
    have e3 : (r.map ox_val).toList = r.toList.map ox_val := by cases r <;> rfl
    rw [← e3] at h3
    obtain ⟨t2, a1, b1⟩ := h3 T' rfl X'
    exact ⟨t2, stp t2 a1, b1⟩
  · have h3 := K2 E S' hq T'.heap (locs ++ LL) (cells + mc) (slots + ms) ls q9 ce (by rw [e1]; exact hW') (step h0 e1 hL hF) hl (by omega) (by omega) (by rw [e1]; exact hce) hcv hcl
    obtain ⟨t2, a1, b1⟩ := h3 T' rfl X'
    exact ⟨t2, stp.trans a1, b1⟩
/-- a handler begins: the exception goes into a local, none is known any more -/
theorem oz_handler (hx : p.tables.exec = Jvm.exec) (hb : c.code = cc) {j : Fin 4} (hj : (j : Nat) < nL) (hd : decode cc pc = .ok (.astore_n j, 1)) (K : ox_X p l e R s m args below meth c Q D y b ro nL (pc + 1) [] [] S mr sr)
    {H : Heap} {locs : List Loc} {cells slots : Nat} {ls : Array Slot} {q : Addr} (hW : ox_W D y b ro S H) (hS : va_S (fun q => b ≤ q) s.heap H locs) (hl : ox_lh ls nL L) (h1 : cells + mr ≤ R.cells) (h2 : slots + sr ≤ R.slots) : W p l e R s m args below meth c H locs cells slots Q (F0 m pc ls [.ref q]) := by
  refine lv_astore_n hx hb hd rfl hl.has hj rfl (fun ls' hl' => ?_)
  exact K H locs cells slots ls' hW hS ⟨hl'.1, hl'.2.1, fun i v h => by cases h⟩ h1 h2
end OZV
def oz_yR : MethodName := ⟨"OpcodeFramesLaw", "read", "(LOpcodeFrames;)I"⟩
def oz_yU : MethodName := ⟨"OpcodeFramesLaw", "run", "(LOpcodeFrames;I[J)I"⟩
def oz_hR : List (Nat × Nat × Nat × Nat) := [(0, 4, 7, 12), (0, 4, 10, 14)]
def oz_hU : List (Nat × Nat × Nat × Nat) := [(0, 9, 12, 14), (0, 9, 15, 12)]
abbrev oz_wR : Cond := .codeWith oz_yR method_3_code 2 (some .int) oz_hR
abbrev oz_wU : Cond := .codeWith oz_yU method_4_code 4 (some .int) oz_hU
theorem oz_wR_in : oz_wR ∈ ox_T0 := List.mem_filter.mpr ⟨List.mem_of_getElem? (i := 516) (by decide +kernel), rfl⟩
theorem oz_in_c {w : Cond} (h : (lw_tbl.contains w && goodWord w) = true) : w ∈ ox_T0 := by
  simp only [Bool.and_eq_true, List.contains_iff_mem] at h
  exact List.mem_filter.mpr h
theorem oz_wU_in : oz_wU ∈ ox_T0 := oz_in_c (by decide +kernel)
theorem oz_cl12 : Cond.classLink "OpcodeFramesLaw" 12 oz_IA ∈ ox_T0 := oz_in_c (by decide +kernel)
theorem oz_cl14 : Cond.classLink "OpcodeFramesLaw" 14 oz_IS ∈ ox_T0 := oz_in_c (by decide +kernel)
theorem oz_ca1 : Cond.castable oz_IA oz_IA ∈ lw_tbl := List.contains_iff_mem.mp (by decide +kernel)
theorem oz_ca2 : Cond.castable oz_IS oz_IS ∈ lw_tbl := List.contains_iff_mem.mp (by decide +kernel)
/-- neither exception's class is the other's -/
def oz_N (U : State) : Prop := va_Nc oz_IA oz_IS U ∧ va_Nc oz_IS oz_IA U
def oz_Pl (D : va_G) (y : Nat → ClassId) (b : Nat) (ro : ox_St) (as : List ox_V) (S : ox_St) : Array Value → State → Prop := fun a U => oz_Pc D y b ro as S a U ∧ oz_N U
theorem oz_lblind {D : va_G} {y : Nat → ClassId} {b : Nat} {ro : ox_St} {as : List ox_V} {S : ox_St} : FrameBlind (oz_Pl D y b ro as S) := fun a U g mk q => ⟨oz_blind a U g mk q.1, va_Nc.moved (u := U) (U := U.calling g mk a) (Vm.Alike.refl U.vm) q.2.1, va_Nc.moved (u := U) (U := U.calling g mk a) (Vm.Alike.refl U.vm) q.2.2⟩
