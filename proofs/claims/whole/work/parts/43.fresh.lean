/-! the first turn of the law's loop, on fresh objects -/
section OP3
variable {sp : ox_E} {d mr sr : Nat} {S : ox_St} {Q : ox_Q} {x M m : Nat}
theorem s1_99 (hsp : ox_mono sp) (h1 : S.K x = 13) (h2 : S.R 66 x = M) (h3 : S.K M = 7) (h4 : S.R 36 M = 0) (hQ : Q (some (.inl 0)) S) : ox_M sp (d + 2) 99 [.inr (.inr x)] mr sr S Q := by
  refine f_99 hsp ⟨by rw [h1]; rfl, by decide, by rw [h2]; exact h3, by decide, 0, 0, Nat.zero_le _, Nat.zero_le _, ?_⟩
  rw [h2]
  refine f_43 hsp ⟨by rw [h3]; rfl, fun z => absurd h4 z, fun _ => ⟨by decide, ?_⟩⟩
  exact f_99_7 (ox_M_mono hsp _) ⟨by decide, hQ⟩
theorem s1_173 (hsp : ox_mono sp) (h1 : S.K m = 14) (h2 : S.I 96 m = -1) (hQ : Q (some (.inl 0)) (S.sI 69 m 0)) : ox_M sp (d + 1) 173 [.inr (.inr m)] mr sr S Q := by
  have e : (S.sI 69 m 0).I 96 m = -1 := by rw [or_sI_I, if_neg (fun z => by cases z.1)]; exact h2
  exact f_173 hsp ⟨by rw [h1]; rfl, by show ox_has (S.K m) 96 = true; rw [h1]; rfl, fun z => absurd z (by rw [e]; decide), fun _ => ⟨by decide, hQ⟩⟩
theorem s1_204 (hsp : ox_mono sp) (h1 : S.K m = 14) (h2 : S.I 93 m = 0) {w : Int32} (hQ : Q (some (.inl 0)) (S.sI 69 m 1)) : ox_M sp (d + 1) 204 [.inr (.inr m), .inl w] mr sr S Q := by
  refine f_204 hsp ⟨by rw [h1]; rfl, fun z => absurd (h2.symm.trans z) (by decide), fun _ => ⟨by rw [h1]; rfl, by show ox_has (S.K m) 69 = true; rw [h1]; rfl, fun z => ?_, fun _ => ⟨trivial, hQ⟩⟩⟩
  exfalso
  rw [or_sI_I, if_pos ⟨rfl, rfl⟩] at z
  exact absurd z (by decide)
end OP3
section OP4
variable {S : ox_St}
theorem p_C (hb : 0 < S.n) : oC1 (ap S.n oq_280 S) (S.n + 0) (S.n + 11) := ⟨ap_K rfl oq_280 (by decide +kernel), ap_R (v := 13) rfl hb oq_280 (by decide +kernel), ap_K rfl oq_280 (by decide +kernel), ap_I (v := 0) rfl oq_280 (by decide +kernel), ap_I (v := 0) rfl oq_280 (by decide +kernel), (ap_I (v := -1) rfl oq_280 (by decide +kernel)).trans (by decide), ap_I (v := 0) rfl oq_280 (by decide +kernel), ap_I (v := 0) rfl oq_280 (by decide +kernel), ap_R (v := 0) rfl hb oq_280 (by decide +kernel), (ap_I (v := -1) rfl oq_280 (by decide +kernel)).trans (by decide)⟩
/-- the tape of the class, of the reference -/
theorem p_T (hb : 0 < S.n) : (ap S.n oq_280 S).R 60 (S.n + 0) = S.n + 1 ∧ (ap S.n oq_280 S).K (S.n + 1) = 15 ∧ (ap S.n oq_280 S).len (S.n + 1) = 800 ∧ (ap S.n oq_280 S).I 61 (S.n + 0) = nI 0 ∧ (ap S.n oq_280 S).R 36 (S.n + 11) = 0 := ⟨ap_R (v := 3) rfl hb oq_280 (by decide +kernel), ap_K rfl oq_280 (by decide +kernel), ap_len rfl oq_280 (by decide +kernel), ap_I (v := 0) rfl oq_280 (by decide +kernel), ap_R (v := 0) rfl hb oq_280 (by decide +kernel)⟩
def oM2 (S : ox_St) (m : Nat) : Prop := oM1 S m ∧ S.R 71 m = m + 1 ∧ S.K (m + 1) = 15 ∧ S.len (m + 1) = 800 ∧ S.I 72 m = nI 0 ∧ S.I 96 m = -1
theorem p_M (hb : 0 < S.n) : oM2 (ap S.n oq_280 S) (S.n + 76) := ⟨⟨ap_K rfl oq_280 (by decide +kernel), ap_I (v := 0) rfl oq_280 (by decide +kernel), ap_I (v := 0) rfl oq_280 (by decide +kernel), ap_I (v := 0) rfl oq_280 (by decide +kernel), ap_I (v := 0) rfl oq_280 (by decide +kernel), (ap_I (v := -1) rfl oq_280 (by decide +kernel)).trans (by decide)⟩, ap_R (v := 79) rfl hb oq_280 (by decide +kernel), ap_K (a := 77) rfl oq_280 (by decide +kernel), ap_len (a := 77) rfl oq_280 (by decide +kernel), ap_I (v := 0) rfl oq_280 (by decide +kernel), (ap_I (v := -1) rfl oq_280 (by decide +kernel)).trans (by decide)⟩
/-- outside the class's cells -/
def oOut (b a : Nat) : Prop := a < b ∨ b + 76 ≤ a
theorem oM2.next {b : Nat} {S S' : ox_St} (h : oM2 S (b + 76)) (g : oAg (oOut b) S S') : oM2 S' (b + 76) := by
  obtain ⟨⟨m1, m2, m3, m4, m5, m6⟩, m7, m8, m9, m10, m11⟩ := h
  obtain ⟨g1, g2, g3, g4, -⟩ := g (b + 76) (Or.inr (Nat.le_refl _))
  obtain ⟨k1, k2, -⟩ := g (b + 76 + 1) (Or.inr (by omega))
  exact ⟨⟨g1.trans m1, (g3 _).trans m2, (g3 _).trans m3, (g3 _).trans m4, (g3 _).trans m5, (g3 _).trans m6⟩, (g4 _).trans m7, k1.trans m8, k2.trans m9, (g3 _).trans m10, (g3 _).trans m11⟩
theorem p_scr {x0 L : Nat} {xs : Nat → Int32} (hs : lw_scr x0 L xs S) (hx : x0 < S.n) (l : List oOp) : lw_scr x0 L xs (ap S.n l S) := by
  obtain ⟨h1, h2, -, -, -, h6, -⟩ := ap_lo (S := S) (b := S.n) rfl hx l
  exact ⟨h1.trans hs.1, h2.trans hs.2.1, fun j hj => (h6 j).trans (hs.2.2 j hj)⟩
end OP4
theorem s1_236 {sp : ox_E} {T T' : ox_St} {x : Nat} {Q : ox_Q} (hK : T.K x = 13) (h : ∀ Q : ox_Q, Q (some (.inr (.inr 0))) T' → ox_M sp 1200 111 [.inr (.inr x)] 4 7 T Q) (hQ : ∀ n', Q (some (.inl 1)) (T'.nn n')) : lw_C236 (ox_M sp 1200) [.inr (.inr x)] 5 13 T Q := by
  refine ⟨x, rfl, hK, ?_⟩
  refine ⟨Nat.le_refl 1, hK, (show 0 ≤ 8 by decide), 4, 7, (show 4 ≤ 5 by decide), (show 7 ≤ 13 by decide), h _ ?_⟩
  exact ⟨fun z => absurd rfl z, fun _ => ⟨rfl, Or.inl ⟨rfl, (show 1 ≤ 1 by decide), (show 6 ≤ 6 by decide), fun n' _ => Or.inl ⟨rfl, hQ n'⟩⟩⟩⟩
theorem s1_237 {sp : ox_E} {T : ox_St} {x M o : Nat} {w : Int32} {Q : ox_Q} (C : oC1 T x M) (hQ : ∀ n', Q (some (.inl 1)) (T.nn n')) : lw_C237 (ox_M sp 1200) [.inr (.inr x), .inl w, .inr (.inr o)] 1 6 T Q := by
  refine ⟨x, w, o, rfl, C.1, ?_⟩
  have h1 : ox_has (T.K x) 66 = true := by rw [C.1]; rfl
  have h2 : ox_has (T.K (T.R 66 x)) 37 = true := by rw [C.2.1, C.2.2.1]; rfl
  have h3 : ¬ T.I 37 (T.R 66 x) = 1 := by rw [C.2.1, C.2.2.2.2.1]; decide
  exact ⟨h1, h2, fun z => absurd z h3, fun _ => Or.inl ⟨rfl, rfl, (show 1 ≤ 1 by decide), (show 6 ≤ 6 by decide), fun n' _ => Or.inl ⟨rfl, hQ n'⟩⟩⟩
section OP5
variable {sp : ox_E} {b x0 L c : Nat} {xs : Nat → Int32} {w1 w2 w3 : Int32} {R : ox_St → Nat → Nat → Prop} {T0 T1 T2 : ox_St}
theorem p_E {j : Nat} {as : List ox_V} {mc ms : Nat} {T : ox_St} {Q : ox_Q} (h1 : j ≠ 236) (h2 : j ≠ 237) (h : ox_M sp 1200 j as mc ms T Q) : lw_E (ox_M sp 1200) j as mc ms T Q := Or.inr (Or.inr ⟨h1, h2, h⟩)
/-- a call of the class that leaves all else alone and answers v, and the reference's that answers v too -/
theorem p_two {j j' : Nat} {as as' : List ox_V} {mr sr : Nat} (hM : oM2 T0 (b + 76)) (hs : lw_scr x0 L xs T0) (hx : x0 < b) (hR : ∀ S' mr sr, lw_scr x0 L xs S' → R S' mr sr) (hj : j ≠ 236 ∧ j ≠ 237 ∧ j' ≠ 236 ∧ j' ≠ 237) {v : Int32}
    (h1 : ∀ Q : ox_Q, (∀ S', oAg (oOut b) T0 S' → Q (some (.inl v)) S') → ox_M sp 1200 j as 0 0 T0 Q)
    (h2 : ∀ (T : ox_St) (Q : ox_Q), oM2 T (b + 76) → Q (some (.inl v)) (T.sI 69 (b + 76) 0) → ox_M sp 1200 j' as' 0 0 T Q) : lw_two (lw_E (ox_M sp 1200)) (lw_scr x0 L xs) j j' as as' (b + 76) T0 mr sr R := by
  refine ⟨0, 0, Nat.zero_le _, Nat.zero_le _, p_E hj.1 hj.2.1 (h1 _ (fun S' hA => ⟨v, rfl, oAg_scr hA (Or.inl hx) hs, ?_, 0, 0, Nat.zero_le _, Nat.zero_le _, ?_⟩))⟩
  · exact (hM.next hA).1.1
  · refine p_E hj.2.2.1 hj.2.2.2 (h2 _ _ (hM.next hA) ⟨rfl, hR _ _ _ ?_⟩)
    exact oAg_scr (P := fun a => a < b) (oAg_sI (by omega)) hx (oAg_scr hA (Or.inl hx) hs)
theorem p_ag {F : Nat} {v : Int32} {T : ox_St} {b : Nat} : oAg (oOut b) T (T.sI F (b + 0) v) := oAg_sI (fun h => by rcases h with h | h <;> omega)
theorem p_feed (hsp : ox_mono sp) (C : oC1 T0 (b + 0) (b + 11)) (k1 : T0.R 60 (b + 0) = b + 1) (k2 : T0.K (b + 1) = 15) (k3 : T0.len (b + 1) = 800) (k4 : T0.I 61 (b + 0) = nI 0) (hM : oM2 T0 (b + 76)) (hs : lw_scr x0 L xs T0) (hx : x0 < b) (hR : ∀ S' mr sr, lw_scr x0 L xs S' → R S' mr sr) {mr sr : Nat} : lw_two (lw_E (ox_M sp 1200)) (lw_scr x0 L xs) 95 128 [.inr (.inr (b + 0)), .inl w1, .inl w2] [.inr (.inr (b + 76)), .inl w1, .inl w2] (b + 76) T0 mr sr R := by
  refine ⟨0, 0, Nat.zero_le _, Nat.zero_le _, p_E (by decide) (by decide) (s_95 (d := 1199) hsp (t := b + 1) (by omega) C.1 k1 k2 k3 k4 (by decide) (fun hno => ?_) (fun k hk h1 h4 h8 => ?_))⟩
  · obtain ⟨M0, m7, m8, m9, m10, m11⟩ := hM
    refine ⟨-1, rfl, hs, M0.1, 0, 0, Nat.zero_le _, Nat.zero_le _, p_E (by decide) (by decide) (s_128 (d := 1199) hsp (t := b + 76 + 1) (by omega) M0.1 m7 m8 m9 m10 (by decide) (fun _ => ⟨rfl, hR _ _ _ ?_⟩) (fun k hk h1 h4 h8 => ?_))⟩
    · exact oAg_scr (P := fun a => a < b) (oAg_sI (by omega)) hx hs
    · have := hno k hk h1 h4
      omega
  · have hA : oAg (oOut b) T0 (oFd 61 (b + 0) (b + 1) (oBy w1) 0 k T0) := oFd_ag (fun h => by rcases h with h | h <;> omega) (fun h => by rcases h with h | h <;> omega) k 0 _
    obtain ⟨M0, m7, m8, m9, m10, m11⟩ := hM.next hA
    refine ⟨nI (0 + k), rfl, oAg_scr hA (Or.inl hx) hs, M0.1, 0, 0, Nat.zero_le _, Nat.zero_le _, p_E (by decide) (by decide) (s_128 (d := 1199) hsp (t := b + 76 + 1) (by omega) M0.1 m7 m8 m9 m10 (by decide) (fun hno => ?_) (fun k' hk' h1' h4' h8' => ⟨?_, hR _ _ _ ?_⟩))⟩
    · have := hno k hk h1 h4
      omega
    · rw [(nI_eq (by omega) (by omega)).mp (hk.symm.trans hk')]
    · exact oAg_scr (P := fun a => a < b) ((oAg_sI (by omega)).trans (oFd_ag (by omega) (by omega) k' 0 _)) hx (oAg_scr hA (Or.inl hx) hs)
theorem p_turn (hsp : ox_mono sp) (C : oC1 T0 (b + 0) (b + 11)) (k1 : T0.R 60 (b + 0) = b + 1) (k2 : T0.K (b + 1) = 15) (k3 : T0.len (b + 1) = 800) (k4 : T0.I 61 (b + 0) = nI 0) (k5 : T0.R 36 (b + 11) = 0) (hM : oM2 T0 (b + 76)) (hs : lw_scr x0 L xs T0) (hx : x0 < b)
    (r1 : ∀ Q : ox_Q, Q (some (.inr (.inr 0))) T1 → ox_M sp 1200 111 [.inr (.inr (b + 0))] 4 7 T0 Q) (r2 : ∀ (n' : Nat) (Q : ox_Q), Q none (T2.nn n') → ox_M sp 1200 161 [.inr (.inr (b + 76))] 0 0 (T1.nn n') Q) (r3 : T1.K (b + 76) = 14) (r4 : T2.K (b + 76) = 14) (r5 : T2.I 69 (b + 76) = 1) (r6 : lw_scr x0 L xs T2)
    (hR : ∀ S' mr sr, lw_scr x0 L xs S' → R S' mr sr) {mr sr : Nat} (hmr : 10 ≤ mr) (hsr : 20 ≤ sr) : lw_turn (lw_E (ox_M sp 1200)) (lw_scr x0 L xs) (b + 0) (b + 76) (b + 118) c w1 w2 w3 T0 mr sr R := by
  refine ⟨fun _ => ?_, fun _ => ?_, fun _ => ?_, fun _ => ?_, fun _ => ?_, fun _ => ?_, fun _ => ?_, fun _ => ?_, fun _ => ?_, fun _ => ?_, fun _ => ?_⟩
  · exact p_feed hsp C k1 k2 k3 k4 hM hs hx hR
  · refine ⟨5, 13, by omega, by omega, Or.inl ⟨rfl, s1_236 C.1 r1 (fun n' => ?_)⟩⟩
    refine ⟨1, rfl, r3, 0, 0, Nat.zero_le _, Nat.zero_le _, p_E (by decide) (by decide) (r2 n' _ ?_)⟩
    refine ⟨rfl, r4, 0, 0, Nat.zero_le _, Nat.zero_le _, p_E (by decide) (by decide) (s_127 (d := 1199) hsp r4 ⟨by rw [show (T2.nn n').I 69 (b + 76) = 1 from r5], hR _ _ _ ?_⟩)⟩
    exact oAg_scr (P := fun a => a < b) oAg_nn hx r6
  · exact p_two hM hs hx hR (by decide) (v := -1) (fun Q h => s_97 (d := 1199) hsp C.1 (by rw [C.2.2.2.2.2.2.2.2.2]; exact h _ oAg.refl)) (fun T Q h hq => s1_162 (d := 1199) hsp h.1 hq)
  · refine ⟨1, 6, by omega, by omega, Or.inr (Or.inl ⟨rfl, s1_237 C (fun n' => ?_)⟩)⟩
    have M0 := hM.next (S' := T0.nn n') oAg_nn
    refine ⟨1, rfl, oAg_scr (P := fun a => a < b) oAg_nn hx hs, M0.1.1, 0, 0, Nat.zero_le _, Nat.zero_le _, p_E (by decide) (by decide) (s1_204 (d := 1199) hsp M0.1.1 M0.1.2.2.1 ?_)⟩
    refine ⟨0, rfl, M0.1.1, 0, 0, Nat.zero_le _, Nat.zero_le _, p_E (by decide) (by decide) (s_127 (d := 1199) hsp M0.1.1 ⟨?_, fun z => absurd z (by decide), hR _ _ _ ?_⟩)⟩
    · rw [or_sI_I, if_pos ⟨rfl, rfl⟩]
    · exact oAg_scr (P := fun a => a < b) (oAg_nn.trans (oAg_sI (by omega))) hx hs
  · exact p_two hM hs hx hR (by decide) (v := 0) (fun Q h => s1_99 (d := 1198) hsp C.1 C.2.1 C.2.2.1 k5 (h _ oAg.refl)) (fun T Q h hq => s1_173 (d := 1199) hsp h.1.1 h.2.2.2.2.2 hq)
  · exact p_two hM hs hx hR (by decide) (v := oAb w1) (fun Q h => s1_100 (d := 1197) hsp C (h _ oAg.refl)) (fun T Q h hq => s1_205 (d := 1199) hsp h.1 hq)
  · exact p_two hM hs hx hR (by decide) (v := -1) (fun Q h => s1_101 (d := 1197) hsp C (fun S' hS => h _ (by rcases hS with rfl | rfl; exact oAg.refl; exact p_ag))) (fun T Q h hq => s1_208 (d := 1199) hsp h.1 hq)
  · exact p_two hM hs hx hR (by decide) (v := -1) (fun Q h => s1_102 (d := 1198) hsp C (h _ oAg.refl)) (fun T Q h hq => s1_209 (d := 1199) hsp h.1 hq)
  · exact p_two hM hs hx hR (by decide) (v := -1) (fun Q h => s1_103 (d := 1198) hsp C (h _ oAg.refl)) (fun T Q h hq => s1_210 (d := 1199) hsp h.1 hq)
  · exact p_two hM hs hx hR (by decide) (v := -1) (fun Q h => s1_104 (d := 1196) hsp C (fun S' hS => h _ (by rcases hS with rfl | rfl; exact oAg.refl; exact p_ag))) (fun T Q h hq => s1_211 (d := 1198) hsp h.1 hq)
  · exact hR _ _ _ hs
end OP5
