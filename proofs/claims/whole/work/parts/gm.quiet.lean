/-! both sides at once: the calls that only tell -/
section GM
variable {sp : ox_E} {S : ox_St} {x x0 L nc e y ce Tc Bn Kn Wn K P t mr sr : Nat} {xs : Nat → Int32} {α : Int → Nat} {C : Nat → xCd} {s : xSt} {b : Nat → Nat} {γ : Int → Nat} {B : List Int} {R : ox_St → Nat → Nat → Prop}
theorem z_two (hV : zzV S x α C nc s e b y ce γ B Tc Bn Kn Wn K P) (hs : lw_scr x0 L xs S) (hx : x0 < x) (hL : zzL t nc e Bn Kn Wn K P) (b1 : 1171 * (512 - t) + 8 * e ≤ mr) (b2 : 9906 * (512 - t) + 400 * e ≤ sr) {j j' : Nat} {as as' : List ox_V} (hj : j ≠ 236 ∧ j ≠ 237 ∧ j' ≠ 236 ∧ j' ≠ 237) {v : Int32}
    (h1 : ∀ Q : ox_Q, (∀ T, cQ x S T → Q (some (.inl v)) T) → ox_M sp 1200 j as 0 0 S Q)
    (h2 : ∀ (T : ox_St) (Q : ox_Q), rR T (x + 76) ce γ B Tc C nc y s → T.I 70 (x + 76) = S.I 70 (x + 76) → (∀ U, w41 (x + 76) (T.sI 69 (x + 76) 0) U → Q (some (.inl v)) U) → ox_M sp 1200 j' as' 0 0 T Q)
    (hR : ∀ S' mr' sr', zzI x0 L xs x (t + 1) S' mr' sr' → R S' mr' sr') : lw_two (lw_E (ox_M sp 1200)) (lw_scr x0 L xs) j j' as as' (x + 76) S mr sr R := by
  refine ⟨0, 0, Nat.zero_le _, Nat.zero_le _, p_E hj.1 hj.2.1 (h1 _ (fun T q => ?_))⟩
  obtain ⟨⟨c1, m1⟩, ⟨w1, w2⟩, -⟩ := id hV
  have hf := w1.len
  have agT : oAg (fun a => x + 76 ≤ a ∧ a ≤ x + 76 + 41) S T := cQ_ag q (fun a ha => ⟨by omega, by omega⟩)
  have rT := m1.1.ag hf agT
  have sT := scr_q hs hx q
  refine ⟨v, rfl, sT, rT.1.1, 0, 0, Nat.zero_le _, Nat.zero_le _, p_E hj.2.2.1 hj.2.2.2 (h2 T _ rT ((agT _ ⟨Nat.le_refl _, by omega⟩).2.2.1 70) (fun U g => ⟨rfl, hR _ _ _ ⟨⟨scr_w sT hx g, hx⟩, α, C, nc, s, e, b, y, ce, γ, B, Tc, Bn, Kn, Wn, K, P, hV.q q g, hL.up, by omega, by omega⟩⟩))⟩
theorem z_fault (hsp : ox_mono sp) (hV : zzV S x α C nc s e b y ce γ B Tc Bn Kn Wn K P) (hs : lw_scr x0 L xs S) (hx : x0 < x) (hL : zzL t nc e Bn Kn Wn K P) (b1 : 1171 * (512 - t) + 8 * e ≤ mr) (b2 : 9906 * (512 - t) + 400 * e ≤ sr) (hR : ∀ S' mr' sr', zzI x0 L xs x (t + 1) S' mr' sr' → R S' mr' sr') : lw_two (lw_E (ox_M sp 1200)) (lw_scr x0 L xs) 97 162 [.inr (.inr x)] [.inr (.inr (x + 76))] (x + 76) S mr sr R := by
  refine z_two hV hs hx hL b1 b2 (by decide) (v := S.I 63 x) (fun Q hQ => c_97 (d := 1199) hsp hV.1.1.1.1 (hQ S cQ.refl)) (fun T Q rT i70 hQ => r_162 (d := 1199) hsp rT.1.1 ?_) hR
  rw [i70, ← hV.2.2.1.2]
  exact hQ _ w41.refl
theorem z_about (hsp : ox_mono sp) (hV : zzV S x α C nc s e b y ce γ B Tc Bn Kn Wn K P) (hs : lw_scr x0 L xs S) (hx : x0 < x) (hL : zzL t nc e Bn Kn Wn K P) (b1 : 1171 * (512 - t) + 8 * e ≤ mr) (b2 : 9906 * (512 - t) + 400 * e ≤ sr) (hR : ∀ S' mr' sr', zzI x0 L xs x (t + 1) S' mr' sr' → R S' mr' sr') {w : Int32} : lw_two (lw_E (ox_M sp 1200)) (lw_scr x0 L xs) 100 205 [.inr (.inr x), .inl w] [.inr (.inr (x + 76)), .inl w] (x + 76) S mr sr R :=
  z_two hV hs hx hL b1 b2 (by decide) (v := xAb s y w) (fun Q hQ => c_100 (d := 1197) hsp hV.1.1.1 hV.2.1.1.2.2.2.1.1 hV.2.2.1.1 (hQ S cQ.refl)) (fun T Q rT i70 hQ => r_205 (d := 1199) hsp rT hV.2.1.1 (hQ _ w41.refl)) hR
theorem z_result (hsp : ox_mono sp) (hV : zzV S x α C nc s e b y ce γ B Tc Bn Kn Wn K P) (hs : lw_scr x0 L xs S) (hx : x0 < x) (hL : zzL t nc e Bn Kn Wn K P) (b1 : 1171 * (512 - t) + 8 * e ≤ mr) (b2 : 9906 * (512 - t) + 400 * e ≤ sr) (hR : ∀ S' mr' sr', zzI x0 L xs x (t + 1) S' mr' sr' → R S' mr' sr') {w : Int32} : lw_two (lw_E (ox_M sp 1200)) (lw_scr x0 L xs) 101 208 [.inr (.inr x), .inl w] [.inr (.inr (x + 76)), .inl w] (x + 76) S mr sr R :=
  z_two hV hs hx hL b1 b2 (by decide) (v := xTell (xRow0 C s.H (xVr s)) w) (fun Q hQ => c_101 (d := 1191) hsp hV.1.1.1 hV.2.1.1 hQ) (fun T Q rT i70 hQ => r_208 (d := 1196) hsp rT hV.2.1.1 hQ) hR
theorem z_stack (hsp : ox_mono sp) (hV : zzV S x α C nc s e b y ce γ B Tc Bn Kn Wn K P) (hs : lw_scr x0 L xs S) (hx : x0 < x) (hL : zzL t nc e Bn Kn Wn K P) (b1 : 1171 * (512 - t) + 8 * e ≤ mr) (b2 : 9906 * (512 - t) + 400 * e ≤ sr) (hR : ∀ S' mr' sr', zzI x0 L xs x (t + 1) S' mr' sr' → R S' mr' sr') {u w : Int32} : lw_two (lw_E (ox_M sp 1200)) (lw_scr x0 L xs) 102 209 [.inr (.inr x), .inl u, .inl w] [.inr (.inr (x + 76)), .inl u, .inl w] (x + 76) S mr sr R :=
  z_two hV hs hx hL b1 b2 (by decide) (v := xTell (xRow0 C s.H (xVs s u)) w) (fun Q hQ => c_102 (d := 1191) hsp hV.1.1.1 hV.2.1.1 hQ) (fun T Q rT i70 hQ => r_209 (d := 1196) hsp rT hV.2.1.1 hQ) hR
theorem z_local (hsp : ox_mono sp) (hV : zzV S x α C nc s e b y ce γ B Tc Bn Kn Wn K P) (hs : lw_scr x0 L xs S) (hx : x0 < x) (hL : zzL t nc e Bn Kn Wn K P) (b1 : 1171 * (512 - t) + 8 * e ≤ mr) (b2 : 9906 * (512 - t) + 400 * e ≤ sr) (hR : ∀ S' mr' sr', zzI x0 L xs x (t + 1) S' mr' sr' → R S' mr' sr') {u w : Int32} : lw_two (lw_E (ox_M sp 1200)) (lw_scr x0 L xs) 103 210 [.inr (.inr x), .inl u, .inl w] [.inr (.inr (x + 76)), .inl u, .inl w] (x + 76) S mr sr R :=
  z_two hV hs hx hL b1 b2 (by decide) (v := xTell (xRow0 C s.H (xVl s u)) w) (fun Q hQ => c_103 (d := 1191) hsp hV.1.1.1 hV.2.1.1 hQ) (fun T Q rT i70 hQ => r_210 (d := 1196) hsp rT hV.2.1.1 hQ) hR
theorem z_global (hsp : ox_mono sp) (hV : zzV S x α C nc s e b y ce γ B Tc Bn Kn Wn K P) (hs : lw_scr x0 L xs S) (hx : x0 < x) (hL : zzL t nc e Bn Kn Wn K P) (b1 : 1171 * (512 - t) + 8 * e ≤ mr) (b2 : 9906 * (512 - t) + 400 * e ≤ sr) (hR : ∀ S' mr' sr', zzI x0 L xs x (t + 1) S' mr' sr' → R S' mr' sr') {j : Int64} {w : Int32} : lw_two (lw_E (ox_M sp 1200)) (lw_scr x0 L xs) 104 211 [.inr (.inr x), .inr (.inl j), .inl w] [.inr (.inr (x + 76)), .inr (.inl j), .inl w] (x + 76) S mr sr R :=
  z_two hV hs hx hL b1 b2 (by decide) (v := xTell (xRow0 C s.H (xGetL (wzL j 8 0) s.G)) w) (fun Q hQ => c_104 (d := 1191) hsp hV.1.1.1 hV.2.1.1 hQ) (fun T Q rT i70 hQ => r_211 (d := 1196) hsp rT hV.2.1.1 hQ) hR
end GM
