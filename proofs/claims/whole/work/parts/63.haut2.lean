/-! the automorphisms of two reduced equivalent forms: as many -/
def fI (p q u s : Int) (i : Nat) : Nat := idx (cA p q u s (zp i) (zq i) (zr i) (zz i)) (cB p q u s (zp i) (zq i) (zr i) (zz i)) (cC p q u s (zp i) (zq i) (zr i) (zz i)) (cD p q u s (zp i) (zq i) (zr i) (zz i))
theorem aut_key {G K : Zf} (h : okZ G) (r2 : redZ K) (o2 : okZ K) {p q u s : Int} (hd : (p * s - q * u) * (p * s - q * u) = 1) (e : K = zS G p q u s) {x y z w : Int} (hu : (x * w - y * z) * (x * w - y * z) = 1) (ok : okZ (zS G x y z w)) (hs : ofF (zS G x y z w) = ofF G) :
    ((-1 ≤ cA p q u s x y z w ∧ cA p q u s x y z w ≤ 1) ∧ (-1 ≤ cB p q u s x y z w ∧ cB p q u s x y z w ≤ 1) ∧ (-1 ≤ cC p q u s x y z w ∧ cC p q u s x y z w ≤ 1) ∧ (-1 ≤ cD p q u s x y z w ∧ cD p q u s x y z w ≤ 1)) ∧ ofF (zS K (cA p q u s x y z w) (cB p q u s x y z w) (cC p q u s x y z w) (cD p q u s x y z w)) = ofF K := by
  have eP : zP (zS G x y z w) = zP G := by rw [← tP ok, hs, tP h]
  have eQ : zQ (zS G x y z w) = zQ G := by rw [← tQ ok, hs, tQ h]
  have eR : zR (zS G x y z w) = zR G := by rw [← tR ok, hs, tR h]
  obtain ⟨m1, m2, m3, m4⟩ := cj_m hd x y z w
  have hB := cj_d hd hu
  have key : zS K (cA p q u s x y z w) (cB p q u s x y z w) (cC p q u s x y z w) (cD p q u s x y z w) = zS (zS G x y z w) p q u s := by
    rw [e, zS_S, m1, m2, m3, m4, zS_S]
  have kP : zP (zS (zS G x y z w) p q u s) = zP K := by rw [zP_S, eP, eQ, eR, e, zP_S]
  have kQ : zQ (zS (zS G x y z w) p q u s) = zQ K := by rw [zQ_S, eP, eQ, eR, e, zQ_S]
  have kR : zR (zS (zS G x y z w) p q u s) = zR K := by rw [zR_S, eP, eQ, eR, e, zR_S]
  have e1 := zP_S K (cA p q u s x y z w) (cB p q u s x y z w) (cC p q u s x y z w) (cD p q u s x y z w)
  have e2 := zQ_S K (cA p q u s x y z w) (cB p q u s x y z w) (cC p q u s x y z w) (cD p q u s x y z w)
  have e3 := zR_S K (cA p q u s x y z w) (cB p q u s x y z w) (cC p q u s x y z w) (cD p q u s x y z w)
  rw [key, kP, hB, Int.one_mul] at e1
  rw [key, kQ, hB, Int.one_mul] at e2
  rw [key, kR, hB, Int.one_mul] at e3
  obtain ⟨r3, r4, r5⟩ := r2
  refine ⟨red_small o2.1 r3 r4 r5 hB e1 e2 e3 r3 r4 r5, ?_⟩
  rw [key, ← s_of, hs, s_of, ← e]
theorem aut_im {G K : Zf} (h : okZ G) (r : redZ G) (hD : zD G ≤ 274877906944) (r2 : redZ K) (o2 : okZ K) {p q u s : Int} (hd : (p * s - q * u) * (p * s - q * u) = 1) (e : K = zS G p q u s) {i : Nat} (hi : i < 81) (ha : autP (ofF G) i = true) :
    ((-1 ≤ cA p q u s (zp i) (zq i) (zr i) (zz i) ∧ cA p q u s (zp i) (zq i) (zr i) (zz i) ≤ 1) ∧ (-1 ≤ cB p q u s (zp i) (zq i) (zr i) (zz i) ∧ cB p q u s (zp i) (zq i) (zr i) (zz i) ≤ 1) ∧ (-1 ≤ cC p q u s (zp i) (zq i) (zr i) (zz i) ∧ cC p q u s (zp i) (zq i) (zr i) (zz i) ≤ 1) ∧ (-1 ≤ cD p q u s (zp i) (zq i) (zr i) (zz i) ∧ cD p q u s (zp i) (zq i) (zr i) (zz i) ≤ 1)) ∧ autP (ofF K) (fI p q u s i) = true := by
  unfold autP at ha
  rw [Bool.and_eq_true, unit_of hi, decide_eq_true_eq, same_iff, cand_of G hi] at ha
  obtain ⟨hu, hs⟩ := ha
  have ok := cand_ok h r hD hu (zj_in i)
  obtain ⟨k1, k2⟩ := aut_key h r2 o2 hd e hu ok hs
  refine ⟨k1, ?_⟩
  obtain ⟨j1, j2, j3, j4, j5⟩ := idx_in k1
  unfold autP fI
  rw [Bool.and_eq_true, unit_of j1, decide_eq_true_eq, same_iff, cand_of K j1, j2, j3, j4, j5]
  exact ⟨cj_d hd hu, k2⟩
theorem aut_le {G K : Zf} (h : okZ G) (r : redZ G) (hD : zD G ≤ 274877906944) (r2 : redZ K) (o2 : okZ K) (v : eqvZ G K) : cnt (autP (ofF G)) 81 ≤ cnt (autP (ofF K)) 81 := by
  obtain ⟨p, q, u, s, hd, e⟩ := v
  refine cnt_inj 81 (fI p q u s) 81 _ _ (fun i hi ha => ?_) (fun i j hi hj ha hb hf => ?_)
  · obtain ⟨k1, k2⟩ := aut_im h r hD r2 o2 hd e hi ha
    exact ⟨(idx_in k1).1, k2⟩
  · obtain ⟨k1, -⟩ := aut_im h r hD r2 o2 hd e hi ha
    obtain ⟨l1, -⟩ := aut_im h r hD r2 o2 hd e hj hb
    obtain ⟨-, a2, a3, a4, a5⟩ := idx_in k1
    obtain ⟨-, b2, b3, b4, b5⟩ := idx_in l1
    have f2 : cA p q u s (zp i) (zq i) (zr i) (zz i) = cA p q u s (zp j) (zq j) (zr j) (zz j) := a2.symm.trans ((congrArg zp hf).trans b2)
    have f3 : cB p q u s (zp i) (zq i) (zr i) (zz i) = cB p q u s (zp j) (zq j) (zr j) (zz j) := a3.symm.trans ((congrArg zq hf).trans b3)
    have f4 : cC p q u s (zp i) (zq i) (zr i) (zz i) = cC p q u s (zp j) (zq j) (zr j) (zz j) := a4.symm.trans ((congrArg zr hf).trans b4)
    have f5 : cD p q u s (zp i) (zq i) (zr i) (zz i) = cD p q u s (zp j) (zq j) (zr j) (zz j) := a5.symm.trans ((congrArg zz hf).trans b5)
    obtain ⟨m1, m2, m3, m4⟩ := cj_m hd (zp i) (zq i) (zr i) (zz i)
    obtain ⟨n1, n2, n3, n4⟩ := cj_m hd (zp j) (zq j) (zr j) (zz j)
    rw [f2, f4, n1] at m1
    rw [f3, f5, n2] at m2
    rw [f2, f4, n3] at m3
    rw [f3, f5, n4] at m4
    obtain ⟨g1, g2⟩ := cj_i (z := 0) (w := 0) (z' := 0) (w' := 0) hd m1.symm m2.symm
    obtain ⟨g3, g4⟩ := cj_i (z := 0) (w := 0) (z' := 0) (w' := 0) hd m3.symm m4.symm
    exact z_inj hi hj g1 g2 g3 g4
theorem aut_81 (src : Fm) : autGo src 81 0 0 = cnt (autP src) 81 := by
  have := aut_cnt src 81 0 0
  rw [cnt] at this
  rw [show 0 + 81 = 81 from rfl] at this
  omega
theorem haut_ok (f : Fm) (h : rngF f) (hd : 0 < discF f) : autOK f := by
  have hD := rng_D h hd
  obtain ⟨h1, h2⟩ := rng_ok h hd
  obtain ⟨N, G, e1, v1, r1, o1⟩ := redM_ok 720002 (toZ f) h1 (by split <;> omega)
  obtain ⟨K, e2, v2, r2, o2⟩ := redGo_ok 19 (toZ f) h1 (by omega) 1000 (by decide)
  rw [ofF_toZ] at e1 e2
  have v := eqvZ.tr v1.sy v2
  have dG : zD G ≤ 274877906944 := by rw [v1.D]; exact hD
  have dK : zD K ≤ 274877906944 := by rw [v2.D]; exact hD
  refine ⟨N, ofF G, e1, ?_⟩
  rw [sealA_eq, e2, aut_81, aut_81]
  exact Nat.le_antisymm (aut_le o1 r1 dG r2 o2 v) (aut_le o2 r2 dK r1 o1 v.sy)
