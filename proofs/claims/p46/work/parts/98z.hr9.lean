/-! ===== an hour: a van drives ===== -/
section KAP
variable {κ : kP}
section OQR
variable {xs : Nat → Int32} {nx : Nat}
theorem drvL {v : Nat} {R : List Nat} : ∀ (n : Nat) (κ : kP) (J i : Nat) (c : nC) (m : nM) (a2 : Int32) (l4 : Option nV), J + n = R.length → R ≠ [] → nJ κ i c m → i / 100000 = 2 + v → i % 100000 + n < 90000 → v < fN c 27 → nRd R v J c m → gCs c m →
    ∃ (c' : nC) (m' : nM) (J' g n' : Nat), n' ≤ n ∧ J' ≤ R.length ∧ nJ (κ.1 + g, κ.2) (i + n') c' m' ∧ nRd R v J' c' m' ∧ gCs c' m' ∧ fv c m c' m' ∧ m' 1 75 = m 1 75 + iN g ∧
      (∀ z, R1 xs nx 118 7 [some (vR 0 (some 0)), some (vR 27 (some v)), some (vI a2), some (vI (iN J)), l4] [] (c, z) = some (.inl (some (vI (a2 + iN g))), (c', z))) ∧
      ∀ c9 z, R1 xs nx 221 0 [some (vR 1 (some 0)), some (vI (iN v))] [] (c9, m, z) = R1 xs nx 221 81 [some (vR 1 (some 0)), some (vI (iN v))] [] (c9, m', z) := by
  intro n
  induction n with
  | zero =>
    intro κ J i c m a2 l4 e hne hJ hp hi hv hR hc
    have hR0 := hR
    obtain ⟨rL, r2, r3, r1, J3, J2, rf, r4, r5, r6⟩ := hR
    have h27 := hJ.1.2.2.2.1.1
    have vin : mIn (iN v) 6 = true := iN_in (by omega) (by omega)
    have ven : (iN v).toNatClampNeg = v := i32_nat (by omega)
    have hn : ¬ iN J < iN R.length := by rw [iN_lt (by omega) (by omega)]; omega
    refine ⟨c, m, J, 0, 0, Nat.le_refl _, by omega, hJ, hR0, hc, fv_refl, iN_a0.symm, fun z => ?_, fun c9 z => ?_⟩
    · rw [d_118_7, if_neg (iN_pos (by omega))]
      dsimp only
      rw [rL, if_neg hn, show a2 + iN 0 = a2 from iN_a0]
    · rw [d_221_0, if_pos vin, if_pos vin, ven]
      simp only [J3, r1]
      rw [if_neg hn]
  | succ n ih =>
    intro κ J i c m a2 l4 e hne hJ hp hi hv hR hc
    have hR0 := hR
    obtain ⟨rL, r2, r3, r1, J3, J2, rf, r4, r5, r6⟩ := hR
    have h27 := hJ.1.2.2.2.1.1
    have vin : mIn (iN v) 6 = true := iN_in (by omega) (by omega)
    have ven : (iN v).toNatClampNeg = v := i32_nat (by omega)
    have hJl : J < R.length := by omega
    have hlt : iN J < iN R.length := (iN_lt (by omega) (by omega)).mpr hJl
    have he : R[J]? = some R[J] := List.getElem?_eq_getElem hJl
    generalize R[J] = x at he
    obtain ⟨q1, q2, q3, -, -⟩ := r6 J x he
    obtain ⟨w1, w2, w3, w4, w5⟩ := rf hne
    obtain ⟨-, -, ⟨f3, -⟩, -⟩ := hJ.2.2.2.2.2.2.2.2.2.2.2.1.1 v hv
    have xin : mIn (iN (30 * v + J)) 180 = true := iN_in (by omega) (by omega)
    have xen : (iN (30 * v + J)).toNatClampNeg = 30 * v + J := i32_nat (by omega)
    have xe : (30 : Int32) * iN v + iN J = iN (30 * v + J) := by rw [show (30 : Int32) * iN v = iN (30 * v) from iN_mul (a := 30)]; exact i32_add
    have ck := (nJ_ck hJ).1
    have c118 : ∀ z, R1 xs nx 118 7 [some (vR 0 (some 0)), some (vR 27 (some v)), some (vI a2), some (vI (iN J)), l4] [] (c, z) = if m 1 0 - m 82 v < m 86 (30 * v + J) - m 81 v then some (.inl (some (vI a2)), (c, z)) else bI (R1 xs nx 70 0 [some (vR 26 (some x)), some (vI (fI c 9 x 9)), none, none] [] ((uI 27 v 6 (iN (J + 1)) c), z)) (fun x3 s2 => if x3 = 0 then bV (R1 xs nx 95 0 [some (vR 0 (some 0)), some (vR 26 (some x)), some (vR 21 (some (fX s2.1 27 v 1))), some (vI (6 : Int32)), none] [] ((uI 26 x 15 ((fI s2.1 26 x 15) + (1 : Int32)) s2.1), s2.2)) (fun s4 => R1 xs nx 118 131 [some (vR 0 (some 0)), some (vR 27 (some v)), some (vI a2), some (vI (iN J)), some (vR 26 (some x))] [] s4) hE else bV (R1 xs nx 117 0 [some (vR 0 (some 0)), some (vR 26 (some x))] [] s2) (fun s5 => bV (R1 xs nx 95 0 [some (vR 0 (some 0)), some (vR 26 (some x)), some (vR 21 (some (fX s5.1 27 v 1))), some (vI (5 : Int32)), none] [] s5) (fun s6 => R1 xs nx 118 131 [some (vR 0 (some 0)), some (vR 27 (some v)), some (vI (a2 + (1 : Int32))), some (vI (iN J)), some (vR 26 (some x))] [] s6) hE) hE) hE := by
      intro z
      rw [d_118_7, if_neg (iN_pos (by omega))]
      dsimp only
      rw [rL, if_pos hlt, if_neg (iN_pos (by omega)), i32_nat (by omega), he, nn_some, ck, w3, f3, q3, iN_add1]
    have r221 : ∀ c9 z, R1 xs nx 221 0 [some (vR 1 (some 0)), some (vI (iN v))] [] (c9, m, z) = if m 1 0 - m 82 v < m 86 (30 * v + J) - m 81 v then R1 xs nx 221 81 [some (vR 1 (some 0)), some (vI (iN v))] [] (c9, m, z) else bV (R1 xs nx 215 0 [some (vR 1 (some 0)), some (vI (iN v)), some (vI (iN (30 * v + J))), none, none, none, none, none] [] (c9, m, z)) (fun s1 => if mIn (iN v) 6 = true then if mIn (iN v) 6 = true then R1 xs nx 221 0 [some (vR 1 (some 0)), some (vI (iN v))] [] (s1.1, (uM 84 (iN v).toNatClampNeg ((s1.2.1 84 (iN v).toNatClampNeg) + (1 : Int32)) s1.2.1), s1.2.2) else none else none) hE := by
      intro c9 z
      rw [d_221_0, if_pos vin, if_pos vin]
      simp only [ven, J3, r1, xe, xen]
      rw [if_pos hlt, if_pos vin, if_pos xin, if_pos vin, if_pos vin, if_pos vin]
    by_cases hd : m 1 0 - m 82 v < m 86 (30 * v + J) - m 81 v
    · refine ⟨c, m, J, 0, 0, Nat.zero_le _, by omega, hJ, hR0, hc, fv_refl, iN_a0.symm, fun z => ?_, fun c9 z => ?_⟩
      · rw [c118, if_pos hd, show a2 + iN 0 = a2 from iN_a0]
      · rw [r221, if_pos hd]
    · obtain ⟨c1, m1, g1, n1, t1, t2, t3, t4, t5, t6, t7, t8⟩ := stopJ (xs := xs) (nx := nx) hJ (by omega) hp hv hR0 hc he
      have hN27 : fN c1 27 = fN c 27 := t5.1 27 (by decide)
      obtain ⟨c', m', J', g, n', u1, u2, u3, u4, u5, u6, u7, u8, u9⟩ := ih (κ.1 + g1, κ.2) (J + 1) (i + n1) c1 m1 (a2 + iN g1) (some (vR 26 (some x))) (by omega) hne t2 (by omega) (by omega) (by rw [hN27]; exact hv) t3 t4
      refine ⟨c', m', J', g1 + g, n1 + n', by omega, u2, by rw [← Nat.add_assoc, ← Nat.add_assoc]; exact u3, u4, u5, fv_trans t5 u6, ?_, fun z => ?_, fun c9 z => ?_⟩
      · rw [u7, t6, Int32.add_assoc, show iN g1 + iN g = iN (g1 + g) from i32_add]
      · rw [c118, if_neg hd, t7, d_118_131, iN_add1]
        have := u8 z
        rw [Int32.add_assoc, show iN g1 + iN g = iN (g1 + g) from i32_add] at this
        exact this
      · rw [r221, if_neg hd, t8]
        exact u9 c9 z
/-- a van that goes on -/
theorem drvV {v J i : Nat} {R : List Nat} {c : nC} {m : nM} (hJ : nJ κ i c m) (hp : i / 100000 = 2 + v) (hi : i % 100000 < 80000) (hv : v < fN c 27) (hR : nRd R v J c m) (hc : gCs c m) :
    ∃ (c' : nC) (m' : nM) (J' g n' : Nat), n' ≤ 30 ∧ (R ≠ [] → J' ≤ R.length) ∧ nJ (κ.1 + g, κ.2) (i + n') c' m' ∧ nRd R v J' c' m' ∧ gCs c' m' ∧ fv c m c' m' ∧ m' 1 75 = m 1 75 + iN g ∧
      (∀ z, R1 xs nx 118 0 [some (vR 0 (some 0)), some (vR 27 (some v)), none, none, none] [] (c, z) = some (.inl (some (vI (iN g))), (c', z))) ∧
      ∀ c9 z, R1 xs nx 221 0 [some (vR 1 (some 0)), some (vI (iN v))] [] (c9, m, z) = R1 xs nx 221 81 [some (vR 1 (some 0)), some (vI (iN v))] [] (c9, m', z) := by
  have hR0 := hR
  obtain ⟨rL, r2, r3, r1, J3, J2, rf, r4, r5, r6⟩ := hR
  have h27 := hJ.1.2.2.2.1.1
  have vin : mIn (iN v) 6 = true := iN_in (by omega) (by omega)
  have ven : (iN v).toNatClampNeg = v := i32_nat (by omega)
  by_cases hne : R = []
  · subst hne
    refine ⟨c, m, J, 0, 0, Nat.zero_le _, fun z => absurd rfl z, hJ, hR0, hc, fv_refl, iN_a0.symm, fun z => ?_, fun c9 z => ?_⟩
    · rw [d_118_0, d_118_7]
      dsimp only
      by_cases q : fI c 27 v 6 < 0
      · rw [if_pos q]; rfl
      · rw [if_neg q, rL, if_neg (by simpa using q)]; rfl
    · rw [d_221_0, if_pos vin, if_pos vin, ven]
      simp only [J3, r1]
      rw [if_neg (by rw [iN_lt (by omega) (by simp)]; simp)]
  · obtain ⟨w1, w2, w3, w4, w5⟩ := rf hne
    obtain ⟨c', m', J', g, n', u1, u2, u3, u4, u5, u6, u7, u8, u9⟩ := drvL (xs := xs) (nx := nx) (v := v) (R := R) (R.length - J) κ J i c m 0 none (by omega) hne hJ hp (by omega) hv hR0 hc
    refine ⟨c', m', J', g, n', by omega, fun _ => u2, u3, u4, u5, u6, u7, fun z => ?_, u9⟩
    rw [d_118_0]
    dsimp only
    rw [w2]
    have := u8 z
    rw [show (0 : Int32) + iN g = iN g from by rw [show (0 : Int32) = iN 0 from rfl, show iN 0 + iN g = iN (0 + g) from i32_add, Nat.zero_add]] at this
    exact this
end OQR
end KAP
