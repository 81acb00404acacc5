/-! the Model's object: its arrays at 198 .. 228 -/
def mfj (j : Nat) : Nat := ([1, 3, 6, 8, 12, 13, 14, 15, 16, 17, 18, 19, 20, 21, 22, 24, 25, 26, 27, 29, 30, 31, 32, 33, 34, 35, 36, 37, 38, 44, 45] : List Nat).getD j 0
def mkj (j : Nat) : Nat × Nat := ([(20, 90), (20, 90), (20, 121), (21, 161), (20, 90), (20, 90), (20, 90), (20, 90), (20, 90), (20, 90), (20, 90), (20, 90), (20, 90), (20, 90), (20, 90), (20, 8), (20, 8), (20, 8), (20, 8), (21, 90), (21, 90), (21, 90), (21, 90), (20, 90), (21, 90), (20, 8), (20, 8), (21, 8), (20, 8), (20, 121), (21, 161)] : List (Nat × Nat)).getD j (0, 0)
theorem mfj_inj : ∀ j, j < 31 → ∀ k, k < 31 → ¬ j = k → ¬ mfj j = mfj k := by decide +kernel
theorem mkj_len : ∀ j, j < 31 → (mkj j).2 < 200 := by decide +kernel
def MI (h0 : Hp) (k : Nat) (h : Hp) : Prop := hN h = 198 + k ∧ hU h ≤ hU h0 + 200 * k ∧ (hS h 197).1 = 8 ∧ (∀ j, j < k → hR h 197 (mfj j) = 198 + j ∧ hS h (198 + j) = mkj j) ∧ (∀ c, c < 197 → Sm h0 h c)
/-- the shapes of the Model -/
def ShM (h : Hp) : Prop := (hS h 197).1 = 8 ∧ (∀ j, j < 31 → hR h 197 (mfj j) = 198 + j ∧ hS h (198 + j) = mkj j)
theorem ShM.mono {h h' : Hp} (M : ShM h) (s : ∀ c, 197 ≤ c → c < 229 → hR h' c = hR h c ∧ hS h' c = hS h c) : ShM h' := by
  refine ⟨by rw [(s 197 (by decide) (by decide)).2]; exact M.1, fun j hj => ?_⟩
  rw [(s 197 (by decide) (by decide)).1, (s (198 + j) (by omega) (by omega)).2]
  exact M.2 j hj
theorem ShM.same {h h' : Hp} (M : ShM h) (r : hR h' = hR h) (s : hS h' = hS h) : ShM h' := M.mono fun c _ _ => by rw [r, s]; exact ⟨rfl, rfl⟩
theorem ShM.o {h : Hp} (M : ShM h) : (hS h 197).1 = 8 := M.1
theorem ShM.r1 {h : Hp} (M : ShM h) : hR h 197 1 = 198 := (M.2 0 (by decide)).1
theorem ShM.s198 {h : Hp} (M : ShM h) : hS h 198 = (20, 90) := (M.2 0 (by decide)).2
theorem ShM.r3 {h : Hp} (M : ShM h) : hR h 197 3 = 199 := (M.2 1 (by decide)).1
theorem ShM.s199 {h : Hp} (M : ShM h) : hS h 199 = (20, 90) := (M.2 1 (by decide)).2
theorem ShM.r6 {h : Hp} (M : ShM h) : hR h 197 6 = 200 := (M.2 2 (by decide)).1
theorem ShM.s200 {h : Hp} (M : ShM h) : hS h 200 = (20, 121) := (M.2 2 (by decide)).2
theorem ShM.r8 {h : Hp} (M : ShM h) : hR h 197 8 = 201 := (M.2 3 (by decide)).1
theorem ShM.s201 {h : Hp} (M : ShM h) : hS h 201 = (21, 161) := (M.2 3 (by decide)).2
theorem ShM.r12 {h : Hp} (M : ShM h) : hR h 197 12 = 202 := (M.2 4 (by decide)).1
theorem ShM.s202 {h : Hp} (M : ShM h) : hS h 202 = (20, 90) := (M.2 4 (by decide)).2
theorem ShM.r13 {h : Hp} (M : ShM h) : hR h 197 13 = 203 := (M.2 5 (by decide)).1
theorem ShM.s203 {h : Hp} (M : ShM h) : hS h 203 = (20, 90) := (M.2 5 (by decide)).2
theorem ShM.r14 {h : Hp} (M : ShM h) : hR h 197 14 = 204 := (M.2 6 (by decide)).1
theorem ShM.s204 {h : Hp} (M : ShM h) : hS h 204 = (20, 90) := (M.2 6 (by decide)).2
theorem ShM.r15 {h : Hp} (M : ShM h) : hR h 197 15 = 205 := (M.2 7 (by decide)).1
theorem ShM.s205 {h : Hp} (M : ShM h) : hS h 205 = (20, 90) := (M.2 7 (by decide)).2
theorem ShM.r16 {h : Hp} (M : ShM h) : hR h 197 16 = 206 := (M.2 8 (by decide)).1
theorem ShM.s206 {h : Hp} (M : ShM h) : hS h 206 = (20, 90) := (M.2 8 (by decide)).2
theorem ShM.r17 {h : Hp} (M : ShM h) : hR h 197 17 = 207 := (M.2 9 (by decide)).1
theorem ShM.s207 {h : Hp} (M : ShM h) : hS h 207 = (20, 90) := (M.2 9 (by decide)).2
theorem ShM.r18 {h : Hp} (M : ShM h) : hR h 197 18 = 208 := (M.2 10 (by decide)).1
theorem ShM.s208 {h : Hp} (M : ShM h) : hS h 208 = (20, 90) := (M.2 10 (by decide)).2
theorem ShM.r19 {h : Hp} (M : ShM h) : hR h 197 19 = 209 := (M.2 11 (by decide)).1
theorem ShM.s209 {h : Hp} (M : ShM h) : hS h 209 = (20, 90) := (M.2 11 (by decide)).2
theorem ShM.r20 {h : Hp} (M : ShM h) : hR h 197 20 = 210 := (M.2 12 (by decide)).1
theorem ShM.s210 {h : Hp} (M : ShM h) : hS h 210 = (20, 90) := (M.2 12 (by decide)).2
theorem ShM.r21 {h : Hp} (M : ShM h) : hR h 197 21 = 211 := (M.2 13 (by decide)).1
theorem ShM.s211 {h : Hp} (M : ShM h) : hS h 211 = (20, 90) := (M.2 13 (by decide)).2
theorem ShM.r22 {h : Hp} (M : ShM h) : hR h 197 22 = 212 := (M.2 14 (by decide)).1
theorem ShM.s212 {h : Hp} (M : ShM h) : hS h 212 = (20, 90) := (M.2 14 (by decide)).2
theorem ShM.r24 {h : Hp} (M : ShM h) : hR h 197 24 = 213 := (M.2 15 (by decide)).1
theorem ShM.s213 {h : Hp} (M : ShM h) : hS h 213 = (20, 8) := (M.2 15 (by decide)).2
theorem ShM.r25 {h : Hp} (M : ShM h) : hR h 197 25 = 214 := (M.2 16 (by decide)).1
theorem ShM.s214 {h : Hp} (M : ShM h) : hS h 214 = (20, 8) := (M.2 16 (by decide)).2
theorem ShM.r26 {h : Hp} (M : ShM h) : hR h 197 26 = 215 := (M.2 17 (by decide)).1
theorem ShM.s215 {h : Hp} (M : ShM h) : hS h 215 = (20, 8) := (M.2 17 (by decide)).2
theorem ShM.r27 {h : Hp} (M : ShM h) : hR h 197 27 = 216 := (M.2 18 (by decide)).1
theorem ShM.s216 {h : Hp} (M : ShM h) : hS h 216 = (20, 8) := (M.2 18 (by decide)).2
theorem ShM.r29 {h : Hp} (M : ShM h) : hR h 197 29 = 217 := (M.2 19 (by decide)).1
theorem ShM.s217 {h : Hp} (M : ShM h) : hS h 217 = (21, 90) := (M.2 19 (by decide)).2
theorem ShM.r30 {h : Hp} (M : ShM h) : hR h 197 30 = 218 := (M.2 20 (by decide)).1
theorem ShM.s218 {h : Hp} (M : ShM h) : hS h 218 = (21, 90) := (M.2 20 (by decide)).2
theorem ShM.r31 {h : Hp} (M : ShM h) : hR h 197 31 = 219 := (M.2 21 (by decide)).1
theorem ShM.s219 {h : Hp} (M : ShM h) : hS h 219 = (21, 90) := (M.2 21 (by decide)).2
theorem ShM.r32 {h : Hp} (M : ShM h) : hR h 197 32 = 220 := (M.2 22 (by decide)).1
theorem ShM.s220 {h : Hp} (M : ShM h) : hS h 220 = (21, 90) := (M.2 22 (by decide)).2
theorem ShM.r33 {h : Hp} (M : ShM h) : hR h 197 33 = 221 := (M.2 23 (by decide)).1
theorem ShM.s221 {h : Hp} (M : ShM h) : hS h 221 = (20, 90) := (M.2 23 (by decide)).2
theorem ShM.r34 {h : Hp} (M : ShM h) : hR h 197 34 = 222 := (M.2 24 (by decide)).1
theorem ShM.s222 {h : Hp} (M : ShM h) : hS h 222 = (21, 90) := (M.2 24 (by decide)).2
theorem ShM.r35 {h : Hp} (M : ShM h) : hR h 197 35 = 223 := (M.2 25 (by decide)).1
theorem ShM.s223 {h : Hp} (M : ShM h) : hS h 223 = (20, 8) := (M.2 25 (by decide)).2
theorem ShM.r36 {h : Hp} (M : ShM h) : hR h 197 36 = 224 := (M.2 26 (by decide)).1
theorem ShM.s224 {h : Hp} (M : ShM h) : hS h 224 = (20, 8) := (M.2 26 (by decide)).2
theorem ShM.r37 {h : Hp} (M : ShM h) : hR h 197 37 = 225 := (M.2 27 (by decide)).1
theorem ShM.s225 {h : Hp} (M : ShM h) : hS h 225 = (21, 8) := (M.2 27 (by decide)).2
theorem ShM.r38 {h : Hp} (M : ShM h) : hR h 197 38 = 226 := (M.2 28 (by decide)).1
theorem ShM.s226 {h : Hp} (M : ShM h) : hS h 226 = (20, 8) := (M.2 28 (by decide)).2
theorem ShM.r44 {h : Hp} (M : ShM h) : hR h 197 44 = 227 := (M.2 29 (by decide)).1
theorem ShM.s227 {h : Hp} (M : ShM h) : hS h 227 = (20, 121) := (M.2 29 (by decide)).2
theorem ShM.r45 {h : Hp} (M : ShM h) : hR h 197 45 = 228 := (M.2 30 (by decide)).1
theorem ShM.s228 {h : Hp} (M : ShM h) : hS h 228 = (21, 161) := (M.2 30 (by decide)).2
section MOI
variable {d : Nat} {h h0 : Hp}
theorem sgM {REST : Hp → Prop} {k j c l : Nat} (M : MI h0 k h) (hk : k < 31) (ej : mfj k = j) (ek : mkj k = (c, l)) (r1 : hN h0 ≤ 300) (r2 : hU h0 ≤ 200000) (kk : ∀ h', MI h0 (k + 1) h' → hI h' 197 = hI h 197 → REST h') :
    (¬ iv l < 0 ∧ (iv l).toNatClampNeg ≤ 100000 ∧ room h (iv l).toNatClampNeg = true) ∧ ∀ a : Nat, a = hN h → ∀ h4 : Hp, h4 = hNew h c (iv l).toNatClampNeg (iv l).toNatClampNeg → (hS h4 197).1 = 8 ∧ ∀ h7 : Hp, h7 = sR h4 197 j a → REST h7 := by
  have cN : capN = 601000 := rfl
  have cU : capU = 7293000 := rfl
  obtain ⟨m1, m2, m3, m4, m5⟩ := M
  have hl : l < 200 := by have := mkj_len k hk; rw [ek] at this; exact this
  rw [iv_clamp (by omega)]
  refine ⟨⟨iv_neg (by omega), by omega, room_of (by omega) (by omega)⟩, ?_⟩
  rintro _ rfl _ rfl
  refine ⟨by rw [hS_nw, if_neg (by omega)]; exact m3, ?_⟩
  rintro _ rfl
  refine kk _ ⟨by rw [hN_sR, hN_nw]; omega, by rw [hU_sR, hU_nw]; omega, by rw [hS_sR, hS_nw, if_neg (by omega)]; exact m3, fun i hi => ?_, fun q hq => (m5 q hq).trans ((Sm.nw (by omega)).trans (Sm.sR (by omega)))⟩ (by show hI (hNew h c l l) 197 = _; funext q; rw [hI_nw, if_neg (by omega)])
  by_cases e : i = k
  · subst e
    rw [hR_sR, if_pos ⟨rfl, ej⟩, hS_sR, hS_nw, if_pos (by omega)]
    exact ⟨m1, ek.symm⟩
  · rw [hR_sR, if_neg (fun q => mfj_inj i (by omega) k hk e (q.2.trans ej.symm)), hR_nw, if_neg (by omega), hS_sR, hS_nw, if_neg (by omega)]
    exact m4 i (by omega)
theorem c_Mo_init {K : Hp → Prop} (hn : hN h = 198) (h8 : (hS h 197).1 = 8) (h0i : ∀ j, hI h 197 j = 0) (r2 : hU h ≤ 200000) (k : ∀ h', hN h' = 229 → hU h' ≤ hU h + 6200 → ShM h' → hI h' 197 10 = -1 ∧ hI h' 197 11 = -1 ∧ (∀ j, ¬ j = 10 → ¬ j = 11 → hI h' 197 j = 0) → (∀ c, c < 197 → Sm h h' c) → K h') : Ca d m_Mo_init [.ref 197] h (QV K) := by
  have M0 : MI h 0 h := ⟨hn, by omega, h8, fun j hj => absurd hj (by omega), fun c _ => Sm.refl h c⟩
  refine w_Mo_init ⟨by decide, ?_⟩
  refine sgM (k := 0) (c := 20) (l := 90) M0 (by decide) rfl rfl (by omega) r2 fun h1 M1 e1 => ?_
  refine sgM (k := 1) (c := 20) (l := 90) M1 (by decide) rfl rfl (by omega) r2 fun h2 M2 e2 => ?_
  refine sgM (k := 2) (c := 20) (l := 121) M2 (by decide) rfl rfl (by omega) r2 fun h3 M3 e3 => ?_
  refine sgM (k := 3) (c := 21) (l := 161) M3 (by decide) rfl rfl (by omega) r2 fun h4 M4 e4 => ?_
  rintro _ rfl _ rfl
  have M4b : MI h 4 (sI (sI h4 197 10 (-1)) 197 11 (-1)) := ⟨M4.1, M4.2.1, M4.2.2.1, M4.2.2.2.1, fun c hc => (M4.2.2.2.2 c hc).trans ((Sm.sI (by omega)).trans (Sm.sI (by omega)))⟩
  refine sgM (k := 4) (c := 20) (l := 90) M4b (by decide) rfl rfl (by omega) r2 fun h5 M5 e5 => ?_
  refine sgM (k := 5) (c := 20) (l := 90) M5 (by decide) rfl rfl (by omega) r2 fun h6 M6 e6 => ?_
  refine sgM (k := 6) (c := 20) (l := 90) M6 (by decide) rfl rfl (by omega) r2 fun h7 M7 e7 => ?_
  refine sgM (k := 7) (c := 20) (l := 90) M7 (by decide) rfl rfl (by omega) r2 fun h8 M8 e8 => ?_
  refine sgM (k := 8) (c := 20) (l := 90) M8 (by decide) rfl rfl (by omega) r2 fun h9 M9 e9 => ?_
  refine sgM (k := 9) (c := 20) (l := 90) M9 (by decide) rfl rfl (by omega) r2 fun h10 M10 e10 => ?_
  refine sgM (k := 10) (c := 20) (l := 90) M10 (by decide) rfl rfl (by omega) r2 fun h11 M11 e11 => ?_
  refine sgM (k := 11) (c := 20) (l := 90) M11 (by decide) rfl rfl (by omega) r2 fun h12 M12 e12 => ?_
  refine sgM (k := 12) (c := 20) (l := 90) M12 (by decide) rfl rfl (by omega) r2 fun h13 M13 e13 => ?_
  refine sgM (k := 13) (c := 20) (l := 90) M13 (by decide) rfl rfl (by omega) r2 fun h14 M14 e14 => ?_
  refine sgM (k := 14) (c := 20) (l := 90) M14 (by decide) rfl rfl (by omega) r2 fun h15 M15 e15 => ?_
  refine sgM (k := 15) (c := 20) (l := 8) M15 (by decide) rfl rfl (by omega) r2 fun h16 M16 e16 => ?_
  refine sgM (k := 16) (c := 20) (l := 8) M16 (by decide) rfl rfl (by omega) r2 fun h17 M17 e17 => ?_
  refine sgM (k := 17) (c := 20) (l := 8) M17 (by decide) rfl rfl (by omega) r2 fun h18 M18 e18 => ?_
  refine sgM (k := 18) (c := 20) (l := 8) M18 (by decide) rfl rfl (by omega) r2 fun h19 M19 e19 => ?_
  refine sgM (k := 19) (c := 21) (l := 90) M19 (by decide) rfl rfl (by omega) r2 fun h20 M20 e20 => ?_
  refine sgM (k := 20) (c := 21) (l := 90) M20 (by decide) rfl rfl (by omega) r2 fun h21 M21 e21 => ?_
  refine sgM (k := 21) (c := 21) (l := 90) M21 (by decide) rfl rfl (by omega) r2 fun h22 M22 e22 => ?_
  refine sgM (k := 22) (c := 21) (l := 90) M22 (by decide) rfl rfl (by omega) r2 fun h23 M23 e23 => ?_
  refine sgM (k := 23) (c := 20) (l := 90) M23 (by decide) rfl rfl (by omega) r2 fun h24 M24 e24 => ?_
  refine sgM (k := 24) (c := 21) (l := 90) M24 (by decide) rfl rfl (by omega) r2 fun h25 M25 e25 => ?_
  refine sgM (k := 25) (c := 20) (l := 8) M25 (by decide) rfl rfl (by omega) r2 fun h26 M26 e26 => ?_
  refine sgM (k := 26) (c := 20) (l := 8) M26 (by decide) rfl rfl (by omega) r2 fun h27 M27 e27 => ?_
  refine sgM (k := 27) (c := 21) (l := 8) M27 (by decide) rfl rfl (by omega) r2 fun h28 M28 e28 => ?_
  refine sgM (k := 28) (c := 20) (l := 8) M28 (by decide) rfl rfl (by omega) r2 fun h29 M29 e29 => ?_
  refine sgM (k := 29) (c := 20) (l := 121) M29 (by decide) rfl rfl (by omega) r2 fun h30 M30 e30 => ?_
  refine sgM (k := 30) (c := 21) (l := 161) M30 (by decide) rfl rfl (by omega) r2 fun h31 M31 e31 => ?_
  have ee : hI h31 197 = hI (sI (sI h4 197 10 (-1)) 197 11 (-1)) 197 := e31.trans (e30.trans (e29.trans (e28.trans (e27.trans (e26.trans (e25.trans (e24.trans (e23.trans (e22.trans (e21.trans (e20.trans (e19.trans (e18.trans (e17.trans (e16.trans (e15.trans (e14.trans (e13.trans (e12.trans (e11.trans (e10.trans (e9.trans (e8.trans (e7.trans (e6.trans e5)))))))))))))))))))))))))
  have e4' : hI h4 197 = hI h 197 := e4.trans (e3.trans (e2.trans e1))
  refine k _ M31.1 (by have := M31.2.1; omega) ⟨M31.2.2.1, M31.2.2.2.1⟩ ⟨?_, ?_, fun j j1 j2 => ?_⟩ M31.2.2.2.2
  · rw [ee, hI_sI, if_neg (by decide), hI_sI, if_pos ⟨rfl, rfl⟩]
  · rw [ee, hI_sI, if_pos ⟨rfl, rfl⟩]
  · rw [ee, hI_sI, if_neg (fun e => j2 e.2), hI_sI, if_neg (fun e => j1 e.2), e4']; exact h0i j
end MOI
