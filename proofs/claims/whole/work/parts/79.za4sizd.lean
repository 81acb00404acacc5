/-! the Model reads a sized unit, a floating one -/
section RDS
variable {d L : Nat} {M : Nat → Int32} {S : Tb} {g0 g : Hp} {k : Nat} {s : Ps (List Int64)} {c p m : Int32}
def stU (S : Tb) (k : Nat) {ω : Type} (s : Ps ω) : Ps ω := (s.1, s.2.1, s.2.2.1, iv (s.1 / 8), tG S k 7)
theorem rd_wd {k : Nat} (R : Rm0 L M S g) (T : TW S) (hk : k < S.1) (hz : sz (tG S k 0) = true) : hI g 203 k = iv (dgN S k) := by
  rw [R.1.1.f (j := 1) (by decide) hk]
  exact (dg_num' (T.2.2.1 k hk).1 hz).1
theorem m_sizedR {K : Hp → Prop} (R0 : Rm0 L M S g0) (T : TW S) (hk : k < S.1) (hz : sz (tG S k 0) = true) (al : ¬ tG S k 0 = 112 → s.1 % 8 = 0) (c : Cor L S g0 (stU S k s) g) (hb : hI g 197 43 = btI s.1)
    (kF : (URd M L S k s.1 s.2.1).1 = 0 → ∀ g', RxR L S g0 (mkU S k s (URd M L S k s.1 s.2.1)).2 g' → Mk g g' → K g')
    (kE : ¬ (URd M L S k s.1 s.2.1).1 = 0 → ∀ g', FlR g0 ((URd M L S k s.1 s.2.1).1 + 1) (iv (s.1 / 8)) (tG S k 7) g' → K g') : Ca (d + 12) m_Mo_sizedUnit [.ref 197, .int (iv k)] g (QV K) := by
  have R := R0.fr c.1
  have u90 := R.1.1.2.2.1
  have Mm := R.1.1.1
  have l120 := R.2.1.2.1
  have hB : s.1 ≤ 8 * L := c.2.2.1.2
  have ax : ainr (iv k) 90 = true := ainr_iv (by omega) (by omega)
  have cx : (iv k).toNatClampNeg = k := iv_clamp (by omega)
  have kd : hI g 202 (iv k).toNatClampNeg = tG S k 0 := by rw [cx]; exact R.1.1.kd (by omega)
  have wd : hI g 203 (iv k).toNatClampNeg = iv (dgN S k) := by rw [cx]; exact rd_wd R T hk hz
  obtain ⟨-, dg1, dg7, dg4⟩ := dg_num' (T.2.2.1 k hk).1 hz
  -- behind the bits or the bytes
  have tail : ∀ (B : Nat) (v : Int64) (g' : Hp), URd M L S k s.1 s.2.1 = kpP S k v B s.2.1 → Cor L S g0 (B, (stU S k s).2) g' → hI g' 197 43 = btI B → Mk g g' → TlP (d + 10 + 1) K k v g' := by
    intro B v g' eU c' b' hmk
    rw [eU] at kF kE
    refine m_tail (d := d + 10) R0 hk hz c' (fun z g'' c'' b'' hmk' => kF z g'' ⟨c'', ?_⟩ (hmk.trans hmk')) kE
    have e : (mkU S k s (kpP S k v B s.2.1)).2.1 = B := (kpP_ok.2 z).1
    rw [e, b'', b']; rfl
  have bad : ∀ (v : Int64) (g' : Hp), URd M L S k s.1 s.2.1 = (1, s.1, s.2.1, 0) → FlR g0 2 (iv (s.1 / 8)) (tG S k 7) g' → TlP (d + 10 + 1) K k v g' := by
    intro v g' eU fl
    rw [eU] at kE
    exact m_tailF (d := d + 10) fl (by omega) fun g'' fl' _ => kE (show ¬ (1 : Int32) = 0 by decide) g'' fl'
  refine w_Mo_sizedUnit ⟨Mm.o, ?_⟩
  rw [Mm.r12, Mm.s202, kd]
  refine ⟨rfl, ax, ?_⟩
  by_cases c0 : tG S k 0 = 112
  · rw [if_pos c0, if_pos R.2.2, if_neg (by decide), Mm.r13, Mm.s203, wd]
    refine ⟨rfl, ax, ?_⟩
    have eU : URd M L S k s.1 s.2.1 = if 8 * L < s.1 + dgN S k then (1, s.1, s.2.1, 0) else kpP S k (bitsV M s.1 (dgN S k)) (s.1 + dgN S k) s.2.1 := by
      unfold URd; rw [if_pos c0]
    refine w_Mo_readBits ?_
    have q := m_bits (d := d + 10) (g := g) (s := stU S k s) (K := fun v h => TlP (d + 10 + 1) K k v h) R0 (e := dgN S k) (by omega) (fun le g' c' b' hmk => tail (s.1 + dgN S k) (bitsV M s.1 (dgN S k)) g' (by rw [eU, if_neg (by have : s.1 + dgN S k ≤ 8 * L := le; omega)]) c' b' hmk) (fun lt g' fl hmk => bad 0 g' (by rw [eU, if_pos (show 8 * L < s.1 + dgN S k from lt)]) fl) (dgN S k) 0 g none (by omega) c hb (Mk.refl g)
    exact q
  · rw [if_neg c0, if_pos R.2.2, if_pos rfl]
    have n114 : ¬ tG S k 0 = 114 := fun z => by rw [z] at hz; cases hz
    have n122 : ¬ tG S k 0 = 122 := fun z => by rw [z] at hz; cases hz
    have n102 : ¬ tG S k 0 = 102 := fun z => by rw [z] at hz; cases hz
    have n100 : ¬ tG S k 0 = 100 := fun z => by rw [z] at hz; cases hz
    have ew : wdN S k = dgN S k := by unfold wdN wdT; rw [if_neg n102, if_neg n100, if_pos hz]; rfl
    have dg4 := dg4 c0
    have al := al c0
    have eU : URd M L S k s.1 s.2.1 = if L < bfN s.1 + dgN S k then (1, s.1, s.2.1, 0) else kpP S k (sgnV (tG S k 0) (dgN S k) (numV M (bfN s.1) (dgN S k) (decide (tG S k 0 = 118)) (dgN S k))) (s.1 + 8 * dgN S k) s.2.1 := by
      unfold URd; rw [if_neg c0, if_neg n114, if_neg n122, ew]
    have es : sgnV (if tG S k 0 = 115 then 115 else 0) (dgN S k) (numV M (bfN s.1) (dgN S k) (decide (tG S k 0 = 118)) (dgN S k)) = sgnV (tG S k 0) (dgN S k) (numV M (bfN s.1) (dgN S k) (decide (tG S k 0 = 118)) (dgN S k)) := by
      by_cases c5 : tG S k 0 = 115
      · rw [if_pos c5, c5]
      · rw [if_neg c5]
        unfold sgnV
        rw [if_neg (by decide), if_neg]
        unfold mNeg
        simp [c5, n102, n100]
    have bb : btI (s.1 + 8 * dgN S k) = btI s.1 := by
      unfold btI; rw [show (s.1 + 8 * dgN S k) % 8 = s.1 % 8 by omega]
    refine w_Mo_readNumber ⟨Mm.o, ?_⟩
    rw [Mm.r13, Mm.s203, wd]
    refine ⟨rfl, ax, ?_⟩
    rintro _ rfl
    have q := m_num13 (d := d + 10) (g := g) (s := stU S k s) (K := fun v h => TlP (d + 10 + 1) K k v h) (w := dgN S k) R0 hk dg1 dg4 (by omega) al (fun le g' c' b' hmk => by
      have le : s.1 + 8 * dgN S k ≤ 8 * L := le
      have r := tail (s.1 + 8 * dgN S k) (sgnV (tG S k 0) (dgN S k) (numV M (bfN s.1) (dgN S k) (decide (tG S k 0 = 118)) (dgN S k))) g' (by rw [eU, if_neg (by unfold bfN; omega)]) c' (by rw [b', hb, bb]) hmk
      rw [← es] at r
      exact r) (fun lt v g' fl hmk => bad v g' (by
        have lt : 8 * L < s.1 + 8 * dgN S k := lt
        rw [eU, if_pos (by unfold bfN; omega)]) fl) (dgN S k) 0 g none none (by omega) c rfl (Mk.refl g)
    have z0 : rnV M (tG S k 0) (bfN (stU S k s).1) (dgN S k) 0 = 0 := by unfold rnV; split <;> rfl
    rw [z0] at q
    exact q
end RDS
