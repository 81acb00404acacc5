/-! the class's format holds a table -/
def mNeg (k : Int32) : Bool := decide (k = 115) || decide (k = 102) || decide (k = 100)
def bitsOf (k w : Int32) : Int32 := if k = 112 then w else 8 * w
def wLo (k w : Int32) : Int64 := if mNeg k = true then (-1 : Int64) <<< ((bitsOf k w - 1).toInt64 &&& 63) else 0
def wHi (k w : Int32) : Int64 := if mNeg k = true then wLo k w ^^^ (-1 : Int64) else ((1 : Int64) <<< ((bitsOf k w).toInt64 &&& 63)) - 1
def liLo (s x : Int32) (l : Int64) : Int64 := if s = 60 then l else if s = 62 then (if (x + 1).toInt64 < l then l else (x + 1).toInt64) else (if x.toInt64 < l then l else x.toInt64)
def liHi (s x : Int32) (l : Int64) : Int64 := if s = 62 then l else if s = 60 then (if (x - 1).toInt64 < l then (x - 1).toInt64 else l) else (if x.toInt64 < l then x.toInt64 else l)
def wdT (S : Tb) (k : Nat) : Int32 := if tG S k 0 = 102 then 4 else if tG S k 0 = 100 then 8 else if sz (tG S k 0) = true then tG S k 1 else 0
def loT (S : Tb) (k : Nat) : Int64 := if tG S k 0 = 102 then wLo 102 4 else if tG S k 0 = 100 then wLo 100 8 else if sz (tG S k 0) = true then (if tG S k 2 = 0 then wLo (tG S k 0) (tG S k 1) else liLo (tG S k 2) (tG S k 3) (wLo (tG S k 0) (tG S k 1))) else 0
def hiT (S : Tb) (k : Nat) : Int64 := if tG S k 0 = 102 then wHi 102 4 else if tG S k 0 = 100 then wHi 100 8 else if sz (tG S k 0) = true then (if tG S k 2 = 0 then wHi (tG S k 0) (tG S k 1) else liHi (tG S k 2) (tG S k 3) (wHi (tG S k 0) (tG S k 1))) else 0
/-- the reference to node k, or null -/
def rfN (b : Nat) : Nat → Nat | 0 => 0 | k + 1 => b + 2 + k
def hdR (b : Nat) : List Nat → Nat | [] => 0 | k :: _ => b + 2 + k
def laR (b : Nat) : List Nat → Nat | [] => 0 | k :: r => b + 2 + lst k r
def LkC (h : Hp) (b : Nat) : Nat → List Nat → Prop
  | _, [] => True
  | pr, k :: r => hR h (b + 2 + k) 7 = pr ∧ hR h (b + 2 + k) 8 = hdR b r ∧ LkC h b (b + 2 + k) r
def RoC (h : Hp) (b q : Nat) (ks : List Nat) : Prop := hR h (b + 2 + q) 9 = hdR b ks ∧ hR h (b + 2 + q) 10 = laR b ks ∧ LkC h b 0 ks
def kidsD (S : Tb) (O : List Nat) (q : Nat) : List Nat := (List.range S.1).filter fun k => decide (S.2.2 k = q + 1) && !O.contains k
def NdA (h : Hp) (b : Nat) (S : Tb) (k : Nat) : Prop := hI h (b + 2 + k) 0 = tG S k 0 ∧ hI h (b + 2 + k) 2 = tG S k 7 ∧ hR h (b + 2 + k) 6 = rfN b (S.2.2 k)
def NdD (h : Hp) (b : Nat) (S : Tb) (k : Nat) : Prop := hI h (b + 2 + k) 1 = wdT S k ∧ (dp (tG S k 0) = true → hI h (b + 2 + k) 4 = tG S k 4) ∧ hL h (b + 2 + k) 11 = loT S k ∧ hL h (b + 2 + k) 12 = hiT S k ∧ hL h (b + 2 + k) 14 = 0
def FigC (h : Hp) (b : Nat) (S : Tb) (E : List Nat) : Prop := ∀ k, k < S.1 → ¬ k ∈ E → ∀ q, S.2.2 k = q + 1 → tG S q 0 = 63 → hI h (b + 2 + k) 3 = tG S k 6
def ClT (h : Hp) (b : Nat) (S : Tb) (O E : List Nat) : Prop := (hI h b 1 = iv S.1 ∧ S.1 ≤ 90) ∧ (∀ k, k < S.1 → NdA h b S k) ∧ (∀ k, k < S.1 → ¬ k ∈ O → NdD h b S k) ∧ (∀ q, q < S.1 → RoC h b q (kidsD S O q)) ∧ (∀ k, k ∈ O → k < S.1 ∧ hR h (b + 2 + k) 7 = 0 ∧ hR h (b + 2 + k) 8 = 0) ∧ FigC h b S E
/-- what a pass changes: the parser's place, the format; of nodes below m no number -/
def CFr (m p b : Nat) (h h' : Hp) : Prop := (hS h' = hS h ∧ hN h' = hN h ∧ hU h' = hU h) ∧ (∀ a, ¬ a = p → ¬ (b ≤ a ∧ a < b + 92) → hI h' a = hI h a ∧ hL h' a = hL h a ∧ hR h' a = hR h a ∧ hD h' a = hD h a) ∧ (hR h' p = hR h p ∧ hR h' b = hR h b ∧ hR h' (b + 1) = hR h (b + 1)) ∧ (∀ k, k < m → k < 90 → hI h' (b + 2 + k) = hI h (b + 2 + k) ∧ hL h' (b + 2 + k) = hL h (b + 2 + k))
theorem CFr.refl (m p b : Nat) (h : Hp) : CFr m p b h h := ⟨⟨rfl, rfl, rfl⟩, fun _ _ _ => ⟨rfl, rfl, rfl, rfl⟩, ⟨rfl, rfl, rfl⟩, fun _ _ _ => ⟨rfl, rfl⟩⟩
theorem CFr.trans {m p b : Nat} {h h' h'' : Hp} (x : CFr m p b h h') (y : CFr m p b h' h'') : CFr m p b h h'' := by
  obtain ⟨⟨x1, x2, x3⟩, x5, ⟨x6, x7, x8⟩, x9⟩ := x
  obtain ⟨⟨y1, y2, y3⟩, y5, ⟨y6, y7, y8⟩, y9⟩ := y
  refine ⟨⟨y1.trans x1, y2.trans x2, y3.trans x3⟩, fun a h1 h2 => ?_, ⟨y6.trans x6, y7.trans x7, y8.trans x8⟩, fun k h1 h2 => ⟨(y9 k h1 h2).1.trans (x9 k h1 h2).1, (y9 k h1 h2).2.trans (x9 k h1 h2).2⟩⟩
  exact ⟨(y5 a h1 h2).1.trans (x5 a h1 h2).1, (y5 a h1 h2).2.1.trans (x5 a h1 h2).2.1, (y5 a h1 h2).2.2.1.trans (x5 a h1 h2).2.2.1, (y5 a h1 h2).2.2.2.trans (x5 a h1 h2).2.2.2⟩
theorem CFr.weak {m m' p b : Nat} {h h' : Hp} (x : CFr m p b h h') (hm : m' ≤ m) : CFr m' p b h h' := ⟨x.1, x.2.1, x.2.2.1, fun k h1 h2 => x.2.2.2 k (by omega) h2⟩
/-- the parser, its text, its format -/
def Pst (h : Hp) (p b i n : Nat) (t : Nat → Int32) : Prop := Prs h p b i n ∧ tx h n = t ∧ Fmt h b ∧ 13 ≤ b ∧ b + 92 ≤ 197
theorem Pst.fr {m p b i j n : Nat} {h h' : Hp} {t : Nat → Int32} (P : Pst h p b i n t) (F : CFr m p b h h') (hp : hI h' p 2 = iv j) (hj : j ≤ n) : Pst h' p b j n t := by
  obtain ⟨⟨⟨a1, a2, a3, a4⟩, a5, a6, a7⟩, e, ⟨f1, f2, f3, f4⟩, b1, b2⟩ := P
  obtain ⟨⟨x1, x2, x3⟩, x5, ⟨x6, x7, x8⟩, x9⟩ := F
  obtain ⟨c1, c2, c3, c4, c5, c6, c7, c8⟩ := a6
  have e3 := x5 3 (by omega) (by omega)
  have e4 := x5 4 (by omega) (by omega)
  refine ⟨⟨⟨by rw [x1]; exact a1, by rw [x6]; exact a2, by rw [x6]; exact a3, hp⟩, hj, ⟨by rw [x1]; exact c1, by rw [e3.2.2.1]; exact c2, by rw [x1]; exact c3, c4, by rw [e3.1]; exact c5, c6, c7, c8⟩, a7⟩, ?_, ⟨by rw [x1]; exact f1, by rw [x7]; exact f2, by rw [x1]; exact f3, fun k hk => ⟨by rw [x8]; exact (f4 k hk).1, by rw [x1]; exact (f4 k hk).2⟩⟩, b1, b2⟩
  rw [← e]; funext i; unfold tx; rw [e4.1]
theorem Pst.nd {p b i n : Nat} {h : Hp} {t : Nat → Int32} (P : Pst h p b i n t) {k : Nat} (hk : k < 90) : (hS h (b + 2 + k)).1 = 2 := (P.2.2.1.2.2.2 k hk).2
/-- a number of node k -/
theorem CFr.nI {m p b k j : Nat} {h : Hp} {v : Int32} (hk : m ≤ k) (hk9 : k < 90) (hp : 231 ≤ p) (hb : b + 92 ≤ 197) : CFr m p b h (sI h (b + 2 + k) j v) :=
  ⟨⟨rfl, rfl, rfl⟩, fun a h1 h2 => ⟨hI_ne (by omega), rfl, rfl, rfl⟩, ⟨rfl, rfl, rfl⟩, fun q h1 h2 => ⟨hI_ne (by omega), rfl⟩⟩
theorem CFr.nL {m p b k j : Nat} {h : Hp} {v : Int64} (hk : m ≤ k) (hk9 : k < 90) (hp : 231 ≤ p) (hb : b + 92 ≤ 197) : CFr m p b h (sL h (b + 2 + k) j v) :=
  ⟨⟨rfl, rfl, rfl⟩, fun a h1 h2 => ⟨rfl, hL_ne (by omega), rfl, rfl⟩, ⟨rfl, rfl, rfl⟩, fun q h1 h2 => ⟨rfl, hL_ne (by omega)⟩⟩
theorem CFr.nR {m p b k j : Nat} {h : Hp} {v : Nat} (hk9 : k < 90) (hp : 231 ≤ p) (hb : b + 92 ≤ 197) : CFr m p b h (sR h (b + 2 + k) j v) :=
  ⟨⟨rfl, rfl, rfl⟩, fun a h1 h2 => ⟨rfl, rfl, hR_ne (by omega), rfl⟩, ⟨hR_ne (by omega), hR_ne (by omega), hR_ne (by omega)⟩, fun q h1 h2 => ⟨rfl, rfl⟩⟩
theorem CFr.pl {m p b j : Nat} {h : Hp} {v : Int32} (hp : 231 ≤ p) (hb : b + 92 ≤ 197) : CFr m p b h (sI h p j v) :=
  ⟨⟨rfl, rfl, rfl⟩, fun a h1 h2 => ⟨hI_ne h1, rfl, rfl, rfl⟩, ⟨rfl, rfl, rfl⟩, fun q h1 h2 => ⟨hI_ne (by omega), rfl⟩⟩
theorem Pst.adv {p b i n j : Nat} {h : Hp} {t : Nat → Int32} (P : Pst h p b i n t) (hj : j ≤ n) : Pst (sI h p 2 (iv j)) p b j n t := P.fr (m := 0) (CFr.pl P.1.2.2.2 P.2.2.2.2) hI_s hj
theorem LkC.mono {h h' : Hp} {b : Nat} : ∀ {pr : Nat} {ks : List Nat}, LkC h b pr ks → (∀ k, k ∈ ks → hR h' (b + 2 + k) = hR h (b + 2 + k)) → LkC h' b pr ks
  | _, [], _, _ => trivial
  | pr, k :: r, L, e => ⟨by rw [e k (List.mem_cons_self ..)]; exact L.1, by rw [e k (List.mem_cons_self ..)]; exact L.2.1, LkC.mono L.2.2 fun x hx => e x (List.mem_cons_of_mem _ hx)⟩
theorem cont_f {O : List Nat} {x : Nat} : O.contains x = false ↔ ¬ x ∈ O := by simp
theorem kidsD_mem {S : Tb} {O : List Nat} {q k : Nat} : k ∈ kidsD S O q ↔ k < S.1 ∧ S.2.2 k = q + 1 ∧ ¬ k ∈ O := by
  unfold kidsD
  rw [List.mem_filter, List.mem_range, Bool.and_eq_true, decide_eq_true_iff, Bool.not_eq_true', cont_f]
/-- references as they were, and the numbers that count -/
theorem ClT.mono {h h' : Hp} {b : Nat} {S S' : Tb} {O E : List Nat} (C : ClT h b S O E) (hu : S'.1 = S.1) (hp : S'.2.2 = S.2.2) (hb : hI h' b = hI h b) (hr : ∀ k, k < 90 → hR h' (b + 2 + k) = hR h (b + 2 + k)) (hi : ∀ k, k < 90 → ∀ j, (j = 0 ∨ j = 2 ∨ j = 3) → hI h' (b + 2 + k) j = hI h (b + 2 + k) j)
    (ht : ∀ k j, (j = 0 ∨ j = 6 ∨ j = 7) → tG S' k j = tG S k j) (hd : ∀ k, k < S.1 → ¬ k ∈ O → NdD h' b S' k) : ClT h' b S' O E := by
  obtain ⟨⟨c1, c2⟩, c3, c4, c5, c6, c7⟩ := C
  have ek : ∀ q, kidsD S' O q = kidsD S O q := fun q => by unfold kidsD; rw [hu, hp]
  refine ⟨⟨by rw [hb, hu]; exact c1, by omega⟩, fun k hk => ?_, fun k hk hO => hd k (by omega) hO, fun q hq => ?_, fun k hk => ?_, fun k hk hE q e e2 => ?_⟩
  · obtain ⟨n1, n2, n3⟩ := c3 k (by omega)
    exact ⟨by rw [hi k (by omega) 0 (Or.inl rfl), ht k 0 (Or.inl rfl)]; exact n1, by rw [hi k (by omega) 2 (Or.inr (Or.inl rfl)), ht k 7 (Or.inr (Or.inr rfl))]; exact n2, by rw [hr k (by omega), hp]; exact n3⟩
  · obtain ⟨r1, r2, r3⟩ := c5 q (by omega)
    rw [ek]
    exact ⟨by rw [hr q (by omega)]; exact r1, by rw [hr q (by omega)]; exact r2, r3.mono fun k hk => hr k (by have := (kidsD_mem.mp hk).1; omega)⟩
  · obtain ⟨o1, o2, o3⟩ := c6 k hk
    exact ⟨by omega, by rw [hr k (by omega)]; exact o2, by rw [hr k (by omega)]; exact o3⟩
  · rw [hi k (by omega) 3 (Or.inr (Or.inr rfl)), ht k 6 (Or.inr (Or.inl rfl))]
    rw [hp] at e
    rw [ht q 0 (Or.inl rfl)] at e2
    exact c7 k (by omega) hE q e e2
theorem NdD.mono {h h' : Hp} {b k : Nat} {S S' : Tb} (D : NdD h b S k) (hi : ∀ j, j = 1 ∨ j = 4 → hI h' (b + 2 + k) j = hI h (b + 2 + k) j) (hl : hL h' (b + 2 + k) = hL h (b + 2 + k)) (ht : ∀ j, j < 5 → tG S' k j = tG S k j) : NdD h' b S' k := by
  obtain ⟨d1, d2, d3, d4, d5⟩ := D
  have e1 : wdT S' k = wdT S k := by unfold wdT; rw [ht 0 (by decide), ht 1 (by decide)]
  have e2 : loT S' k = loT S k := by unfold loT; rw [ht 0 (by decide), ht 1 (by decide), ht 2 (by decide), ht 3 (by decide)]
  have e3 : hiT S' k = hiT S k := by unfold hiT; rw [ht 0 (by decide), ht 1 (by decide), ht 2 (by decide), ht 3 (by decide)]
  exact ⟨by rw [hi 1 (Or.inl rfl), e1]; exact d1, fun q => by rw [hi 4 (Or.inr rfl), ht 4 (by decide)]; exact d2 (by rw [← ht 0 (by decide)]; exact q), by rw [hl, e2]; exact d3, by rw [hl, e3]; exact d4, by rw [hl]; exact d5⟩
/-- the parser's place alone -/
theorem ClT.pl {h : Hp} {b p j : Nat} {S : Tb} {O E : List Nat} {v : Int32} (C : ClT h b S O E) (hp : 231 ≤ p) (hb : b + 92 ≤ 197) : ClT (sI h p j v) b S O E :=
  C.mono rfl rfl (hI_ne (by omega)) (fun _ _ => rfl) (fun k hk j _ => by rw [hI_ne (by omega)]) (fun _ _ _ => rfl) fun k hk hO => (C.2.2.1 k hk hO).mono (fun j _ => by rw [hI_ne (by have := C.1.2; omega)]) rfl fun _ _ => rfl
/-- one more child is done -/
theorem filter_add {f f' : Nat → Bool} {n u : Nat} (hn : n < u) (h1 : ∀ k, k < n → f' k = f k) (h2 : f n = false) (h3 : f' n = true) (h4 : ∀ k, n < k → k < u → f k = false ∧ f' k = false) : (List.range u).filter f' = (List.range u).filter f ++ [n] := by
  obtain ⟨m, rfl⟩ : ∃ m, u = n + 1 + m := ⟨u - (n + 1), by omega⟩
  rw [List.range_add, List.filter_append, List.filter_append, List.range_succ, List.filter_append, List.filter_append]
  have e1 : (List.map (fun x => n + 1 + x) (List.range m)).filter f = [] := by
    rw [List.filter_eq_nil_iff]
    intro x hx
    obtain ⟨y, hy, rfl⟩ := List.mem_map.mp hx
    have := List.mem_range.mp hy
    rw [(h4 _ (by omega) (by omega)).1]; decide
  have e2 : (List.map (fun x => n + 1 + x) (List.range m)).filter f' = [] := by
    rw [List.filter_eq_nil_iff]
    intro x hx
    obtain ⟨y, hy, rfl⟩ := List.mem_map.mp hx
    have := List.mem_range.mp hy
    rw [(h4 _ (by omega) (by omega)).2]; decide
  have e3 : (List.range n).filter f' = (List.range n).filter f := List.filter_congr fun k hk => h1 k (List.mem_range.mp hk)
  have e4 : [n].filter f = [] := by rw [List.filter_cons, if_neg (by rw [h2]; decide)]; rfl
  have e5 : [n].filter f' = [n] := by rw [List.filter_cons, if_pos h3]; rfl
  rw [e1, e2, e3, e4, e5, List.append_nil, List.append_nil, List.append_nil]
theorem laR_app {b n : Nat} : ∀ {ks : List Nat}, laR b (ks ++ [n]) = b + 2 + n
  | [] => rfl
  | k :: r => by
    show b + 2 + lst k (r ++ [n]) = _
    have : ∀ (r : List Nat) (k : Nat), lst k (r ++ [n]) = n := by
      intro r
      induction r with
      | nil => intro k; rfl
      | cons x r ih => intro k; exact ih x
    rw [this]
theorem LkC.app {h h' : Hp} {b n : Nat} : ∀ {r : List Nat} {k pr : Nat}, LkC h b pr (k :: r) → (k :: r).Pairwise (· < ·) → (∀ x, x ∈ k :: r → hR h' (b + 2 + x) 7 = hR h (b + 2 + x) 7 ∧ (¬ x = lst k r → hR h' (b + 2 + x) 8 = hR h (b + 2 + x) 8)) → hR h' (b + 2 + lst k r) 8 = b + 2 + n → hR h' (b + 2 + n) 7 = b + 2 + lst k r → hR h' (b + 2 + n) 8 = 0 → LkC h' b pr ((k :: r) ++ [n])
  | [], k, pr, L, P, e, h1, h2, h3 => ⟨by rw [(e k (List.mem_cons_self ..)).1]; exact L.1, h1, h2, h3, trivial⟩
  | x :: r, k, pr, L, P, e, h1, h2, h3 => by
    have hlt : k < lst x r := (List.pairwise_cons.mp P).1 _ lst_mem
    refine ⟨by rw [(e k (List.mem_cons_self ..)).1]; exact L.1, ?_, ?_⟩
    · rw [(e k (List.mem_cons_self ..)).2 (by show ¬ k = lst x r; omega)]; exact L.2.1
    · exact LkC.app L.2.2 (List.pairwise_cons.mp P).2 (fun y hy => e y (List.mem_cons_of_mem _ hy)) h1 h2 h3
theorem kidsD_sorted (S : Tb) (O : List Nat) (p : Nat) : (kidsD S O p).Pairwise (· < ·) := List.Pairwise.filter _ List.pairwise_lt_range
section ADD
variable {d : Nat} {K : Hp → Prop}
theorem c_addPart {h : Hp} {p b i n q x : Nat} {t : Nat → Int32} {S : Tb} {O E : List Nat} (P : Pst h p b i n t) (C : ClT h b S (x :: O) E) (D : NdD h b S x) (hx : ¬ x ∈ O) (hq : S.2.2 x = q + 1) (hqx : q < x) (hlast : ∀ k, x < k → k < S.1 → ¬ S.2.2 k = q + 1)
    (k : ∀ h', Pst h' p b i n t → ClT h' b S O E → CFr S.1 p b h h' → K h') : Ca d m_No_addPart [.ref (b + 2 + q), .ref (b + 2 + x)] h (QV K) := by
  obtain ⟨⟨c1, c2⟩, c3, c4, c5, c6, c7⟩ := id C
  have xu : x < S.1 := (c6 x (List.mem_cons_self ..)).1
  have s1 := P.nd (show q < 90 by omega)
  have s2 := P.nd (show x < 90 by omega)
  have hp : 231 ≤ p := P.1.2.2.2
  have hb := P.2.2.2.2
  obtain ⟨r1, r2, r3⟩ := c5 q (by omega)
  have add : kidsD S O q = kidsD S (x :: O) q ++ [x] := by
    refine filter_add xu (fun y hy => ?_) ?_ ?_ (fun y h1 h2 => ⟨?_, ?_⟩)
    · have : (x :: O).contains y = O.contains y := by rw [List.contains_cons, beq_false_of_ne (by omega)]; rfl
      rw [this]
    · rw [show (x :: O).contains x = true by simp, hq]; simp
    · rw [show O.contains x = false from cont_f.mpr hx, hq]; simp
    · rw [decide_eq_false (hlast y h1 h2)]; rfl
    · rw [decide_eq_false (hlast y h1 h2)]; rfl
  have oth : ∀ q', ¬ q' = q → kidsD S O q' = kidsD S (x :: O) q' := by
    intro q' hne
    unfold kidsD
    refine List.filter_congr fun y hy => ?_
    by_cases e : y = x
    · rw [e, hq, decide_eq_false (by omega)]; rfl
    · have : (x :: O).contains y = O.contains y := by rw [List.contains_cons, beq_false_of_ne e]; rfl
      rw [this]
  have inU : ∀ q' k, k ∈ kidsD S (x :: O) q' → k < S.1 ∧ S.2.2 k = q' + 1 ∧ ¬ k = x := fun q' k hk => by
    obtain ⟨a, a2, a3⟩ := kidsD_mem.mp hk
    exact ⟨a, a2, fun e => a3 (by rw [e]; exact List.mem_cons_self ..)⟩
  -- the stores, told by what they leave
  have fin : ∀ h', CFr S.1 p b h h' → (hI h' = hI h ∧ hL h' = hL h) → (∀ c j, ¬ (c = b + 2 + x ∧ j = 7) → ¬ (c = b + 2 + q ∧ (j = 9 ∨ j = 10)) → ¬ (j = 8 ∧ ∃ y ys, kidsD S (x :: O) q = y :: ys ∧ c = b + 2 + lst y ys) → hR h' c j = hR h c j) → RoC h' b q (kidsD S (x :: O) q ++ [x]) → K h' := by
    rintro h' F ⟨eI, eL⟩ eR ro
    refine k h' (P.fr F (by rw [eI]; exact P.1.1.2.2.2) P.1.2.1) ⟨⟨by rw [eI]; exact c1, c2⟩, fun y hy => ?_, fun y hy hO => ?_, fun q' hq' => ?_, fun y hy => ?_, fun y hy hE q' e e2 => by rw [eI]; exact c7 y hy hE q' e e2⟩ F
    · obtain ⟨n1, n2, n3⟩ := c3 y hy
      exact ⟨by rw [eI]; exact n1, by rw [eI]; exact n2, by rw [eR _ _ (by omega) (by omega) (fun z => by omega)]; exact n3⟩
    · by_cases e : y = x
      · rw [e]; exact D.mono (fun j _ => by rw [eI]) (by rw [eL]) fun _ _ => rfl
      · exact (c4 y hy (fun z => by rcases List.mem_cons.mp z with z | z; exact e z; exact hO z)).mono (fun j _ => by rw [eI]) (by rw [eL]) fun _ _ => rfl
    · by_cases e : q' = q
      · rw [e, add]; exact ro
      · rw [oth q' e]
        obtain ⟨a1, a2, a3⟩ := c5 q' hq'
        have kk : ∀ y, y ∈ kidsD S (x :: O) q' → ∀ j, j = 7 ∨ j = 8 → hR h' (b + 2 + y) j = hR h (b + 2 + y) j := fun y hy j hj => by
          obtain ⟨y1, y2, y3⟩ := inU q' y hy
          refine eR _ _ (by omega) (by omega) ?_
          rintro ⟨-, z, zs, z1, z2⟩
          have : lst z zs ∈ kidsD S (x :: O) q := by rw [z1]; exact lst_mem
          have := (inU q _ this).2.1
          have : y = lst z zs := by omega
          rw [this] at y2
          omega
        refine ⟨by rw [eR _ _ (by omega) (by omega) (fun z => by omega)]; exact a1, by rw [eR _ _ (by omega) (by omega) (fun z => by omega)]; exact a2, ?_⟩
        have : ∀ {pr : Nat} {ks : List Nat}, LkC h b pr ks → (∀ y, y ∈ ks → ∀ j, j = 7 ∨ j = 8 → hR h' (b + 2 + y) j = hR h (b + 2 + y) j) → LkC h' b pr ks := by
          intro pr ks
          induction ks generalizing pr with
          | nil => intro _ _; trivial
          | cons z zs ih => exact fun L e => ⟨by rw [e z (List.mem_cons_self ..) 7 (Or.inl rfl)]; exact L.1, by rw [e z (List.mem_cons_self ..) 8 (Or.inr rfl)]; exact L.2.1, ih L.2.2 fun y hy => e y (List.mem_cons_of_mem _ hy)⟩
        exact this a3 kk
    · obtain ⟨o1, o2, o3⟩ := c6 y (List.mem_cons_of_mem _ hy)
      have ne : ¬ y = x := fun e => hx (by rw [← e]; exact hy)
      refine ⟨o1, ?_, ?_⟩
      · rw [eR _ _ (by omega) (by omega) (fun z => by omega)]; exact o2
      · rw [eR _ _ (by omega) (by omega) ?_]; exact o3
        rintro ⟨-, z, zs, z1, z2⟩
        have : lst z zs ∈ kidsD S (x :: O) q := by rw [z1]; exact lst_mem
        have h3 := (kidsD_mem.mp this).2.2
        have : y = lst z zs := by omega
        exact h3 (by rw [← this]; exact List.mem_cons_of_mem _ hy)
  refine w_No_addPart ⟨s1, s2, ?_⟩
  rintro _ rfl
  rw [hR_o (by omega)]
  obtain ⟨-, x7, x8⟩ := c6 x (List.mem_cons_self ..)
  cases e : kidsD S (x :: O) q with
  | nil =>
    rw [e] at r2 fin
    have r2 : hR h (b + 2 + q) 10 = 0 := r2
    rw [r2, if_pos rfl]
    rintro _ rfl _ rfl
    refine fin _ (((CFr.nR (by omega) hp hb).trans (CFr.nR (by omega) hp hb)).trans (CFr.nR (by omega) hp hb)) ⟨rfl, rfl⟩ (fun c j z1 z2 z3 => by rw [hR_o (by omega), hR_o (by omega), hR_o (by omega)]) ⟨?_, ?_, ?_, ?_, trivial⟩
    · rw [hR_o (by omega)]; exact hR_s
    · exact hR_s
    · rw [hR_o (by omega), hR_o (by omega)]; exact hR_s
    · rw [hR_o (by omega), hR_o (by omega), hR_o (by omega)]; exact x8
  | cons y ys =>
    rw [e] at r1 r2 r3 fin
    have ly : lst y ys ∈ kidsD S (x :: O) q := by rw [e]; exact lst_mem
    obtain ⟨l1, l2, l3⟩ := inU q _ ly
    have r2 : hR h (b + 2 + q) 10 = b + 2 + lst y ys := r2
    rw [r2, if_neg (by omega)]
    refine ⟨P.nd (by omega), ?_⟩
    rintro _ rfl _ rfl
    have srt := kidsD_sorted S (x :: O) q
    rw [e] at srt
    refine fin _ (((CFr.nR (by omega) hp hb).trans (CFr.nR (by omega) hp hb)).trans (CFr.nR (by omega) hp hb)) ⟨rfl, rfl⟩ (fun c j z1 z2 z3 => ?_) ⟨?_, ?_, ?_⟩
    · rw [hR_o (by omega), hR_o (fun z => z3 ⟨z.2, y, ys, rfl, z.1⟩), hR_o (by omega)]
    · rw [hR_o (by omega), hR_o (by omega), hR_o (by omega)]; exact r1
    · rw [hR_s, laR_app]
    · refine r3.app srt (fun z hz => ⟨?_, fun hl => ?_⟩) ?_ ?_ ?_
      · have := (inU q z (by rw [e]; exact hz)).2.2
        rw [hR_o (by omega), hR_o (by omega), hR_o (by omega)]
      · rw [hR_o (by omega), hR_o (by omega), hR_o (by omega)]
      · rw [hR_o (by omega)]; exact hR_s
      · rw [hR_o (by omega), hR_o (by omega)]; exact hR_s
      · rw [hR_o (by omega), hR_o (by omega), hR_o (by omega)]; exact x8
end ADD
