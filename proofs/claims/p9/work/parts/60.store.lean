/-! THE STORES: sets of triples, and arrays that hold them (no machine in it) -/
abbrev T3 : Type := Int64 × Int64 × Int64
/-- the first n of f are the set S, each once -/
def Rep (f : Nat → T3) (n : Nat) (S : T3 → Prop) : Prop := (∀ t, S t ↔ ∃ i, i < n ∧ f i = t) ∧ ∀ i j, i < n → j < n → f i = f j → i = j
theorem inj_le : ∀ (n : Nat) (f : Nat → T3) (k : Nat) (g : Nat → T3), (∀ i j, i < n → j < n → f i = f j → i = j) → (∀ i, i < n → ∃ j, j < k ∧ g j = f i) → n ≤ k
  | 0, _, _, _, _, _ => Nat.zero_le _
  | n + 1, f, k, g, hf, hg => by
    obtain ⟨j, hj, ej⟩ := hg n (Nat.lt_succ_self n)
    have h := inj_le n f (k - 1) (fun x => if x = j then g (k - 1) else g x) (fun i i2 h1 h2 e => hf i i2 (by omega) (by omega) e) (fun i hi => by
      obtain ⟨j2, hj2, e2⟩ := hg i (by omega)
      have hne : j2 ≠ j := by
        rintro rfl
        have := hf i n (by omega) (by omega) (e2.symm.trans ej)
        omega
      by_cases h9 : j2 = k - 1
      · refine ⟨j, by omega, ?_⟩
        show (if j = j then g (k - 1) else g j) = f i
        rw [if_pos rfl, ← h9]
        exact e2
      · refine ⟨j2, by omega, ?_⟩
        show (if j2 = j then g (k - 1) else g j2) = f i
        rw [if_neg hne]
        exact e2)
    omega
theorem Rep.le {f g : Nat → T3} {n k : Nat} {S : T3 → Prop} (h1 : Rep f n S) (h2 : Rep g k S) : n ≤ k :=
  inj_le n f k g h1.2 (fun i hi => (h2.1 (f i)).mp ((h1.1 (f i)).mpr ⟨i, hi, rfl⟩))
theorem Rep.card {f g : Nat → T3} {n k : Nat} {S : T3 → Prop} (h1 : Rep f n S) (h2 : Rep g k S) : n = k := Nat.le_antisymm (h1.le h2) (h2.le h1)
theorem Rep.congr {f g : Nat → T3} {n : Nat} {S : T3 → Prop} (h : Rep f n S) (e : ∀ i, i < n → g i = f i) : Rep g n S :=
  ⟨fun t => (h.1 t).trans ⟨fun ⟨i, hi, q⟩ => ⟨i, hi, (e i hi).trans q⟩, fun ⟨i, hi, q⟩ => ⟨i, hi, (e i hi).symm.trans q⟩⟩, fun i j hi hj q => h.2 i j hi hj ((e i hi).symm.trans (q.trans (e j hj)))⟩
theorem Rep.set {f : Nat → T3} {n : Nat} {S S2 : T3 → Prop} (h : Rep f n S) (e : ∀ t, S2 t ↔ S t) : Rep f n S2 := ⟨fun t => (e t).trans (h.1 t), h.2⟩
theorem Rep.nil (f : Nat → T3) : Rep f 0 (fun _ => False) := ⟨fun _ => ⟨False.elim, fun ⟨_, h, _⟩ => absurd h (Nat.not_lt_zero _)⟩, fun _ _ h => absurd h (Nat.not_lt_zero _)⟩
/-- one more -/
theorem Rep.put {f g : Nat → T3} {n : Nat} {S : T3 → Prop} {t : T3} (h : Rep f n S) (ht : ¬ S t) (e : ∀ i, i < n → g i = f i) (en : g n = t) : Rep g (n + 1) (fun x => S x ∨ x = t) := by
  refine ⟨fun x => ⟨?_, ?_⟩, fun i j hi hj q => ?_⟩
  · rintro (hx | rfl)
    · obtain ⟨i, hi, q⟩ := (h.1 x).mp hx
      exact ⟨i, by omega, (e i hi).trans q⟩
    · exact ⟨n, by omega, en⟩
  · rintro ⟨i, hi, rfl⟩
    by_cases h9 : i < n
    · exact Or.inl ((h.1 _).mpr ⟨i, h9, (e i h9).symm⟩)
    · have : i = n := by omega
      subst this
      exact Or.inr en
  · have no : ∀ a b, a < n → b = n → g a = g b → False := fun a b ha hb q9 => ht ((h.1 t).mpr ⟨a, ha, by rw [← e a ha, q9, hb, en]⟩)
    by_cases hi9 : i < n <;> by_cases hj9 : j < n
    · exact h.2 i j hi9 hj9 (by rw [← e i hi9, ← e j hj9]; exact q)
    · exact (no i j hi9 (by omega) q).elim
    · exact (no j i hj9 (by omega) q.symm).elim
    · omega
/-- one less: the last takes its place -/
theorem Rep.cut {f g : Nat → T3} {n k : Nat} {S : T3 → Prop} {t : T3} (h : Rep f n S) (hk : k < n) (ek : f k = t) (e : ∀ i, i < n - 1 → g i = if i = k then f (n - 1) else f i) : Rep g (n - 1) (fun x => S x ∧ x ≠ t) := by
  refine ⟨fun x => ⟨?_, ?_⟩, fun i j hi hj q => ?_⟩
  · rintro ⟨hx, hne⟩
    obtain ⟨i, hi, rfl⟩ := (h.1 x).mp hx
    have hik : i ≠ k := fun q => hne (by rw [q]; exact ek)
    by_cases h9 : i = n - 1
    · refine ⟨k, by omega, ?_⟩
      rw [e k (by omega), if_pos rfl, h9]
    · refine ⟨i, by omega, ?_⟩
      rw [e i (by omega), if_neg hik]
  · rintro ⟨i, hi, rfl⟩
    rw [e i hi]
    by_cases h9 : i = k
    · rw [if_pos h9]
      exact ⟨(h.1 _).mpr ⟨n - 1, by omega, rfl⟩, fun q => by
        have := h.2 (n - 1) k (by omega) hk (q.trans ek.symm)
        omega⟩
    · rw [if_neg h9]
      exact ⟨(h.1 _).mpr ⟨i, by omega, rfl⟩, fun q => h9 (h.2 i k (by omega) hk (q.trans ek.symm))⟩
  · rw [e i hi, e j hj] at q
    by_cases h1 : i = k <;> by_cases h2 : j = k
    · omega
    · rw [if_pos h1, if_neg h2] at q
      have := h.2 _ _ (by omega) (by omega) q
      omega
    · rw [if_neg h1, if_pos h2] at q
      have := h.2 _ _ (by omega) (by omega) q
      omega
    · rw [if_neg h1, if_neg h2] at q
      exact h.2 _ _ (by omega) (by omega) q
/-! the log's sets -/
def logS (ins : Nat → Bool) (lt : Nat → T3) : Nat → T3 → Prop
  | 0, _ => False
  | j + 1, t => bif ins j then logS ins lt j t ∨ t = lt j else logS ins lt j t ∧ t ≠ lt j
/-- each change of the log is one: what it puts was not there, what it takes was -/
def logV (ins : Nat → Bool) (lt : Nat → T3) (j : Nat) : Prop := bif ins j then ¬ logS ins lt j (lt j) else logS ins lt j (lt j)
theorem logS_congr {ins ins2 : Nat → Bool} {lt lt2 : Nat → T3} : ∀ n, (∀ j, j < n → ins2 j = ins j ∧ lt2 j = lt j) → ∀ t, logS ins2 lt2 n t ↔ logS ins lt n t
  | 0, _, _ => Iff.rfl
  | n + 1, h, t => by
    have ih := logS_congr n (fun j hj => h j (by omega))
    unfold logS
    rw [(h n (by omega)).1, (h n (by omega)).2]
    cases ins n
    · show _ ∧ _ ↔ _ ∧ _
      rw [ih t]
    · show _ ∨ _ ↔ _ ∨ _
      rw [ih t]
theorem logV_congr {ins ins2 : Nat → Bool} {lt lt2 : Nat → T3} {n : Nat} (h : ∀ j, j < n + 1 → ins2 j = ins j ∧ lt2 j = lt j) (q : logV ins lt n) : logV ins2 lt2 n := by
  have c := logS_congr n (fun j hj => h j (by omega)) (lt n)
  unfold logV at q ⊢
  rw [(h n (by omega)).1, (h n (by omega)).2]
  cases hi : ins n <;> rw [hi] at q
  · exact c.mpr q
  · exact fun z => q (c.mp z)
/-- taking the last change back -/
theorem log_undo {ins : Nat → Bool} {lt : Nat → T3} {n : Nat} (h : logV ins lt n) (t : T3) : logS ins lt n t ↔ (bif ins n then logS ins lt (n + 1) t ∧ t ≠ lt n else logS ins lt (n + 1) t ∨ t = lt n) := by
  unfold logV at h
  have e : logS ins lt (n + 1) t = (bif ins n then logS ins lt n t ∨ t = lt n else logS ins lt n t ∧ t ≠ lt n) := rfl
  rw [e]
  cases hi : ins n <;> rw [hi] at h
  · show _ ↔ (_ ∧ _) ∨ _
    by_cases q : t = lt n
    · exact ⟨fun _ => Or.inr q, fun _ => by rw [q]; exact h⟩
    · exact ⟨fun z => Or.inl ⟨z, q⟩, fun z => z.elim (fun w => w.1) (fun w => absurd w q)⟩
  · show _ ↔ (_ ∨ _) ∧ _
    by_cases q : t = lt n
    · exact ⟨fun z => absurd (by rw [← q]; exact z) h, fun z => absurd q z.2⟩
    · exact ⟨fun z => ⟨Or.inl z, q⟩, fun z => z.1.elim (fun w => w) (fun w => absurd w q)⟩
/-! HELD TERMS: two terms that are held alike are the same -/
theorem un_inj {x y : Int64} (h : un x = un y) : x = y := Int64.toBitVec.inj (BitVec.eq_of_toNat_eq h)
theorem un_lt (x : Int64) : un x < 2 ^ 64 := x.toBitVec.isLt
theorem un_s8b (x : Int64) : un (s8 x) = un x * 256 % 2 ^ 64 := by
  have e : ((8 : Int32).toInt64 &&& 63) = 8 := by decide
  unfold s8 un
  rw [e, Int64.toBitVec_shiftLeft]
  have e2 : (BitVec.smod (Int64.toBitVec 8) 64) = 8#64 := by decide
  rw [e2]
  show (x.toBitVec <<< (8 : Nat)).toNat = _
  rw [BitVec.toNat_shiftLeft, Nat.shiftLeft_eq]
theorem un_u56 (x : Int64) : un (u56 x) = un x / 2 ^ 56 := by
  have e : ((56 : Int32).toInt64.toUInt64 &&& Int64.toUInt64 63) = 56 := by decide
  unfold u56 un
  rw [e]
  show (x.toUInt64 >>> (56:UInt64)).toNat = _
  rw [UInt64.toNat_shiftRight]
  show x.toBitVec.toNat >>> (56 % 64) = _
  rw [Nat.shiftRight_eq_div_pow]
theorem u56_0 (x : Int64) : u56 x = 0 ↔ un x < 2 ^ 56 := by
  constructor
  · intro h
    have h2 := un_u56 x
    rw [h] at h2
    have h3 : un 0 = 0 := by decide
    rw [h3] at h2
    have := un_lt x
    omega
  · intro h
    apply un_inj
    rw [un_u56]
    have h3 : un 0 = 0 := by decide
    rw [h3]
    omega
theorem hR_un : ∀ r x, ∃ j, j ≤ r ∧ un (hR r x) = un x * 256 ^ j ∧ (j < r → 2 ^ 56 ≤ un (hR r x))
  | 0, x => ⟨0, Nat.le_refl _, by rw [hR, Nat.pow_zero, Nat.mul_one], fun h => absurd h (Nat.not_lt_zero _)⟩
  | r + 1, x => by
    unfold hR
    split
    · next h =>
      have h9 := (u56_0 x).mp h
      obtain ⟨j, h1, h2, h3⟩ := hR_un r (s8 x)
      have e : un (s8 x) = un x * 256 := by rw [un_s8b]; exact Nat.mod_eq_of_lt (by omega)
      refine ⟨j + 1, by omega, ?_, fun h => h3 (by omega)⟩
      rw [h2, e, Nat.pow_succ, Nat.mul_assoc, Nat.mul_comm 256]
    · next h =>
      refine ⟨0, Nat.zero_le _, by rw [Nat.pow_zero, Nat.mul_one], fun _ => ?_⟩
      exact Nat.le_of_not_lt (fun q => h ((u56_0 x).mpr q))
/-- what a word is -/
theorem tW_un {x : Int64} (h : tW x = true) : 0 < x ∧ 97 ≤ un x % 256 := by
  constructor
  · have h2 := tW_rW x
    rw [h] at h2
    unfold rW at h2
    by_cases q : 0 < x
    · exact q
    · rw [if_neg q] at h2
      cases h2
  · have e : tL (((x &&& 255) : Int64).toInt32) = lt_ (un x % 256) := tL_n (c255 x) (by omega)
    cases q : lt_ (un x % 256)
    · rw [q] at e
      unfold tW tR at h
      rw [e] at h
      simp at h
    · unfold lt_ at q
      simp at q
      omega
theorem hD_w {x : Int64} (h : tW x = true) : ∃ j, un (hD x) = un x * 256 ^ j ∧ 2 ^ 56 ≤ un (hD x) := by
  obtain ⟨h1, h2⟩ := tW_un h
  obtain ⟨j, a1, a2, a3⟩ := hR_un 7 x
  have e : hD x = hR 7 x := by
    unfold hD
    rw [if_pos (Int64.le_of_lt h1)]
  rw [e]
  refine ⟨j, a2, ?_⟩
  by_cases q : j < 7
  · exact a3 q
  · have : j = 7 := by omega
    subst this
    rw [a2]
    have : 1 ≤ un x := by omega
    have e7 : 256 ^ 7 = 2 ^ 56 := by decide
    rw [e7]
    omega
theorem tN_i {x : Int64} (h : tN x = true) : x.toInt < 0 ∧ -10000 ≤ x.toInt := by
  unfold tN at h
  by_cases q : 0 ≤ x
  · rw [if_pos q] at h
    cases h
  · rw [if_neg q] at h
    by_cases q2 : x < -10000
    · rw [if_pos q2] at h
      cases h
    · rw [Int64.le_iff_toInt_le] at q
      rw [Int64.lt_iff_toInt_lt] at q2
      have e0 : (0 : Int64).toInt = 0 := by decide
      have e1 : (-10000 : Int64).toInt = -10000 := by decide
      rw [e0] at q
      rw [e1] at q2
      omega
theorem hD_n {x : Int64} (h : tN x = true) : hD x = -x ∧ un (hD x) ≤ 10000 := by
  obtain ⟨h1, h2⟩ := tN_i h
  have e : hD x = -x := by
    unfold hD
    rw [if_neg]
    rw [Int64.le_iff_toInt_le]
    have e0 : (0 : Int64).toInt = 0 := by decide
    rw [e0]
    omega
  refine ⟨e, ?_⟩
  rw [e]
  have e2 : (-x).toInt = -x.toInt := by
    rw [Int64.toInt_neg]
    exact Int.bmod_eq_of_le (by omega) (by omega)
  have e3 : (-x).toBitVec.toInt = -x.toInt := e2
  unfold un
  have := BitVec.toInt_eq_toNat_bmod (-x).toBitVec
  rw [e3] at this
  have l := (-x).toBitVec.isLt
  rw [BitVec.toInt_eq_toNat_cond] at e3
  split at e3 <;> omega
theorem pow_inj {a b j k : Nat} (ha : a % 256 ≠ 0) (hb : b % 256 ≠ 0) (h : a * 256 ^ j = b * 256 ^ k) : a = b := by
  have key : ∀ {a b j d : Nat}, a % 256 ≠ 0 → a * 256 ^ j = b * 256 ^ (j + (d + 1)) → False := by
    intro a b j d ha h
    rw [Nat.pow_add, Nat.mul_comm (256 ^ j), ← Nat.mul_assoc] at h
    have h2 := Nat.eq_of_mul_eq_mul_right (Nat.pow_pos (by decide)) h
    apply ha
    rw [h2, Nat.pow_succ, ← Nat.mul_assoc]
    exact Nat.mul_mod_left _ _
  rcases Nat.lt_trichotomy j k with q | q | q
  · obtain ⟨d, rfl⟩ : ∃ d, k = j + (d + 1) := ⟨k - j - 1, by omega⟩
    exact (key ha h).elim
  · subst q
    exact Nat.eq_of_mul_eq_mul_right (Nat.pow_pos (by decide)) h
  · obtain ⟨d, rfl⟩ : ∃ d, j = k + (d + 1) := ⟨j - k - 1, by omega⟩
    exact (key hb h.symm).elim
/-- a term: a word or a number -/
def isT (x : Int64) : Prop := tW x = true ∨ tN x = true
theorem hD_inj {x y : Int64} (hx : isT x) (hy : isT y) (h : hD x = hD y) : x = y := by
  rcases hx with hx | hx <;> rcases hy with hy | hy
  · obtain ⟨j, a1, -⟩ := hD_w hx
    obtain ⟨k, b1, -⟩ := hD_w hy
    have a2 := (tW_un hx).2
    have b2 := (tW_un hy).2
    rw [h] at a1
    exact un_inj (pow_inj (by omega) (by omega) (a1.symm.trans b1))
  · obtain ⟨j, -, a1⟩ := hD_w hx
    obtain ⟨-, b1⟩ := hD_n hy
    rw [h] at a1
    omega
  · obtain ⟨j, -, a1⟩ := hD_w hy
    obtain ⟨-, b1⟩ := hD_n hx
    rw [← h] at a1
    omega
  · obtain ⟨a1, -⟩ := hD_n hx
    obtain ⟨b1, -⟩ := hD_n hy
    rw [a1, b1] at h
    have h2 := congrArg (fun z : Int64 => -z) h
    simpa using h2
def H3 (t : T3) : T3 := (hD t.1, hD t.2.1, hD t.2.2)
/-- a triple of terms -/
def okT (t : T3) : Prop := tT t.1 t.2.1 t.2.2 = true
theorem okT_is {t : T3} (h : okT t) : isT t.1 ∧ isT t.2.1 ∧ isT t.2.2 := by
  unfold okT tT at h
  by_cases q1 : tW t.1 = false
  · rw [if_pos q1] at h
    cases h
  rw [if_neg q1] at h
  by_cases q2 : tW t.2.1 = false
  · rw [if_pos q2] at h
    cases h
  rw [if_neg q2] at h
  refine ⟨Or.inl (by simpa using q1), Or.inl (by simpa using q2), ?_⟩
  by_cases q3 : tW t.2.2 = true
  · exact Or.inl q3
  · rw [if_neg q3] at h
    exact Or.inr h
theorem H3_inj {t u : T3} (ht : okT t) (hu : okT u) (h : H3 t = H3 u) : t = u := by
  obtain ⟨a1, a2, a3⟩ := okT_is ht
  obtain ⟨b1, b2, b3⟩ := okT_is hu
  obtain ⟨t1, t2, t3⟩ := t
  obtain ⟨u1, u2, u3⟩ := u
  have e1 : hD t1 = hD u1 := congrArg (fun z : T3 => z.1) h
  have e2 : hD t2 = hD u2 := congrArg (fun z : T3 => z.2.1) h
  have e3 : hD t3 = hD u3 := congrArg (fun z : T3 => z.2.2) h
  have f1 : t1 = u1 := hD_inj a1 b1 e1
  have f2 : t2 = u2 := hD_inj a2 b2 e2
  have f3 : t3 = u3 := hD_inj a3 b3 e3
  rw [f1, f2, f3]
/-! THE STORES OF CLASS AND REFERENCE -/
def fc (c : CS) (i : Nat) : T3 := (c.ta i, c.tb i, c.tc i)
def gl (c : CS) (i : Nat) : T3 := (c.ga i, c.gb i, c.gc i)
def f3 (f : Nat → Int64) (i : Nat) : T3 := (f (3 * i), f (3 * i + 1), f (3 * i + 2))
abbrev Sc (c : CS) (j : Nat) : T3 → Prop := logS c.si (gl c) j
def xs_ (c : CS) (j : Nat) : Nat := (c.sx j).toNatClampNeg
theorem p3 {a b c x y z : Int64} : ((a, b, c) : T3) = (x, y, z) ↔ a = x ∧ b = y ∧ c = z := by
  constructor
  · intro h
    exact ⟨congrArg (fun t : T3 => t.1) h, congrArg (fun t : T3 => t.2.1) h, congrArg (fun t : T3 => t.2.2) h⟩
  · rintro ⟨rfl, rfl, rfl⟩
    rfl
/-! finding -/
theorem tfd_some (f g h : Nat → Int64) (s p q : Int64) : ∀ r i j, tfd f g h s p q r i = some j → i ≤ j ∧ j < i + r ∧ (f j, g j, h j) = ((s, p, q) : T3)
  | 0, _, _, e => (nomatch e)
  | r + 1, i, j, e => by
    unfold tfd at e
    split at e
    · next h =>
      cases e
      exact ⟨Nat.le_refl _, by omega, p3.mpr h⟩
    · obtain ⟨a1, a2, a3⟩ := tfd_some f g h s p q r (i + 1) j e
      exact ⟨by omega, by omega, a3⟩
theorem tfd_none (f g h : Nat → Int64) (s p q : Int64) : ∀ r i, tfd f g h s p q r i = none → ∀ j, i ≤ j → j < i + r → (f j, g j, h j) ≠ ((s, p, q) : T3)
  | 0, _, _, j, h1, h2 => by omega
  | r + 1, i, e, j, h1, h2 => by
    unfold tfd at e
    split at e
    · cases e
    · next h9 =>
      by_cases q9 : j = i
      · subst q9
        exact fun z => h9 (p3.mp z)
      · exact tfd_none f g h s p q r (i + 1) e j (by omega) (by omega)
theorem fnd_some {c : CS} {s p q : Int64} {j : Nat} (h : c.fnd s p q = some j) : j < c.tn ∧ fc c j = (s, p, q) := by
  obtain ⟨-, h2, h3⟩ := tfd_some _ _ _ _ _ _ _ _ _ h
  exact ⟨by omega, h3⟩
theorem fnd_none {c : CS} {s p q : Int64} (h : c.fnd s p q = none) : ∀ j, j < c.tn → fc c j ≠ (s, p, q) := fun j hj => tfd_none _ _ _ _ _ _ _ _ h j (Nat.zero_le _) (by omega)
theorem fnd_iff {c : CS} {S : T3 → Prop} (hr : Rep (fc c) c.tn S) (s p q : Int64) : (c.fnd s p q).isSome = true ↔ S (s, p, q) := by
  cases h : c.fnd s p q with
  | none =>
    constructor
    · intro z
      cases z
    · intro z
      obtain ⟨i, hi, e⟩ := (hr.1 _).mp z
      exact absurd e (fnd_none h i hi)
  | some j =>
    obtain ⟨h1, h2⟩ := fnd_some h
    exact ⟨fun _ => (hr.1 _).mpr ⟨j, h1, h2⟩, fun _ => rfl⟩
theorem fd3_spec (f : Nat → Int64) (s p q : Int64) : ∀ r i, i ≤ fd3 f s p q r i ∧ (fd3 f s p q r i < i + r → f3 f (fd3 f s p q r i) = (s, p, q)) ∧ (¬ fd3 f s p q r i < i + r → ∀ j, i ≤ j → j < i + r → f3 f j ≠ (s, p, q))
  | 0, i => ⟨Nat.le_refl _, fun h => absurd h (by show ¬ i < i + 0; omega), fun _ j h1 h2 => by omega⟩
  | r + 1, i => by
    unfold fd3
    split
    · next h =>
      exact ⟨Nat.le_refl _, fun _ => p3.mpr h, fun z => absurd (by omega) z⟩
    · next h =>
      obtain ⟨a1, a2, a3⟩ := fd3_spec f s p q r (i + 1)
      refine ⟨by omega, fun z => a2 (by omega), fun z j h1 h2 => ?_⟩
      by_cases q9 : j = i
      · subst q9
        exact fun w => h (p3.mp w)
      · exact a3 (by omega) j (by omega) (by omega)
theorem fd3_iff {f : Nat → Int64} {n : Nat} {S : T3 → Prop} (hr : Rep (fun i => H3 (f3 f i)) n S) (hok : ∀ i, i < n → okT (f3 f i)) {s p q : Int64} (ht : okT (s, p, q)) : fd3 f s p q n 0 < n ↔ S (H3 (s, p, q)) := by
  obtain ⟨-, a2, a3⟩ := fd3_spec f s p q n 0
  rw [Nat.zero_add] at a2 a3
  constructor
  · intro h
    exact (hr.1 _).mpr ⟨_, h, by show H3 (f3 f _) = _; rw [a2 h]⟩
  · intro h
    obtain ⟨i, hi, e⟩ := (hr.1 _).mp h
    apply Classical.byContradiction
    intro z
    exact a3 z i (Nat.zero_le _) hi (H3_inj (hok i hi) ht e)
/-! arrays of triples, written -/
theorem f3_up3 (f : Nat → Int64) (n : Nat) (s p q : Int64) (i : Nat) : f3 (up3 f n s p q) i = if i = n then (s, p, q) else f3 f i := by
  unfold f3 up3 vp_updL
  by_cases h : i = n
  · subst h
    simp
  · rw [if_neg h]
    have e1 : ¬ 3 * i = 3 * n + 2 := by omega
    have e2 : ¬ 3 * i = 3 * n + 1 := by omega
    have e3 : ¬ 3 * i = 3 * n := by omega
    have e4 : ¬ 3 * i + 1 = 3 * n + 2 := by omega
    have e5 : ¬ 3 * i + 1 = 3 * n + 1 := by omega
    have e6 : ¬ 3 * i + 1 = 3 * n := by omega
    have e7 : ¬ 3 * i + 2 = 3 * n + 2 := by omega
    have e8 : ¬ 3 * i + 2 = 3 * n + 1 := by omega
    have e9 : ¬ 3 * i + 2 = 3 * n := by omega
    simp only [e1, e2, e3, e4, e5, e6, e7, e8, e9, if_false]
theorem f3_mv3 (f : Nat → Int64) (i j : Nat) (k : Nat) : f3 (mv3 f i j 3) k = if k = i then f3 f j else f3 f k := by
  have go : ∀ (a x : Nat), mv3 f i j 3 a = if a = 3 * i then f (3 * j) else if a = 3 * i + 1 then f (3 * j + 1) else if a = 3 * i + 2 then f (3 * j + 2) else f a := by
    intro a x
    simp only [mv3, vp_updL, Nat.add_zero]
    have h1 : ¬ 3 * j + 2 = 3 * i + 1 := by omega
    have h2 : ¬ 3 * j + 2 = 3 * i := by omega
    have h3 : ¬ 3 * j + 1 = 3 * i := by omega
    simp only [h1, h2, h3, if_false]
    by_cases a1 : a = 3 * i
    · have a2 : ¬ a = 3 * i + 1 := by omega
      have a3 : ¬ a = 3 * i + 2 := by omega
      simp only [a2, a3, if_false]
    · by_cases a2 : a = 3 * i + 1
      · have a3 : ¬ a = 3 * i + 2 := by omega
        simp only [a1, a3, if_false]
      · simp only [a1, a2, if_false]
  by_cases h : k = i
  · rw [if_pos h]
    subst h
    refine p3.mpr ⟨?_, ?_, ?_⟩
    · rw [go _ 0, if_pos rfl]
    · rw [go _ 0, if_neg (by omega), if_pos rfl]
    · rw [go _ 0, if_neg (by omega), if_neg (by omega), if_pos rfl]
  · rw [if_neg h]
    refine p3.mpr ⟨?_, ?_, ?_⟩
    all_goals rw [go _ 0, if_neg (by omega), if_neg (by omega), if_neg (by omega)]
/-! ONE CHANGE OF A SET, and both stores' ways of making it -/
def apS (b : Bool) (h : T3) (S : T3 → Prop) : T3 → Prop := fun x => bif b then S x ∨ x = h else S x ∧ x ≠ h
def avl (b : Bool) (h : T3) (S : T3 → Prop) : Prop := bif b then ¬ S h else S h
def C48 (S : T3 → Prop) : Prop := ∃ f k, k ≤ 48 ∧ Rep f k S
theorem C48.of {S S2 : T3 → Prop} (h : C48 S) (e : ∀ t, S2 t ↔ S t) : C48 S2 := by
  obtain ⟨f, k, h1, h2⟩ := h
  exact ⟨f, k, h1, h2.set e⟩
theorem C48.le {S : T3 → Prop} (h : C48 S) {f : Nat → T3} {n : Nat} (hr : Rep f n S) : n ≤ 48 := by
  obtain ⟨g, k, h1, h2⟩ := h
  exact Nat.le_trans (hr.le h2) h1
theorem apS_un {b : Bool} {h : T3} {S : T3 → Prop} (hv : avl b h S) (t : T3) : S t ↔ apS (!b) h (apS b h S) t := by
  cases b
  · show S t ↔ (S t ∧ t ≠ h) ∨ t = h
    by_cases q : t = h
    · exact ⟨fun _ => Or.inr q, fun _ => by rw [q]; exact hv⟩
    · exact ⟨fun z => Or.inl ⟨z, q⟩, fun z => z.elim (fun w => w.1) (fun w => absurd w q)⟩
  · show S t ↔ (S t ∨ t = h) ∧ t ≠ h
    by_cases q : t = h
    · exact ⟨fun z => absurd (by rw [← q]; exact z) hv, fun z => absurd q z.2⟩
    · exact ⟨fun z => ⟨Or.inl z, q⟩, fun z => z.1.elim (fun w => w) (fun w => absurd w q)⟩
theorem avl_un {b : Bool} {h : T3} {S : T3 → Prop} : avl (!b) h (apS b h S) := by
  cases b
  · exact fun z => z.2 rfl
  · exact Or.inr rfl
/-- the reference's triples are the set S -/
def MR (m : MS) (S : T3 → Prop) : Prop := Rep (fun i => H3 (f3 m.tr i)) m.nt S ∧ (∀ i, i < m.nt → okT (f3 m.tr i)) ∧ m.nt ≤ 48
theorem MR.set {m : MS} {S S2 : T3 → Prop} (h : MR m S) (e : ∀ t, S2 t ↔ S t) : MR m S2 := ⟨h.1.set e, h.2⟩
theorem mr_app {m : MS} {S : T3 → Prop} {b : Bool} {s p q : Int64} (h : MR m S) (ht : okT (s, p, q)) (hv : avl b (H3 (s, p, q)) S) (hc : C48 (apS b (H3 (s, p, q)) S)) : m.ok_app b s p q ∧ MR (m.d_app b s p q) (apS b (H3 (s, p, q)) S) := by
  obtain ⟨h1, h2, h3⟩ := h
  have hf := fd3_iff h1 h2 ht
  cases b
  · have hi : fd3 m.tr s p q m.nt 0 < m.nt := hf.mpr hv
    obtain ⟨-, a2, -⟩ := fd3_spec m.tr s p q m.nt 0
    rw [Nat.zero_add] at a2
    have a3 := a2 hi
    have key : Rep (fun i => H3 (f3 (mv3 m.tr (fd3 m.tr s p q m.nt 0) (m.nt - 1) 3) i)) (m.nt - 1) (fun x => S x ∧ x ≠ H3 (s, p, q)) := by
      refine h1.cut hi (by show H3 (f3 m.tr _) = _; rw [a3]) (fun i hi2 => ?_)
      show H3 (f3 _ i) = _
      rw [f3_mv3]
      split <;> rfl
    refine ⟨⟨h3, hi⟩, key, fun i hi2 => ?_, ?_⟩
    · have hi3 : i < m.nt - 1 := hi2
      show okT (f3 (mv3 m.tr _ _ 3) i)
      rw [f3_mv3]
      split
      · exact h2 _ (by omega)
      · exact h2 _ (by omega)
    · show m.nt - 1 ≤ 48
      omega
  · have hi : ¬ fd3 m.tr s p q m.nt 0 < m.nt := fun z => hv (hf.mp z)
    have key : Rep (fun i => H3 (f3 (up3 m.tr m.nt s p q) i)) (m.nt + 1) (fun x => S x ∨ x = H3 (s, p, q)) := by
      refine h1.put hv (fun i hi2 => ?_) ?_
      · show H3 (f3 _ i) = H3 (f3 _ i)
        rw [f3_up3, if_neg (by omega)]
      · show H3 (f3 _ m.nt) = _
        rw [f3_up3, if_pos rfl]
    have hn : m.nt + 1 ≤ 48 := hc.le key
    refine ⟨⟨h3, hn⟩, key, fun i hi2 => ?_, hn⟩
    have hi3 : i < m.nt + 1 := hi2
    show okT (f3 (up3 m.tr m.nt s p q) i)
    rw [f3_up3]
    split
    · exact ht
    · exact h2 _ (by omega)
/-- the class's triples are the set S -/
def CR (c : CS) (S : T3 → Prop) : Prop := Rep (fc c) c.tn S ∧ c.tn ≤ 48
theorem cr_put {c : CS} {S : T3 → Prop} {s p q : Int64} (h : CR c S) (hv : ¬ S (s, p, q)) (hc : C48 (apS true (s, p, q) S)) : c.tn < 48 ∧ CR (c.tput s p q) (apS true (s, p, q) S) := by
  have key : Rep (fc (c.tput s p q)) (c.tn + 1) (fun x => S x ∨ x = (s, p, q)) := by
    refine h.1.put hv (fun i hi => ?_) ?_
    · show ((vp_updL c.ta c.tn s i, vp_updL c.tb c.tn p i, vp_updL c.tc c.tn q i) : T3) = _
      unfold vp_updL
      rw [if_neg (by omega), if_neg (by omega), if_neg (by omega)]
      rfl
    · show ((vp_updL c.ta c.tn s c.tn, vp_updL c.tb c.tn p c.tn, vp_updL c.tc c.tn q c.tn) : T3) = _
      unfold vp_updL
      rw [if_pos rfl, if_pos rfl, if_pos rfl]
  have hn : c.tn + 1 ≤ 48 := hc.le key
  exact ⟨hn, key, hn⟩
theorem cr_cut {c : CS} {S : T3 → Prop} {s p q : Int64} {k : Nat} (h : CR c S) (hk : c.fnd s p q = some k) : CR (c.tcut k) (apS false (s, p, q) S) := by
  obtain ⟨h1, h2⟩ := fnd_some hk
  have key : Rep (fc (c.tcut k)) (c.tn - 1) (fun x => S x ∧ x ≠ (s, p, q)) := by
    refine h.1.cut h1 h2 (fun i hi => ?_)
    show ((vp_updL c.ta k (c.ta (c.tn - 1)) i, vp_updL c.tb k (c.tb (c.tn - 1)) i, vp_updL c.tc k (c.tc (c.tn - 1)) i) : T3) = _
    unfold vp_updL
    by_cases q9 : i = k
    · rw [if_pos q9, if_pos q9, if_pos q9, if_pos q9]
      rfl
    · rw [if_neg q9, if_neg q9, if_neg q9, if_neg q9]
      rfl
  exact ⟨key, by show c.tn - 1 ≤ 48; have := h.2; omega⟩
/-! the class's log, taken back -/
/-- what undoing leaves alone -/
def Uk (c c' : CS) : Prop := c'.si = c.si ∧ c'.sx = c.sx ∧ c'.so = c.so ∧ c'.sc = c.sc ∧ c'.sm = c.sm ∧ c'.su = c.su ∧ c'.1.2 = c.1.2 ∧ c'.2 = c.2
theorem Uk.refl {c : CS} : Uk c c := ⟨rfl, rfl, rfl, rfl, rfl, rfl, rfl, rfl⟩
theorem Uk.trans {c1 c2 c3 : CS} (h1 : Uk c1 c2) (h2 : Uk c2 c3) : Uk c1 c3 := ⟨h2.1.trans h1.1, h2.2.1.trans h1.2.1, h2.2.2.1.trans h1.2.2.1, h2.2.2.2.1.trans h1.2.2.2.1, h2.2.2.2.2.1.trans h1.2.2.2.2.1, h2.2.2.2.2.2.1.trans h1.2.2.2.2.2.1, h2.2.2.2.2.2.2.1.trans h1.2.2.2.2.2.2.1, h2.2.2.2.2.2.2.2.trans h1.2.2.2.2.2.2.2⟩
theorem gl_cut (c : CS) (i j : Nat) (h : j < i) : gl (c.gcut i) j = gl c j := by
  show ((vp_updL c.ga i (c.ga (c.gn - 1)) j, vp_updL c.gb i (c.gb (c.gn - 1)) j, vp_updL c.gc i (c.gc (c.gn - 1)) j) : T3) = _
  unfold vp_updL
  rw [if_neg (by omega), if_neg (by omega), if_neg (by omega)]
  rfl
theorem ul_spec {c : CS} {k : Nat} {S : T3 → Prop} (hn : c.gn = k + 1) (hr : CR c (apS (c.si k) (gl c k) S)) (hv : avl (c.si k) (gl c k) S) (hc : C48 S) :
    (c.tn ≤ 48 ∧ (c.si k = false → c.tn < 48)) ∧ (c.d_ul k).gn = k ∧ Uk c (c.d_ul k) ∧ (∀ j, j < k → gl (c.d_ul k) j = gl c j) ∧ CR (c.d_ul k) S := by
  have hg : (c.d_ul k).gn = k := by rw [ul_gn, hn]; rfl
  have hu := apS_un hv
  have hv2 : avl (!c.si k) (gl c k) (apS (c.si k) (gl c k) S) := avl_un
  have hc2 : C48 (apS (!c.si k) (gl c k) (apS (c.si k) (gl c k) S)) := hc.of (fun t => (hu t).symm)
  unfold CS.d_ul at hg ⊢
  cases hs : c.si k <;> rw [hs] at hr hu hv2 hc2 hg
  · obtain ⟨a1, a2⟩ := cr_put (s := c.ga k) (p := c.gb k) (q := c.gc k) hr hv2 hc2
    exact ⟨⟨hr.2, fun _ => a1⟩, hg, ⟨rfl, rfl, rfl, rfl, rfl, rfl, rfl, rfl⟩, fun j hj => gl_cut _ k j hj, a2.1.set hu, a2.2⟩
  · cases hf : c.fnd (c.ga k) (c.gb k) (c.gc k) with
    | none =>
      exfalso
      have h9 := (fnd_iff hr.1 (c.ga k) (c.gb k) (c.gc k)).mpr hv2
      rw [hf] at h9
      cases h9
    | some i =>
      have a2 := cr_cut hr hf
      rw [hf] at hg
      exact ⟨⟨hr.2, fun z => by cases z⟩, hg, ⟨rfl, rfl, rfl, rfl, rfl, rfl, rfl, rfl⟩, fun j hj => gl_cut _ k j hj, a2.1.set hu, a2.2⟩
/-- undoing from a transaction on: the log's entries from n on are gone -/
theorem uf_spec (tx : Nat) : ∀ (k : Nat) (c : CS), c.gn = k → CR c (Sc c k) → (∀ j, j < k → logV c.si (gl c) j) → (∀ j, j ≤ k → C48 (Sc c j)) →
    CS.ok_uf tx k c ∧ ∃ n, n ≤ k ∧ (CS.d_uf tx k c).gn = n ∧ Uk c (CS.d_uf tx k c) ∧ (∀ j, j < n → gl (CS.d_uf tx k c) j = gl c j) ∧ CR (CS.d_uf tx k c) (Sc c n) ∧ (∀ j, n ≤ j → j < k → ¬ c.sx j < nI tx) ∧ (n = 0 ∨ c.sx (n - 1) < nI tx)
  | 0, c, hn, hr, _, _ => ⟨trivial, 0, Nat.le_refl _, hn, Uk.refl, fun _ _ => rfl, hr, fun j h1 h2 => by omega, Or.inl rfl⟩
  | k + 1, c, hn, hr, hv, hc => by
    unfold CS.ok_uf CS.d_uf
    obtain ⟨a1, a2, a3, a4, a5⟩ := ul_spec (S := Sc c k) hn hr (hv k (by omega)) (hc k (by omega))
    have e1 : ∀ j, j ≤ k → ∀ t, Sc (c.d_ul k) j t ↔ Sc c j t := fun j hj t => logS_congr j (fun i hi => ⟨by rw [a3.1], a4 i (by omega)⟩) t
    obtain ⟨b1, n, b2, b3, b4, b5, b6, b7, b8⟩ := uf_spec tx k (c.d_ul k) a2 ⟨a5.1.set (e1 k (Nat.le_refl _)), a5.2⟩ (fun j hj => logV_congr (fun i hi => ⟨by rw [a3.1], a4 i (by omega)⟩) (hv j (by omega))) (fun j hj => (hc j (by omega)).of (e1 j hj))
    refine ⟨fun _ => ⟨a1, b1⟩, ?_⟩
    by_cases hx : c.sx k < nI tx
    · rw [if_pos hx]
      exact ⟨k + 1, Nat.le_refl _, hn, Uk.refl, fun _ _ => rfl, hr, fun j h1 h2 => by omega, Or.inr hx⟩
    · rw [if_neg hx]
      refine ⟨n, by omega, b3, a3.trans b4, fun j hj => (b5 j hj).trans (a4 j (by omega)), ⟨b6.1.set (fun t => (e1 n b2 t).symm), b6.2⟩, fun j h1 h2 => ?_, ?_⟩
      · by_cases q : j = k
        · subst q
          exact hx
        · have := b7 j h1 (by omega)
          rw [a3.2.1] at this
          exact this
      · rw [a3.2.1] at b8
        exact b8
/-! THE REFERENCE'S CHANGES, made and taken back -/
theorem cp3_mv3 (fr i : Nat) (f : Nat → Int64) : ∀ k, cp3 fr i k f = mv3 f i (fr + i) k
  | 0 => rfl
  | k + 1 => by
    unfold cp3 mv3
    rw [cp3_mv3 fr i f k]
theorem cpk_at (f g : Nat → Int64) : ∀ k x, cpk f g k x = if x < k then g x else f x
  | 0, x => by
    rw [if_neg (by omega)]
    rfl
  | k + 1, x => by
    unfold cpk vp_updL
    by_cases h : x = k
    · rw [if_pos h, if_pos (by omega), h]
    · rw [if_neg h, cpk_at f g k x]
      by_cases h2 : x < k
      · rw [if_pos h2, if_pos (by omega)]
      · rw [if_neg h2, if_neg (by omega)]
theorem f3_cpk (f g : Nat → Int64) (n i : Nat) (h : i < n) : f3 (cpk f g (3 * n)) i = f3 g i := by
  unfold f3
  rw [cpk_at, cpk_at, cpk_at, if_pos (by omega), if_pos (by omega), if_pos (by omega)]
section CHN
variable {I : Nat → Bool} {G : Nat → T3} {N : Nat}
/-- the reference's change i is the log's change j -/
def chA (I : Nat → Bool) (G : Nat → T3) (m : MS) (i j : Nat) : Prop := okT (f3 m.ch i) ∧ H3 (f3 m.ch i) = G j ∧ m.pt i = I j
theorem ap_fwd {m : MS} {i j : Nat} (hv : ∀ j, j < N → logV I G j) (hc : ∀ j, j ≤ N → C48 (logS I G j)) (hj : j < N) (hA : chA I G m i j) (h : MR m (logS I G j)) : m.ok_ap (m.pt i) i ∧ MR (m.d_ap (m.pt i) i) (logS I G (j + 1)) := by
  obtain ⟨a1, a2, a3⟩ := hA
  have h1 : avl (m.pt i) (H3 (f3 m.ch i)) (logS I G j) := by
    rw [a2, a3]
    exact hv j hj
  have h2 : C48 (apS (m.pt i) (H3 (f3 m.ch i)) (logS I G j)) := by
    rw [a2, a3]
    exact hc (j + 1) hj
  have h3 := mr_app h a1 h1 h2
  refine ⟨h3.1, h3.2.set (fun t => ?_)⟩
  show _ ↔ apS (m.pt i) (H3 (f3 m.ch i)) (logS I G j) t
  rw [a2, a3]
  exact Iff.rfl
theorem ap_bwd {m : MS} {i j : Nat} (hv : ∀ j, j < N → logV I G j) (hc : ∀ j, j ≤ N → C48 (logS I G j)) (hj : j < N) (hA : chA I G m i j) (h : MR m (logS I G (j + 1))) : m.ok_ap (!m.pt i) i ∧ MR (m.d_ap (!m.pt i) i) (logS I G j) := by
  obtain ⟨a1, a2, a3⟩ := hA
  have h0 : MR m (apS (m.pt i) (H3 (f3 m.ch i)) (logS I G j)) := by
    rw [a2, a3]
    exact h
  have hu : ∀ t, logS I G j t ↔ apS (!m.pt i) (H3 (f3 m.ch i)) (apS (m.pt i) (H3 (f3 m.ch i)) (logS I G j)) t := fun t => by
    rw [a2, a3]
    exact apS_un (hv j hj) t
  have h3 := mr_app h0 a1 avl_un ((hc j (by omega)).of (fun t => (hu t).symm))
  exact ⟨h3.1, h3.2.set hu⟩
/-- what undoing leaves alone -/
def Mk (m m' : MS) : Prop := (m'.kt = m.kt ∧ m'.nk = m.nk ∧ m'.ch = m.ch ∧ m'.pt = m.pt ∧ m'.fo = m.fo) ∧ (m'.cm = m.cm ∧ m'.us = m.us ∧ m'.op = m.op ∧ m'.of = m.of) ∧ m'.1.2 = m.1.2 ∧ m'.2 = m.2
theorem Mk.refl {m : MS} : Mk m m := ⟨⟨rfl, rfl, rfl, rfl, rfl⟩, ⟨rfl, rfl, rfl, rfl⟩, rfl, rfl⟩
theorem Mk.trans {m1 m2 m3 : MS} (h1 : Mk m1 m2) (h2 : Mk m2 m3) : Mk m1 m3 := ⟨⟨h2.1.1.trans h1.1.1, h2.1.2.1.trans h1.1.2.1, h2.1.2.2.1.trans h1.1.2.2.1, h2.1.2.2.2.1.trans h1.1.2.2.2.1, h2.1.2.2.2.2.trans h1.1.2.2.2.2⟩, ⟨h2.2.1.1.trans h1.2.1.1, h2.2.1.2.1.trans h1.2.1.2.1, h2.2.1.2.2.1.trans h1.2.1.2.2.1, h2.2.1.2.2.2.trans h1.2.1.2.2.2⟩, h2.2.2.1.trans h1.2.2.1, h2.2.2.2.trans h1.2.2.2⟩
theorem app_Mk (m : MS) (b : Bool) (s p q : Int64) : Mk m (m.d_app b s p q) := by cases b <;> exact ⟨⟨rfl, rfl, rfl, rfl, rfl⟩, ⟨rfl, rfl, rfl, rfl⟩, rfl, rfl⟩
theorem chA_Mk {m m' : MS} {i j : Nat} (h : Mk m m') (q : chA I G m i j) : chA I G m' i j := by
  unfold chA at q ⊢
  rw [h.1.2.2.1, h.1.2.2.2.1]
  exact q
theorem undo_spec (B a : Nat) (hv : ∀ j, j < N → logV I G j) (hc : ∀ j, j ≤ N → C48 (logS I G j)) : ∀ (k : Nat) (m : MS), m.nc = a + k → B + (a + k) ≤ N → (∀ i, a ≤ i → i < a + k → chA I G m i (B + i)) → MR m (logS I G (B + (a + k))) →
    MS.ok_undo k m ∧ MR (MS.d_undo k m) (logS I G (B + a)) ∧ (MS.d_undo k m).nc = a ∧ Mk m (MS.d_undo k m)
  | 0, m, h1, _, _, h4 => ⟨trivial, h4, h1, Mk.refl⟩
  | k + 1, m, h1, h2, h3, h4 => by
    have e0 : m.nc - 1 = a + k := by omega
    have q0 : Mk m (m.u_nc (a + k)) := ⟨⟨rfl, rfl, rfl, rfl, rfl⟩, ⟨rfl, rfl, rfl, rfl⟩, rfl, rfl⟩
    have h5 : MR (m.u_nc (a + k)) (logS I G (B + (a + k) + 1)) := h4
    obtain ⟨b1, b2⟩ := ap_bwd hv hc (m := m.u_nc (a + k)) (i := a + k) (j := B + (a + k)) (by omega) (chA_Mk q0 (h3 (a + k) (by omega) (by omega))) h5
    have q1 : Mk m ((m.u_nc (a + k)).d_ap (!m.pt (a + k)) (a + k)) := q0.trans (app_Mk _ _ _ _ _)
    unfold MS.ok_undo MS.d_undo MS.d_un
    rw [e0]
    obtain ⟨c1, c2, c3, c4⟩ := undo_spec B a hv hc k ((m.u_nc (a + k)).d_ap (!m.pt (a + k)) (a + k)) (by rw [app_nc]) (by omega) (fun i hi1 hi2 => chA_Mk q1 (h3 i hi1 (by omega))) b2
    exact ⟨⟨b1, c1⟩, c2, c3, q1.trans c4⟩
theorem back_spec (B fr : Nat) (hv : ∀ j, j < N → logV I G j) (hc : ∀ j, j ≤ N → C48 (logS I G j)) : ∀ (k : Nat) (m : MS), B + (fr + k) ≤ N → (∀ i, fr ≤ i → i < fr + k → chA I G m i (B + i)) → MR m (logS I G (B + (fr + k))) →
    MS.ok_back fr k m ∧ MR (MS.d_back fr k m) (logS I G (B + fr)) ∧ (MS.d_back fr k m).nc = m.nc ∧ Mk m (MS.d_back fr k m)
  | 0, m, _, _, h4 => ⟨trivial, h4, rfl, Mk.refl⟩
  | k + 1, m, h2, h3, h4 => by
    obtain ⟨b1, b2⟩ := ap_bwd hv hc (i := fr + k) (j := B + (fr + k)) (by omega) (h3 (fr + k) (by omega) (by omega)) h4
    have q1 : Mk m (m.d_ap (!m.pt (fr + k)) (fr + k)) := app_Mk _ _ _ _ _
    unfold MS.ok_back MS.d_back
    obtain ⟨c1, c2, c3, c4⟩ := back_spec B fr hv hc k (m.d_ap (!m.pt (fr + k)) (fr + k)) (by omega) (fun i hi1 hi2 => chA_Mk q1 (h3 i hi1 (by omega))) b2
    exact ⟨⟨b1, c1⟩, c2, c3.trans (app_nc _ _ _ _ _), q1.trans c4⟩
/-- what is moved to the front is put in again -/
theorem redo_spec (B fr : Nat) (hv : ∀ j, j < N → logV I G j) (hc : ∀ j, j ≤ N → C48 (logS I G j)) : ∀ (k i : Nat) (m : MS), B + (fr + (i + k)) ≤ N → (∀ j, i ≤ j → j < i + k → chA I G m (fr + j) (B + (fr + j))) → MR m (logS I G (B + (fr + i))) →
    MS.ok_redo fr k i m ∧ MR (MS.d_redo fr k i m) (logS I G (B + (fr + (i + k)))) ∧ (∀ j, i ≤ j → j < i + k → chA I G (MS.d_redo fr k i m) j (B + (fr + j)) ∧ (MS.d_redo fr k i m).fo j = 0) ∧
    (∀ j, j < i → f3 (MS.d_redo fr k i m).ch j = f3 m.ch j ∧ (MS.d_redo fr k i m).pt j = m.pt j ∧ (MS.d_redo fr k i m).fo j = m.fo j) ∧
    (MS.d_redo fr k i m).kt = m.kt ∧ (MS.d_redo fr k i m).nk = m.nk ∧ (MS.d_redo fr k i m).cm = m.cm ∧ (MS.d_redo fr k i m).op = m.op ∧ (MS.d_redo fr k i m).1.2 = m.1.2 ∧ (MS.d_redo fr k i m).2 = m.2
  | 0, i, m, _, _, h4 => ⟨trivial, h4, fun j h1 h2 => by omega, fun _ _ => ⟨rfl, rfl, rfl⟩, rfl, rfl, rfl, rfl, rfl, rfl⟩
  | k + 1, i, m, h2, h3, h4 => by
    have g1 : ∀ j, f3 (m.d_mv fr i).ch j = if j = i then f3 m.ch (fr + i) else f3 m.ch j := fun j => by
      show f3 (cp3 fr i 3 m.ch) j = _
      rw [cp3_mv3, f3_mv3]
    have g2 : ∀ j, (m.d_mv fr i).pt j = if j = i then m.pt (fr + i) else m.pt j := fun j => rfl
    have g3 : ∀ j, (m.d_mv fr i).fo j = if j = i then 0 else m.fo j := fun j => rfl
    have hA := h3 i (Nat.le_refl _) (by omega)
    have hA2 : chA I G (m.d_mv fr i) i (B + (fr + i)) := by
      unfold chA at hA ⊢
      rw [g1, g2, if_pos rfl, if_pos rfl]
      exact hA
    have h5 : MR (m.d_mv fr i) (logS I G (B + (fr + i))) := h4
    obtain ⟨b1, b2⟩ := ap_fwd hv hc (m := m.d_mv fr i) (by omega) hA2 h5
    have e1 : (m.d_mv fr i).pt i = m.pt (fr + i) := by rw [g2, if_pos rfl]
    rw [e1] at b1 b2
    have q1 : Mk (m.d_mv fr i) ((m.d_mv fr i).d_ap (m.pt (fr + i)) i) := app_Mk _ _ _ _ _
    have e2 : B + (fr + i) + 1 = B + (fr + (i + 1)) := by omega
    have e3 : i + 1 + k = i + (k + 1) := by omega
    rw [e2] at b2
    obtain ⟨c1, c2, c3, c4, c5, c6, c7, c8, c9, c10⟩ := redo_spec B fr hv hc k (i + 1) ((m.d_mv fr i).d_ap (m.pt (fr + i)) i) (by omega) (fun j hj1 hj2 => by
      refine chA_Mk q1 ?_
      have hB := h3 j (by omega) (by omega)
      unfold chA at hB ⊢
      rw [g1, g2, if_neg (by omega), if_neg (by omega)]
      exact hB) b2
    unfold MS.ok_redo MS.d_redo
    rw [e3] at c2 c3
    refine ⟨⟨b1, c1⟩, c2, fun j hj1 hj2 => ?_, fun j hj => ?_, c5.trans q1.1.1, c6.trans q1.1.2.1, c7.trans q1.2.1.1, c8.trans q1.2.1.2.2.1, c9.trans q1.2.2.1, c10.trans q1.2.2.2⟩
    · by_cases q : j = i
      · subst q
        obtain ⟨d1, d2, d3⟩ := c4 j (by omega)
        have hA3 := chA_Mk q1 hA2
        unfold chA at hA3 ⊢
        rw [d1, d2]
        refine ⟨hA3, ?_⟩
        rw [d3, q1.1.2.2.2.2, g3, if_pos rfl]
      · exact c3 j (by omega) hj2
    · obtain ⟨d1, d2, d3⟩ := c4 j (by omega)
      rw [d1, d2, d3, q1.1.2.2.1, q1.1.2.2.2.1, q1.1.2.2.2.2, g1, g2, g3, if_neg (by omega), if_neg (by omega), if_neg (by omega)]
      exact ⟨rfl, rfl, rfl⟩
/-- the kept changes, made again as far as they were kept -/
theorem play_spec (B kp e n : Nat) (hv : ∀ j, j < N → logV I G j) (hc : ∀ j, j ≤ N → C48 (logS I G j)) (hB : B + n ≤ N) (he : e ≤ n) : ∀ (k i : Nat) (m : MS), i + k = n → (∀ j, j < n → chA I G m j (B + j)) → (∀ j, j < n → (nI kp ≤ m.fo j ↔ e ≤ j)) → MR m (logS I G (B + min i e)) →
    MS.ok_play kp k i m ∧ MR (MS.d_play kp k i m) (logS I G (B + e)) ∧ (MS.d_play kp k i m).nc = m.nc ∧ Mk m (MS.d_play kp k i m)
  | 0, i, m, h1, _, _, h4 => by
    have e0 : min i e = e := by omega
    rw [e0] at h4
    exact ⟨trivial, h4, rfl, Mk.refl⟩
  | k + 1, i, m, h1, h2, h3, h4 => by
    have hi : i < n := by omega
    have h9 := h3 i hi
    unfold MS.ok_play MS.d_play
    by_cases q : e ≤ i
    · have q2 := h9.mpr q
      have e0 : min i e = min (i + 1) e := by omega
      rw [e0] at h4
      have e1 : m.d_p1 kp i = m := if_pos q2
      rw [e1]
      obtain ⟨c1, c2, c3, c4⟩ := play_spec B kp e n hv hc hB he k (i + 1) m (by omega) h2 h3 h4
      exact ⟨⟨fun z => absurd q2 z, c1⟩, c2, c3, c4⟩
    · have q2 : ¬ nI kp ≤ m.fo i := fun z => q (h9.mp z)
      have e0 : min i e = i := by omega
      rw [e0] at h4
      obtain ⟨b1, b2⟩ := ap_fwd hv hc (i := i) (j := B + i) (by omega) (h2 i hi) h4
      have q1 : Mk m (m.d_ap (m.pt i) i) := app_Mk _ _ _ _ _
      have e1 : m.d_p1 kp i = m.d_ap (m.pt i) i := if_neg q2
      rw [e1]
      obtain ⟨c1, c2, c3, c4⟩ := play_spec B kp e n hv hc hB he k (i + 1) (m.d_ap (m.pt i) i) (by omega) (fun j hj => chA_Mk q1 (h2 j hj)) (fun j hj => by rw [q1.1.2.2.2.2]; exact h3 j hj) (by
        have e2 : B + min (i + 1) e = B + i + 1 := by omega
        rw [e2]
        exact b2)
      exact ⟨⟨fun _ => b1, c1⟩, c2, c3.trans (app_nc _ _ _ _ _), q1.trans c4⟩
end CHN
/-! BOTH STORES TOGETHER: t calls were made -/
def RS (t : Nat) (c : CS) (m : MS) : Prop :=
  (CR c (Sc c c.gn) ∧ c.gn ≤ t ∧ (∀ j, j < c.gn → logV c.si (gl c) j) ∧ (∀ j, j ≤ c.gn → C48 (Sc c j))) ∧
  ((∀ j, j < c.gn → c.sx j = nI (xs_ c j) ∧ xs_ c j ≤ c.sm) ∧ (∀ i j, i ≤ j → j < c.gn → xs_ c i ≤ xs_ c j) ∧ c.su ≤ c.sm ∧ c.sm ≤ t) ∧
  (m.cm = c.sm ∧ m.us = c.su ∧ m.op = c.so ∧ m.nc ≤ c.gn) ∧
  (MR m (Sc c c.gn) ∧ Rep (fun i => H3 (f3 m.kt i)) m.nk (Sc c (c.gn - m.nc)) ∧ (∀ i, i < m.nk → okT (f3 m.kt i))) ∧
  ((∀ i, i < m.nc → chA c.si (gl c) m i (c.gn - m.nc + i) ∧ m.fo i = nI (xs_ c (c.gn - m.nc + i) - (c.sm - c.su)) ∧ c.sm - c.su ≤ xs_ c (c.gn - m.nc + i)) ∧ (∀ j, j < c.gn - m.nc → xs_ c j < c.sm - c.su)) ∧
  (c.sc ≤ m.nc ∧ (∀ j, c.gn - c.sc ≤ j → j < c.gn → xs_ c j = c.sm) ∧ (∀ j, j < c.gn - c.sc → xs_ c j < c.sm) ∧ (c.so = false → c.sc = 0) ∧ (c.so = true → m.of = m.nc - c.sc))
theorem RS.of {t : Nat} {c c' : CS} {m m' : MS} (hc : c'.1.1 = c.1.1) (hm : m'.1.1 = m.1.1) (h : RS t c m) : RS t c' m' := by
  have h1 : RS t ((c.1.1, c'.1.2), c'.2) ((m.1.1, m'.1.2), m'.2) := h
  rw [← hc, ← hm] at h1
  exact h1
theorem RS.mono {t t2 : Nat} {c : CS} {m : MS} (h : RS t c m) (ht : t ≤ t2) : RS t2 c m := ⟨⟨h.1.1, Nat.le_trans h.1.2.1 ht, h.1.2.2⟩, ⟨h.2.1.1, h.2.1.2.1, h.2.1.2.2.1, Nat.le_trans h.2.1.2.2.2 ht⟩, h.2.2⟩
theorem RS.nt {t : Nat} {c : CS} {m : MS} (h : RS t c m) : m.nt = c.tn := h.2.2.2.1.1.1.card h.1.1.1
theorem RS.opn {t : Nat} {c : CS} {m : MS} (h : RS t c m) : m.opn = c.sc := by
  obtain ⟨-, -, ⟨-, -, d3, -⟩, -, -, g1, -, -, g4, g5⟩ := h
  unfold MS.opn
  rw [d3]
  cases hs : c.so
  · exact (g4 hs).symm
  · show m.nc - m.of = c.sc
    rw [g5 hs]
    omega
theorem RS.lst {t : Nat} {c : CS} {m : MS} (h : RS t c m) : m.lst = m.nc - c.sc := by
  obtain ⟨-, -, ⟨-, -, d3, -⟩, -, -, g1, -, -, g4, g5⟩ := h
  unfold MS.lst
  rw [d3]
  cases hs : c.so
  · rw [g4 hs]
    rfl
  · exact g5 hs
/-- the log's triples and its places alone have changed, or the triples -/
def Tq (c c2 : CS) : Prop := (c2.si = c.si ∧ c2.sx = c.sx ∧ c2.so = c.so ∧ c2.sc = c.sc ∧ c2.sm = c.sm ∧ c2.su = c.su) ∧ (c2.ga = c.ga ∧ c2.gb = c.gb ∧ c2.gc = c.gc ∧ c2.gn = c.gn)
theorem gl_put (c : CS) (s p q : Int64) (j : Nat) : gl (c.gput s p q) j = if j = c.gn then (s, p, q) else gl c j := by
  show ((vp_updL c.ga c.gn s j, vp_updL c.gb c.gn p j, vp_updL c.gc c.gn q j) : T3) = _
  unfold vp_updL
  by_cases h : j = c.gn
  · rw [if_pos h, if_pos h, if_pos h, if_pos h]
  · rw [if_neg h, if_neg h, if_neg h, if_neg h]
    rfl
/-- a change is made on both sides -/
theorem RS_note {t : Nat} {c c2 : CS} {m m2 : MS} {b : Bool} {s p q : Int64} (ht5 : t < 2 ^ 20) (h : RS t c m) (ht : okT (s, p, q)) (hv : avl b (H3 (s, p, q)) (Sc c c.gn)) (hC : C48 (apS b (H3 (s, p, q)) (Sc c c.gn))) (k2 : Tq c c2) (hr2 : CR c2 (apS b (H3 (s, p, q)) (Sc c c.gn))) (k3 : Mk m m2 ∧ m2.nc = m.nc) (hr3 : MR m2 (apS b (H3 (s, p, q)) (Sc c c.gn))) :
    RS (t + 1) (c2.d_note b (hD s) (hD p) (hD q)) (m2.d_note b s p q).d_end := by
  obtain ⟨⟨a1, a2, a3, a4⟩, ⟨b1, b2, b3, b4⟩, ⟨d1, d2, d3, d4⟩, ⟨e1, e2, e3⟩, ⟨f1, f2⟩, g1, g2, g3, g4, g5⟩ := h
  obtain ⟨⟨x1, x2, x3, x4, x5, x6⟩, y1, y2, y3, y4⟩ := k2
  obtain ⟨⟨⟨z1, z2, z3, z4, z5⟩, ⟨w1, w2, w3, w4⟩, -, -⟩, z6⟩ := k3
  -- the log, one longer
  have key : ∀ c' : CS, c'.si = va_up c2.si c2.gn b → (∀ j, gl c' j = gl (c2.gput (hD s) (hD p) (hD q)) j) → c'.sx = upd c2.sx c2.gn (nI c2.sm) → c'.gn = c2.gn + 1 → c'.ta = c2.ta → c'.tb = c2.tb → c'.tc = c2.tc → c'.tn = c2.tn →
      (∀ j, j < c.gn → c'.si j = c.si j ∧ gl c' j = gl c j ∧ c'.sx j = c.sx j ∧ xs_ c' j = xs_ c j) ∧ c'.si c.gn = b ∧ gl c' c.gn = H3 (s, p, q) ∧ c'.sx c.gn = nI c.sm ∧ xs_ c' c.gn = c.sm ∧ c'.gn = c.gn + 1 ∧ CR c' (Sc c' c'.gn) ∧ (∀ j, j < c'.gn → logV c'.si (gl c') j) ∧ (∀ j, j ≤ c'.gn → C48 (Sc c' j)) := by
    intro c' q1 q2 q3 q4 q5 q6 q7 q8
    have r1 : ∀ j, j < c.gn → c'.si j = c.si j ∧ gl c' j = gl c j := fun j hj => by
      constructor
      · rw [q1, y4]
        unfold va_up
        rw [if_neg (by omega), x1]
      · rw [q2, gl_put, y4, if_neg (by omega)]
        unfold gl
        rw [y1, y2, y3]
    have r2 : c'.si c.gn = b := by
      rw [q1, y4]
      unfold va_up
      rw [if_pos rfl]
    have r3 : gl c' c.gn = H3 (s, p, q) := by
      rw [q2, gl_put, y4, if_pos rfl]
      rfl
    have r4 : ∀ j, j < c.gn → c'.sx j = c.sx j := fun j hj => by
      rw [q3, y4]
      unfold upd
      rw [if_neg (by omega), x2]
    have r5 : c'.sx c.gn = nI c.sm := by
      rw [q3, y4]
      unfold upd
      rw [if_pos rfl, x5]
    have r6 : c'.gn = c.gn + 1 := by rw [q4, y4]
    have s1 : ∀ j, j ≤ c.gn → ∀ u, Sc c' j u ↔ Sc c j u := fun j hj u => logS_congr j (fun i hi => r1 i (by omega)) u
    have s2 : ∀ u, Sc c' (c.gn + 1) u ↔ apS b (H3 (s, p, q)) (Sc c c.gn) u := fun u => by
      show (bif c'.si c.gn then _ else _) ↔ _
      rw [r2, r3]
      cases b
      · exact and_congr (s1 c.gn (Nat.le_refl _) u) Iff.rfl
      · exact or_congr (s1 c.gn (Nat.le_refl _) u) Iff.rfl
    refine ⟨fun j hj => ⟨(r1 j hj).1, (r1 j hj).2, r4 j hj, by unfold xs_; rw [r4 j hj]⟩, r2, r3, r5, ?_, r6, ?_, fun j hj => ?_, fun j hj => ?_⟩
    · unfold xs_
      rw [r5]
      exact nI_clamp (by omega)
    · rw [r6]
      refine ⟨?_, by rw [q8]; exact hr2.2⟩
      rw [q8]
      refine (hr2.1.set s2).congr (fun i _ => ?_)
      unfold fc
      rw [q5, q6, q7]
    · by_cases q9 : j = c.gn
      · subst q9
        unfold logV
        rw [r2, r3]
        have s3 := s1 c.gn (Nat.le_refl _) (H3 (s, p, q))
        cases b
        · exact s3.mpr hv
        · exact fun z => hv (s3.mp z)
      · exact logV_congr (fun i hi => r1 i (by omega)) (a3 j (by omega))
    · by_cases q9 : j = c.gn + 1
      · subst q9
        exact hC.of s2
      · exact (a4 j (by omega)).of (s1 j (by omega))
  unfold CS.d_note
  rw [x3]
  have hM1 : ∀ m' : MS, m'.ch = up3 m2.ch m2.nc s p q → m'.pt = va_up m2.pt m2.nc b → m'.fo = upd m2.fo m2.nc (nI m2.us) → (∀ i, i < m.nc → f3 m'.ch i = f3 m.ch i ∧ m'.pt i = m.pt i ∧ m'.fo i = m.fo i) ∧ f3 m'.ch m.nc = (s, p, q) ∧ m'.pt m.nc = b ∧ m'.fo m.nc = nI c.su := by
    intro m' q1 q2 q3
    rw [q1, q2, q3, z3, z4, z5, z6, w2, d2]
    refine ⟨fun i hi => ⟨?_, ?_, ?_⟩, ?_, ?_, ?_⟩
    · rw [f3_up3, if_neg (by omega)]
    · unfold va_up
      rw [if_neg (by omega)]
    · unfold upd
      rw [if_neg (by omega)]
    · rw [f3_up3, if_pos rfl]
    · unfold va_up
      rw [if_pos rfl]
    · unfold upd
      rw [if_pos rfl]
  have hFF : ∀ (c' : CS) (m' : MS) (sm su : Nat), (∀ j, j < c.gn → c'.si j = c.si j ∧ gl c' j = gl c j ∧ c'.sx j = c.sx j ∧ xs_ c' j = xs_ c j) → c'.si c.gn = b → gl c' c.gn = H3 (s, p, q) → xs_ c' c.gn = c.sm → sm - su = c.sm - c.su →
      ((∀ i, i < m.nc → f3 m'.ch i = f3 m.ch i ∧ m'.pt i = m.pt i ∧ m'.fo i = m.fo i) ∧ f3 m'.ch m.nc = (s, p, q) ∧ m'.pt m.nc = b ∧ m'.fo m.nc = nI c.su) →
      ∀ i, i < m.nc + 1 → chA c'.si (gl c') m' i (c.gn + 1 - (m.nc + 1) + i) ∧ m'.fo i = nI (xs_ c' (c.gn + 1 - (m.nc + 1) + i) - (sm - su)) ∧ sm - su ≤ xs_ c' (c.gn + 1 - (m.nc + 1) + i) := by
    intro c' m' sm su q1 q2 q3 q5 q6 q7 i hi
    have e0 : c.gn + 1 - (m.nc + 1) + i = c.gn - m.nc + i := by omega
    rw [e0, q6]
    by_cases q9 : i = m.nc
    · subst q9
      have e1 : c.gn - m.nc + m.nc = c.gn := by omega
      rw [e1, q5, q7.2.2.2]
      refine ⟨?_, ?_, by omega⟩
      · unfold chA
        rw [q7.2.1, q7.2.2.1, q3, q2]
        exact ⟨ht, rfl, rfl⟩
      · have e2 : c.sm - (c.sm - c.su) = c.su := by omega
        rw [e2]
    · have hi2 : i < m.nc := by omega
      obtain ⟨t1, t2, t3, t4⟩ := q1 (c.gn - m.nc + i) (by omega)
      obtain ⟨u1, u2, u3⟩ := q7.1 i hi2
      obtain ⟨v1, v2, v3⟩ := f1 i hi2
      rw [t4, u3]
      refine ⟨?_, v2, v3⟩
      unfold chA at v1 ⊢
      rw [u1, u2, t1, t2]
      exact v1
  have hK : Rep (fun i => H3 (f3 m2.kt i)) m2.nk (Sc c (c.gn - m.nc)) ∧ ∀ i, i < m2.nk → okT (f3 m2.kt i) := by
    rw [z1, z2]
    exact ⟨e2, e3⟩
  unfold MS.d_end
  have hop : (m2.d_note b s p q).op = c.so := w3.trans d3
  rw [hop]
  cases hs : c.so
  · -- no transaction is open
    have hsc := g4 hs
    obtain ⟨k1, k2', k3', k4, k5, k6, k7, k8, k9⟩ := key ((c2.d_n1 b (hD s) (hD p) (hD q)).d_cc) rfl (fun _ => rfl) rfl rfl rfl rfl rfl rfl
    have hm1 := hM1 ((m2.d_note b s p q).d_close) rfl rfl rfl
    have hF := hFF _ _ (c.sm + 1) (c.su + 1) k1 k2' k3' k5 (by omega) hm1
    have s1 : ∀ j, j ≤ c.gn → ∀ u, Sc ((c2.d_n1 b (hD s) (hD p) (hD q)).d_cc) j u ↔ Sc c j u := fun j hj u => logS_congr j (fun i hi => ⟨(k1 i (by omega)).1, (k1 i (by omega)).2.1⟩) u
    have hsm : ((c2.d_n1 b (hD s) (hD p) (hD q)).d_cc).sm = c.sm + 1 := by show c2.sm + 1 = _; rw [x5]
    have hsu : ((c2.d_n1 b (hD s) (hD p) (hD q)).d_cc).su = c.su + 1 := by show c2.su + 1 = _; rw [x6]
    have hsc' : ((c2.d_n1 b (hD s) (hD p) (hD q)).d_cc).sc = 0 := by show c2.sc = _; rw [x4, hsc]
    have hnc : ((m2.d_note b s p q).d_close).nc = m.nc + 1 := by show m2.nc + 1 = _; rw [z6]
    have hMR : MR ((m2.d_note b s p q).d_close) (Sc ((c2.d_n1 b (hD s) (hD p) (hD q)).d_cc) ((c2.d_n1 b (hD s) (hD p) (hD q)).d_cc).gn) := by
      have r := k7.1
      refine MR.set (S := apS b (H3 (s, p, q)) (Sc c c.gn)) hr3 (fun u => ?_)
      rw [k6]
      show (bif _ then _ else _) ↔ _
      rw [k2', k3']
      cases b
      · exact and_congr (s1 c.gn (Nat.le_refl _) u) Iff.rfl
      · exact or_congr (s1 c.gn (Nat.le_refl _) u) Iff.rfl
    show RS (t + 1) ((c2.d_n1 b (hD s) (hD p) (hD q)).d_cc) ((m2.d_note b s p q).d_close)
    refine ⟨⟨k7, by rw [k6]; omega, k8, k9⟩, ⟨fun j hj => ?_, fun i j hij hj => ?_, by rw [hsm, hsu]; omega, by rw [hsm]; omega⟩, ⟨?_, ?_, ?_, ?_⟩, ⟨hMR, ?_, ?_⟩, ⟨?_, ?_⟩, ?_, ?_, ?_, ?_, ?_⟩
    · rw [k6] at hj
      rw [hsm]
      by_cases q9 : j = c.gn
      · subst q9
        rw [k4, k5]
        exact ⟨rfl, by omega⟩
      · obtain ⟨t1, t2, t3, t4⟩ := k1 j (by omega)
        rw [t3, t4]
        have := b1 j (by omega)
        exact ⟨this.1, by omega⟩
    · rw [k6] at hj
      by_cases q9 : j = c.gn
      · subst q9
        rw [k5]
        by_cases q8 : i = c.gn
        · subst q8
          rw [k5]
          exact Nat.le_refl _
        · rw [(k1 i (by omega)).2.2.2]
          exact (b1 i (by omega)).2
      · rw [(k1 i (by omega)).2.2.2, (k1 j (by omega)).2.2.2]
        exact b2 i j hij (by omega)
    · rw [hsm]
      show m2.cm + 1 = _
      rw [w1, d1]
    · rw [hsu]
      show m2.us + 1 = _
      rw [w2, d2]
    · show false = c2.so
      rw [x3, hs]
    · rw [hnc, k6]
      omega
    · rw [k6, hnc]
      have e0 : c.gn + 1 - (m.nc + 1) = c.gn - m.nc := by omega
      rw [e0]
      exact hK.1.set (s1 _ (by omega))
    · exact hK.2
    · rw [hnc, k6, hsm, hsu]
      exact hF
    · rw [hnc, k6, hsm, hsu]
      intro j hj
      rw [(k1 j (by omega)).2.2.2]
      have := f2 j (by omega)
      omega
    · rw [hsc']
      exact Nat.zero_le _
    · rw [hsc', k6]
      intro j h1 h2
      omega
    · rw [hsc', k6, hsm]
      intro j hj
      by_cases q9 : j = c.gn
      · subst q9
        rw [k5]
        omega
      · rw [(k1 j (by omega)).2.2.2]
        have := (b1 j (by omega)).2
        omega
    · intro _
      exact hsc'
    · intro h9
      have h8 : c2.so = true := h9
      rw [x3, hs] at h8
      cases h8
  · -- a transaction is open
    obtain ⟨k1, k2', k3', k4, k5, k6, k7, k8, k9⟩ := key ((c2.d_n1 b (hD s) (hD p) (hD q)).u_sc (c2.sc + 1)) rfl (fun _ => rfl) rfl rfl rfl rfl rfl rfl
    have hm1 := hM1 (m2.d_note b s p q) rfl rfl rfl
    have hF := hFF _ _ c.sm c.su k1 k2' k3' k5 rfl hm1
    have s1 : ∀ j, j ≤ c.gn → ∀ u, Sc ((c2.d_n1 b (hD s) (hD p) (hD q)).u_sc (c2.sc + 1)) j u ↔ Sc c j u := fun j hj u => logS_congr j (fun i hi => ⟨(k1 i (by omega)).1, (k1 i (by omega)).2.1⟩) u
    have hsm : ((c2.d_n1 b (hD s) (hD p) (hD q)).u_sc (c2.sc + 1)).sm = c.sm := x5
    have hsu : ((c2.d_n1 b (hD s) (hD p) (hD q)).u_sc (c2.sc + 1)).su = c.su := x6
    have hsc' : ((c2.d_n1 b (hD s) (hD p) (hD q)).u_sc (c2.sc + 1)).sc = c.sc + 1 := by show c2.sc + 1 = _; rw [x4]
    have hnc : (m2.d_note b s p q).nc = m.nc + 1 := by show m2.nc + 1 = _; rw [z6]
    have hMR : MR (m2.d_note b s p q) (Sc ((c2.d_n1 b (hD s) (hD p) (hD q)).u_sc (c2.sc + 1)) ((c2.d_n1 b (hD s) (hD p) (hD q)).u_sc (c2.sc + 1)).gn) := by
      refine MR.set (S := apS b (H3 (s, p, q)) (Sc c c.gn)) hr3 (fun u => ?_)
      rw [k6]
      show (bif _ then _ else _) ↔ _
      rw [k2', k3']
      cases b
      · exact and_congr (s1 c.gn (Nat.le_refl _) u) Iff.rfl
      · exact or_congr (s1 c.gn (Nat.le_refl _) u) Iff.rfl
    have hof := g5 hs
    show RS (t + 1) ((c2.d_n1 b (hD s) (hD p) (hD q)).u_sc (c2.sc + 1)) (m2.d_note b s p q)
    refine ⟨⟨k7, by rw [k6]; omega, k8, k9⟩, ⟨fun j hj => ?_, fun i j hij hj => ?_, by rw [hsm, hsu]; omega, by rw [hsm]; omega⟩, ⟨?_, ?_, ?_, ?_⟩, ⟨hMR, ?_, ?_⟩, ⟨?_, ?_⟩, ?_, ?_, ?_, ?_, ?_⟩
    · rw [k6] at hj
      rw [hsm]
      by_cases q9 : j = c.gn
      · subst q9
        rw [k4, k5]
        exact ⟨rfl, by omega⟩
      · obtain ⟨t1, t2, t3, t4⟩ := k1 j (by omega)
        rw [t3, t4]
        exact b1 j (by omega)
    · rw [k6] at hj
      by_cases q9 : j = c.gn
      · subst q9
        rw [k5]
        by_cases q8 : i = c.gn
        · subst q8
          rw [k5]
          exact Nat.le_refl _
        · rw [(k1 i (by omega)).2.2.2]
          exact (b1 i (by omega)).2
      · rw [(k1 i (by omega)).2.2.2, (k1 j (by omega)).2.2.2]
        exact b2 i j hij (by omega)
    · rw [hsm]
      exact w1.trans d1
    · rw [hsu]
      exact w2.trans d2
    · show m2.op = c2.so
      rw [w3, d3, x3]
    · rw [hnc, k6]
      omega
    · rw [k6, hnc]
      have e0 : c.gn + 1 - (m.nc + 1) = c.gn - m.nc := by omega
      rw [e0]
      exact hK.1.set (s1 _ (by omega))
    · exact hK.2
    · rw [hnc, k6, hsm, hsu]
      exact hF
    · rw [hnc, k6, hsm, hsu]
      intro j hj
      rw [(k1 j (by omega)).2.2.2]
      exact f2 j (by omega)
    · rw [hsc', hnc]
      omega
    · rw [hsc', k6, hsm]
      intro j h1 h2
      by_cases q9 : j = c.gn
      · subst q9
        exact k5
      · rw [(k1 j (by omega)).2.2.2]
        exact g2 j (by omega) (by omega)
    · rw [hsc', k6, hsm]
      intro j hj
      rw [(k1 j (by omega)).2.2.2]
      exact g3 j (by omega)
    · intro h9
      have h8 : c2.so = false := h9
      rw [x3, hs] at h8
      cases h8
    · intro _
      rw [hnc, hsc']
      show m2.of = _
      rw [w4, hof]
      omega
/-! EACH CALL, on both stores -/
theorem RS.cd {t : Nat} {c : CS} {m : MS} (h : RS t c m) (k : Nat) : RS t c (m.u_cd k) := h.of rfl rfl
/-- add, where the triple is there -/
theorem add_0 {t : Nat} {c : CS} {m : MS} {s p q : Int64} (h : RS t c m) (ht : okT (s, p, q)) (hf : (c.fnd (hD s) (hD p) (hD q)).isSome = true) : m.d_in s p q = (0, m) := by
  have h1 := (fnd_iff h.1.1.1 _ _ _).mp hf
  have h2 := (fd3_iff h.2.2.2.1.1.1 h.2.2.2.1.1.2.1 ht).mpr h1
  unfold MS.d_in
  rw [if_pos h2]
theorem fnd_no {t : Nat} {c : CS} {m : MS} {s p q : Int64} (h : RS t c m) (ht : okT (s, p, q)) (hf : c.fnd (hD s) (hD p) (hD q) = none) : ¬ Sc c c.gn (H3 (s, p, q)) ∧ ¬ fd3 m.tr s p q m.nt 0 < m.nt := by
  have h1 : ¬ Sc c c.gn (H3 (s, p, q)) := fun z => by
    have := (fnd_iff h.1.1.1 _ _ _).mpr z
    rw [hf] at this
    cases this
  exact ⟨h1, fun z => h1 ((fd3_iff h.2.2.2.1.1.1 h.2.2.2.1.1.2.1 ht).mp z)⟩
/-- add, where there is no room -/
theorem add_2 {t : Nat} {c : CS} {m : MS} {s p q : Int64} (h : RS t c m) (ht : okT (s, p, q)) (hf : c.fnd (hD s) (hD p) (hD q) = none) (hn : 48 ≤ c.tn) : m.d_in s p q = (0, m.u_cd 2) := by
  obtain ⟨-, h2⟩ := fnd_no h ht hf
  have h3 := h.nt
  unfold MS.d_in
  rw [if_neg h2, if_neg (by omega)]
/-- add, a change -/
theorem add_1 {t : Nat} {c : CS} {m : MS} {s p q : Int64} (ht5 : t < 2 ^ 20) (h : RS t c m) (ht : okT (s, p, q)) (hf : c.fnd (hD s) (hD p) (hD q) = none) (hn : c.tn < 48) :
    c.d_add (hD s) (hD p) (hD q) = (1, (c.tput (hD s) (hD p) (hD q)).d_note true (hD s) (hD p) (hD q)) ∧ (m.d_in s p q).1 = 1 ∧ (m.d_in s p q).2.cd = 0 ∧ RS (t + 1) (c.d_add (hD s) (hD p) (hD q)).2 (m.d_in s p q).2 := by
  obtain ⟨h1, h2⟩ := fnd_no h ht hf
  have h3 := h.nt
  have ec : c.d_add (hD s) (hD p) (hD q) = (1, (c.tput (hD s) (hD p) (hD q)).d_note true (hD s) (hD p) (hD q)) := by
    unfold CS.d_add
    rw [hf]
    rfl
  have em : m.d_in s p q = (1, (((m.u_cd 0).d_put s p q).d_note true s p q).d_end) := by
    unfold MS.d_in
    rw [if_neg h2, if_pos (by omega)]
  have hC : C48 (apS true (H3 (s, p, q)) (Sc c c.gn)) := by
    refine ⟨_, c.tn + 1, by omega, h.1.1.1.put (g := fun i => if i = c.tn then H3 (s, p, q) else fc c i) h1 (fun i hi => if_neg (by omega)) (if_pos rfl)⟩
  obtain ⟨-, hr2⟩ := cr_put (s := hD s) (p := hD p) (q := hD q) h.1.1 h1 hC
  obtain ⟨-, hr3⟩ := mr_app (b := true) (h.cd 0).2.2.2.1.1 ht h1 hC
  have key := RS_note (b := true) (c2 := c.tput (hD s) (hD p) (hD q)) (m2 := (m.u_cd 0).d_put s p q) ht5 (h.cd 0) ht h1 hC ⟨⟨rfl, rfl, rfl, rfl, rfl, rfl⟩, rfl, rfl, rfl, rfl⟩ hr2 ⟨⟨⟨rfl, rfl, rfl, rfl, rfl⟩, ⟨rfl, rfl, rfl, rfl⟩, rfl, rfl⟩, rfl⟩ hr3
  rw [ec, em]
  refine ⟨rfl, rfl, ?_, key⟩
  show MS.cd (MS.d_end _) = 0
  unfold MS.d_end
  cases (((m.u_cd 0).d_put s p q).d_note true s p q).op <;> rfl
/-- remove -/
theorem rem_0 {t : Nat} {c : CS} {m : MS} {s p q : Int64} (h : RS t c m) (ht : okT (s, p, q)) (hf : c.fnd (hD s) (hD p) (hD q) = none) : c.d_del (hD s) (hD p) (hD q) = (0, c) ∧ m.d_out s p q = (0, m) := by
  obtain ⟨-, h2⟩ := fnd_no h ht hf
  constructor
  · unfold CS.d_del
    rw [hf]
  · unfold MS.d_out
    rw [if_neg h2]
theorem rem_1 {t : Nat} {c : CS} {m : MS} {s p q : Int64} {k : Nat} (ht5 : t < 2 ^ 20) (h : RS t c m) (ht : okT (s, p, q)) (hf : c.fnd (hD s) (hD p) (hD q) = some k) :
    (c.d_del (hD s) (hD p) (hD q)).1 = 1 ∧ (m.d_out s p q).1 = 1 ∧ (m.d_out s p q).2.cd = m.cd ∧ RS (t + 1) (c.d_del (hD s) (hD p) (hD q)).2 (m.d_out s p q).2 := by
  have h1 : Sc c c.gn (H3 (s, p, q)) := (fnd_iff h.1.1.1 _ _ _).mp (by rw [hf]; rfl)
  have h2 := (fd3_iff h.2.2.2.1.1.1 h.2.2.2.1.1.2.1 ht).mpr h1
  have ec : c.d_del (hD s) (hD p) (hD q) = (1, (c.tcut k).d_note false (hD s) (hD p) (hD q)) := by
    unfold CS.d_del
    rw [hf]
  have em : m.d_out s p q = (1, ((m.d_cut (fd3 m.tr s p q m.nt 0)).d_note false s p q).d_end) := by
    unfold MS.d_out
    rw [if_pos h2]
  have hr2 := cr_cut h.1.1 hf
  have hC : C48 (apS false (H3 (s, p, q)) (Sc c c.gn)) := ⟨_, _, hr2.2, hr2.1⟩
  obtain ⟨-, hr3⟩ := mr_app (b := false) h.2.2.2.1.1 ht h1 hC
  have key := RS_note (b := false) (c2 := c.tcut k) (m2 := m.d_cut (fd3 m.tr s p q m.nt 0)) ht5 h ht h1 hC ⟨⟨rfl, rfl, rfl, rfl, rfl, rfl⟩, rfl, rfl, rfl, rfl⟩ hr2 ⟨⟨⟨rfl, rfl, rfl, rfl, rfl⟩, ⟨rfl, rfl, rfl, rfl⟩, rfl, rfl⟩, rfl⟩ hr3
  rw [ec, em]
  refine ⟨rfl, rfl, ?_, key⟩
  show MS.cd (MS.d_end _) = m.cd
  unfold MS.d_end
  cases ((m.d_cut (fd3 m.tr s p q m.nt 0)).d_note false s p q).op <;> rfl
theorem RS_begin {t : Nat} {c : CS} {m : MS} (h : RS t c m) (hs : c.so = false) : RS t (c.u_so true) ((m.u_op true).u_of m.nc) := by
  obtain ⟨a, b, ⟨d1, d2, d3, d4⟩, e, f, g1, g2, g3, g4, g5⟩ := h
  refine ⟨a, b, ⟨d1, d2, rfl, d4⟩, e, f, g1, g2, g3, fun z => (nomatch z), fun _ => ?_⟩
  show m.nc = m.nc - c.sc
  rw [g4 hs]
  rfl
theorem RS_commit {t : Nat} {c : CS} {m : MS} (h : RS t c m) : RS (t + 1) (((c.u_so false).u_sc 0).d_cc) m.d_close := by
  obtain ⟨⟨a1, a2, a3, a4⟩, ⟨b1, b2, b3, b4⟩, ⟨d1, d2, d3, d4⟩, e, ⟨f1, f2⟩, g1, g2, g3, g4, g5⟩ := h
  have e0 : c.sm + 1 - (c.su + 1) = c.sm - c.su := by omega
  refine ⟨⟨a1, by show c.gn ≤ t + 1; omega, a3, a4⟩, ⟨fun j hj => ⟨(b1 j hj).1, by show xs_ c j ≤ c.sm + 1; have := (b1 j hj).2; omega⟩, b2, by show c.su + 1 ≤ c.sm + 1; omega, by show c.sm + 1 ≤ t + 1; omega⟩, ⟨by show m.cm + 1 = c.sm + 1; rw [d1], by show m.us + 1 = c.su + 1; rw [d2], rfl, d4⟩, e, ⟨fun i hi => ?_, fun j hj => ?_⟩, Nat.zero_le _, fun j h1 h2 => ?_, fun j hj => ?_, fun _ => rfl, fun z => (nomatch z)⟩
  · show _ ∧ _ = nI (_ - (c.sm + 1 - (c.su + 1))) ∧ c.sm + 1 - (c.su + 1) ≤ _
    rw [e0]
    exact f1 i hi
  · show xs_ c j < c.sm + 1 - (c.su + 1)
    rw [e0]
    exact f2 j hj
  · have h1' : c.gn - 0 ≤ j := h1
    have h2' : j < c.gn := h2
    omega
  · have hj' : j < c.gn - 0 := hj
    show xs_ c j < c.sm + 1
    have := (b1 j (by omega)).2
    omega
/-- the log cut to n entries: what the relation says of them still holds -/
theorem cut_xs {c c' : CS} {n : Nat} (hu : c'.sx = c.sx) : ∀ j, xs_ c' j = xs_ c j := fun j => by
  unfold xs_
  rw [hu]
/-- rollback -/
theorem RS_rollback {t : Nat} {c : CS} {m : MS} (ht5 : t < 2 ^ 20) (h : RS t c m) (hs : c.so = true) :
    CS.ok_uf c.sm c.gn c ∧ MS.ok_undo (m.nc - m.of) m ∧ m.nc - m.of = c.sc ∧ m.of ≤ m.nc ∧ RS t (((CS.d_uf c.sm c.gn c).u_so false).u_sc 0) ((MS.d_undo (m.nc - m.of) m).u_op false) ∧ Uk c (CS.d_uf c.sm c.gn c) ∧ Mk m (MS.d_undo (m.nc - m.of) m) := by
  have hx := h
  obtain ⟨⟨a1, a2, a3, a4⟩, ⟨b1, b2, b3, b4⟩, ⟨d1, d2, d3, d4⟩, ⟨e1, e2, e3⟩, ⟨f1, f2⟩, g1, g2, g3, g4, g5⟩ := h
  have hof := g5 hs
  have hsc : m.nc - m.of = c.sc := by omega
  obtain ⟨u1, n, u2, u3, u4, u5, u6, u7, u8⟩ := uf_spec c.sm c.gn c rfl a1 a3 a4
  have lt : ∀ j, j < c.gn → (c.sx j < nI c.sm ↔ xs_ c j < c.sm) := fun j hj => by
    have hb := b1 j hj
    rw [hb.1]
    exact nI_ltI (by omega) (by omega)
  have hn : n = c.gn - c.sc := by
    apply Nat.le_antisymm
    · rcases u8 with h9 | h9
      · omega
      · by_cases q : n = 0
        · omega
        · have h8 := (lt (n - 1) (by omega)).mp h9
          apply Nat.le_of_not_lt
          intro z
          have := g2 (n - 1) (by omega) (by omega)
          omega
    · apply Nat.le_of_not_lt
      intro z
      exact u7 n (Nat.le_refl _) (by omega) ((lt n (by omega)).mpr (g3 n z))
  subst hn
  obtain ⟨v1, v2, v3, v4⟩ := undo_spec (c.gn - m.nc) (m.nc - c.sc) a3 a4 c.sc m (by omega) (by omega) (fun i hi1 hi2 => (f1 i (by omega)).1) (by
    have e0 : c.gn - m.nc + (m.nc - c.sc + c.sc) = c.gn := by omega
    rw [e0]
    exact e1)
  have e4 : c.gn - m.nc + (m.nc - c.sc) = c.gn - c.sc := by omega
  rw [e4] at v2
  rw [hsc]
  refine ⟨u1, v1, rfl, by omega, ?_, u4, v4⟩
  have hX : ∀ j, xs_ (((CS.d_uf c.sm c.gn c).u_so false).u_sc 0) j = xs_ c j := cut_xs (n := 0) u4.2.1
  have hS : ∀ j, j ≤ c.gn - c.sc → ∀ y, Sc (((CS.d_uf c.sm c.gn c).u_so false).u_sc 0) j y ↔ Sc c j y := fun j hj y => logS_congr j (fun i hi => ⟨by show (CS.d_uf c.sm c.gn c).si i = _; rw [u4.1], u5 i (by omega)⟩) y
  have hgn : (((CS.d_uf c.sm c.gn c).u_so false).u_sc 0).gn = c.gn - c.sc := u3
  have hsm : (((CS.d_uf c.sm c.gn c).u_so false).u_sc 0).sm = c.sm := u4.2.2.2.2.1
  have hsu : (((CS.d_uf c.sm c.gn c).u_so false).u_sc 0).su = c.su := u4.2.2.2.2.2.1
  have hnc : ((MS.d_undo c.sc m).u_op false).nc = m.nc - c.sc := v3
  refine ⟨⟨?_, ?_, ?_, ?_⟩, ⟨?_, ?_, ?_, ?_⟩, ⟨?_, ?_, rfl, ?_⟩, ⟨?_, ?_, ?_⟩, ⟨?_, ?_⟩, Nat.zero_le _, ?_, ?_, fun _ => rfl, fun z => (nomatch z)⟩
  · rw [hgn]
    exact ⟨u6.1.set (hS _ (Nat.le_refl _)), u6.2⟩
  · rw [hgn]
    omega
  · rw [hgn]
    exact fun j hj => logV_congr (fun i hi => ⟨by show (CS.d_uf c.sm c.gn c).si i = _; rw [u4.1], u5 i (by omega)⟩) (a3 j (by omega))
  · rw [hgn]
    exact fun j hj => (a4 j (by omega)).of (hS j hj)
  · rw [hgn, hsm]
    intro j hj
    rw [hX]
    show (CS.d_uf c.sm c.gn c).sx j = _ ∧ _
    rw [u4.2.1]
    exact b1 j (by omega)
  · rw [hgn]
    intro i j hij hj
    rw [hX, hX]
    exact b2 i j hij (by omega)
  · rw [hsm, hsu]
    exact b3
  · rw [hsm]
    exact b4
  · rw [hsm]
    exact v4.2.1.1.trans d1
  · rw [hsu]
    exact v4.2.1.2.1.trans d2
  · rw [hnc, hgn]
    omega
  · rw [hgn]
    exact v2.set (hS _ (Nat.le_refl _))
  · rw [hgn, hnc]
    have e5 : c.gn - c.sc - (m.nc - c.sc) = c.gn - m.nc := by omega
    rw [e5]
    show Rep (fun i => H3 (f3 (MS.d_undo c.sc m).kt i)) (MS.d_undo c.sc m).nk _
    rw [v4.1.1, v4.1.2.1]
    exact e2.set (hS _ (by omega))
  · show ∀ i, i < (MS.d_undo c.sc m).nk → okT (f3 (MS.d_undo c.sc m).kt i)
    rw [v4.1.1, v4.1.2.1]
    exact e3
  · rw [hgn, hnc, hsm, hsu]
    intro i hi
    have e5 : c.gn - c.sc - (m.nc - c.sc) = c.gn - m.nc := by omega
    rw [e5, hX]
    obtain ⟨r1, r2, r3⟩ := f1 i (by omega)
    refine ⟨?_, ?_, r3⟩
    · unfold chA at r1 ⊢
      show okT (f3 (MS.d_undo c.sc m).ch i) ∧ H3 (f3 (MS.d_undo c.sc m).ch i) = gl (CS.d_uf c.sm c.gn c) _ ∧ (MS.d_undo c.sc m).pt i = (CS.d_uf c.sm c.gn c).si _
      rw [v4.1.2.2.1, v4.1.2.2.2.1, u4.1, u5 _ (by omega)]
      exact r1
    · show (MS.d_undo c.sc m).fo i = _
      rw [v4.1.2.2.2.2]
      exact r2
  · rw [hgn, hnc, hsm, hsu]
    intro j hj
    rw [hX]
    exact f2 j (by omega)
  · rw [hgn]
    intro j h1 h2
    have h1' : c.gn - c.sc - 0 ≤ j := h1
    omega
  · rw [hgn, hsm]
    intro j hj
    have hj' : j < c.gn - c.sc - 0 := hj
    rw [hX]
    exact g3 j (by omega)
/-! SYNC AND CRASH, on both stores -/
/-- what is kept now is the set S -/
theorem keep_spec {m : MS} {S : T3 → Prop} (h : MR m S) : Rep (fun i => H3 (f3 m.d_keep.kt i)) m.d_keep.nk S ∧ (∀ i, i < m.d_keep.nk → okT (f3 m.d_keep.kt i)) := by
  have e : ∀ i, i < m.nt → f3 m.d_keep.kt i = f3 m.tr i := fun i hi => f3_cpk m.kt m.tr m.nt i hi
  refine ⟨h.1.congr (fun i hi => ?_), fun i hi => ?_⟩
  · show H3 _ = H3 _
    rw [e i hi]
  · rw [e i hi]
    exact h.2.1 i hi
theorem RS_sync {t : Nat} {c : CS} {m : MS} (ht5 : t ≤ 512) (h : RS t c m) : m.ok_settle ∧ RS t (c.u_su 0) m.d_settle ∧ m.d_settle.1.2 = m.1.2 ∧ m.d_settle.2 = m.2 := by
  have hopn := h.opn
  obtain ⟨⟨a1, a2, a3, a4⟩, ⟨b1, b2, b3, b4⟩, ⟨d1, d2, d3, d4⟩, ⟨e1, e2, e3⟩, ⟨f1, f2⟩, g1, g2, g3, g4, g5⟩ := h
  have e0 : c.gn - m.nc + (m.nc - c.sc + c.sc) = c.gn := by omega
  have e4 : c.gn - m.nc + (m.nc - c.sc) = c.gn - c.sc := by omega
  obtain ⟨v1, v2, v3, v4⟩ := back_spec (c.gn - m.nc) (m.nc - c.sc) a3 a4 c.sc m (by omega) (fun i hi1 hi2 => (f1 i (by omega)).1) (by
    rw [e0]
    exact e1)
  have q0 : Mk (MS.d_back (m.nc - c.sc) c.sc m) (MS.d_back (m.nc - c.sc) c.sc m) := Mk.refl
  have k0 := keep_spec v2
  have hch : ∀ j, 0 ≤ j → j < 0 + c.sc → chA c.si (gl c) (MS.d_back (m.nc - c.sc) c.sc m).d_keep (m.nc - c.sc + j) (c.gn - m.nc + (m.nc - c.sc + j)) := fun j _ hj => by
    have r := chA_Mk v4 (f1 (m.nc - c.sc + j) (by omega)).1
    exact r
  obtain ⟨w1, w2, w3, -, w5, w6, w7, w8, w9, w10⟩ := redo_spec (c.gn - m.nc) (m.nc - c.sc) a3 a4 c.sc 0 (MS.d_back (m.nc - c.sc) c.sc m).d_keep (by omega) hch v2
  have e5 : c.gn - m.nc + (m.nc - c.sc + (0 + c.sc)) = c.gn := by omega
  rw [e5] at w2
  rw [e4] at k0
  have es : m.d_settle = (((MS.d_redo (m.nc - c.sc) c.sc 0 (MS.d_back (m.nc - c.sc) c.sc m).d_keep).u_nc c.sc).u_of 0).u_us 0 := by
    unfold MS.d_settle
    rw [hopn]
  have hok : m.ok_settle := by
    unfold MS.ok_settle
    rw [hopn]
    refine ⟨e1.2.2, by omega, fun hs => ?_, v1, w1⟩
    have := g5 (d3 ▸ hs)
    omega
  rw [es]
  refine ⟨hok, ⟨⟨a1, a2, a3, a4⟩, ⟨b1, b2, Nat.zero_le _, b4⟩, ⟨?_, rfl, ?_, ?_⟩, ⟨w2, ?_, ?_⟩, ⟨?_, ?_⟩, Nat.le_refl _, g2, g3, g4, fun _ => ?_⟩, ?_, ?_⟩
  · show (MS.d_redo _ _ _ _).cm = c.sm
    rw [w7]
    exact v4.2.1.1.trans d1
  · show (MS.d_redo _ _ _ _).op = c.so
    rw [w8]
    exact v4.2.1.2.2.1.trans d3
  · show c.sc ≤ c.gn
    omega
  · show Rep (fun i => H3 (f3 (MS.d_redo _ _ _ _).kt i)) (MS.d_redo _ _ _ _).nk (Sc c (c.gn - c.sc))
    rw [w5, w6]
    exact k0.1
  · show ∀ i, i < (MS.d_redo _ _ _ _).nk → okT (f3 (MS.d_redo _ _ _ _).kt i)
    rw [w5, w6]
    exact k0.2
  · intro i hi
    have hi' : i < c.sc := hi
    obtain ⟨r1, r2⟩ := w3 i (Nat.zero_le _) (by omega)
    have e6 : c.gn - m.nc + (m.nc - c.sc + i) = c.gn - c.sc + i := by omega
    rw [e6] at r1
    have r3 := g2 (c.gn - c.sc + i) (by omega) (by omega)
    refine ⟨r1, ?_, ?_⟩
    · show (MS.d_redo _ _ _ _).fo i = nI (xs_ c (c.gn - c.sc + i) - (c.sm - 0))
      rw [r2, r3, Nat.sub_zero, Nat.sub_self]
      rfl
    · show c.sm - 0 ≤ xs_ c (c.gn - c.sc + i)
      rw [r3]
      exact Nat.sub_le _ _
  · intro j hj
    show xs_ c j < c.sm - 0
    rw [Nat.sub_zero]
    exact g3 j hj
  · show 0 = c.sc - c.sc
    rw [Nat.sub_self]
  · show (MS.d_redo _ _ _ _).1.2 = m.1.2
    rw [w9]
    exact v4.2.2.1
  · show (MS.d_redo _ _ _ _).2 = m.2
    rw [w10]
    exact v4.2.2.2
/-- what is loaded is what was kept -/
theorem load_spec {m : MS} {S : T3 → Prop} (h : Rep (fun i => H3 (f3 m.kt i)) m.nk S) (hk : ∀ i, i < m.nk → okT (f3 m.kt i)) (hc : C48 S) : MR m.d_load S := by
  have e : ∀ i, i < m.nk → f3 m.d_load.tr i = f3 m.kt i := fun i hi => f3_cpk m.tr m.kt m.nk i hi
  refine ⟨h.congr (fun i hi => ?_), fun i hi => ?_, hc.le h⟩
  · show H3 _ = H3 _
    rw [e i hi]
  · rw [e i hi]
    exact hk i hi
theorem RS_crash {t : Nat} {c : CS} {m : MS} (kp : Nat) (hk : kp ≤ 1000) (ht5 : t ≤ 512) (h : RS t c m) :
    CS.ok_uf (c.sm - c.su + min kp c.su) c.gn c ∧ (CS.d_uf (c.sm - c.su + min kp c.su) c.gn c).tn ≤ 48 ∧ m.nk ≤ 48 ∧ MS.ok_play kp m.lst 0 (m.u_cd 0).d_load ∧ (m.d_crash kp).cd = 0 ∧ (m.d_crash kp).1.2 = m.1.2 ∧ (m.d_crash kp).2.1 = m.2.1 ∧ (m.d_crash kp).2.2.1 = m.2.2.1 ∧
    RS t ((((CS.d_uf (c.sm - c.su + min kp c.su) c.gn c).u_so false).u_sc 0).u_su 0) (m.d_crash kp) ∧ Uk c (CS.d_uf (c.sm - c.su + min kp c.su) c.gn c) := by
  have hlst := h.lst
  obtain ⟨⟨a1, a2, a3, a4⟩, ⟨b1, b2, b3, b4⟩, ⟨d1, d2, d3, d4⟩, ⟨e1, e2, e3⟩, ⟨f1, f2⟩, g1, g2, g3, g4, g5⟩ := h
  obtain ⟨tx, htx⟩ : ∃ tx, tx = c.sm - c.su + min kp c.su := ⟨_, rfl⟩
  rw [← htx]
  obtain ⟨u1, n, u2, u3, u4, u5, u6, u7, u8⟩ := uf_spec tx c.gn c rfl a1 a3 a4
  have lt : ∀ j, j < c.gn → (c.sx j < nI tx ↔ xs_ c j < tx) := fun j hj => by
    have hb := b1 j hj
    rw [hb.1]
    exact nI_ltI (by omega) (by omega)
  have hge : ∀ j, n ≤ j → j < c.gn → tx ≤ xs_ c j := fun j h1 h2 => Nat.le_of_not_lt (fun z => u7 j h1 h2 ((lt j h2).mpr z))
  have hlt : ∀ j, j < n → xs_ c j < tx := fun j hj => by
    rcases u8 with h9 | h9
    · omega
    · have h8 := (lt (n - 1) (by omega)).mp h9
      have := b2 j (n - 1) (by omega) (by omega)
      omega
  have hn1 : c.gn - m.nc ≤ n := Nat.le_of_not_lt (fun z => by
    have h1 := f2 n z
    have h2 := hge n (Nat.le_refl _) (by omega)
    omega)
  have hn2 : n ≤ c.gn - c.sc := Nat.le_of_not_lt (fun z => by
    have h1 := hlt (n - 1) (by omega)
    have h2 := g2 (n - 1) (by omega) (by omega)
    omega)
  have hL := load_spec (m := m.u_cd 0) e2 e3 (a4 _ (by omega))
  obtain ⟨w1, w2, w3, w4⟩ := play_spec (I := c.si) (G := gl c) (N := c.gn) (c.gn - m.nc) kp (n - (c.gn - m.nc)) (m.nc - c.sc) a3 a4 (by omega) (by omega) (m.nc - c.sc) 0 (m.u_cd 0).d_load (by omega) (fun j hj => (f1 j (by omega)).1) (fun j hj => by
    obtain ⟨-, r2, r3⟩ := f1 j (by omega)
    have r4 := g3 (c.gn - m.nc + j) (by omega)
    show nI kp ≤ m.fo j ↔ _
    rw [r2, nI_leI (by omega) (by omega)]
    constructor
    · intro z
      apply Nat.le_of_not_lt
      intro y
      have := hlt (c.gn - m.nc + j) (by omega)
      omega
    · intro z
      have := hge (c.gn - m.nc + j) (by omega) (by omega)
      omega) (by
    rw [Nat.zero_min, Nat.add_zero]
    exact hL)
  have e5 : c.gn - m.nc + (n - (c.gn - m.nc)) = n := by omega
  rw [e5] at w2
  have k0 := keep_spec w2
  have es : m.d_crash kp = ((((((MS.d_play kp (m.nc - c.sc) 0 (m.u_cd 0).d_load).u_op false).u_nc 0).d_keep).u_nc 0).u_of 0).u_us 0 := by
    unfold MS.d_crash MS.d_settle
    rw [hlst]
    rfl
  rw [hlst, es]
  have hX : ∀ j, xs_ ((((CS.d_uf tx c.gn c).u_so false).u_sc 0).u_su 0) j = xs_ c j := cut_xs (n := 0) u4.2.1
  have hS : ∀ j, j ≤ n → ∀ y, Sc ((((CS.d_uf tx c.gn c).u_so false).u_sc 0).u_su 0) j y ↔ Sc c j y := fun j hj y => logS_congr j (fun i hi => ⟨by show (CS.d_uf tx c.gn c).si i = _; rw [u4.1], u5 i (by omega)⟩) y
  have hgn : ((((CS.d_uf tx c.gn c).u_so false).u_sc 0).u_su 0).gn = n := u3
  have hsm : ((((CS.d_uf tx c.gn c).u_so false).u_sc 0).u_su 0).sm = c.sm := u4.2.2.2.2.1
  refine ⟨u1, u6.2, (a4 _ (by omega)).le e2, w1, ?_, ?_, ?_, ?_, ⟨⟨?_, ?_, ?_, ?_⟩, ⟨?_, ?_, ?_, ?_⟩, ⟨?_, rfl, rfl, Nat.zero_le _⟩, ⟨?_, ?_, ?_⟩, ⟨fun i hi => (nomatch hi), ?_⟩, Nat.le_refl _, ?_, ?_, fun _ => rfl, fun z => (nomatch z)⟩, u4⟩
  · show (MS.d_play _ _ _ _).2.2.2 = 0
    rw [w4.2.2.2]
  · show (MS.d_play _ _ _ _).1.2 = m.1.2
    rw [w4.2.2.1]
  · show (MS.d_play _ _ _ _).2.1 = m.2.1
    rw [w4.2.2.2]
  · show (MS.d_play _ _ _ _).2.2.1 = m.2.2.1
    rw [w4.2.2.2]
  · rw [hgn]
    exact ⟨u6.1.set (hS _ (Nat.le_refl _)), u6.2⟩
  · rw [hgn]
    omega
  · rw [hgn]
    exact fun j hj => logV_congr (fun i hi => ⟨by show (CS.d_uf tx c.gn c).si i = _; rw [u4.1], u5 i (by omega)⟩) (a3 j (by omega))
  · rw [hgn]
    exact fun j hj => (a4 j (by omega)).of (hS j hj)
  · rw [hgn, hsm]
    intro j hj
    rw [hX]
    show (CS.d_uf tx c.gn c).sx j = _ ∧ _
    rw [u4.2.1]
    exact b1 j (by omega)
  · rw [hgn]
    intro i j hij hj
    rw [hX, hX]
    exact b2 i j hij (by omega)
  · exact Nat.zero_le _
  · rw [hsm]
    exact b4
  · rw [hsm]
    show (MS.d_play _ _ _ _).cm = c.sm
    rw [w4.2.1.1]
    exact d1
  · rw [hgn]
    exact w2.set (hS _ (Nat.le_refl _))
  · rw [hgn]
    exact k0.1.set (hS _ (Nat.le_refl _))
  · exact k0.2
  · rw [hgn, hsm]
    intro j hj
    rw [hX]
    have hj' : j < n := hj
    show xs_ c j < c.sm - 0
    have := hlt j hj'
    omega
  · rw [hgn]
    intro j h1 h2
    have h1' : n - 0 ≤ j := h1
    omega
  · rw [hgn, hsm]
    intro j hj
    have hj' : j < n - 0 := hj
    rw [hX]
    have := hlt j (by omega)
    omega
