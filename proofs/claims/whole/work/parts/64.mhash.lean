def e1K (k : Nat) : Nat := if k = 2 then 3 else 2
def duK (k : Nat) : Nat := if k = 4 then 11 else 10
def dvK (k : Nat) : Nat := if k = 4 then 5 else 4
section MHS
variable {X : XT} {J : MJ} {I : MI} {L : ML}
theorem c_eta1 {k : Nat} (hk : I mo 7 = nI k) (hb : k < 5) {q : Int32 → MI → ML → Prop} (hq : q (nI (e1K k)) I L) : wp_X8_eta1 X J mo I L q := by
  unfold wp_X8_eta1 e1K at *
  rw [hk, show (2 : Int32) = nI 2 from rfl, nI_eq (by omega) (by decide)]
  by_cases e : k = 2
  · rw [if_pos e] at hq; exact ⟨fun z => absurd e z, fun _ => hq⟩
  · rw [if_neg e] at hq; exact ⟨fun _ => hq, fun z => absurd z e⟩
theorem c_du {k : Nat} (hk : I mo 7 = nI k) (hb : k < 5) {q : Int32 → MI → ML → Prop} (hq : q (nI (duK k)) I L) : wp_X8_du X J mo I L q := by
  unfold wp_X8_du duK at *
  rw [hk, show (4 : Int32) = nI 4 from rfl, nI_eq (by omega) (by decide)]
  by_cases e : k = 4
  · rw [if_pos e] at hq; exact ⟨fun z => absurd e z, fun _ => hq⟩
  · rw [if_neg e] at hq; exact ⟨fun _ => hq, fun z => absurd z e⟩
theorem c_dv {k : Nat} (hk : I mo 7 = nI k) (hb : k < 5) {q : Int32 → MI → ML → Prop} (hq : q (nI (dvK k)) I L) : wp_X8_dv X J mo I L q := by
  unfold wp_X8_dv dvK at *
  rw [hk, show (4 : Int32) = nI 4 from rfl, nI_eq (by omega) (by decide)]
  by_cases e : k = 4
  · rw [if_pos e] at hq; exact ⟨fun z => absurd e z, fun _ => hq⟩
  · rw [if_neg e] at hq; exact ⟨fun _ => hq, fun z => absurd z e⟩
theorem c_ekBytes {k : Nat} (hk : I mo 7 = nI k) {q : Int32 → MI → ML → Prop} (hq : q (nI (384 * k + 32)) I L) : wp_X8_ekBytes X J mo I L q := by
  unfold wp_X8_ekBytes
  rw [hk, show (384 : Int32) = nI 384 from rfl, pk_mul, show (32 : Int32) = nI 32 from rfl, nI_add]
  exact hq
theorem c_textBytes {k : Nat} (hk : I mo 7 = nI k) (hb : k < 5) {q : Int32 → MI → ML → Prop} (hq : q (nI (32 * (duK k * k + dvK k))) I L) : wp_X8_textBytes X J mo I L q := by
  refine c_du hk hb (c_dv hk hb ?_)
  rw [hk, pk_mul, nI_add, show (32 : Int32) = nI 32 from rfl, pk_mul]
  exact hq
theorem c_g (hC : MC X J) (hT : MT I) {n : Nat} (hn : n ≤ 64) {g : Nat → Nat} (hg : Mb I 11336 n g) {q : MI → ML → Prop} (hq : ∀ I', MF I I' 19612 19676 (fun _ => False) → Mb I' 19612 64 (xof 72 6 n g) → q I' L) : wp_X8_g X J mo (nI n) I L q := by
  refine c_mabsorb (rate := 72) (fr := 11336) (n := n) hC hT (by decide) (by decide) (by omega) true (fun I3 f3 m3 => ?_)
  rw [kAb_c (g := g) (fun i hi => hg i hi), if_pos rfl] at m3
  have ex : xof 72 6 n g = kO 72 (kEn 72 6 (kAb 72 g n)) := rfl
  rw [ex] at hq
  generalize kEn 72 6 (kAb 72 g n) = S at m3 hq
  have m3' : Mq I3 72 (kS 72 S 0) := m3
  refine c_tells (to := 19612) (n := 64) hC (f3.t hT) (by decide) (by decide) m3' (by omega) (fun I4 f4 m4 b4 => hq I4 (MF.trans f3.f (f4.f (by decide) (by decide))) (fun i hi => ?_))
  rw [b4 i hi, Nat.zero_add]
theorem c_h (hC : MC X J) (hT : MT I) {fr n to : Nat} (hn : fr + n ≤ 20000) (ht : to + 32 ≤ 20000) {g : Nat → Nat} (hg : Mb I fr n g) {q : MI → ML → Prop} (hq : ∀ I', MF I I' to (to + 32) (fun _ => False) → Mb I' to 32 (xof 136 6 n g) → q I' L) : wp_X8_h X J mo (nI fr) (nI n) (nI to) I L q := by
  refine c_mabsorb (rate := 136) (fr := fr) (n := n) hC hT (by decide) (by decide) (by omega) true (fun I3 f3 m3 => ?_)
  rw [kAb_c (g := g) (fun i hi => hg i hi), if_pos rfl] at m3
  have ex : xof 136 6 n g = kO 136 (kEn 136 6 (kAb 136 g n)) := rfl
  rw [ex] at hq
  generalize kEn 136 6 (kAb 136 g n) = S at m3 hq
  have m3' : Mq I3 136 (kS 136 S 0) := m3
  refine c_tells (to := to) (n := 32) hC (f3.t hT) (by decide) (by decide) m3' (by omega) (fun I4 f4 m4 b4 => hq I4 (MF.trans f3.f (f4.f (Nat.le_refl _) (Nat.le_refl _))) (fun i hi => ?_))
  rw [b4 i hi, Nat.zero_add]
end MHS
/-! ===== the SCHEME ===== -/
def c33 (f : Nat → Nat) (b : Nat) (i : Nat) : Nat := if i < 32 then f i else b
def c34 (f : Nat → Nat) (a b : Nat) (i : Nat) : Nat := if i < 32 then f i else if i = 32 then a else b
/-- NOISE of eta from 32 BYTES and b -/
def nP (eta : Nat) (f : Nat → Nat) (b : Nat) : Nat → Nat := nz eta (xof 136 31 33 (c33 f b))
/-- SAMPLE of 32 BYTES and two more -/
def uS0 (f : Nat → Nat) (a b : Nat) : Nat → Nat := xof 168 31 34 (c34 f a b)
def uR (f : Nat → Nat) (a b most : Nat) : Nat := sR (uS0 f a b) most
def uP (f : Nat → Nat) (a b most : Nat) : Nat → Nat := (us (uS0 f a b) (uR f a b most)).2
theorem nP_c {eta b : Nat} {f g : Nat → Nat} (h : ∀ i, i < 32 → f i = g i) : nP eta f b = nP eta g b := by
  unfold nP
  rw [show xof 136 31 33 (c33 f b) = xof 136 31 33 (c33 g b) from funext (fun j => xof_c (fun i _ => by unfold c33; split; exact h i (by assumption); rfl) j)]
theorem uS0_c {a b : Nat} {f g : Nat → Nat} (h : ∀ i, i < 32 → f i = g i) : uS0 f a b = uS0 g a b := by
  unfold uS0
  exact funext (fun j => xof_c (fun i _ => by unfold c34; split; exact h i (by assumption); rfl) j)
/-- sums of products -/
def acc (z : Nat → Nat) (A B : Nat → Nat → Nat) : Nat → Nat → Nat
  | 0 => z
  | j + 1 => fun x => rad (acc z A B j x) (prd (A j) (B j) x)
