/-! no number outside the world is named -/
def QR (L : List Nat) (m : gMem) : Prop := ∀ o k b : Nat, gR m o k = some b → b ∈ L
def PV {α : Type} (P : gMem → Prop) (r : Option (α × gMem)) : Prop := ∀ a m', r = some (a, m') → P m'
def PM (P : gMem → Prop) (r : Option gMem) : Prop := ∀ m', r = some m' → P m'
section PVS
variable {α β γ : Type} {P : gMem → Prop}
theorem pv_none : PV P (none : Option (α × gMem)) := fun _ _ h => by cases h
theorem pm_none : PM P none := fun _ h => by cases h
theorem pv_some {a : α} {m : gMem} (h : P m) : PV P (some (a, m)) := fun _ _ e => by cases e; exact h
theorem pm_some {m : gMem} (h : P m) : PM P (some m) := fun _ e => by cases e; exact h
theorem pv_ite {c : Prop} [Decidable c] {X Y : Option (α × gMem)} (h1 : c → PV P X) (h2 : ¬ c → PV P Y) : PV P (if c then X else Y) := by
  by_cases h : c
  · rw [if_pos h]; exact h1 h
  · rw [if_neg h]; exact h2 h
theorem pm_ite {c : Prop} [Decidable c] {X Y : Option gMem} (h1 : c → PM P X) (h2 : ¬ c → PM P Y) : PM P (if c then X else Y) := by
  by_cases h : c
  · rw [if_pos h]; exact h1 h
  · rw [if_neg h]; exact h2 h
theorem pv_lt1 {a : β} {k : β → Option (α × gMem)} (h : PV P (k a)) : PV P (lt1 a k) := h
theorem pm_lt1 {a : β} {k : β → Option gMem} (h : PM P (k a)) : PM P (lt1 a k) := h
theorem pv_jn {a : β} {k : β → Option (α × gMem)} (h : PV P (k a)) : PV P (jn a k) := h
theorem pm_jn {a : β} {k : β → Option gMem} (h : PM P (k a)) : PM P (jn a k) := h
theorem pv_bd {r : Option β} {k : β → Option (α × gMem)} (h : ∀ a, r = some a → PV P (k a)) : PV P (bd r k) := by
  cases r with
  | none => exact pv_none
  | some a => exact h a rfl
theorem pm_bd {r : Option β} {k : β → Option gMem} (h : ∀ a, r = some a → PM P (k a)) : PM P (bd r k) := by
  cases r with
  | none => exact pm_none
  | some a => exact h a rfl
theorem pv_bdm {r : Option gMem} {k : gMem → Option (α × gMem)} (h1 : PM P r) (h : ∀ m, P m → PV P (k m)) : PV P (bd r k) := by
  cases r with
  | none => exact pv_none
  | some a => exact h a (h1 a rfl)
theorem pm_bdm {r : Option gMem} {k : gMem → Option gMem} (h1 : PM P r) (h : ∀ m, P m → PM P (k m)) : PM P (bd r k) := by
  cases r with
  | none => exact pm_none
  | some a => exact h a (h1 a rfl)
theorem pv_bd2 {r : Option (β × gMem)} {k : β → gMem → Option (α × gMem)} (h1 : PV P r) (h : ∀ a m, P m → PV P (k a m)) : PV P (bd2 r k) := by
  match r, h1 with
  | none, _ => exact pv_none
  | some (a, m), h1 => exact h a m (h1 a m rfl)
theorem pm_bd2 {r : Option (β × gMem)} {k : β → gMem → Option gMem} (h1 : PV P r) (h : ∀ a m, P m → PM P (k a m)) : PM P (bd2 r k) := by
  match r, h1 with
  | none, _ => exact pm_none
  | some (a, m), h1 => exact h a m (h1 a m rfl)
theorem pv_oc {x : Option β} {n : Option (α × gMem)} {k : β → Option (α × gMem)} (h1 : x = none → PV P n) (h2 : ∀ b, x = some b → PV P (k b)) : PV P (oc x n k) := by
  cases x with
  | none => exact h1 rfl
  | some b => exact h2 b rfl
theorem pm_oc {x : Option β} {n : Option gMem} {k : β → Option gMem} (h1 : x = none → PM P n) (h2 : ∀ b, x = some b → PM P (k b)) : PM P (oc x n k) := by
  cases x with
  | none => exact h1 rfl
  | some b => exact h2 b rfl
theorem pv_lq1 {st : (gMem → Option (α × gMem)) → gMem → Option (α × gMem)} (h : ∀ F : gMem → Option (α × gMem), (∀  (m : gMem), P m → PV P (F  m)) → ∀  (m : gMem), P m → PV P (st F  m)) {n : Nat} {m : gMem} (hm : P m) : PV P (lq1 st n  m) := by
  induction n generalizing m with
  | zero => exact pv_none
  | succ n ih => exact h _ (fun  m hm => ih hm)  m hm
theorem pv_lq2 {A0 : Type} {st : (A0 → gMem → Option (α × gMem)) → A0 → gMem → Option (α × gMem)} (h : ∀ F : A0 → gMem → Option (α × gMem), (∀ (a0 : A0) (m : gMem), P m → PV P (F a0 m)) → ∀ (a0 : A0) (m : gMem), P m → PV P (st F a0 m)) {n : Nat} {a0 : A0} {m : gMem} (hm : P m) : PV P (lq2 st n a0 m) := by
  induction n generalizing a0 m with
  | zero => exact pv_none
  | succ n ih => exact h _ (fun a0 m hm => ih hm) a0 m hm
theorem pv_lq3 {A0 A1 : Type} {st : (A0 → A1 → gMem → Option (α × gMem)) → A0 → A1 → gMem → Option (α × gMem)} (h : ∀ F : A0 → A1 → gMem → Option (α × gMem), (∀ (a0 : A0) (a1 : A1) (m : gMem), P m → PV P (F a0 a1 m)) → ∀ (a0 : A0) (a1 : A1) (m : gMem), P m → PV P (st F a0 a1 m)) {n : Nat} {a0 : A0} {a1 : A1} {m : gMem} (hm : P m) : PV P (lq3 st n a0 a1 m) := by
  induction n generalizing a0 a1 m with
  | zero => exact pv_none
  | succ n ih => exact h _ (fun a0 a1 m hm => ih hm) a0 a1 m hm
theorem pv_lq4 {A0 A1 A2 : Type} {st : (A0 → A1 → A2 → gMem → Option (α × gMem)) → A0 → A1 → A2 → gMem → Option (α × gMem)} (h : ∀ F : A0 → A1 → A2 → gMem → Option (α × gMem), (∀ (a0 : A0) (a1 : A1) (a2 : A2) (m : gMem), P m → PV P (F a0 a1 a2 m)) → ∀ (a0 : A0) (a1 : A1) (a2 : A2) (m : gMem), P m → PV P (st F a0 a1 a2 m)) {n : Nat} {a0 : A0} {a1 : A1} {a2 : A2} {m : gMem} (hm : P m) : PV P (lq4 st n a0 a1 a2 m) := by
  induction n generalizing a0 a1 a2 m with
  | zero => exact pv_none
  | succ n ih => exact h _ (fun a0 a1 a2 m hm => ih hm) a0 a1 a2 m hm
theorem pm_lq1 {st : (gMem → Option gMem) → gMem → Option gMem} (h : ∀ F : gMem → Option gMem, (∀  (m : gMem), P m → PM P (F  m)) → ∀  (m : gMem), P m → PM P (st F  m)) {n : Nat} {m : gMem} (hm : P m) : PM P (lq1 st n  m) := by
  induction n generalizing m with
  | zero => exact pm_none
  | succ n ih => exact h _ (fun  m hm => ih hm)  m hm
theorem pm_lq2 {A0 : Type} {st : (A0 → gMem → Option gMem) → A0 → gMem → Option gMem} (h : ∀ F : A0 → gMem → Option gMem, (∀ (a0 : A0) (m : gMem), P m → PM P (F a0 m)) → ∀ (a0 : A0) (m : gMem), P m → PM P (st F a0 m)) {n : Nat} {a0 : A0} {m : gMem} (hm : P m) : PM P (lq2 st n a0 m) := by
  induction n generalizing a0 m with
  | zero => exact pm_none
  | succ n ih => exact h _ (fun a0 m hm => ih hm) a0 m hm
theorem pm_lq3 {A0 A1 : Type} {st : (A0 → A1 → gMem → Option gMem) → A0 → A1 → gMem → Option gMem} (h : ∀ F : A0 → A1 → gMem → Option gMem, (∀ (a0 : A0) (a1 : A1) (m : gMem), P m → PM P (F a0 a1 m)) → ∀ (a0 : A0) (a1 : A1) (m : gMem), P m → PM P (st F a0 a1 m)) {n : Nat} {a0 : A0} {a1 : A1} {m : gMem} (hm : P m) : PM P (lq3 st n a0 a1 m) := by
  induction n generalizing a0 a1 m with
  | zero => exact pm_none
  | succ n ih => exact h _ (fun a0 a1 m hm => ih hm) a0 a1 m hm
theorem pm_lq4 {A0 A1 A2 : Type} {st : (A0 → A1 → A2 → gMem → Option gMem) → A0 → A1 → A2 → gMem → Option gMem} (h : ∀ F : A0 → A1 → A2 → gMem → Option gMem, (∀ (a0 : A0) (a1 : A1) (a2 : A2) (m : gMem), P m → PM P (F a0 a1 a2 m)) → ∀ (a0 : A0) (a1 : A1) (a2 : A2) (m : gMem), P m → PM P (st F a0 a1 a2 m)) {n : Nat} {a0 : A0} {a1 : A1} {a2 : A2} {m : gMem} (hm : P m) : PM P (lq4 st n a0 a1 a2 m) := by
  induction n generalizing a0 a1 a2 m with
  | zero => exact pm_none
  | succ n ih => exact h _ (fun a0 a1 a2 m hm => ih hm) a0 a1 a2 m hm
end PVS
section QRS
variable {L : List Nat} {m : gMem} {o k : Nat}
theorem qr_sI {v : Int32} (h : QR L m) : QR L (gsI m o k v) := h
theorem qr_sJ {v : Int64} (h : QR L m) : QR L (gsJ m o k v) := h
theorem qr_cp {a b n : Nat} (h : QR L m) : QR L (gcp m a b n) := h
theorem qr_sg {v : Option Nat} (h : QR L m) (hv : ∀ b, v = some b → b ∈ L) : QR L (gsR m o k v) := by
  intro p q b hb
  rw [gR_sR] at hb
  split at hb
  · exact hv b hb
  · exact h p q b hb
theorem qr_sN (h : QR L m) : QR L (gsR m o k none) := qr_sg h (fun _ z => by cases z)
theorem qr_sW {w : Nat} (h : QR L m) (hw : wok L w) : QR L (gsR m o k (some w)) := qr_sg h (fun _ z => by cases z; exact hw.2.2.2.1)
theorem qr_sG {g : Nat} (hL : ∀ o ∈ LX0, o ∈ L) (h : QR L m) (hg : isN g) : QR L (gsR m o k (some g)) := qr_sg h (fun _ z => by cases z; exact hL _ (mN (k := 0) hg (by decide)))
theorem qr_sR {p q : Nat} (h : QR L m) {m' : gMem} (h' : QR L m') : QR L (gsR m o k (gR m' p q)) := qr_sg h (fun b z => h' p q b z)
end QRS
