/-! ===== loops over k, k + 1, ..: what they come to ===== -/
def it {α : Type} (g : Nat → α → α) : Nat → Nat → α → α
  | 0, _, a => a
  | m + 1, k, a => it g m (k + 1) (g k a)
theorem it_loop {α β : Type} {L : Nat → Nat → α → β} {E : α → β} {g : Nat → α → α} {N : Nat} (hs : ∀ n k a, k < N → L (n + 1) k a = L n (k + 1) (g k a)) (he : ∀ n a, L (n + 1) N a = E a) :
    ∀ (m n k : Nat) (a : α), k + m = N → m < n → L n k a = E (it g m k a)
  | 0, n, k, a, hk, hn => by
    obtain ⟨n, rfl⟩ : ∃ n', n = n' + 1 := ⟨n - 1, by omega⟩
    have hkN : k = N := by omega
    subst hkN
    exact he n a
  | m + 1, n, k, a, hk, hn => by
    obtain ⟨n, rfl⟩ : ∃ n', n = n' + 1 := ⟨n - 1, by omega⟩
    rw [hs n k a (by omega)]
    exact it_loop hs he m n (k + 1) (g k a) (by omega) (by omega)
theorem it_id {α : Type} {g : Nat → α → α} : ∀ (m k : Nat) (a : α), (∀ j b, k ≤ j → j < k + m → g j b = b) → it g m k a = a
  | 0, _, _, _ => rfl
  | m + 1, k, a, h => by
    show it g m (k + 1) (g k a) = a
    rw [h k a (Nat.le_refl _) (by omega)]
    exact it_id m (k + 1) a (fun j b h1 h2 => h j b (by omega) (by omega))
theorem it_add {α : Type} {g : Nat → α → α} : ∀ (m n k : Nat) (a : α), it g (m + n) k a = it g n (k + m) (it g m k a)
  | 0, n, k, a => by rw [Nat.zero_add]; rfl
  | m + 1, n, k, a => by
    rw [show m + 1 + n = (m + n) + 1 by omega]
    show it g (m + n) (k + 1) (g k a) = it g n (k + (m + 1)) (it g m (k + 1) (g k a))
    rw [it_add m n (k + 1) (g k a), show k + 1 + m = k + (m + 1) by omega]
theorem it_congr {α : Type} {g g' : Nat → α → α} : ∀ (m k : Nat) (a : α), (∀ j b, k ≤ j → j < k + m → g j b = g' j b) → it g m k a = it g' m k a
  | 0, _, _, _ => rfl
  | m + 1, k, a, h => by
    show it g m (k + 1) (g k a) = it g' m (k + 1) (g' k a)
    rw [h k a (Nat.le_refl _) (by omega)]
    exact it_congr m (k + 1) _ (fun j b h1 h2 => h j b (by omega) (by omega))
theorem it_inv {α : Type} {g : Nat → α → α} (I : Nat → α → Prop) : ∀ (m k : Nat) (a : α), (∀ j b, k ≤ j → j < k + m → I j b → I (j + 1) (g j b)) → I k a → I (k + m) (it g m k a)
  | 0, _, _, _, h0 => h0
  | m + 1, k, a, h, h0 => by
    have h2 := it_inv I m (k + 1) (g k a) (fun j b h1 h2 => h j b (by omega) (by omega)) (h k a (Nat.le_refl _) (by omega) h0)
    rw [show k + (m + 1) = k + 1 + m by omega]
    exact h2
/-- only the first P of 6 count -/
theorem it_cut {α : Type} {g : Nat → α → α} {P : Nat} (hP : P ≤ 6) (a : α) (h : ∀ j b, P ≤ j → j < 6 → g j b = b) : it g 6 0 a = it g P 0 a := by
  have e : (6 : Nat) = P + (6 - P) := by omega
  rw [e, it_add, Nat.zero_add]
  exact it_id _ _ _ (fun j b h1 h2 => h j b h1 (by omega))
/-! ===== what an HOUR is told by ===== -/
def gBear (ti : Nat → Int32) (t : Int32) (k : Nat) (a : Int32) : Int32 := a + ((ti k >>> (t &&& 31)) &&& 1)
def gKn (ti : Nat → Int32) (k : Nat) (a : Int32) : Int32 := if ti k = 0 then a else a ||| (1 <<< (nI k &&& 31))
def gDue (owed : Int32) (th : Nat → Int32) (k : Nat) (a : Int32 × Int32) : Int32 × Int32 := (if th k < owed then a.1 else a.1 + 1, if a.2 < th k then th k else a.2)
def gBit (x : Int32) (k : Nat) (a : Int32) : Int32 := a + ((x >>> (nI k &&& 31)) &&& 1)
def spBits (x : Int32) : Int32 := it (gBit x) 16 0 0
def spKn (ti : Nat → Int32) (P : Nat) : Int32 := it (gKn ti) P 0 0
theorem nz0 : nI 0 = 0 := nI_0
theorem nz16 : nI 16 = 16 := by decide
theorem bearC {sh : List kd} {σ : St} {a : Nat} {t : Int32} {ti : Nat → Int32} (h : ∀ j, j < 6 → σ.2.1 (a + 2) j = ti j) : fX4_bearers sh σ a t = some (it (gBear ti t) 6 0 0, σ) := by
  unfold fX4_bearers
  rw [← nz0]
  refine it_loop (L := fun n k x => fX4_bearers_L4 sh a t σ n x (nI k)) (E := fun x => some (x, σ)) (N := 6) (fun n k x hk => ?_) (fun n x => ?_) 6 i_F 0 (nI 0) rfl (i_F_gt (by omega))
  · have hcl : (nI k).toNatClampNeg = k := nI_clamp (by omega)
    rw [fX4_bearers_L4, if_neg (by rw [← nz6]; exact nI_ge hk (by omega)), if_pos (ok_nI hk (by omega)), hcl, h k hk, nI_1]
    rfl
  · rw [fX4_bearers_L4, nz6, if_pos (by decide)]
theorem knC {sh : List kd} {σ : St} {a : Nat} {ti : Nat → Int32} (h : ∀ j, j < 6 → σ.2.1 (a + 2) j = ti j) : fX4_knights sh σ a = some (spKn ti 6, σ) := by
  unfold fX4_knights
  rw [← nz0]
  refine it_loop (L := fun n k x => fX4_knights_L4 sh a σ n x (nI k)) (E := fun x => some (x, σ)) (N := 6) (fun n k x hk => ?_) (fun n x => ?_) 6 i_F 0 (nI 0) rfl (i_F_gt (by omega))
  · have hcl : (nI k).toNatClampNeg = k := nI_clamp (by omega)
    rw [fX4_knights_L4, if_neg (by rw [← nz6]; exact nI_ge hk (by omega)), if_pos (ok_nI hk (by omega)), hcl, h k hk, nI_1]
    rfl
  · rw [fX4_knights_L4, nz6, if_pos (by decide)]
theorem bearR {sh : List kd} {σ : St} {t : Int32} {P : Nat} (hP : P ≤ 6) (hp : σ.2.1 1 3 = nI P) {ti : Nat → Int32} (h : ∀ j, j < 6 → σ.2.1 8 j = ti j) : fX12_knightsOf sh σ t = some (it (gBear ti t) P 0 0, σ) := by
  unfold fX12_knightsOf
  rw [← nz0]
  refine it_loop (L := fun n k x => fX12_knightsOf_L4 sh t σ n x (nI k)) (E := fun x => some (x, σ)) (N := P) (fun n k x hk => ?_) (fun n x => ?_) P i_F 0 (nI 0) (by omega) (i_F_gt (by omega))
  · have hcl : (nI k).toNatClampNeg = k := nI_clamp (by omega)
    rw [fX12_knightsOf_L4, if_pos o_3, c_3, hp, if_neg (nI_ge hk (by omega)), if_pos (ok_nI (by omega) (by omega)), hcl, h k (by omega), nI_1]
    rfl
  · rw [fX12_knightsOf_L4, if_pos o_3, c_3, hp, if_pos (nI_le (Nat.le_refl _) (by omega))]
theorem knR {sh : List kd} {σ : St} {P : Nat} (hP : P ≤ 6) (hp : σ.2.1 1 3 = nI P) {ti : Nat → Int32} (h : ∀ j, j < 6 → σ.2.1 8 j = ti j) : fX12_knights sh σ = some (spKn ti P, σ) := by
  unfold fX12_knights
  rw [← nz0]
  refine it_loop (L := fun n k x => fX12_knights_L4 sh σ n x (nI k)) (E := fun x => some (x, σ)) (N := P) (fun n k x hk => ?_) (fun n x => ?_) P i_F 0 (nI 0) (by omega) (i_F_gt (by omega))
  · have hcl : (nI k).toNatClampNeg = k := nI_clamp (by omega)
    rw [fX12_knights_L4, if_pos o_3, c_3, hp, if_neg (nI_ge hk (by omega)), if_pos (ok_nI (by omega) (by omega)), hcl, h k (by omega), nI_1]
    unfold gKn
    split
    · rw [or_0]
    · rfl
  · rw [fX12_knights_L4, if_pos o_3, c_3, hp, if_pos (nI_le (Nat.le_refl _) (by omega))]
theorem bitsR {sh : List kd} {σ : St} {x : Int32} : fX12_bits sh σ x = some (spBits x, σ) := by
  unfold fX12_bits
  rw [← nz0]
  refine it_loop (L := fun n k a => fX12_bits_L4 sh x σ n a (nI k)) (E := fun a => some (a, σ)) (g := gBit x) (N := 16) (fun n k a hk => ?_) (fun n a => ?_) 16 i_F 0 (nI 0) rfl (i_F_gt (by omega))
  · rw [fX12_bits_L4, if_neg (by rw [← nz16]; exact nI_ge hk (by omega)), nI_1]
    rfl
  · rw [fX12_bits_L4, nz16, if_pos (by decide)]
def spBC (p0 : Int32) : Int32 :=
  let x1 := (((p0 - ((p0.toUInt32 >>> ((1 : Int32).toUInt32 &&& Int32.toUInt32 31)).toInt32 &&& 1431655765)) &&& 858993459) + (((p0 - ((p0.toUInt32 >>> ((1 : Int32).toUInt32 &&& Int32.toUInt32 31)).toInt32 &&& 1431655765)).toUInt32 >>> ((2 : Int32).toUInt32 &&& Int32.toUInt32 31)).toInt32 &&& 858993459))
  let x3 := (((x1 + (x1.toUInt32 >>> ((4 : Int32).toUInt32 &&& Int32.toUInt32 31)).toInt32) &&& 252645135) + (((x1 + (x1.toUInt32 >>> ((4 : Int32).toUInt32 &&& Int32.toUInt32 31)).toInt32) &&& 252645135).toUInt32 >>> ((8 : Int32).toUInt32 &&& Int32.toUInt32 31)).toInt32)
  ((x3 + (x3.toUInt32 >>> ((16 : Int32).toUInt32 &&& Int32.toUInt32 31)).toInt32) &&& 63)
theorem bcC {sh : List kd} {σ : St} {x : Int32} : fJ6_bitCount_0f7a4 sh σ x = some (spBC x, σ) := rfl
theorem bc_bits : ∀ n : Nat, n < 256 → spBC (nI n) = spBits (nI n) := by decide +kernel
theorem kn_or : ∀ n : Nat, n < 64 → ∀ k : Nat, k < 6 → nI n ||| (1 <<< (nI k &&& 31)) = nI (n ||| 1 <<< k) ∧ n ||| 1 <<< k < 64 := by decide +kernel
theorem spKn_lt {ti : Nat → Int32} {P : Nat} (hP : P ≤ 6) : ∃ n, n < 64 ∧ spKn ti P = nI n := by
  refine it_inv (I := fun _ a => ∃ n, n < 64 ∧ a = nI n) P 0 0 (fun j b _ hj hb => ?_) ⟨0, by omega, nz0.symm⟩
  obtain ⟨n, h1, h2⟩ := hb
  unfold gKn
  split
  · exact ⟨n, h1, h2⟩
  · obtain ⟨e1, e2⟩ := kn_or n h1 j (by omega)
    exact ⟨_, e2, by rw [h2, e1]⟩
theorem bear_cut {ti : Nat → Int32} {t : Int32} {P : Nat} (hP : P ≤ 6) (h : ∀ j, P ≤ j → ti j = 0) : it (gBear ti t) 6 0 0 = it (gBear ti t) P 0 0 := by
  refine it_cut hP 0 (fun j b h1 _ => ?_)
  unfold gBear
  rw [h j h1]
  simp
theorem kn_cut {ti : Nat → Int32} {P : Nat} (hP : P ≤ 6) (h : ∀ j, P ≤ j → ti j = 0) : spKn ti 6 = spKn ti P := by
  refine it_cut hP 0 (fun j b h1 _ => ?_)
  unfold gKn
  rw [h j h1, if_pos rfl]
