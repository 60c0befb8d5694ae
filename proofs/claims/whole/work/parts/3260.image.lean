/-! keep, back -/
def pmI (i : Nat) (u : St) : St := sA u 83 (3 + i) (gA u 60 i)
def pmS (M : St) : St := sA (sA (sA M 83 0 (gA M 53 0)) 83 1 (gA M 54 0)) 83 2 (gA M 55 0)
theorem i3p {i : Nat} : ((0 : Int32) + 3) + nI i = nI (3 + i) := by rw [show (0 : Int32) + 3 = nI 3 from rfl, nI_add]
theorem i12p {i : Nat} : (12 : Int32) + nI i = nI (12 + i) := by rw [show (12 : Int32) = nI 12 from rfl, nI_add]
theorem putI_eq (M : St) : fX12_put_image M 0 = some (itS pmI 6 0 (pmS M)) := by
  unfold fX12_put_image
  have l1 := loopS (L := fX12_put_image_L1 0) (n := 6) (stp := pmI) (fun nf i u hi => by
    rw [fX12_put_image_L1, i3p, cl (show i < 2 ^ 31 by omega), cl (show 3 + i < 2 ^ 31 by omega)]
    exact fn (show ¬ nI 6 ≤ nI i by rw [nI_leI (by omega) (by omega)]; omega) (fn (kx (by omega) (by decide)) (lt_c (fn (kx (by omega) (by decide)) (lt_c (lt_c (by rw [nI_1]; rfl)))))))
    (fun nf u => by rw [fX12_put_image_L1]; exact tp (by decide) rfl) 6 fuel 0
  refine lt_c (fn (by decide) (lt_c (lt_c (fn (by decide) (lt_c (lt_c (fn (by decide) (lt_c ?_))))))))
  exact bd_c (l1 _ (by decide) (by decide)) rfl
def kp1 (i : Nat) (u : St) : St := sA (sA u 84 i (gA u 61 i)) 84 (6 + i) (gA (sA u 84 i (gA u 61 i)) 62 i)
def kp2 (i : Nat) (u : St) : St := sA u 84 (12 + i) (gA u 63 i)
def kpE (u : St) : St := sJ (sA (sA (sA (sA u 84 16 (gA u 56 0)) 84 17 (gA u 57 0)) 84 18 (gA u 58 0)) 84 19 (gA u 59 0)) 85 (gJ u 64)
def kpM (M : St) : St := kpE (itS kp2 4 0 (itS kp1 6 0 (itS pmI 6 0 (pmS (sI (sI M 2 0) 82 1)))))
theorem kpT_eq (y26 : St) : (lt (gA y26 56 0) fun x27 => lt (sA y26 84 16 x27) fun u28 => lt (gA u28 57 0) fun x29 => lt (sA u28 84 17 x29) fun u30 => lt (gA u30 58 0) fun x31 => lt (sA u30 84 18 x31) fun u32 => lt (gA u32 59 0) fun x33 => lt (sA u32 84 19 x33) fun u34 => lt (gJ u34 64) fun x35 => lt (sJ u34 85 x35) fun u36 => some (gA u36 59 0, u36)) = some (gA (kpE y26) 59 0, kpE y26) := rfl
theorem keep_eq (M : St) : fX12_keep M = some (gA (kpM M) 59 0, kpM M) := by
  unfold fX12_keep kpM
  have l1 := loopS (L := fX12_keep_L1) (n := 6) (stp := kp1) (fun nf i u hi => by
    rw [fX12_keep_L1, i6p, cl (show i < 2 ^ 31 by omega), cl (show 6 + i < 2 ^ 31 by omega)]
    exact fn (show ¬ nI 6 ≤ nI i by rw [nI_leI (by omega) (by omega)]; omega) (fn (kx (by omega) (by decide)) (lt_c (fn (kx (by omega) (by decide)) (lt_c (fn (kx (by omega) (by decide)) (lt_c (fn (kx (by omega) (by decide)) (lt_c (lt_c (by rw [nI_1]; rfl)))))))))))
    (fun nf u => by rw [fX12_keep_L1]; exact tp (by decide) rfl) 6 fuel 0
  have l2 := loopS (L := fX12_keep_L2) (n := 4) (stp := kp2) (fun nf i u hi => by
    rw [fX12_keep_L2, i12p, cl (show i < 2 ^ 31 by omega), cl (show 12 + i < 2 ^ 31 by omega)]
    exact fn (show ¬ nI 4 ≤ nI i by rw [nI_leI (by omega) (by omega)]; omega) (fn (kx (by omega) (by decide)) (lt_c (fn (kx (by omega) (by decide)) (lt_c (lt_c (by rw [nI_1]; rfl)))))))
    (fun nf u => by rw [fX12_keep_L2]; exact tp (by decide) rfl) 4 fuel 0
  exact lt_c (lt_c (bd_c (putI_eq _) (bd_c (l1 _ (by decide) (by decide)) (bd_c (l2 _ (by decide) (by decide)) (kpT_eq _)))))
def tmI (i : Nat) (u : St) : St := sA u 60 i (gA u 83 (3 + i))
def tmS (M : St) : St := sA (sA (sA M 53 0 (gA M 83 0)) 54 0 (gA (sA M 53 0 (gA M 83 0)) 83 1)) 55 0 (gA (sA (sA M 53 0 (gA M 83 0)) 54 0 (gA (sA M 53 0 (gA M 83 0)) 83 1)) 83 2)
theorem takeI_eq (M : St) : fX12_take_image M 0 = some (itS tmI 6 0 (tmS M)) := by
  unfold fX12_take_image
  have l1 := loopS (L := fX12_take_image_L1 0) (n := 6) (stp := tmI) (fun nf i u hi => by
    rw [fX12_take_image_L1, i3p, cl (show i < 2 ^ 31 by omega), cl (show 3 + i < 2 ^ 31 by omega)]
    exact fn (show ¬ nI 6 ≤ nI i by rw [nI_leI (by omega) (by omega)]; omega) (fn (kx (by omega) (by decide)) (lt_c (fn (kx (by omega) (by decide)) (lt_c (lt_c (by rw [nI_1]; rfl)))))))
    (fun nf u => by rw [fX12_take_image_L1]; exact tp (by decide) rfl) 6 fuel 0
  refine fn (by decide) (lt_c (lt_c (fn (by decide) (lt_c (lt_c (fn (by decide) (lt_c (lt_c ?_))))))))
  exact bd_c (l1 _ (by decide) (by decide)) rfl
def bk1 (i : Nat) (u : St) : St := sA (sA u 61 i (gA u 84 i)) 62 i (gA (sA u 61 i (gA u 84 i)) 84 (6 + i))
def bk2 (i : Nat) (u : St) : St := sA u 63 i (gA u 84 (12 + i))
def bkE (u : St) : St := sI (sJ (sA (sA (sA (sA u 56 0 (gA u 84 16)) 57 0 (gA u 84 17)) 58 0 (gA u 84 18)) 59 0 (gA u 84 19)) 64 (gJ u 85)) 80 0
def bkM (M : St) : St := bkE (itS bk2 4 0 (itS bk1 6 0 (itS tmI 6 0 (tmS (sI M 2 0)))))
theorem bkT_eq (y26 : St) : (lt (gA y26 84 16) fun x27 => lt (sA y26 56 0 x27) fun u28 => lt (gA u28 84 17) fun x29 => lt (sA u28 57 0 x29) fun u30 => lt (gA u30 84 18) fun x31 => lt (sA u30 58 0 x31) fun u32 => lt (gA u32 84 19) fun x33 => lt (sA u32 59 0 x33) fun u34 => lt (gJ u34 85) fun x35 => lt (sJ u34 64 x35) fun u36 => lt (sI u36 80 (0 : Int32)) fun u37 => some (gA u37 59 0, u37)) = some (gA (bkE y26) 59 0, bkE y26) := rfl
theorem back_eq {M : St} (h : ¬ gI M 82 = 0) : fX12_back M = some (gA (bkM M) 59 0, bkM M) := by
  unfold fX12_back bkM
  have l1 := loopS (L := fX12_back_L1) (n := 6) (stp := bk1) (fun nf i u hi => by
    rw [fX12_back_L1, i6p, cl (show i < 2 ^ 31 by omega), cl (show 6 + i < 2 ^ 31 by omega)]
    exact fn (show ¬ nI 6 ≤ nI i by rw [nI_leI (by omega) (by omega)]; omega) (fn (kx (by omega) (by decide)) (lt_c (fn (kx (by omega) (by decide)) (lt_c (fn (kx (by omega) (by decide)) (lt_c (fn (kx (by omega) (by decide)) (lt_c (lt_c (by rw [nI_1]; rfl)))))))))))
    (fun nf u => by rw [fX12_back_L1]; exact tp (by decide) rfl) 6 fuel 0
  have l2 := loopS (L := fX12_back_L2) (n := 4) (stp := bk2) (fun nf i u hi => by
    rw [fX12_back_L2, i12p, cl (show i < 2 ^ 31 by omega), cl (show 12 + i < 2 ^ 31 by omega)]
    exact fn (show ¬ nI 4 ≤ nI i by rw [nI_leI (by omega) (by omega)]; omega) (fn (kx (by omega) (by decide)) (lt_c (fn (kx (by omega) (by decide)) (lt_c (lt_c (by rw [nI_1]; rfl)))))))
    (fun nf u => by rw [fX12_back_L2]; exact tp (by decide) rfl) 4 fuel 0
  exact lt_c (fn h (bd_c (takeI_eq _) (bd_c (l1 _ (by decide) (by decide)) (bd_c (l2 _ (by decide) (by decide)) (bkT_eq _)))))
