/-! weights by the distance from the sink: found for each of the 1024 ways in which five points can be joined, by computation -/
def ad_t (m a b : Nat) : Bool := if a < b then m.testBit (b * (b - 1) / 2 + a) else if b < a then m.testBit (a * (a - 1) / 2 + b) else false
/-- does S (bits) touch p -/
def ad_h (m S p : Nat) : Nat → Bool
  | 0 => false
  | k + 1 => (S.testBit k && ad_t m p k) || ad_h m S p k
/-- S and what it touches, of the points below k -/
def ad_n (m n S : Nat) : Nat → Nat
  | 0 => 0
  | k + 1 => (if S.testBit k || ad_h m S k n then 2 ^ k else 0) + ad_n m n S k
def ad_sum (f : Nat → Nat) : Nat → Nat
  | 0 => 0
  | k + 1 => ad_sum f k + f k
def ad_w (R0 R1 R2 R3 p : Nat) : Nat := if R0.testBit p then 0 else if R1.testBit p then 226 else if R2.testBit p then 251 else if R3.testBit p then 255 else 256
def ad_all (P : Nat → Bool) : Nat → Bool
  | 0 => true
  | k + 1 => P k && ad_all P k
def ad_any (P : Nat → Bool) : Nat → Bool
  | 0 => false
  | k + 1 => P k || ad_any P k
/-- the check of the weights of a row of levels -/
def ad_chk (m n q : Nat) (w : Nat → Nat) : Bool := ad_all (fun p => p == q || decide (3 * ad_sum (fun o => if ad_t m p o then w o - w p else 0) n + 1 ≤ ad_sum (fun o => if ad_t m p o then w p - w o else 0) n)) n && ad_any (fun p => p != q && decide (w p ≤ 226)) n && decide (w q = 0)
def ad_lv (m n q : Nat) : Nat → Nat
  | 0 => 2 ^ q
  | k + 1 => ad_n m n (ad_lv m n q k) n
def ad_wt (m n q : Nat) : Nat → Nat := fun p => (fun R0 => (fun R1 => (fun R2 => (fun R3 => ad_w R0 R1 R2 R3 p) (ad_n m n R2 n)) (ad_n m n R1 n)) (ad_n m n R0 n)) (2 ^ q)
/-- joined, by what point 0 comes to -/
def ad_jn (m n : Nat) : Bool := ad_lv m n 0 4 == 2 ^ n - 1
/-- the weights as a table, so that they are worked out once -/
def ad_tab (m n q : Nat) : List Nat := [ad_wt m n q 0, ad_wt m n q 1, ad_wt m n q 2, ad_wt m n q 3, ad_wt m n q 4]
def ad_one (m n q : Nat) : Bool := !(ad_jn m n) || ad_chk m n q (ad_wt m n q)
set_option maxRecDepth 100000 in
theorem ad_ok2 : ad_all (fun m => ad_all (fun q => ad_one m 2 q) 2) 1024 = true := by decide +kernel
set_option maxRecDepth 100000 in
theorem ad_ok3 : ad_all (fun m => ad_all (fun q => ad_one m 3 q) 3) 1024 = true := by decide +kernel
set_option maxRecDepth 100000 in
theorem ad_ok4 : ad_all (fun m => ad_all (fun q => ad_one m 4 q) 4) 1024 = true := by decide +kernel
set_option maxRecDepth 100000 in
theorem ad_ok5 : ad_all (fun m => ad_all (fun q => ad_one m 5 q) 5) 1024 = true := by decide +kernel
