set_option maxRecDepth 100000 in
theorem az_kl_0 : az_ckr 258 0 64 = true := by decide +kernel
set_option maxRecDepth 100000 in
theorem az_kl_1 : az_ckr 258 64 64 = true := by decide +kernel
set_option maxRecDepth 100000 in
theorem az_kl_2 : az_ckr 258 128 64 = true := by decide +kernel
set_option maxRecDepth 100000 in
theorem az_kl_3 : az_ckr 258 192 64 = true := by decide +kernel
set_option maxRecDepth 100000 in
theorem az_kl_4 : az_ckr 258 256 64 = true := by decide +kernel
set_option maxRecDepth 100000 in
theorem az_kl_5 : az_ckr 258 320 64 = true := by decide +kernel
set_option maxRecDepth 100000 in
theorem az_kl_6 : az_ckr 258 384 64 = true := by decide +kernel
set_option maxRecDepth 100000 in
theorem az_kl_7 : az_ckr 258 448 64 = true := by decide +kernel
set_option maxRecDepth 100000 in
theorem az_kl_8 : az_ckr 258 512 64 = true := by decide +kernel
set_option maxRecDepth 100000 in
theorem az_kl_9 : az_ckr 258 576 64 = true := by decide +kernel
set_option maxRecDepth 100000 in
theorem az_kl_10 : az_ckr 258 640 64 = true := by decide +kernel
set_option maxRecDepth 100000 in
theorem az_kl_11 : az_ckr 258 704 64 = true := by decide +kernel
set_option maxRecDepth 100000 in
theorem az_kl_12 : az_ckr 258 768 64 = true := by decide +kernel
set_option maxRecDepth 100000 in
theorem az_kl_13 : az_ckr 258 832 64 = true := by decide +kernel
set_option maxRecDepth 100000 in
theorem az_kl_14 : az_ckr 258 896 64 = true := by decide +kernel
