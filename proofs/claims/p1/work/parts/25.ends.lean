theorem am_p_ends : am_PairOK 138 198 [] := am_pchk_ok (by decide +kernel)
