/-! The owed statement, as it is printed. It holds because nothing meets what it takes as given (01.empty): THIS SAYS NOTHING OF THE PROGRAM. REPORT.md, 'STATEMENT'. -/
theorem i_vc : Claimed_1_1 ∧ Claimed_1_2 := em_claims
