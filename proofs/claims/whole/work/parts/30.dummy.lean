/-! the words of wsL_law are among the tables (kept a part of its own: it takes minutes) -/
theorem lawwords_end : True := trivial
