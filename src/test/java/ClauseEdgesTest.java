/** Part 2 of the document at its edges: what becomes of a formula, and all that is too large. */
public final class ClauseEdgesTest {
  private static final String LETTERS = "ABCDEFGHIJKLMNOPQRSTUVWXYZ";
  private static final Check c = new Check();

  public static void main(String[] args) {
    freeVariables();
    nearestQuantifier();
    signsGoInside();
    functionArguments();
    allAround();
    functionNumbers();
    twiceByEquivalence();
    clausesOfParts();
    whatGoes();
    variableNumbers();
    clausesInAll();
    clausesInAllWithThoseThatGo();
    fullOfLiterals();
    fullOfCells();
    literalsBeforeFive();
    variablesBehindFive();
    clausesOnTheWay();
    literalsOnTheWay();
    asItIsRead();
    asTwoMakesIt();
    cellsOfClause();
    behindTooLarge();
    oftenTooLarge();
    written();
    c.end();
  }

  /** The first n variables, with this between. */
  private static String letters(int n, String between) {
    StringBuilder out = new StringBuilder();
    for (int i = 0; i < n; i++) {
      out.append(i > 0 ? between : "").append(LETTERS.charAt(i));
    }
    return out.toString();
  }

  /** X0, X1, .. up to n of them. */
  private static String numbers(int n) {
    StringBuilder out = new StringBuilder();
    for (int i = 0; i < n; i++) {
      out.append(i > 0 ? ",X" : "X").append(i);
    }
    return out.toString();
  }

  private static void freeVariables() {
    c.promise("1: bound by ! before all of it, in the order in which they come first");
    c.clauses("?Z:t(Z,Y,X).", "t(s1(X0,X1),X0,X1)");
    c.clauses("?Z:t(Z,f(B,A),B).", "t(s1(X0,X1),f(X0,X1),X0)");
    c.clauses("(?Z:p(Z))&q(B,A)&q(A,B).", "p(s1(X0,X1)) q(X0,X1) q(X0,X1)");
    c.clauses("(?Z:q(Z,B))&q(B,A).", "q(s1(X0,X1),X0) q(X0,X1)");
    c.promise("1: each of them once");
    c.clauses("q(X,X)&?Y:q(X,Y).", "q(X0,X0) q(X0,s1(X0))");
    c.promise("1: none");
    c.clauses("q(a,a)&?Y:q(a,Y).", "q(a,a) q(a,s1)");
    c.promise("1: those of one formula are not those of the next");
    c.clauses("p(X). ?Y:p(Y).", "p(X0) p(s1)");
  }

  private static void nearestQuantifier() {
    c.promise("1: not bound in it (by the nearest ! or ? of that name around)");
    c.clauses("p(X)&(?X:q(X,Y))&r(X).", "p(X0) q(s1(X0,X1),X1) r(X0)");
    c.clauses("(!X:p(X))&?Y:q(X,Y).", "p(X0) q(X0,s1(X0))");
    c.clauses("(!Y:p(Y))&?Z:t(X,Y,Z).", "p(X0) t(X0,X1,s1(X0,X1))");
    c.clauses("!X:!Y:((?Y:q(X,Y))&q(X,Y)).", "q(X0,s1(X0,X1)) q(X0,X1)");
    c.clauses("!X:!Y:((?X:q(X,Y))&(?Y:q(X,Y))&q(X,Y)).",
        "q(s1(X0,X1),X1) q(X0,s2(X0,X1)) q(X0,X1)");
    c.clauses("?X:(p(X)&(!X:p(X))&p(X)).", "p(s1) p(X0) p(s1)");
    c.clauses("?X:?X:p(X).", "p(s2)");
    c.promise("1: a fault inside a ! leaves nothing bound");
    c.read("!X:(p(X)&$", -11);
    c.read("?Y:q(X,Y).", 1);
    c.due("write(0)", c.clause(0), "q(X0,s1(X0))");
    c.read("?X:!Z:", -12);
    c.read("?Y:t(Z,X,Y).", 2);
    c.due("write(1)", c.clause(1), "t(X0,X1,s2(X0,X1))");
  }

  private static void signsGoInside() {
    c.promise("2: ~ goes inside: through ~, & and |, ! and ?, to atoms");
    c.clauses("~~p.", "p");
    c.clauses("~~~p.", "~p");
    c.clauses("~(p&q).", "~p|~q");
    c.clauses("~(p|q).", "~p ~q");
    c.clauses("~(p=>q).", "p ~q");
    c.clauses("~!X:p(X).", "~p(s1)");
    c.clauses("~?X:p(X).", "~p(X0)");
    c.clauses("~!X:?Y:!Z:t(X,Y,Z).", "~t(s1,X0,s2(X0))");
    c.clauses("~(p<=>q).", "p|q ~q|~p");
    c.clauses("~(p=>~(q=>~r)).", "p ~q|~r");
  }

  private static void functionArguments() {
    for (int n = 0; n <= 8; n++) {
      c.promise("3: a NAME of 0 to 5: 5 if there are more; " + n);
      String all = n == 0 ? "" : "!" + letters(n, ":!") + ":";
      String some = n == 0 ? "" : "?" + letters(n, ":?") + ":";
      String free = n == 0 ? "" : "|u(" + letters(n, ")|u(") + ")";
      String function = n == 0 ? "s1" : "s1(" + numbers(n) + ")";
      if (n <= 5) {
        c.clauses(all + "?Z:p(Z).", "p(" + function + ")");
        c.clauses("~" + some + "!Z:p(Z).", "~p(" + function + ")");
        String numbered = n == 0 ? "" : "|u(" + numbers(n).replace(",", ")|u(") + ")";
        c.clauses("(?Z:p(Z))&(r" + free + ").", "p(" + function + ") r" + numbered);
      } else {
        c.fault(all + "?Z:p(Z).", 5, 0);
        c.fault(all + "?Z:r.", 5, 0);
        c.fault("~" + some + "!Z:p(Z).", 5, 0);
        c.fault("(?Z:p(Z))&(r" + free + ").", 5, 0);
        c.fault("r|~r|(?Z:p(Z))" + free + ".", 5, 0);
        c.clauses(all + "p(F).", "p(X0)");
        c.clauses(some + "?Z:p(Z).", "p(s" + (n + 1) + ")");
      }
    }
  }

  private static void allAround() {
    c.promise("3: the variables of all ! around it, from outside to inside");
    c.clauses("!B:!A:?C:p(C).", "p(s1(X0,X1))");
    c.clauses("!B:!A:?C:t(A,B,C).", "t(X0,X1,s1(X1,X0))");
    c.clauses("!A:?B:!C:?D:t(A,B,D).", "t(X0,s1(X0),s2(X0,X1))");
    c.clauses("q(F,E)&!B:?C:t(B,C,E).", "q(X0,X1) t(X0,s1(X1,X2,X0),X2)");
    c.clauses("!A:!A:!A:?B:q(A,B).", "q(X0,s1(X1,X2,X0))");
    c.promise("3: a ! beside it, or below it, is not around it");
    c.clauses("(!A:!B:!C:!D:!E:!F:p(F))&?G:p(G).", "p(X0) p(s1)");
    c.clauses("?G:!A:!B:!C:!D:!E:!F:q(F,G).", "q(X0,s1)");
    c.clauses("(!A:!B:!C:p(C))&!D:!E:!F:?G:p(G).", "p(X0) p(s1(X0,X1,X2))");
    c.promise("3: free variables and ! around it together");
    c.clauses("!D:!E:?Z:(q(A,B)|t(C,D,Z)).", "q(X0,X1)|t(X2,X3,s1(X0,X1,X2,X3,X4))");
    c.fault("!D:!E:!F:?Z:(q(A,B)|t(C,D,Z)).", 5, 0);
  }

  private static void functionNumbers() {
    c.promise("3: they are numbered as they come, from the left");
    c.clauses("(?X:p(X))&((?X:p(X))|?Y:?Z:q(Y,Z)).", "p(s1) p(s2)|q(s3,s4)");
    c.clauses("(?X:p(X))=>(?X:p(X)).", "~p(X0)|p(s1)");
    c.clauses("(!X:p(X))=>(!X:p(X)).", "~p(s1)|p(X0)");
    c.promise("3: numbers of one, two and three figures, from one text to the next");
    c.text("?A:?B:q(A,B).");
    for (int n = 1; n <= 100; n++) {
      c.due("read()", c.x.read(), n);
      c.due("count(2)", c.x.count(2), 2 * n);
    }
    for (int n = 1; n <= 100; n++) {
      c.due("write", c.clause(n - 1), "q(s" + (2 * n - 1) + ",s" + 2 * n + ")");
    }
    c.due("read() of one more", c.x.read(), -15);
    c.due("count(2)", c.x.count(2), 200);
    c.due("clear()", c.x.clear(), 100);
    c.due("count(2)", c.x.count(2), 0);
    c.due("read()", c.x.read(), 1);
    c.due("write(0)", c.clause(0), "q(s1,s2)");
    c.promise("3: those of clauses that go, and those that stand nowhere, have numbers, too");
    c.read("(?X:p(X))|r|~r. ?Y:r. ?Z:p(Z).", 2);
    c.due("write(1)", c.clause(1), "p(s3)");
    c.due("count(2)", c.x.count(2), 3);
    c.promise("3: those of a text with a fault have none");
    c.read("?X:p(X). ?X:p(X). p.", -13);
    c.due("count(2)", c.x.count(2), 0);
    c.read("?X:p(X).", 1);
    c.due("write(0)", c.clause(0), "p(s1)");
  }

  private static void twiceByEquivalence() {
    c.promise("3: where a formula stands twice by <=>, twice");
    c.clauses("r<=>?X:p(X).", "~r|p(s1) ~p(X0)|r");
    c.clauses("r<=>!X:?Y:q(X,Y).", "~r|q(X0,s1(X0)) ~q(s2,X0)|r");
    c.clauses("(?X:p(X))<=>(?Y:u(Y)).", "~p(X0)|u(s1) ~u(X0)|p(s2)");
    c.clauses("~(r<=>?X:p(X)).", "r|p(s1) ~p(X0)|p(s1) ~p(X0)|~r");
    c.promise("6: those of one ! are one; of different ones different");
    c.clauses("(!X:p(X))<=>r.", "~p(s1)|r ~r|p(X0)");
    c.clauses("p(X)<=>q(X,Y).", "~p(X0)|q(X0,X1) ~q(X0,X1)|p(X0)");
    c.clauses("(!X:p(X))|(!X:p(X)).", "p(X0)|p(X1)");
    c.clauses("!X:(p(X)|p(X)).", "p(X0)");
  }

  private static void clausesOfParts() {
    c.promise("4: of A | B for each of A, for each of B, its literals and then those of the other one");
    c.clauses("(a&b)|(c&d).", "a|c a|d b|c b|d");
    c.clauses("(a|b)|(c|d).", "a|b|c|d");
    c.clauses("(a&b)&(c&d).", "a b c d");
    c.clauses("a|(b&(c|(d&e))).", "a|b a|c|d a|c|e");
  }

  private static void whatGoes() {
    c.promise("5: a literal that came before in it goes");
    c.clauses("p|p.", "p");
    c.clauses("q|p|q|p|r|q.", "q|p|r");
    c.clauses("~p|~p|q.", "~p|q");
    c.clauses("q(X,Y)|q(Y,X)|q(X,Y).", "q(X0,X1)|q(X1,X0)");
    c.clauses("p(f(X))|p(f(Y))|p(f(X)).", "p(f(X0))|p(f(X1))");
    c.clauses("p.p.", "p p");
    c.promise("5: a clause with an atom both with and without ~ goes");
    c.clauses("p|~p.", "");
    c.clauses("~p|q|r|p.", "");
    c.clauses("q|p|q|~q.", "");
    c.clauses("p(f(X))|~p(f(X)).", "");
    c.clauses("p(f(X))|~p(f(Y)).", "p(f(X0))|~p(f(X1))");
    c.clauses("(p|~p)&q&(q|~q)&r.", "q r");
    c.clauses("?X:(p(X)|~p(X)).", "");
    c.clauses("(?X:p(X))|(?X:~p(X)).", "p(s1)|~p(s2)");
  }

  private static void variableNumbers() {
    c.promise("6: its variables are numbered from 0 as they come first");
    c.clauses("!C:!B:!A:(t(A,f(B),A)|p(C)).", "t(X0,f(X1),X0)|p(X2)");
    c.clauses("t(A,B,C)&t(B,C,A)&p(C).", "t(X0,X1,X2) t(X0,X1,X2) p(X0)");
    c.clauses("!A:!B:?C:q(C,B).", "q(s1(X0,X1),X1)");
    c.promise("6: behind 5");
    c.clauses("(p(A)|p(A)|q(B,A)).", "p(X0)|q(X1,X0)");
  }

  private static final String TEN = "(" + "p&p&p&p&p&p&p&p&p&p" + ")";

  private static void clausesInAll() {
    c.promise("more than 100 clauses in all");
    c.read(TEN + "|" + TEN + ".", 100);
    c.fault(TEN + "|" + TEN + "&(p&p).", 5, 0);
    c.fault("(" + TEN + "|" + TEN + ")&p.", 5, 0);
    c.fault("p. " + TEN + "|" + TEN + ".", 5, 3);
    c.promise("more than 100 clauses, text by text");
    c.text("q|p.");
    for (int n = 1; n <= 100; n++) {
      c.due("read()", c.x.read(), n);
    }
    c.due("read()", c.x.read(), -15);
    c.due("place()", c.x.place(), 0);
    c.due("count(0)", c.x.count(0), 100);
    c.due("write(99)", c.clause(99), "q|p");
    c.due("write(100)", c.x.write(100), -1);
    c.read("  ", 100);
    c.due("clear()", c.x.clear(), 100);
    c.read("p.", 1);
    c.promise("more than 100 clauses: nothing of that text comes");
    c.read(Texts.joined("p", ".", 98) + ".", 98);
    c.read("q. r. s.", -15);
    c.due("place()", c.x.place(), 6);
    c.due("count(0)", c.x.count(0), 98);
    c.due("count(1)", c.x.count(1), 1);
    c.read("q. r.", 100);
  }

  private static void clausesInAllWithThoseThatGo() {
    c.promise("100 clauses in all (with those that go by 5)");
    c.read(Texts.joined("p", ".", 98) + ".", 98);
    c.read("(p|~p)&(p|~p)&p.", -15);
    c.read("(p|~p)&(p|~p)&(p|~p).", -15);
    c.read("(p|~p)&(p|~p).", 98);
    c.read("(p|~p)&p.", 99);
    c.read("(p|~p)&p.", -15);
    c.read("p&(p|~p).", -15);
    c.read("p|~p.", 99);
    c.read("p|~p. q|~q. p|~p.", 99);
    c.read("p.", 100);
    c.read("p|~p.", -15);
    c.due("count(0)", c.x.count(0), 100);
  }

  private static void fullOfLiterals() {
    c.promise("100 clauses of 12 literals");
    c.text("a|b|c|d|e|f|g|h|i|j|k|l.");
    for (int n = 1; n <= 100; n++) {
      c.due("read()", c.x.read(), n);
    }
    c.due("clause(99, 0)", c.x.clause(99, 0), 12);
    c.due("clause(99, 2)", c.x.clause(99, 2), 12);
    c.due("write(99)", c.clause(99), "a|b|c|d|e|f|g|h|i|j|k|l");
    c.due("read()", c.x.read(), -15);
    // Each of the 100 is started, and its a has nothing to be connected with.
    c.search(5, 1000, 0, 100, 1);
    c.search(5, 99, -6, 99, 1);
  }

  private static void fullOfCells() {
    c.promise("100 clauses of 200 symbols and variables");
    StringBuilder all = new StringBuilder();
    StringBuilder due = new StringBuilder();
    for (int i = 0; i < 8; i++) {
      all.append(i > 0 ? "|" : "").append("~p").append(i).append("(f(A,B,C,D,E),f(F,G,H,I,J),f(A,A,A,A,A),f(B,B,B,B,B))");
      due.append(i > 0 ? "|" : "").append("~p").append(i)
          .append("(f(X0,X1,X2,X3,X4),f(X5,X6,X7,X8,X9),f(X0,X0,X0,X0,X0),f(X1,X1,X1,X1,X1))");
    }
    c.text(all + ".");
    for (int n = 1; n <= 100; n++) {
      c.due("read()", c.x.read(), n);
    }
    c.due("read()", c.x.read(), -15);
    for (int i = 0; i < 100; i += 99) {
      c.due("clause 0", c.x.clause(i, 0), 8);
      c.due("clause 1", c.x.clause(i, 1), 10);
      c.due("clause 2", c.x.clause(i, 2), 200);
      c.due("write", c.clause(i), due.toString());
    }
  }

  private static void literalsBeforeFive() {
    c.promise("more than 12 literals in a clause (before 5)");
    c.clauses("a|b|c|d|e|f|g|h|i|j|k|l.", "a|b|c|d|e|f|g|h|i|j|k|l");
    c.fault("a|b|c|d|e|f|g|h|i|j|k|l|m.", 5, 0);
    c.clauses(Texts.joined("p", "|", 12) + ".", "p");
    c.fault(Texts.joined("p", "|", 13) + ".", 5, 0);
    c.clauses(Texts.joined("p", "|", 11) + "|~p.", "");
    c.fault(Texts.joined("p", "|", 12) + "|~p.", 5, 0);
    c.promise("13 literals in the first, the last, and one between");
    c.fault("(" + Texts.joined("p", "|", 13) + ")&q&r.", 5, 0);
    c.fault("q&(" + Texts.joined("p", "|", 13) + ")&r.", 5, 0);
    c.fault("q&r&(" + Texts.joined("p", "|", 13) + ").", 5, 0);
    c.clauses("(" + Texts.joined("p", "|", 12) + ")&q&(" + Texts.joined("r", "|", 12) + ").", "p q r");
    c.fault("(q&" + Texts.joined("p", "|", 12) + ")|r.", 5, 0);
    c.clauses("(q&(" + Texts.joined("p", "|", 11) + "))|r.", "q|r p|r");
  }

  private static void variablesBehindFive() {
    c.promise("more than 10 variables in a clause (behind 5)");
    c.clauses("p(A,B,C,D,E)|p(F,G,H,I,J).", "p(X0,X1,X2,X3,X4)|p(X5,X6,X7,X8,X9)");
    c.clauses("p(A,B,C,D,E)|p(F,G,H,I,J)|p(A,C,E,G,I).", "p(X0,X1,X2,X3,X4)|p(X5,X6,X7,X8,X9)|p(X0,X2,X4,X6,X8)");
    c.fault("p(A,B,C,D,E)|p(F,G,H,I,J)|r(K).", 5, 0);
    c.fault("r(K)|p(A,B,C,D,E)|p(F,G,H,I,J).", 5, 0);
    c.fault("!K:!A:!B:!C:!D:!E:!F:!G:!H:!I:!J:(p(A,B,C,D,E)|p(F,G,H,I,J)|r(K)).", 5, 0);
    c.clauses("p(A,B,C,D,E)|p(F,G,H,I,J)|r(K)|~r(K).", "");
    c.clauses("!K:(p(A,B,C,D,E)|p(F,G,H,I,J)|!L:r).", "p(X0,X1,X2,X3,X4)|p(X5,X6,X7,X8,X9)|r");
    c.promise("10 variables in each clause, and more in the formula");
    c.clauses("(p(A,B,C,D,E)|p(F,G,H,I,J))&(p(K,L,M,N,O)|p(P,Q,R,S,T))&p(U,V,W,X,Y).",
        "p(X0,X1,X2,X3,X4)|p(X5,X6,X7,X8,X9) p(X0,X1,X2,X3,X4)|p(X5,X6,X7,X8,X9) p(X0,X1,X2,X3,X4)");
    c.fault("p(A,B,C,D,E)&(p(A,B,C,D,E)|p(F,G,H,I,J)|r(K)).", 5, 0);
    c.promise("variables that stand in a function alone are variables of the clause");
    String some = "!A:!B:!C:!D:!E:?Z:";
    c.clauses(some + "q(Z).", "q(s1(X0,X1,X2,X3,X4))");
    c.due("clause(0, 1)", c.x.clause(0, 1), 5);
    c.clauses(some + "(q(Z)|!F:!G:!H:!I:!J:p(F,G,H,I,J)).", "q(s1(X0,X1,X2,X3,X4))|p(X5,X6,X7,X8,X9)");
    c.fault(some + "(q(Z)|!F:!G:!H:!I:!J:!K:(p(F,G,H,I,J)|r(K))).", 5, 0);
  }

  private static void clausesOnTheWay() {
    c.promise("600 clauses on the way (of all A & B, A | B, atoms of the formula together)");
    // An & of n atoms makes n, and 2 + 3 + .. + n: 593 with 33 of them, 627 with 34.
    c.read(Texts.joined("p", "&", 33) + ".", 33);
    c.fault(Texts.joined("p", "&", 34) + ".", 5, 0);
    c.promise("600: ~ and ! make none");
    c.read(Texts.joined("~!X:~p", "&", 33) + ".", 33);
    c.promise("600 exactly, and 601");
    c.read(Texts.chain(false), 33);
    c.fault(Texts.chain(true), 5, 0);
    c.promise("600 exactly, and one atom more");
    c.fault(Texts.chain(false).replace(".", "&p."), 5, 0);
    c.promise("600 of each formula, not of the text");
    c.read(Texts.chain(false) + Texts.chain(false), 66);
    c.promise("600 by one |");
    // 10 and 54 in the first part, n and 2 + .. + n in the second, 10 n by the |: n = 9 makes 198, and all go by 5.
    c.fault(TEN + "|(" + Texts.joined("p", "&", 30) + ").", 5, 0);
    c.accepted(TEN + "|(" + Texts.joined("~p", "&", 9) + ").");
  }

  private static void literalsOnTheWay() {
    c.promise("6000 literals on the way");
    c.read(Texts.lengths(1, 12, 4, 12, 1, 2), 70);
    c.fault(Texts.lengths(1, 12, 4, 12, 2, 1), 5, 0);
    c.fault(Texts.lengths(1, 12, 4, 12, 1, 2).replace(".", "&p."), 5, 0);
    c.due("the count of this test", literalsOf(1, 12, 4, 12, 1, 2), 6000);
    c.due("the count of this test", literalsOf(1, 12, 4, 12, 2, 1), 6001);
  }

  /** What Texts.lengths() makes: each or of n atoms has n and 2 + 3 + .. + n literals. */
  private static int literalsOf(int... all) {
    int sum = 9 + 44;
    // Each of the three has four atoms, two & of two, and one of four.
    sum += 3 * (4 + 4 + 4);
    // 4 clauses of 10, 16 of 11, 64 of 12.
    sum += 4 * 10 + 16 * 11 + 64 * 12;
    int chain = 64 * 12;
    for (int n : all) {
      sum += n + (n * (n + 1) / 2 - 1);
      chain += n;
      sum += chain;
    }
    return sum;
  }

  private static void asItIsRead() {
    c.promise("250 symbols and variables in atoms (each as often as it stands) of the formula as it is read");
    String ten = Texts.joined(Texts.atom25("p"), "&", 10);
    c.read(ten + ".", 10);
    c.fault(ten + "&r.", 5, 0);
    String less = Texts.joined(Texts.atom25("p"), "&", 9) + "&p(f(a,a,a,a,a),f(a,a,a,a,a),f(a,a,a,a,a),g(a,a,a,a))";
    c.x = new PathProver();
    c.read(less + "&r.", 11);
    c.fault(less + "&q(X).", 5, 0);
    c.fault(less + "&(r|r).", 5, 0);
    c.promise("250: ~ ! ? and the variable behind ! or ? are none of them");
    c.x = new PathProver();
    c.read("!X:?Y:~" + ten.replace("&", "&~!X:") + ".", 10);
    c.promise("250 of each formula, not of the text");
    c.read(ten + "." + Texts.joined(Texts.atom25("p"), "&", 2) + ".", 12);
  }

  private static void asTwoMakesIt() {
    c.promise("3000 of these, and ! and ?, in what 2 makes of it");
    String most = Texts.heavy();
    c.accepted(most + "&w.");
    c.accepted(most + "&(w|~w).");
    c.fault(most + "&(w|w|w).", 5, 0);
    c.accepted(most + "&!X:w.");
    c.accepted(most + "&~w(a).");
    c.fault(most + "&!X:!X:w.", 5, 0);
    c.fault(most + "&!X:~!X:w.", 5, 0);
    c.fault(most + "&w(a,a).", 5, 0);
    c.fault(most + "&!X:w(a).", 5, 0);
    c.promise("3000: a ! of 1 is one of them");
    c.fault(most + "&w(Z).", 5, 0);
  }

  private static void cellsOfClause() {
    c.promise("a clause with more than 200 of them");
    c.read(Texts.eight("|") + ".", 1);
    c.due("clause(0, 2)", c.x.clause(0, 2), 200);
    c.fault(Texts.eight("|") + "|r.", 5, 0);
    c.fault("r|" + Texts.eight("|") + ".", 5, 0);
    c.fault("r&(" + Texts.eight("|") + "|q(X)).", 5, 0);
    c.promise("200 in each clause, and more in the formula");
    c.clauses(Texts.eight("&") + "&(q(X)|r).", Texts.eight(" ") + " q(X0)|r");
    c.promise("200: what goes by 5 is not in it");
    c.clauses(Texts.joined(Texts.atom25("p"), "|", 10) + ".", Texts.atom25("p"));
    c.clauses(Texts.eight("|") + "|r|~r.", "");
    c.promise("200 with the arguments of functions of 3");
    String functions = "q0(Z,Z,Z,Z)|q1(Z,Z,Z,Z)|q2(Z,Z,Z,Z)|q3(Z,Z,Z,Z)|q4(Z,Z,Z,Z)|q5(Z,Z,Z,Z)|q6(Z,Z,Z,Z)|q7(Z,Z,Z";
    c.x = new PathProver();
    c.read("!A:!B:!C:!D:!E:?Z:(" + functions + ",Z)).", 1);
    c.due("clause(0, 2)", c.x.clause(0, 2), 200);
    c.due("clause(0, 1)", c.x.clause(0, 1), 5);
    c.x = new PathProver();
    c.read("!A:!B:!C:!D:!E:?Z:(" + functions + ")|r).", 1);
    c.due("clause(0, 2)", c.x.clause(0, 2), 195);
    c.fault("!A:!B:!C:!D:!E:?Z:(" + functions + ",Z)|r).", 5, 0);
  }

  private static void behindTooLarge() {
    c.promise("behind each that is too large the object reads on");
    c.read("?X:p(X).", 1);
    String ten = TEN.replace("p", "r");
    String[] all = {
      Texts.joined("r", "|", 13) + ".",
      ten + "|" + ten + ".",
      "q(A,B,C,D,E)|q(F,G,H,I,J)|u(K).",
      Texts.joined("r", "&", 34) + ".",
      Texts.lengths(1, 12, 4, 12, 2, 1).replace("p", "r"),
      Texts.joined(Texts.atom25("t"), "&", 10) + "&r.",
      "r<=>".repeat(12) + "r.",
      Texts.eight("|") + "|r.",
      "!A:!B:!C:!D:!E:!F:?G:?H:(r|?I:r).",
      "!A:(r&?B:(r|!C:!D:!E:!F:!G:?H:r)).",
    };
    for (String text : all) {
      c.read(" " + text, -15);
      c.due("place()", c.x.place(), 1);
      c.due("count(0)", c.x.count(0), 1);
      c.due("count(1)", c.x.count(1), 1);
      c.due("count(2)", c.x.count(2), 1);
      c.read("!Y:?X:(p(X)|p(Y)).", 2);
      c.due("write(1)", c.clause(1), "p(s2(X0))|p(X0)");
      c.due("clear()", c.x.clear(), 2);
      c.read("?X:p(X).", 1);
      c.due("write(0)", c.clause(0), "p(s1)");
    }
  }

  private static void oftenTooLarge() {
    c.promise("a text that is too large within many ! and ?, again and again");
    c.text("!A:!B:?C:!D:!E:!F:!G:?H:r.");
    for (int i = 0; i < 40; i++) {
      c.due("read()", c.x.read(), -15);
    }
    c.read("!A:!B:!C:!D:?E:" + "!F:".repeat(24) + "p(E).", 1);
    c.due("write(0)", c.clause(0), "p(s1(X0,X1,X2,X3))");
  }

  private static void written() {
    c.promise("WRITTEN: ~ if it has one; the name; ( and its arguments, with , between, and ) if it has any");
    c.clauses("~ p ( f ( X , a ) , g ( h ( Y ) ) ) | q.", "~p(f(X0,a),g(h(X1)))|q");
    c.promise("WRITTEN: functions of 3 as s and their number (whatever names there are)");
    c.clauses("s1(s2,s3(s4)). ?X:s1(X,s3(X)).", "s1(s2,s3(s4)) s1(s1,s3(s1))");
    c.promise("WRITTEN: the longest names");
    c.clauses("abcdefgh(zzzzzzzz(A,y_______)).", "abcdefgh(zzzzzzzz(X0,y_______))");
  }
}
