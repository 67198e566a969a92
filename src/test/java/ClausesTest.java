/** Part 2 of the document: how a formula becomes clauses, and what is too large. */
public final class ClausesTest {
  private static final Check c = new Check();

  public static void main(String[] args) {
    signs();
    quantifiers();
    tidied();
    readSize();
    madeSize();
    wayClauses();
    wayLiterals();
    allClauses();
    clauseSizes();
    c.end();
  }

  private static void signs() {
    c.promise("2: => and <=>");
    c.clauses("~(p=>q).", "p ~q");
    c.clauses("~(p<=>q).", "p|q ~q|~p");
    c.clauses("~(p&q).", "~p|~q");
    c.clauses("~~p.", "p");
    c.clauses("(p&q)|(r&s).", "p|r p|s q|r q|s");
    c.clauses("(p<=>q)<=>r.", "p|q|r ~q|~p|r ~r|~p|q ~r|~q|p");
    c.clauses("p=>q&r.", "~p|q ~p|r");
  }

  private static void quantifiers() {
    c.promise("1 and 3: quantifiers");
    c.clauses("?X:p(X).", "p(s1)");
    c.clauses("!X:?Y:q(X,Y).", "q(X0,s1(X0))");
    c.clauses("?Y:!X:q(X,Y).", "q(X0,s1)");
    c.clauses("~!X:p(X).", "~p(s1)");
    c.clauses("~?X:p(X).", "~p(X0)");
    c.clauses("?Z:q(Y,X).", "q(X0,X1)");
    c.clauses("?Z:t(Y,Z,X).", "t(X0,s1(X0,X1),X1)");
    c.clauses("!X:!X:?Y:q(X,Y).", "q(X0,s1(X1,X0))");
    c.clauses("!X:(p(X)&?X:q(X,X)&p(X)).", "p(X0) q(s1(X0),s1(X0)) p(X0)");
    c.clauses("(!X:p(X)) & q(Y,X) & ?Z:p(Z).", "p(X0) q(X0,X1) p(s1(X0,X1))");
    c.clauses("(?X:p(X)) <=> r.", "~p(X0)|r ~r|p(s1)");
    c.clauses("r <=> ?X:p(X).", "~r|p(s1) ~p(X0)|r");
    c.clauses("~(r <=> ?X:p(X)).", "r|p(s1) ~p(X0)|p(s1) ~p(X0)|~r");
    c.clauses("!X:!Y:((?Z:q(X,Z)) => ?Z:q(Z,Y)).", "~q(X0,X1)|q(s1(X0,X2),X2)");
    c.clauses("s1(s1a). ?X:s1(X).", "s1(s1a) s1(s1)");
    c.promise("functions are numbered on");
    c.read("?X:p(X). ?X:?Y:q(X,Y).", 2);
    c.due("write(1)", c.clause(1), "q(s2,s3)");
    c.due("count(2)", c.x.count(2), 3);
    c.read("(?X:p(X)) => (?X:p(X)).", 3);
    c.due("write(2)", c.clause(2), "~p(X0)|p(s4)");
    c.read("(?X:r(X)) | ~(?X:~r(X)) | r(a) | ~r(a).", 3);
    c.due("count(2)", c.x.count(2), 5);
    c.due("clear()", c.x.clear(), 3);
    c.due("count(2)", c.x.count(2), 0);
    c.read("?X:p(X).", 1);
    c.due("write(0)", c.clause(0), "p(s1)");
    c.promise("3: at most five variables around");
    c.clauses("!A:!B:!C:!D:!E:?F:p(F).", "p(s1(X0,X1,X2,X3,X4))");
    c.fault("!A:!B:!C:!D:!E:!F:?G:p(a).", 5, 0);
    c.clauses("!A:!B:!C:!D:!E:!F:p(F).", "p(X0)");
    c.fault("t(A,B,C) & q(D,E) & p(F) & ?G:r.", 5, 0);
    c.clauses("t(A,B,C) & q(D,E) & ?G:p(G).", "t(X0,X1,X2) q(X0,X1) p(s1(X0,X1,X2,X3,X4))");
  }

  private static void tidied() {
    c.promise("5 and 6: literals and clauses that go, variables that are numbered");
    c.clauses("p|q|p|~r|q.", "p|q|~r");
    c.clauses("p|~p.", "");
    c.clauses("p|q|~p. q.", "q");
    c.clauses("p(X)|~p(Y).", "p(X0)|~p(X1)");
    c.clauses("p(X)|~p(X).", "");
    c.clauses("q(Y,X)|q(X,Y)|q(Y,X).", "q(X0,X1)|q(X1,X0)");
    c.clauses("q(X,Y)&(p(Y)|q(Z,X)).", "q(X0,X1) p(X0)|q(X1,X2)");
    c.clauses("(!X:p(X))|(!X:p(X)).", "p(X0)|p(X1)");
    c.clauses("p|(?X:q(X))|(?X:q(X)).", "p|q(s1)|q(s2)");
  }

  private static void readSize() {
    c.promise("250 symbols and variables are read");
    String all = Texts.joined(Texts.atom25("p"), "&", 10);
    c.read(all + ".", 10);
    c.due("clause(0, 2)", c.x.clause(0, 2), 25);
    c.fault("r." + all + "&r.", 5, 2);
    c.fault(all + "|r.", 5, 0);
  }

  private static void madeSize() {
    c.promise("3000 in what is made");
    String most = Texts.heavy();
    c.text(most + "&!X:w.");
    int made = c.x.read();
    c.due("read() of 3000 has no fault", made > 0 ? 1 : made, 1);
    c.fault(most + "&!X:!X:w.", 5, 0);
    c.promise("3000 in what is made: a ! before all of it counts, too");
    c.text(most + "&w(a).");
    made = c.x.read();
    c.due("read() of 3000 has no fault", made > 0 ? 1 : made, 1);
    c.fault(most + "&w(Z).", 5, 0);
  }

  private static void wayClauses() {
    c.promise("600 clauses on the way");
    c.read(Texts.joined("p", "&", 33) + ".", 33);
    c.fault(Texts.joined("p", "&", 34) + ".", 5, 0);
    c.promise("600 clauses on the way, to the last one");
    c.read(Texts.chain(false), 33);
    c.fault(Texts.chain(true), 5, 0);
  }

  private static void wayLiterals() {
    c.promise("6000 literals on the way");
    // Both have 600 clauses on the way, and 70 at the end; the order of the last two makes one literal more.
    c.read(Texts.lengths(1, 12, 4, 12, 1, 2), 70);
    c.due("clause(69, 0)", c.x.clause(69, 0), 1);
    c.fault(Texts.lengths(1, 12, 4, 12, 2, 1), 5, 0);
  }

  private static void allClauses() {
    c.promise("100 clauses in all");
    String ten = "(" + Texts.joined("p", "&", 10) + ")";
    c.read(ten + "|" + ten + ".", 100);
    c.read("p.", -15);
    c.due("place()", c.x.place(), 0);
    c.read(" p|~p.", -15);
    c.due("place()", c.x.place(), 1);
    c.due("count(0)", c.x.count(0), 100);
    c.promise("100 clauses with those that go");
    c.read("p. q. p|~p. q|~q.", 2);
    c.read("(p&~p&q&q&q&q&q)|(p&~p&q&q&q&q&q&q&q&q&q&q&q&q).", 2 + 98 - 2);
    c.promise("100 clauses with those that go, one more");
    c.read("p. q. r.", 3);
    c.read("(p&~p&q&q&q&q&q)|(p&~p&q&q&q&q&q&q&q&q&q&q&q&q).", -15);
    c.due("count(0)", c.x.count(0), 3);
  }

  private static void clauseSizes() {
    c.promise("12 literals");
    c.clauses(Texts.joined("p", "|", 12) + ".", "p");
    c.fault(Texts.joined("p", "|", 13) + ".", 5, 0);
    c.fault(Texts.joined("p", "|", 12) + "|~p.", 5, 0);
    c.promise("10 variables");
    c.clauses("p(A,B,C,D,E)|p(F,G,H,I,J).", "p(X0,X1,X2,X3,X4)|p(X5,X6,X7,X8,X9)");
    c.fault("p(A,B,C,D,E)|p(F,G,H,I,J)|q(K).", 5, 0);
    c.clauses("p(A,B,C,D,E)|p(F,G,H,I,J)|q(K)|~q(K).", "");
    c.clauses("p(A,B,C,D,E)&p(F,G,H,I,J)&q(K).", "p(X0,X1,X2,X3,X4) p(X0,X1,X2,X3,X4) q(X0)");
    c.promise("200 symbols and variables");
    String eight = Texts.eight("|");
    c.read(eight + ".", 1);
    c.due("clause(0, 2)", c.x.clause(0, 2), 200);
    c.due("clause(0, 0)", c.x.clause(0, 0), 8);
    c.fault(eight + "|r.", 5, 0);
    c.clauses(eight + "|r|~r.", "");
    c.clauses(Texts.joined(Texts.atom25("p"), "|", 10) + ".", Texts.atom25("p"));
    c.promise("200 with arguments of functions");
    String wide = Texts.joined("q(F,F,F,F)", "|", 1);
    c.clauses("!A:!B:!C:!D:!E:?F:" + wide + ".", "q(" + Texts.joined("s1(X0,X1,X2,X3,X4)", ",", 4) + ")");
    c.due("clause(0, 2)", c.x.clause(0, 2), 25);
    StringBuilder many = new StringBuilder();
    for (int i = 0; i < 8; i++) {
      many.append(i > 0 ? "|" : "").append("q").append(i).append("(F,F,F,F)");
    }
    c.x = new PathProver();
    c.read("!A:!B:!C:!D:!E:?F:(" + many + ").", 1);
    c.due("clause(0, 2)", c.x.clause(0, 2), 200);
    c.due("write(0)", c.x.write(0), 8 * ("q0(".length() + 4 * 18 + 3 + 1) + 7);
    c.fault("!A:!B:!C:!D:!E:?F:(" + many + "|r).", 5, 0);
  }
}
