/** Part 1 of the document: tokens, the grammar, the faults and their places, the symbols. */
public final class FaultsTest {
  private static final Check c = new Check();

  public static void main(String[] args) {
    tokens();
    grammar();
    clashes();
    arguments();
    openSigns();
    symbols();
    firstFault();
    c.end();
  }

  private static void tokens() {
    c.promise("fault 1");
    c.clauses("\t\n\r p \t&\n q\r.  ", "p q");
    c.clauses("aB3_zZ9_.", "aB3_zZ9_");
    c.clauses("p(X1_aZzzz).", "p(X0)");
    c.clauses("", "");
    c.clauses(" \n ", "");
    c.fault("p$.", 1, 1);
    c.fault("p.$", 1, 2);
    c.fault("p \u000b.", 1, 2);
    c.fault("p \u0000.", 1, 2);
    c.fault("p \u00ff.", 1, 2);
    c.fault("9p.", 1, 0);
    c.fault("_p.", 1, 0);
    c.fault("p = q.", 1, 2);
    c.fault("p =", 1, 2);
    c.fault("p < q.", 1, 2);
    c.fault("p <= q.", 1, 2);
    c.fault("p <", 1, 2);
    c.fault("p <=", 1, 2);
    c.fault("p <= > q.", 1, 2);
    c.fault("p = > q.", 1, 2);
    c.fault("abcdefghi.", 1, 0);
    c.fault("p(q, Abcdefghi).", 1, 5);
    c.clauses("abcdefgh(Abcdefgh).", "abcdefgh(X0)");
  }

  private static void grammar() {
    c.promise("fault 2");
    c.fault(".", 2, 0);
    c.fault("p", 2, 1);
    c.fault("p ", 2, 2);
    c.fault("p q.", 2, 2);
    c.fault("p. q", 2, 4);
    c.fault("p & .", 2, 4);
    c.fault("p | | q.", 2, 4);
    c.fault("p => .", 2, 5);
    c.fault("<=> p.", 2, 0);
    c.fault("X.", 2, 0);
    c.fault("p(X) & X.", 2, 7);
    c.fault("!x:p.", 2, 1);
    c.fault("!X p.", 2, 3);
    c.fault("!X:.", 2, 3);
    c.fault("?:p.", 2, 1);
    c.fault("(p.", 2, 2);
    c.fault("p).", 2, 1);
    c.fault("().", 2, 1);
    c.fault("p().", 2, 2);
    c.fault("p(X.", 2, 3);
    c.fault("p(X,).", 2, 4);
    c.fault("p(X(a)).", 2, 3);
    c.fault("p(X Y).", 2, 4);
    c.fault("p(~a).", 2, 2);
    c.fault("~.", 2, 1);
    c.fault("p:", 2, 1);
    c.promise("grammar");
    c.clauses("p|q&r.", "p|q p|r");
    c.clauses("p=>q=>r.", "~p|~q|r");
    c.clauses("(p=>q)=>r.", "p|r ~q|r");
    c.clauses("~p|q.", "~p|q");
    c.clauses("~(p|q).", "~p ~q");
    c.clauses("!X:p(X)|q(X).", "p(X0)|q(X1)");
    c.clauses("!X:(p(X)|q(X)).", "p(X0)|q(X0)");
    c.clauses("p<=>q=>r.", "~p|~q|r q|p ~r|p");
    c.clauses("p<=>q.", "~p|q ~q|p");
    c.clauses("p&q&r|s.", "p|s q|s r|s");
  }

  private static void clashes() {
    c.promise("fault 3");
    c.fault("p(a). p.", 3, 6);
    c.fault("p. p(a).", 3, 3);
    c.fault("p(a). q(p(a)).", 3, 8);
    c.fault("q(p). p.", 3, 6);
    c.fault("p(p).", 3, 0);
    c.fault("p(p(a)).", 3, 0);
    c.fault("q(f,f(a)).", 3, 4);
    c.fault("q(f(f)).", 3, 2);
    c.fault("q(f(a),g(f(a,a))).", 3, 9);
    c.fault("p. p&$", 1, 5);
    c.promise("fault 3 stays between reads");
    c.read("p(a).", 1);
    c.read("q. a.", -13);
    c.due("place()", c.x.place(), 3);
    c.due("count(1)", c.x.count(1), 2);
    c.read("q(q0).", 2);
    c.due("clear()", c.x.clear(), 2);
    c.read("a(p).", 1);
  }

  private static void arguments() {
    c.promise("fault 4");
    c.clauses("p(a,b,c,d,e).", "p(a,b,c,d,e)");
    c.fault("p(a,b,c,d,e,f).", 4, 0);
    c.fault("p(a,b,c,d,e,$", 4, 0);
    c.fault("p(a,b,c,d,e,", 4, 0);
    c.fault("p(a,b,c,d,e $", 1, 12);
    c.fault("q & p(h(a,b,c,d,e,f)).", 4, 6);
    c.fault("p(a). p(a,b,c,d,e,a).", 4, 6);
  }

  private static void openSigns() {
    c.promise("fault 6");
    c.clauses("~".repeat(30) + "p.", "p");
    c.fault("~".repeat(31) + "p.", 6, 30);
    c.clauses("(".repeat(30) + "p" + ")".repeat(30) + ".", "p");
    c.fault("(".repeat(31) + "p", 6, 30);
    c.clauses("p" + "(f".repeat(29) + "(a" + ")".repeat(30) + ".", "p" + "(f".repeat(29) + "(a" + ")".repeat(30));
    c.fault("p" + "(f".repeat(30) + "(a", 6, 61);
    c.clauses("!X:".repeat(29) + "p(X).", "p(X0)");
    c.fault("!X:".repeat(30) + "p(X).", 6, 91);
    c.clauses("!X:".repeat(30) + "r.", "r");
    c.fault("!X:".repeat(15) + "?X:".repeat(15) + "!", 6, 90);
    c.clauses("p=>".repeat(11) + "p.", "");
    c.fault("p=>".repeat(31) + "p.", 6, 91);
    c.fault("~".repeat(29) + "(p<=>p).", 6, 31);
    c.clauses("~".repeat(28) + "(p<=>p<=>q).", "p|q ~p|q");
    c.clauses("~".repeat(30) + "p&" + "~".repeat(30) + "q.", "p q");
    c.clauses("(".repeat(29) + "~p" + ")".repeat(29) + "|(q).", "~p|q");
    c.fault("~".repeat(31), 6, 30);
    c.fault("~".repeat(30) + "$", 1, 30);
    c.fault("~".repeat(30) + "p(a", 6, 31);
  }

  private static void symbols() {
    c.promise("60 symbols");
    String sixty = Texts.predicates(60);
    c.read(sixty, 60);
    c.due("count(1)", c.x.count(1), 60);
    c.read("n0|n1. n2(a).", -13);
    c.read("n0|n1. n2|more.", -15);
    c.due("place()", c.x.place(), 7);
    c.due("count(1)", c.x.count(1), 60);
    c.due("count(0)", c.x.count(0), 60);
    c.read("n0|n59.", 61);
    c.fault(sixty + " n3 | more. p", 5, sixty.length() + 1);
    c.promise("symbols");
    c.read("p(f(X)) | q(a). !X:?Y:p(Y).", 2);
    c.due("count(1)", c.x.count(1), 4);
    c.due("count(2)", c.x.count(2), 1);
  }

  private static void firstFault() {
    c.promise("the first fault");
    c.fault("p(a). p$", 1, 7);
    c.fault("p(a). p(a,a)$", 3, 6);
    c.fault("p(a). p q", 3, 6);
    c.fault("(p|q|r|s|t|u|v|w|x|y|z|a|b).$", 5, 0);
    c.fault("p. (p|q|r|s|t|u|v|w|x|y|z|a|b)$", 1, 30);
    c.fault("p. (p|q|r|s|t|u|v|w|x|y|z|a|b) . p", 5, 3);
    c.promise("nothing comes of a fault");
    c.read("?X:p(X).", 1);
    c.read("?X:q(X). ?X:r(X). p.", -13);
    c.due("place()", c.x.place(), 18);
    c.due("count(0)", c.x.count(0), 1);
    c.due("count(1)", c.x.count(1), 1);
    c.due("count(2)", c.x.count(2), 1);
    c.read("?X:q(X).", 2);
    c.due("write(1)", c.clause(1), "q(s2)");
  }
}
