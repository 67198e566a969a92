/** Part 3 of the document at its edges: limits, steps, looks, what makes it full, what is shown. */
public final class SearchEdgesTest {
  private static final Check c = new Check();
  /** Binds its second argument to a tree of g as deep as its first one, from outside to inside. */
  private static final String GROW = "~grow(f(N),g(U,U))|grow(N,U). ~grow(a,a). ";
  /** Four trees of 2047, 1023, 511 and 255 symbols, 3836 together, and then q. */
  private static final String FOUR =
      GROW + goal(10, "X") + "|" + goal(9, "Y") + "|" + goal(8, "Z") + "|" + goal(7, "V") + "|";

  public static void main(String[] args) {
    pathAndLimit();
    reductionAtTheLimit();
    lastLimit();
    noProofAtAnyLimit();
    starts();
    triedInOrder();
    takenBack();
    pairs();
    sameNow();
    stepsToTheLast();
    mostSteps();
    spentBetweenLimits();
    looksOfPairs();
    looksUpToTheVariable();
    looksOfEachTry();
    looksInOrder();
    looksOfSame();
    variableTwice();
    literalsToTheLast();
    literalsTakenBack();
    variablesToTheLast();
    variablesTakenBack();
    onlyWhatUnifies();
    reductionsAddNothing();
    numbersShown();
    shownToTheLast();
    c.end();
  }

  private static String goal(int depth, String variable) {
    return "grow(" + Texts.tower("f", depth, "a") + "," + variable + ")";
  }

  private static void pathAndLimit() {
    for (int n = 0; n <= 20; n++) {
      c.promise("EXTENSION, if its PATH has fewer literals than the LIMIT: " + n);
      c.read("p(a). ~p(X)|p(f(X)). ~p(" + Texts.tower("f", n, "a") + ").", 3);
      // Each LIMIT that fails makes a START, and two tries of each goal.
      int before = n * (n + 1) + n;
      if (n > 0) {
        c.search(n, 20000, -5, before, n);
      }
      if (n < 20) {
        c.search(n + 1, 20000, 1, before + n + 3, n + 1);
        c.search(20, 20000, 1, before + n + 3, n + 1);
        c.due("told(2)", c.x.told(2), n + 2);
        c.due("move(n + 1, 3)", c.x.move(n + 1, 3), n);
        c.due("move(n + 2, 3)", c.x.move(n + 2, 3), -1);
      }
    }
  }

  private static void reductionAtTheLimit() {
    c.promise("REDUCTION with a PATH that has as many literals as the LIMIT");
    c.read("p. ~p|q. ~q|~p.", 3);
    c.search(1, 100, -5, 3, 1);
    c.search(20, 100, 1, 7, 2);
    c.due("proof", c.proof(), "0 0 -1 0 p; 1 1 0 0 p; 1 2 0 1 q; 2 -1 0 2 ~p");
  }

  private static void lastLimit() {
    c.promise("up to a LIMIT, the first one and the last one");
    c.read("p. ~p.", 2);
    c.search(1, 20000, 1, 2, 1);
    c.search(20, 20000, 1, 2, 1);
    c.promise("LIMIT 20 is reached, and no more");
    c.read("p(a). ~p(X)|p(f(X)).", 2);
    // Each LIMIT makes a START and a try of each goal.
    c.search(20, 20000, -5, 210 + 20, 20);
    c.search(19, 20000, -5, 190 + 19, 19);
    c.search(1, 20000, -5, 2, 1);
  }

  private static void noProofAtAnyLimit() {
    c.promise("no PROOF at any LIMIT: no clauses, no START, no connection");
    c.search(20, 20000, 0, 0, 1);
    c.search(1, 0, 0, 0, 1);
    c.read("~p|q. ~q.", 2);
    c.search(20, 0, 0, 0, 1);
    c.read("r.", 3);
    c.search(20, 1, 0, 1, 1);
    c.promise("a PATH too long, and no literal of the other sign and the same predicate");
    c.read("p. ~p|q. ~r|q.", 3);
    c.search(20, 100, 0, 2, 1);
    c.promise("a PATH too long, and one that would not unify");
    c.read("p(a). ~p(a)|q(a). ~q(b).", 3);
    c.search(1, 100, -5, 2, 1);
    c.search(20, 100, 0, 2 + 3, 2);
    c.promise("a PATH too long of one GOAL, and then of another one without a literal");
    c.read("a. ~a|b. ~b|e. d. ~d|g.", 5);
    c.search(1, 100, -5, 4, 1);
    c.search(20, 100, 0, 4 + 5, 2);
    c.promise("a GOAL that is the same as one of its PATH was not TRIED");
    c.read("p. ~p|q. ~q|p.", 3);
    c.search(20, 100, 0, 2 + 3, 2);
    c.promise("a GOAL with a PATH too long, done by a REDUCTION that leads to nothing");
    c.read("p. ~p|q. ~q|~p|z.", 3);
    c.search(1, 100, -5, 3, 1);
    c.search(2, 100, -5, 3 + 7, 2);
    c.search(20, 100, 0, 3 + 7 + 9, 3);
  }

  private static void starts() {
    c.promise("START: each clause without ~ in its literals, in their order");
    c.read("p|~r. q|u. r. ~q. ~u.", 5);
    c.search(1, 100, 1, 3, 1);
    c.due("proof", c.proof(), "0 1 -1 0 q|u; 1 3 0 0 q; 1 4 0 0 u");
    c.promise("START: one of twelve literals");
    c.read("a|b|c|d|e|f|g|h|i|j|k|l. ~a. ~b. ~c. ~d. ~e. ~f. ~g. ~h. ~i. ~j. ~k. ~l.", 13);
    c.search(1, 13, 1, 13, 1);
    c.due("show(0)", c.shown(0), "a|b|c|d|e|f|g|h|i|j|k|l");
    c.due("show(12)", c.shown(12), "l");
    c.due("move(12, 1)", c.x.move(12, 1), 12);
    c.search(1, 12, -6, 12, 1);
  }

  private static void triedInOrder() {
    c.promise("REDUCTION from the lowest to the topmost, before EXTENSION");
    c.read("p(a). ~p(X)|p(b). ~p(b)|~p(Y)|q(Y). ~q(a).", 4);
    c.due("search", c.x.search(20, 1000), 1);
    c.due("the topmost was taken", c.x.move(3, 2), 0);
    c.promise("EXTENSION with each clause in order, each of its literals in order");
    c.read("p(X)|q(X). ~p(a)|~p(b). ~q(b). p(a). p(b).", 5);
    c.due("search", c.x.search(20, 1000), 1);
    c.promise("the other literals of that clause are new GOALS, in their order, before those that were");
    c.read("a|b. ~a|c|d. ~b. ~c. ~d.", 5);
    c.search(2, 100, 1, 2 + 5, 2);
    c.due("proof", c.proof(), "0 0 -1 0 a|b; 1 1 0 0 a; 1 3 0 1 c; 1 4 0 1 d; 1 2 0 0 b");
    c.promise("the connected literal stands between others");
    c.read("a. c|~a|d. ~c. ~d.", 4);
    c.search(2, 100, 1, 2 + 4, 2);
    c.due("proof", c.proof(), "0 0 -1 0 a; 1 1 1 0 a; 1 2 0 1 c; 1 3 0 1 d");
  }

  private static void takenBack() {
    c.promise("if that fails, all that it bound is taken back");
    c.read("t(X,b,X). ~t(a,c,a). ~t(d,b,d).", 3);
    c.search(1, 100, 1, 3, 1);
    c.due("show(0)", c.shown(0), "t(d,b,d)");
    c.promise("if what comes of it fails, all that it bound is taken back");
    c.read("p(X)|q(X). ~p(a). ~p(b)|r. ~r. ~q(b).", 5);
    c.due("search", c.x.search(2, 100), 1);
    c.due("show(0)", c.shown(0), "p(b)|q(b)");
    c.promise("it fails if the variable stands in that (with all that is bound)");
    c.read("q(X,X). ~q(Y,f(Y)).", 2);
    c.search(20, 100, 0, 2, 1);
    c.promise("the first variable of a START stands in what it would be bound to");
    c.read("q(f(X),X). ~q(Y,Y).", 2);
    c.search(20, 100, 0, 2, 1);
    c.promise("it stands in what is bound deeper");
    c.read("t(X,Y,X). ~t(f(Z),g(Z),Z).", 2);
    c.search(20, 100, 0, 2, 1);
    c.promise("the same variable twice is nothing");
    c.read("q(X,X). ~q(Y,Y).", 2);
    c.search(20, 100, 1, 2, 1);
    c.due("show(1)", c.shown(1), "q(X0,X0)");
  }

  /** On a new object: whether a fact and what denies it go together, in one try. */
  private static void unifies(String fact, String denied, boolean good) {
    c.x = new PathProver();
    c.read(fact + ". ~" + denied + ".", 2);
    c.search(1, 2, good ? 1 : 0, 2, 1);
    c.x = new PathProver();
    c.read(denied + ". ~" + fact + ".", 2);
    c.search(1, 2, good ? 1 : 0, 2, 1);
  }

  private static void pairs() {
    c.promise("what a variable is bound to counts for it");
    unifies("q(a,b)", "q(Y,Y)", false);
    unifies("q(a,a)", "q(Y,Y)", true);
    unifies("q(f(a),f(b))", "q(f(Y),f(Y))", false);
    unifies("q(f(a),f(a))", "q(f(Y),f(Y))", true);
    unifies("t(X,X,b)", "t(Y,a,Y)", false);
    unifies("t(X,X,a)", "t(Y,a,Y)", true);
    unifies("q(X,f(X))", "q(g(Y),f(g(a)))", true);
    unifies("q(X,f(X))", "q(g(Y),f(h(a)))", false);
    c.promise("both are the same symbol, and their arguments are pairs; otherwise it fails");
    unifies("q(a,a)", "q(a,a)", true);
    unifies("q(a,a)", "q(a,b)", false);
    unifies("q(a,a)", "q(b,a)", false);
    unifies("q(f(a),a)", "q(a,a)", false);
    unifies("q(f(a),a)", "q(g(a),a)", false);
    unifies("q(f(a),a)", "q(f(b),a)", false);
    unifies("q(k(a,X,c),X)", "q(k(a,b,Y),b)", true);
    unifies("q(k(a,X,c),X)", "q(k(a,b,Y),c)", false);
    unifies("r", "r", true);
    c.promise("a variable that stands in that");
    unifies("q(X,f(X))", "q(Y,Y)", false);
    unifies("q(X,Y)", "q(f(Z),f(Z))", true);
    unifies("t(X,Y,X)", "t(f(Z),Z,Z)", false);
    unifies("t(X,Y,g(X,Y))", "t(Z,f(Z),Z)", false);
  }

  private static void sameNow() {
    c.promise("if it is now the same as a literal of its PATH (with all that variables are bound to)");
    c.read("p(a). ~p(X)|e(X,Y)|p(Y). ~e(A,A).", 3);
    c.search(20, 100, 0, 2 + 3, 2);
    c.promise("not the same: a variable of another copy of the clause");
    c.read("p(f(X)). p(f(B))|~p(A).", 2);
    c.search(3, 100, -5, 2 + 3 + 4, 3);
    c.promise("not the same: another variable; the same when they have changed twice");
    c.read("q(X,Y). ~q(A,B)|q(B,A).", 2);
    c.search(1, 100, -5, 2, 1);
    c.search(20, 100, 0, 2 + 3, 2);
    c.promise("not the same: another symbol");
    c.read("p(a). ~p(a)|p(b). ~p(b)|p(a).", 3);
    c.search(20, 100, 0, 3 + 5, 2);
    c.promise("not the same: a variable and a symbol");
    c.read("p(a). ~p(A)|p(B).", 2);
    c.search(2, 100, -5, 2 + 3, 2);
    c.promise("not the same: another sign");
    c.read("p(a). ~p(X)|~p(b). p(b).", 3);
    c.due("search", c.x.search(20, 100), 1);
    c.due("proof", c.proof(), "0 2 -1 0 p(b); 1 1 0 0 p(b); 2 -1 0 1 ~p(b)");
    c.promise("not the same: another predicate");
    c.read("p(a). ~p(X)|q(X). ~q(X).", 3);
    c.search(20, 100, 1, 2 + 3, 2);
    c.promise("the same: the topmost of its PATH");
    c.read("p. ~p|q. ~q|r. ~r|p.", 4);
    c.search(20, 100, 0, 2 + 3 + 4, 3);
  }

  private static void stepsToTheLast() {
    c.promise("SPENT before one more");
    c.read("p(a). ~p(X)|p(f(X)). ~p(b).", 3);
    c.search(1, 0, -6, 0, 1);
    c.search(1, 1, -6, 1, 1);
    c.search(1, 2, -6, 2, 1);
    c.search(1, 3, -5, 3, 1);
    c.search(1, 4, -5, 3, 1);
    c.promise("a PROOF with the last STEP");
    c.read("p. ~p.", 2);
    c.search(1, 1, -6, 1, 1);
    c.search(1, 2, 1, 2, 1);
    c.promise("no PROOF at any LIMIT with the last STEP");
    c.read("p(a). ~p(b).", 2);
    c.search(1, 1, -6, 1, 1);
    c.search(1, 2, 0, 2, 1);
    c.promise("a REDUCTION as the last STEP");
    c.read("p. ~p|q. ~q|~p.", 3);
    c.search(2, 6, -6, 6, 2);
    c.search(2, 7, 1, 7, 2);
  }

  private static void mostSteps() {
    c.promise("20000 STEPS");
    c.read("p(a). ~p(X)|p(f(X)). ~p(X)|p(g(X)). ~p(b).", 4);
    // LIMIT n makes a START and three tries of each of 2 ^ n - 1 goals.
    c.search(11, 20000, -5, 12260, 11);
    c.search(11, 12260, -5, 12260, 11);
    c.search(11, 12259, -6, 12259, 11);
    c.search(20, 20000, -6, 20000, 12);
    c.search(20, 19999, -6, 19999, 12);
  }

  private static void spentBetweenLimits() {
    c.promise("the LIMIT at which it ended, when the next one begins without a STEP");
    c.read("p(a). ~p(X)|p(f(X)). ~p(b).", 3);
    c.search(2, 3, -6, 3, 2);
    c.search(2, 7, -6, 7, 2);
    c.search(2, 8, -5, 8, 2);
    c.search(3, 8, -6, 8, 3);
  }

  /** Reads these clauses behind FOUR's: the LIMIT that is one too small, and then the answer at 11. */
  private static void afterFour(String goal, String clauses, int want) {
    c.read(FOUR + goal + ". " + clauses, clauses.length() - clauses.replace(".", "").length() + 3);
    c.due("search(10, 20000)", c.x.search(10, 20000), -5);
    c.due("search(11, 20000)", c.x.search(11, 20000), want);
    c.due("told(1)", c.x.told(1), 11);
  }

  private static void looksOfPairs() {
    // Five pairs, 3836 of the trees, one pair and n for P, and one pair that differs.
    c.promise("LOOKS: the 4000th is a pair");
    afterFour("q(X,Y,Z,V,u(P,a))", "~q(A,B,C,D,u(" + Texts.ground(157) + ",b)).", 0);
    c.promise("LOOKS: the 4001st is a pair");
    afterFour("q(X,Y,Z,V,u(P,a))", "~q(A,B,C,D,u(" + Texts.ground(158) + ",b)).", -7);
    c.promise("LOOKS: the 4000th is the last pair, and it unifies");
    afterFour("q(X,Y,Z,V,u(P,a))", "~q(A,B,C,D,u(" + Texts.ground(157) + ",a)).", 1);
    c.promise("LOOKS: the 4001st is the last pair, and it would unify");
    afterFour("q(X,Y,Z,V,u(P,a))", "~q(A,B,C,D,u(" + Texts.ground(158) + ",a)).", -7);
    c.promise("LOOKS: the 4000th is a symbol of what a variable is bound to");
    afterFour("q(X,Y,Z,V,P)", "~q(A,B,C,D," + Texts.ground(159) + ").", 1);
    c.promise("LOOKS: the 4001st is a symbol of what a variable is bound to");
    afterFour("q(X,Y,Z,V,P)", "~q(A,B,C,D," + Texts.ground(160) + ").", -7);
  }

  private static void looksUpToTheVariable() {
    // 3840 of the trees, the pairs of u, W with E and what it is bound to, k, n, and E itself.
    c.promise("LOOKS: up to that variable itself, the 4000th");
    afterFour("q(X,Y,Z,V,u(W,W))", "~q(A,B,C,D,u(E,k(" + Texts.ground(154) + ",E))).", 0);
    c.promise("LOOKS: up to that variable itself, the 4001st");
    afterFour("q(X,Y,Z,V,u(W,W))", "~q(A,B,C,D,u(E,k(" + Texts.ground(155) + ",E))).", -7);
    c.promise("LOOKS: what stands behind that variable is not looked at");
    afterFour("q(X,Y,Z,V,u(W,W))", "~q(A,B,C,D,u(E,k(E," + Texts.ground(160) + "))).", 0);
  }

  private static void looksOfEachTry() {
    c.promise("LOOKS of one TRY: the next one has its own 4000");
    c.read(FOUR + "q(X,Y,Z,V,u(P,a)).", 3);
    c.read("~q(A,B,C,D,u(" + Texts.ground(157) + ",b)).", 4);
    c.due("read() once more", c.x.read(), 5);
    c.read("~q(A,B,C,D,u(" + Texts.ground(157) + ",a)).", 6);
    c.due("search(11, 20000)", c.x.search(11, 20000), 1);
    c.due("the third one was taken", c.x.move(c.x.told(2) - 1, 1), 5);
  }

  private static void looksInOrder() {
    String two = GROW + goal(10, "X") + "|" + goal(10, "Y") + "|";
    c.promise("a pair's own pairs before the next one");
    c.read(two + "q(u(a),X,Y). ~q(u(b),A,B).", 4);
    c.due("search", c.x.search(11, 20000), 0);
    c.promise("from the left");
    c.read(two + "q(X,Y,u(a)). ~q(A,B,u(b)).", 4);
    c.due("search", c.x.search(11, 20000), -7);
  }

  private static void looksOfSame() {
    for (int more = 0; more < 2; more++) {
      c.promise("LOOKS of a GOAL's PATH: the same with the 4000th, and " + more + " more");
      // 3 * 1023 + 511 of four trees, and 1 + 255 + 164 of the fifth term.
      c.read(GROW + "~m(e(G," + Texts.ground(164 + more) + "),G). r(X,Y,Z,V,W).", 4);
      c.read("~r(A,B,C,D,E)|" + goal(9, "A") + "|" + goal(9, "B") + "|" + goal(9, "C") + "|" + goal(8, "D") + "|"
          + goal(7, "F") + "|m(E,F)|r(B,A,C,D,E).", 5);
      c.due("search(10, 20000)", c.x.search(10, 20000), -5);
      c.due("search(11, 20000)", c.x.search(11, 20000), more == 0 ? 0 : -7);
      c.due("told(1)", c.x.told(1), 11);
    }
    for (int more = 0; more < 2; more++) {
      c.promise("LOOKS of a GOAL's PATH (all of these together): 4000, and " + more + " more");
      // Each of two literals differs in the last pair: 1023 + 511 + 255 + 1 + 127 + 82 + 1, and one more of the lowest.
      String low = more == 0 ? "b" : "j(b)";
      String goal = more == 0 ? "d" : "j(d)";
      c.read(GROW + "~k(" + Texts.ground(82) + "). r(X,Y,Z,i(V,W),a). ~r(A,B,C,D,a)|r(A,B,C,D," + low + ").", 5);
      c.read("~r(A,B,C,i(D,E)," + low + ")|" + goal(9, "A") + "|" + goal(8, "B") + "|" + goal(7, "C") + "|"
          + goal(6, "D") + "|k(E)|r(A,B,C,i(D,E)," + goal + ").", 6);
      c.due("search(11, 20000)", c.x.search(11, 20000), -5);
      c.due("search(12, 20000)", c.x.search(12, 20000), more == 0 ? 0 : -7);
      c.due("told(1)", c.x.told(1), 12);
    }
  }

  private static void variableTwice() {
    for (int more = 0; more < 2; more++) {
      c.promise("LOOKS: the same variable twice is its pair alone; 4000, and " + more + " more");
      // 3 * (1 + 1023) + (1 + 511) + 1 + (1 + 255) = 3841; then a pair of each of 158, and one look as P is bound.
      String part = Texts.ground(158 + more);
      c.read(GROW + goal(9, "Y") + "|" + goal(8, "Z") + "|" + goal(7, "V") + "|q(Y,Y,Y,Z,u(V,"
          + part.replace("a", "P") + ")).", 3);
      c.read("~q(A,B,C,D,u(E," + part.replace("a", "F") + ")).", 4);
      c.due("search(9, 20000)", c.x.search(9, 20000), -5);
      c.due("search(10, 20000)", c.x.search(10, 20000), more == 0 ? 1 : -7);
    }
  }

  private static final String ELEVEN = "t(a)|t(b)|t(c)|t(d)|t(e)|t(f)|t(g)|t(h)|t(i)|t(j)|t(k)";
  /** They are 6 literals, and each gives 12 and 11 more: 144. */
  private static final String SIX = "p(a)|p(b)|p(c)|p(d)|p(e)|p(f)|";
  private static final String WIDE = "~p(X)|" + ELEVEN + ". ~t(X). ~q(X). ";
  /** STEPS of LIMIT 1, and of LIMIT 2 for the START and all that becomes of SIX. */
  private static final int SIX_STEPS = 2 + 73;

  private static void literalsToTheLast() {
    c.promise("FULL: more than 150 literals, 150 of them");
    c.read(WIDE + SIX + "q(a)|q(b)|q(c).", 4);
    c.search(2, 20000, 1, SIX_STEPS + 3, 2);
    c.due("told(2)", c.x.told(2), 76);
    c.promise("FULL: 150 of them, the last one by a GOAL with a PATH");
    c.read(WIDE + "~v|x. ~x. " + SIX + "q(a)|v.", 6);
    c.search(2, 20000, 1, SIX_STEPS + 3, 2);
    c.promise("FULL: 151 of them");
    c.read(WIDE + "~v|x. ~x. " + SIX + "q(a)|q(b)|v.", 6);
    c.search(2, 20000, -7, SIX_STEPS + 3, 2);
    c.promise("FULL: 152 of them");
    c.read(WIDE + SIX + "q(a)|q(b)|q(c)|q(d).", 4);
    c.search(2, 20000, -7, SIX_STEPS + 3, 2);
    c.promise("FULL or SPENT, the first that is met");
    c.read(WIDE + SIX + "q(a)|q(b)|q(c)|q(d).", 4);
    c.search(2, SIX_STEPS + 3, -7, SIX_STEPS + 3, 2);
    c.search(2, SIX_STEPS + 2, -6, SIX_STEPS + 2, 2);
  }

  private static void literalsTakenBack() {
    c.promise("150 literals: those of a START that failed are gone");
    c.read(WIDE + SIX + "z. " + SIX + "q(a)|q(b)|q(c).", 5);
    c.search(2, 20000, 1, 4 + 73 + 76, 2);
    c.due("move(0, 1)", c.x.move(0, 1), 4);
    c.promise("150 literals: those of an EXTENSION that failed are gone");
    // Each p is first extended in vain: with eleven others, ten of them are done, and z is not.
    c.read("~p(X)|t(a)|t(b)|t(c)|t(d)|t(e)|t(f)|t(g)|t(h)|t(i)|t(j)|z. " + WIDE + SIX + "q(a)|q(b)|q(c).", 5);
    c.search(2, 20000, 1, 3 + 1 + 6 * (11 + 12) + 3, 2);
    c.due("told(2)", c.x.told(2), 76);
  }

  /** So many v, each of which makes 10 variables and two times 5. */
  private static String many(int n) {
    StringBuilder out = new StringBuilder();
    for (int i = 0; i < n; i++) {
      out.append("v(c").append(i).append(")|");
    }
    return out.toString();
  }

  private static final String LOOSE = "~v(X)|w(X,A,B,C,D)|w(E,F,G,H,I). ~w(A,B,C,D,E). ~u(X). ~x. ";

  private static void variablesToTheLast() {
    c.promise("FULL: more than 200 variables, 200 of them");
    c.read(LOOSE + many(10) + "x.", 5);
    c.search(2, 20000, 1, 2 + 1 + 30 + 1, 2);
    c.promise("FULL: 201 of them");
    c.read(LOOSE + many(10) + "u(a).", 5);
    c.search(2, 20000, -7, 2 + 1 + 30 + 1, 2);
    // An o makes 9 variables, and 5 and four times 1.
    String nine = LOOSE + "~o(X)|w(X,A,B,C,D)|u(E)|u(F)|u(G)|u(H). " + many(9);
    c.promise("FULL: 200 of them, the last one alone");
    c.read(nine + "o(a)|u(a)|u(b).", 6);
    c.search(2, 20000, 1, 2 + 1 + 27 + 6 + 2, 2);
    c.promise("FULL: 201 of them, one by the START");
    c.read(nine + "o(Y)|u(a)|u(b).", 6);
    c.search(2, 20000, -7, 2 + 1 + 27 + 6 + 2, 2);
    c.promise("FULL: 200 of them, ten by the START");
    c.read(LOOSE + many(9) + "w(A,B,C,D,E)|w(F,G,H,I,J).", 5);
    c.search(2, 20000, 1, 2 + 1 + 27 + 2, 2);
    c.promise("FULL: 201 of them, ten by the START");
    c.read(LOOSE + many(9) + "w(A,B,C,D,E)|w(F,G,H,I,J)|u(a).", 5);
    c.search(2, 20000, -7, 2 + 1 + 27 + 3, 2);
  }

  private static void variablesTakenBack() {
    c.promise("200 variables: those of a START that failed are gone");
    c.read(LOOSE + many(10) + "z. " + many(10) + "x.", 6);
    c.search(2, 20000, 1, 4 + 31 + 32, 2);
    c.due("move(0, 1)", c.x.move(0, 1), 5);
    c.promise("200 variables: those of an EXTENSION that failed are gone");
    c.read("~v(X)|w(X,A,B,C,D)|z. " + LOOSE + many(10) + "x.", 6);
    c.search(2, 20000, 1, 3 + 1 + 10 * (2 + 3) + 1, 2);
  }

  private static void onlyWhatUnifies() {
    c.promise("FULL by an EXTENSION (that unifies): literals of one that fails do not count");
    c.read("~q(d)|" + ELEVEN + ". " + WIDE + SIX + "q(a)|q(b)|q(c).", 5);
    c.search(2, 20000, 1, SIX_STEPS + 6, 2);
    c.promise("FULL by an EXTENSION (that unifies): variables of one that fails do not count");
    c.read(LOOSE + "~y(b)|w(A,B,C,D,E)|w(F,G,H,I,J). ~y(a). " + many(10) + "y(a).", 7);
    c.search(2, 20000, 1, 2 + 31 + 2, 2);
  }

  private static void reductionsAddNothing() {
    c.promise("150 literals: a REDUCTION adds none");
    c.read(WIDE + "~m(A)|~m(B)|~m(C)|~m(D)|~m(E). " + SIX + "m(a).", 5);
    c.search(2, 20000, 1, SIX_STEPS + 1 + 4, 2);
    c.due("move(74, 0)", c.x.move(74, 0), 2);
    c.due("show(77)", c.shown(77), "~m(a)");
    c.due("show(78)", c.x.show(78), -1);
  }

  /** A term with eight variables at each of 13 levels, and one at the end; from a level on. */
  private static String levels(int from, int first) {
    int n = first;
    StringBuilder out = new StringBuilder();
    for (int i = from; i < 13; i++) {
      out.append("k(j(X").append(n).append(",X").append(n + 1).append(",X").append(n + 2).append(",X").append(n + 3);
      out.append(",X").append(n + 4).append("),g(X").append(n + 5).append(",X").append(n + 6).append(",X").append(n + 7);
      out.append("),");
      n += 8;
    }
    return out.append("X").append(n).append(")".repeat(13 - from)).toString();
  }

  private static void numbersShown() {
    c.promise("what is left of them as X and numbers from 0 on: of one, two and three figures");
    c.read("v(X," + Texts.tower("f", 13, "a") + "). ~v(k(j(A,B,C,D,E),g(F,G,H),N),f(M))|v(N,M). ~v(Y,a).", 3);
    c.due("search(13, 20000)", c.x.search(13, 20000), -5);
    c.due("search(14, 20000)", c.x.search(14, 20000), 1);
    c.due("told(2)", c.x.told(2), 15);
    c.due("show(0)", c.shown(0), "v(" + levels(0, 0) + "," + Texts.tower("f", 13, "a") + ")");
    for (int k = 1; k <= 14; k++) {
      c.due("show of " + k, c.shown(k), "v(" + levels(k - 1, 0) + "," + Texts.tower("f", 14 - k, "a") + ")");
    }
    c.promise("as they come first in it");
    c.read("t(X,Y,Z)|q(Z,Y). ~t(A,B,C). ~q(A,B).", 3);
    c.search(1, 100, 1, 3, 1);
    c.due("show(0)", c.shown(0), "t(X0,X1,X2)|q(X2,X1)");
    c.due("show(1)", c.shown(1), "t(X0,X1,X2)");
    c.due("show(2)", c.shown(2), "q(X0,X1)");
    c.promise("as they come first in it, of variables that nothing was bound to");
    c.read("q(f(X))|r(f(Y),f(X)). ~q(A). ~r(A,B).", 3);
    c.search(1, 100, 1, 3, 1);
    c.due("show(0)", c.shown(0), "q(f(X0))|r(f(X1),f(X0))");
    c.due("show(2)", c.shown(2), "r(f(X0),f(X1))");
    c.due("show(1)", c.shown(1), "q(f(X0))");
    c.promise("with all that its variables are bound to in the end");
    c.read("p(X)|q(X). ~p(Y). ~q(f(b)).", 3);
    c.search(1, 100, 1, 3, 1);
    c.due("show(1)", c.shown(1), "p(f(b))");
  }

  private static void shownToTheLast() {
    // A START as it is shown: two trees, and a term of long names that fills what is left.
    String trees = "grow(" + Texts.tower("f", 9, "a") + "," + Texts.tree(9) + ")|grow(" + Texts.tower("f", 8, "a") + "," + Texts.tree(8) + ")|r(";
    for (int more = 0; more < 2; more++) {
      c.promise("-4 they are more than 4000, by " + more);
      int rest = 4000 + more - trees.length() - 1;
      int names = (rest - 4) / 10;
      String pad = "f(" + Texts.tower("nnnnnnnn", names, "a".repeat(rest - 10 * names - 3)) + ")";
      c.read(GROW + goal(9, "X") + "|" + goal(8, "Y") + "|r(" + pad + "). ~r(P).", 4);
      c.due("search", c.x.search(10, 20000), 1);
      c.due("write(3)", c.clause(3), "~r(X0)");
      c.due("show(0)", c.x.show(0), more == 0 ? 4000 : -4);
      c.due("octets", c.octets(more == 0 ? 4000 : 6), more == 0 ? trees + pad + ")" : "~r(X0)");
      int last = c.x.told(2) - 1;
      c.due("show of the last", c.shown(last), "r(" + pad + ")");
      c.due("show(1)", c.shown(1), "grow(" + Texts.tower("f", 9, "a") + "," + Texts.tree(9) + ")");
      c.due("write(1)", c.clause(1), "~grow(a,a)");
    }
    c.promise("far more than 4000, and then less again");
    c.read(GROW + goal(13, "X") + "|p.  ~p.", 4);
    c.due("search", c.x.search(14, 20000), 1);
    for (int k = 0; k <= 4; k++) {
      c.due("show of " + k, c.x.show(k), -4);
    }
    c.due("octet(0)", c.x.octet(0), -1);
    c.due("show(14)", c.shown(14), "grow(a,a)");
    c.due("show(0)", c.x.show(0), -4);
    c.due("octets stay", c.octets(9), "grow(a,a)");
    c.due("write(3)", c.clause(3), "~p");
    c.due("show(13)", c.shown(13), "grow(f(a),g(a,a))");
    c.due("show(15)", c.shown(15), "p");
  }
}
