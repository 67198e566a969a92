/** Part 3 of the document: the search, its order, its counts, and what makes it full. */
public final class SearchTest {
  private static final Check c = new Check();
  /** As often as there is an f, the tree grows, and its smaller ones move on. */
  private static final String SHIFT = "~p(f(N),X,Y,Z,V)|p(N,g(X,X),X,Y,Z). ";

  public static void main(String[] args) {
    order();
    failures();
    repeats();
    spent();
    unifying();
    looksOfTry();
    looksOfPath();
    tableauLiterals();
    tableauVariables();
    longShow();
    c.end();
  }

  private static void order() {
    c.promise("order of tries");
    c.read("p(a). ~p(X)|p(f(X)). ~p(f(f(f(a)))).", 3);
    c.search(6, 2000, 1, 3 + 5 + 7 + 6, 4);
    c.due("proof", c.proof(), "0 0 -1 0 p(a); 1 1 0 0 p(a); 1 1 0 1 p(f(a)); 1 1 0 2 p(f(f(a))); 1 2 0 3 p(f(f(f(a))))");
    c.promise("reductions from the lowest, before extensions");
    c.read("r|s. r|~s. ~r|s. ~r|~s.", 4);
    c.search(6, 2000, 1, 12, 2);
    c.promise("path places are told from the topmost");
    c.read("a. ~a|b. ~b|c. ~c|~a.", 4);
    c.search(5, 100, 1, 3 + 5 + 5, 3);
    c.due("proof", c.proof(), "0 0 -1 0 a; 1 1 0 0 a; 1 2 0 1 b; 1 3 0 2 c; 2 -1 0 3 ~a");
    c.promise("a path's literals from the lowest to the topmost");
    c.read("p(a). ~p(a)|p(b). ~p(b)|~p(Y).", 3);
    c.search(4, 100, 1, 5 + 5, 2);
    c.due("proof", c.proof(), "0 0 -1 0 p(a); 1 1 0 0 p(a); 1 2 0 1 p(b); 2 -1 1 2 ~p(b)");
    c.promise("the next start");
    c.read("a. b. ~b.", 3);
    c.search(1, 100, 1, 3, 1);
    c.due("proof", c.proof(), "0 1 -1 0 b; 1 2 0 0 b");
    c.promise("only clauses without ~ are started");
    c.read("~a|b. ~b. a|~c. c.", 4);
    c.search(9, 100, 1, 2 + 3 + 4, 3);
    c.due("proof", c.proof(), "0 3 -1 0 c; 1 2 1 0 c; 1 0 0 1 a; 1 1 0 2 b");
  }

  private static void failures() {
    c.promise("no proof at any limit");
    c.search(1, 0, 0, 0, 1);
    c.read("~p.", 1);
    c.search(5, 100, 0, 0, 1);
    c.read("q.", 2);
    c.search(5, 100, 0, 1, 1);
    c.read("~q|q2. ~p|q2.", 4);
    c.search(5, 100, 0, 2, 1);
    c.promise("none up to that limit");
    c.read("p(a). ~p(X)|p(f(X)). ~p(b).", 3);
    c.search(1, 100, -5, 3, 1);
    c.search(2, 100, -5, 8, 2);
    c.search(3, 100, -5, 15, 3);
    c.due("search", c.x.search(20, 20000), -5);
    c.due("told(1)", c.x.told(1), 20);
  }

  private static void repeats() {
    c.promise("paths do not repeat");
    c.read("p. ~p|q. ~q|p.", 3);
    c.search(9, 1000, 0, 2 + 3, 2);
    c.promise("the same with all that is bound");
    c.read("p(X). ~p(a)|q(a). ~q(Y)|p(Y).", 3);
    c.search(9, 1000, 0, 5, 2);
    c.promise("not the same with other variables");
    c.read("p(X,Y). ~p(X,Y)|p(Y,X). ~p(a,b)|~p(b,a)|r.", 3);
    c.due("search", c.x.search(3, 1000), -5);
  }

  private static void spent() {
    c.promise("steps");
    c.read("p(a). ~p(X)|p(f(X)). ~p(f(f(f(a)))).", 3);
    c.search(6, 0, -6, 0, 1);
    c.search(6, 1, -6, 1, 1);
    c.search(6, 15, -6, 15, 4);
    c.search(6, 20, -6, 20, 4);
    c.search(6, 21, 1, 21, 4);
    c.due("told(2)", c.x.told(2), 5);
    c.search(6, 20, -6, 20, 4);
    c.promise("a search that ends with its last step is not spent");
    c.read("p. ~q.", 2);
    c.search(20, 1, 0, 1, 1);
  }

  private static void unifying() {
    c.promise("a variable does not stand in what it is bound to");
    c.read("p(X,X). ~p(Y,f(Y)).", 2);
    c.search(5, 100, 0, 2, 1);
    c.promise("bindings are taken back");
    c.read("p(X)|q(X). ~p(a). ~p(b). ~q(b).", 4);
    c.search(3, 100, 1, 5, 1);
    c.due("proof", c.proof(), "0 0 -1 0 p(b)|q(b); 1 2 0 0 p(b); 1 3 0 0 q(b)");
    c.promise("variables that are left");
    c.read("q(X,g(Y,X)). ~q(f(V),W).", 2);
    c.search(3, 100, 1, 2, 1);
    c.due("proof", c.proof(), "0 0 -1 0 q(f(X0),g(X1,f(X0))); 1 1 0 0 q(f(X0),g(X1,f(X0)))");
    c.promise("a function of part 2 is not the name in a text");
    c.read("?X:p(X). ~p(s1).", 2);
    c.search(3, 100, 0, 2, 1);
  }

  private static void looksOfTry() {
    // Trees of 2047, 1023, 511 and 255 symbols, each bound to a variable: 3840 looks and those of the last pair.
    for (int more = 0; more < 2; more++) {
      c.promise("4000 looks of a try, and " + more + " more");
      String last = "h(" + Texts.tree(6) + "," + (more == 0 ? Texts.tree(4) : "f(" + Texts.tree(4) + ")") + ")";
      c.read("p(" + Texts.tower("f", 10, "a") + ",a,a,a,a). ~p(a,X,Y,Z,V)|q(X,Y,Z,V," + last + ").", 2);
      c.read(SHIFT + "~q(A,B,C,D,E).", 4);
      c.due("search", c.x.search(11, 20000), -5);
      c.due("search", c.x.search(12, 20000), more == 0 ? 1 : -7);
      c.due("told(1)", c.x.told(1), 12);
      c.due("told(2)", c.x.told(2), more == 0 ? 13 : 0);
    }
  }

  private static void looksOfPath() {
    // Three literals that are the same up to their last symbol: two times 1916 + 1 + 82 looks, and those that differ.
    for (int more = 0; more < 2; more++) {
      c.promise("4000 looks of a path, and " + more + " more");
      String same = "h(" + Texts.tree(5) + "," + Texts.tower("f", 17, "a") + ")";
      String first = more == 0 ? "b" : "f(b)";
      String third = more == 0 ? "d" : "f(d)";
      c.read("p(" + Texts.tower("f", 9, "a") + ",a,a,a,a)." + SHIFT, 2);
      c.read("~p(a,X,Y,Z,V)|r(X,Y,Z,V,u(" + same + "," + first + ")).", 3);
      c.read("~r(X,Y,Z,V,u(A," + first + "))|r(X,Y,Z,V,u(A,c)).", 4);
      c.read("~r(X,Y,Z,V,u(A,c))|r(X,Y,Z,V,u(A," + third + ")). ~r(X,Y,Z,V,u(A," + third + ")).", 6);
      c.due("search", c.x.search(11, 20000), -5);
      c.due("search", c.x.search(12, 20000), more == 0 ? -5 : -7);
      c.due("search", c.x.search(13, 20000), more == 0 ? 1 : -7);
      c.due("told(1)", c.x.told(1), more == 0 ? 13 : 12);
      c.due("told(2)", c.x.told(2), more == 0 ? 14 : 0);
    }
  }

  private static void tableauLiterals() {
    // A p gives 12 literals and 11 of one each, a q 1; the start itself counts too.
    String clauses = "~p(X)|t(a)|t(b)|t(c)|t(d)|t(e)|t(f)|t(g)|t(h)|t(i)|t(j)|t(k). ~t(X). ~q(X). ";
    String six = "p(a)|p(b)|p(c)|p(d)|p(e)|p(f)|";
    c.promise("150 literals");
    c.read(clauses + six + "q(a)|q(b)|q(c).", 4);
    c.search(9, 20000, 1, 2 + 1 + 6 * 12 + 3, 2);
    c.due("told(2)", c.x.told(2), 76);
    c.promise("151 literals");
    c.read(clauses + "~v|w. ~w|~v. " + six + "q(a)|v.", 6);
    c.search(9, 20000, -7, 2 + 1 + 6 * 12 + 3, 2);
    c.promise("152 literals");
    c.read(clauses + six + "q(a)|q(b)|q(c)|q(d).", 4);
    c.search(9, 20000, -7, 2 + 1 + 6 * 12 + 3, 2);
  }

  private static void tableauVariables() {
    // A v gives ten variables, and two w of five each.
    String clauses = "~v(X)|w(X,A,B,C,D)|w(E,F,G,H,I). ~w(A,B,C,D,E). ~u(X). ";
    StringBuilder ten = new StringBuilder();
    for (int i = 0; i < 10; i++) {
      ten.append(i > 0 ? "|" : "").append("v(c").append(i).append(")");
    }
    c.promise("200 variables");
    c.read(clauses + ten + ".", 4);
    c.search(9, 20000, 1, 2 + 1 + 10 * 3, 2);
    c.promise("201 variables");
    c.read(clauses + ten + "|u(a).", 4);
    c.search(9, 20000, -7, 2 + 1 + 10 * 3 + 1, 2);
  }

  private static void longShow() {
    // r( 2556 , 1276 , 163 )
    for (int more = 0; more < 2; more++) {
      c.promise("4000 bytes are shown, and " + more + " more");
      String padding = Texts.tower("nnnnnnnn", 16, more == 0 ? "aaa" : "aaaa");
      c.read("p(" + Texts.tower("f", 9, "a") + ",a,a,a,a). ~p(a,X,Y,Z,V)|r(X,Y," + padding + "). ~r(X,Y,Z).", 3);
      c.read(SHIFT, 4);
      c.due("search", c.x.search(12, 20000), 1);
      c.due("told(2)", c.x.told(2), 12);
      c.due("write(2)", c.clause(2), "~r(X0,X1,X2)");
      c.due("show(11)", c.x.show(11), more == 0 ? 4000 : -4);
      c.due("octet(0)", c.x.octet(0), more == 0 ? 'r' : '~');
      c.due("octet(3999)", c.x.octet(3999), more == 0 ? ')' : -1);
      c.due("octet(4000)", c.x.octet(4000), -1);
      c.due("octet(11)", c.x.octet(11), more == 0 ? '(' : ')');
      if (more == 0) {
        c.due("octets", c.octets(4000), "r(" + Texts.tree(9) + "," + Texts.tree(8) + "," + padding + ")");
      }
    }
  }
}
