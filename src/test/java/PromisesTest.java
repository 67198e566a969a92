/** The promises 1 to 13, each with ordinary calls, its edges, and calls that are refused. */
public final class PromisesTest {
  private static final String TEXT = "p(a). ~p(X)|p(f(X)). ~p(f(f(f(a)))).";
  private static final Check c = new Check();

  public static void main(String[] args) {
    newObject();
    feed();
    read();
    place();
    clear();
    count();
    clause();
    write();
    octet();
    search();
    told();
    move();
    show();
    twoObjects();
    c.end();
  }

  private static void newObject() {
    c.promise("Promise 1");
    c.due("place()", c.x.place(), -1);
    for (int what = 0; what <= 2; what++) {
      c.due("count", c.x.count(what), 0);
      c.due("told", c.x.told(what), 0);
    }
    c.due("clause(0, 0)", c.x.clause(0, 0), -1);
    c.due("write(0)", c.x.write(0), -1);
    c.due("octet(0)", c.x.octet(0), -1);
    c.due("move(0, 0)", c.x.move(0, 0), -1);
    c.due("show(0)", c.x.show(0), -1);
    c.due("clear()", c.x.clear(), 0);
    c.due("read()", c.x.read(), 0);
    c.due("place()", c.x.place(), -1);
    c.due("feed", c.x.feed(0x2E, 1), 1);
  }

  private static void feed() {
    c.promise("Promise 2");
    c.due("feed", c.x.feed(0x7069L, 0), 0);
    c.due("feed", c.x.feed(0x7EFFFFFFFF0070L, 1), 1);
    c.due("feed", c.x.feed(0x7E7C712EL, 3), 4);
    c.due("read", c.x.read(), 1);
    c.due("write", c.clause(0), "p|q");
    c.due("feed", c.x.feed(0, -1), -2);
    c.due("feed", c.x.feed(0, 9), -2);
    c.due("feed", c.x.feed(0, Integer.MIN_VALUE), -2);
    c.due("feed", c.x.feed(0, Integer.MAX_VALUE), -2);
    c.due("feed", c.x.feed(0x6162636465666768L, 8), 12);
    c.due("read", c.x.read(), -12);
    c.due("place", c.x.place(), 12);
    c.due("feed", c.x.feed(-1L, 0), 0);
    for (int i = 1; i <= 187; i++) {
      c.due("feed", c.x.feed(0x2020202020202020L, 8), 8 * i);
    }
    c.due("feed", c.x.feed(0, 5), -4);
    c.due("feed", c.x.feed(0, 8), -4);
    c.due("feed", c.x.feed(0x2020702EL, 4), 1500);
    c.due("feed", c.x.feed(0, 1), -4);
    c.due("feed", c.x.feed(0, 9), -2);
    c.due("feed", c.x.feed(0, -1), -2);
    c.due("read", c.x.read(), 2);
    c.due("write", c.clause(1), "p");
    c.due("feed", c.x.feed(0, 0), 0);
    c.due("feed", c.x.feed(0x702E, 2), 2);
    c.due("read", c.x.read(), 3);
    c.promise("Promise 2: bytes above 127");
    c.due("feed", c.x.feed(0x70FFL, 2), 2);
    c.due("read", c.x.read(), -11);
    c.due("place", c.x.place(), 1);
  }

  private static void read() {
    c.promise("Promise 3");
    c.read(TEXT, 3);
    c.due("read", c.x.read(), 6);
    c.due("write(5)", c.clause(5), "~p(f(f(f(a))))");
    c.due("search", c.x.search(6, 2000), 1);
    c.due("told(2)", c.x.told(2), 5);
    c.read("q(p).", -13);
    c.due("told(2)", c.x.told(2), 5);
    c.due("show(4)", c.shown(4), "p(f(f(f(a))))");
    c.due("count(0)", c.x.count(0), 6);
    c.due("count(1)", c.x.count(1), 3);
    c.read("", 6);
    c.due("told(0)", c.x.told(0), 0);
    c.due("told(1)", c.x.told(1), 0);
    c.due("told(2)", c.x.told(2), 0);
    c.due("move(0, 0)", c.x.move(0, 0), -1);
    c.due("show(0)", c.x.show(0), -1);
    c.read("q(b). $", -11);
    c.due("count(0)", c.x.count(0), 6);
    c.due("count(1)", c.x.count(1), 3);
    c.read("q(b,b).", 7);
    c.due("count(1)", c.x.count(1), 5);
    c.promise("Promise 3: every fault");
    c.read("$", -11);
    c.read(".", -12);
    c.read("p|p(a).", -13);
    c.read("p(a,a,a,a,a,a).", -14);
    c.read("p|p|p|p|p|p|p|p|p|p|p|p|p.", -15);
    c.read("~".repeat(31) + "p.", -16);
  }

  private static void place() {
    c.promise("Promise 4");
    c.read("p. q", -12);
    c.due("place", c.x.place(), 4);
    c.due("clear", c.x.clear(), 0);
    c.due("place", c.x.place(), 4);
    c.text("");
    c.due("place", c.x.place(), 4);
    c.due("search", c.x.search(1, 1), 0);
    c.due("place", c.x.place(), 4);
    c.read("p.", 1);
    c.due("place", c.x.place(), -1);
    c.read("  p(a) & p.", -13);
    c.due("place", c.x.place(), 2);
    c.read("p.p.", 3);
    c.due("place", c.x.place(), -1);
    c.read(" \n p.p(a).", -13);
    c.due("place", c.x.place(), 5);
  }

  private static void clear() {
    c.promise("Promise 5");
    c.read(TEXT + " ?X:q(X).", 4);
    c.due("search", c.x.search(6, 2000), 1);
    c.due("write(0)", c.x.write(0), 4);
    c.due("clear", c.x.clear(), 4);
    for (int what = 0; what <= 2; what++) {
      c.due("count", c.x.count(what), 0);
      c.due("told", c.x.told(what), 0);
    }
    c.due("octets stay", c.octets(4), "p(a)");
    c.due("clause(0, 0)", c.x.clause(0, 0), -1);
    c.due("write(0)", c.x.write(0), -1);
    c.due("move(0, 0)", c.x.move(0, 0), -1);
    c.due("show(0)", c.x.show(0), -1);
    c.due("clear", c.x.clear(), 0);
    c.due("the text stays: read", c.x.read(), 4);
    c.due("write(3)", c.clause(3), "q(s1)");
    c.due("clear", c.x.clear(), 4);
    c.read("a(p).", 1);
    c.due("write(0)", c.clause(0), "a(p)");
  }

  private static void count() {
    c.promise("Promise 6");
    c.read("!X:?Y:q(X,Y,a). ?Z:b(Z). b(f(f(a))).", 3);
    c.due("count(0)", c.x.count(0), 3);
    c.due("count(1)", c.x.count(1), 4);
    c.due("count(2)", c.x.count(2), 2);
    c.due("count(-1)", c.x.count(-1), -2);
    c.due("count(3)", c.x.count(3), -2);
    c.due("count", c.x.count(Integer.MIN_VALUE), -2);
    c.due("count", c.x.count(Integer.MAX_VALUE), -2);
    c.read("(?Z:b(Z))|~b(a)|b(a).", 3);
    c.due("count(2)", c.x.count(2), 3);
  }

  private static void clause() {
    c.promise("Promise 7");
    c.read("~q(X,f(Y,X)) | p | q(Y,a) | p.", 1);
    c.due("clause(0, 0)", c.x.clause(0, 0), 3);
    c.due("clause(0, 1)", c.x.clause(0, 1), 2);
    c.due("clause(0, 2)", c.x.clause(0, 2), 5 + 1 + 3);
    c.due("clause(0, 3)", c.x.clause(0, 3), -2);
    c.due("clause(0, -1)", c.x.clause(0, -1), -2);
    c.due("clause(1, 0)", c.x.clause(1, 0), -1);
    c.due("clause(-1, 0)", c.x.clause(-1, 0), -1);
    c.due("clause(1, 7)", c.x.clause(1, 7), -1);
    c.due("clause", c.x.clause(Integer.MAX_VALUE, 0), -1);
    c.due("clause", c.x.clause(Integer.MIN_VALUE, 0), -1);
    c.due("clause", c.x.clause(0, Integer.MIN_VALUE), -2);
    c.read("?X:!Y:?Z:q(Y,Z).", 2);
    c.due("clause(1, 2)", c.x.clause(1, 2), 4);
    c.due("clause(1, 1)", c.x.clause(1, 1), 1);
  }

  private static void write() {
    c.promise("Promise 8");
    c.read("~q(X,f(Y,X))|p|q(Y,a). ?V:!W:?Z:q(W,Z). longname|p.", 3);
    c.due("write(0)", c.x.write(0), 25);
    c.due("write(0)", c.clause(0), "~q(X0,f(X1,X0))|p|q(X1,a)");
    c.due("write(1)", c.clause(1), "q(X0,s2(X0))");
    c.due("write(2)", c.clause(2), "longname|p");
    c.due("write(3)", c.x.write(3), -1);
    c.due("write(-1)", c.x.write(-1), -1);
    c.due("write", c.x.write(Integer.MIN_VALUE), -1);
    c.due("refused: what was written stays", c.octets(10), "longname|p");
    c.promise("Promise 8: X10 is never reached, s10 is");
    c.read("!A:".repeat(5) + "?B:".repeat(12) + "p(B).", 1);
    c.due("write(0)", c.clause(0), "p(s12(X0,X1,X2,X3,X4))");
    c.read("p(a).", 2);
    c.promise("Promise 8: a clause is written as it is, not as it is bound");
    c.read(TEXT, 3);
    c.due("search", c.x.search(6, 2000), 1);
    c.due("write(1)", c.clause(1), "~p(X0)|p(f(X0))");
    c.due("show(2)", c.shown(2), "p(f(a))");
  }

  private static void octet() {
    c.promise("Promise 9");
    c.read("p(a). q.", 2);
    c.due("octet(0)", c.x.octet(0), -1);
    c.due("write(0)", c.x.write(0), 4);
    c.due("octet(0)", c.x.octet(0), 'p');
    c.due("octet(3)", c.x.octet(3), ')');
    c.due("octet(4)", c.x.octet(4), -1);
    c.due("octet(-1)", c.x.octet(-1), -1);
    c.due("octet", c.x.octet(Integer.MAX_VALUE), -1);
    c.due("octet", c.x.octet(Integer.MIN_VALUE), -1);
    c.due("write(1)", c.x.write(1), 1);
    c.due("octet(0)", c.x.octet(0), 'q');
    c.due("octet(1)", c.x.octet(1), -1);
    c.due("write(2)", c.x.write(2), -1);
    c.due("octet(0)", c.x.octet(0), 'q');
    c.due("show(0)", c.x.show(0), -1);
    c.due("octet(0)", c.x.octet(0), 'q');
    c.read("~q.", 3);
    c.due("octet(0)", c.x.octet(0), 'q');
  }

  private static void search() {
    c.promise("Promise 10");
    c.read(TEXT, 3);
    c.due("search", c.x.search(4, 20000), 1);
    c.due("search", c.x.search(0, 100), -2);
    c.due("search", c.x.search(21, 100), -2);
    c.due("search", c.x.search(5, -1), -2);
    c.due("search", c.x.search(5, 20001), -2);
    c.due("search", c.x.search(Integer.MIN_VALUE, Integer.MAX_VALUE), -2);
    c.due("refused: told(2)", c.x.told(2), 5);
    c.due("refused: show(4)", c.shown(4), "p(f(f(f(a))))");
    c.due("search", c.x.search(3, 20000), -5);
    c.due("search", c.x.search(20, 20), -6);
    c.due("search", c.x.search(1, 0), -6);
    c.due("search", c.x.search(20, 20000), 1);
    c.due("clear", c.x.clear(), 3);
    c.due("search", c.x.search(20, 20000), 0);
    c.read("p(a). ~p(X)|p(g(X,X)). ~p(b).", 3);
    c.due("search", c.x.search(20, 20000), -7);
    c.due("told(1)", c.x.told(1), 12);
  }

  private static void told() {
    c.promise("Promise 11");
    c.read(TEXT, 3);
    c.due("search", c.x.search(6, 2000), 1);
    c.due("told(0)", c.x.told(0), 21);
    c.due("told(1)", c.x.told(1), 4);
    c.due("told(2)", c.x.told(2), 5);
    c.due("told(3)", c.x.told(3), -2);
    c.due("told(-1)", c.x.told(-1), -2);
    c.due("told", c.x.told(Integer.MIN_VALUE), -2);
    c.due("search", c.x.search(2, 2000), -5);
    c.due("told(0)", c.x.told(0), 8);
    c.due("told(1)", c.x.told(1), 2);
    c.due("told(2)", c.x.told(2), 0);
    c.due("search", c.x.search(0, 0), -2);
    c.due("told(0)", c.x.told(0), 8);
  }

  private static void move() {
    c.promise("Promise 12");
    c.read("a. ~a|b. ~b|c. ~c|~a.", 4);
    c.due("move(0, 0)", c.x.move(0, 0), -1);
    c.due("search", c.x.search(6, 2000), 1);
    int[][] want = {{0, 0, -1, 0}, {1, 1, 0, 0}, {1, 2, 0, 1}, {1, 3, 0, 2}, {2, -1, 0, 3}};
    for (int k = 0; k < 5; k++) {
      for (int what = 0; what < 4; what++) {
        c.due("move(" + k + ", " + what + ")", c.x.move(k, what), want[k][what]);
      }
      c.due("move(" + k + ", 4)", c.x.move(k, 4), -2);
      c.due("move(" + k + ", -1)", c.x.move(k, -1), -2);
    }
    c.due("move(5, 0)", c.x.move(5, 0), -1);
    c.due("move(-1, 0)", c.x.move(-1, 0), -1);
    c.due("move(5, 9)", c.x.move(5, 9), -1);
    c.due("move", c.x.move(Integer.MIN_VALUE, Integer.MIN_VALUE), -1);
    c.due("move", c.x.move(0, Integer.MAX_VALUE), -2);
    c.due("search", c.x.search(2, 2000), -5);
    c.due("move(0, 0)", c.x.move(0, 0), -1);
  }

  private static void show() {
    c.promise("Promise 13");
    c.read("t(X,Y,Z)|r(Y). ~t(a,V,V). ~r(f(W)).", 3);
    c.due("show(0)", c.x.show(0), -1);
    c.due("search", c.x.search(6, 2000), 1);
    c.due("show(0)", c.shown(0), "t(a,f(X0),f(X0))|r(f(X0))");
    c.due("show(1)", c.shown(1), "t(a,f(X0),f(X0))");
    c.due("show(2)", c.shown(2), "r(f(X0))");
    c.due("show(3)", c.x.show(3), -1);
    c.due("show(-1)", c.x.show(-1), -1);
    c.due("show", c.x.show(Integer.MIN_VALUE), -1);
    c.due("show", c.x.show(Integer.MAX_VALUE), -1);
    c.due("refused: what was written stays", c.octets(8), "r(f(X0))");
    c.promise("Promise 13: what is left is numbered as it comes first");
    c.read("q(Y,X)|q(X,Z). ~q(A,B).", 2);
    c.due("search", c.x.search(6, 2000), 1);
    c.due("show(0)", c.shown(0), "q(X0,X1)|q(X1,X2)");
    c.due("show(1)", c.shown(1), "q(X0,X1)");
    c.due("show(2)", c.shown(2), "q(X0,X1)");
    c.promise("Promise 13: the sign of a goal");
    c.read("a|b. ~a|b. a|~b. ~a|~b.", 4);
    c.due("search", c.x.search(6, 2000), 1);
    boolean signed = false;
    for (int k = 0; k < c.x.told(2); k++) {
      signed |= c.shown(k).startsWith("~");
    }
    c.due("a goal with ~", signed ? 1 : 0, 1);
  }

  private static void twoObjects() {
    c.promise("Objects do not share");
    c.read("p.", 1);
    PathProver first = c.x;
    c.x = new PathProver();
    c.read("q(a). r.", 2);
    c.due("first.count(0)", first.count(0), 1);
    c.due("first.write(0)", first.write(0), 1);
    c.due("octet(0)", c.x.octet(0), -1);
  }
}
