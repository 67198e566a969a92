/** The promises 1 to 13 at their edges: what is refused, by which answer, and that it changes nothing. */
public final class PromiseEdgesTest {
  private static final String TEXT = "p(a). ~p(X)|p(f(X)). ~p(f(f(a))). ?Y:q(Y,Z).";
  private static final int[] FAR = {Integer.MIN_VALUE, Integer.MIN_VALUE + 1, -1000, 1000, 1 << 16, Integer.MAX_VALUE};
  private static final Check c = new Check();

  public static void main(String[] args) {
    newObject();
    feedRange();
    feedBytes();
    feedFull();
    readEmpty();
    readStays();
    readFaults();
    placeOfLatest();
    clearAll();
    countRange();
    clauseRange();
    writeRange();
    octetRange();
    searchRange();
    toldRange();
    toldOfEachAnswer();
    moveRange();
    showRange();
    firstThatFits();
    refusedChangesNothing();
    manyCalls();
    c.end();
  }

  /** With clauses, symbols, functions, a proof of four moves and four bytes that were written. */
  private static void ready() {
    c.x = new PathProver();
    c.read(TEXT, 4);
    c.due("search", c.x.search(6, 2000), 1);
    c.due("write(0)", c.x.write(0), 4);
  }

  /** All that can be asked without a change. */
  private static String state() {
    StringBuilder out = new StringBuilder();
    for (int what = 0; what < 3; what++) {
      out.append(c.x.count(what)).append(' ').append(c.x.told(what)).append(' ');
    }
    for (int k = 0; k <= c.x.told(2); k++) {
      for (int what = 0; what < 4; what++) {
        out.append(c.x.move(k, what)).append(' ');
      }
    }
    for (int k = 0; k <= c.x.count(0); k++) {
      for (int what = 0; what < 3; what++) {
        out.append(c.x.clause(k, what)).append(' ');
      }
    }
    for (int i = -1; i < 60; i++) {
      out.append(c.x.octet(i)).append(' ');
    }
    return out.toString();
  }

  private static void newObject() {
    c.promise("Promise 1: an empty text, no clauses");
    c.due("read()", c.x.read(), 0);
    c.due("feed", c.x.feed('p', 1), 1);
    c.promise("Promise 1: nothing searched, nothing written, no fault");
    c.due("state", state(), "0 0 0 0 0 0 -1 -1 -1 -1 -1 -1 -1 " + "-1 ".repeat(61));
    c.due("place()", c.x.place(), -1);
    c.due("clear()", c.x.clear(), 0);
    c.due("show(0)", c.x.show(0), -1);
    c.due("write(0)", c.x.write(0), -1);
    c.due("search(1, 0)", c.x.search(1, 0), 0);
    c.due("told(1)", c.x.told(1), 1);
  }

  private static void feedRange() {
    c.promise("Promise 2: -2 n is not 0 .. 8");
    c.due("feed(-1)", c.x.feed(0x70, -1), -2);
    c.due("feed(9)", c.x.feed(0x70, 9), -2);
    for (int n : FAR) {
      c.due("feed of " + n, c.x.feed(0x70, n), -2);
    }
    c.due("feed(0)", c.x.feed(0x70, 0), 0);
    int length = 0;
    for (int n = 1; n <= 8; n++) {
      length += n;
      c.due("feed of " + n, c.x.feed(0x2020202020202020L, n), length);
    }
    c.due("feed(-1) behind", c.x.feed(0x70, -1), -2);
    c.due("the length stays", c.x.feed(0x20, 1), length + 1);
    c.due("feed(0)", c.x.feed(-1, 0), 0);
    c.due("feed(0) twice", c.x.feed(-1, 0), 0);
    c.due("feed(1)", c.x.feed(0x20, 1), 1);
  }

  private static void feedBytes() {
    String name = "abcdefg.";
    for (int n = 2; n <= 8; n++) {
      c.promise("Promise 2: the n lowest bytes of v, the highest first: " + n);
      long v = -1;
      for (int i = 8 - n; i < 8; i++) {
        v = v << 8 | name.charAt(i);
      }
      c.due("feed", c.x.feed(v, n), n);
      c.due("read()", c.x.read(), 1);
      c.due("write(0)", c.clause(0), name.substring(8 - n, 7));
    }
    c.promise("Promise 2: the bytes come behind");
    c.due("feed", c.x.feed(0x6162, 2), 2);
    c.due("feed", c.x.feed(0xFF00000000000063L, 1), 3);
    c.due("feed", c.x.feed(0x2EL, 1), 4);
    c.due("read()", c.x.read(), 1);
    c.due("write(0)", c.clause(0), "abc");
    c.promise("Promise 2: bytes of 0 and of 255");
    c.due("feed", c.x.feed(0x70000000000000L, 8), 8);
    c.due("read()", c.x.read(), -11);
    c.due("place()", c.x.place(), 0);
    c.due("feed", c.x.feed(0, 0), 0);
    c.due("feed", c.x.feed(-1L, 8), 8);
    c.due("read()", c.x.read(), -11);
    c.due("place()", c.x.place(), 0);
  }

  private static void feedFull() {
    c.promise("Promise 2: -4");
    c.text(" ".repeat(1500));
    for (int n = 1; n <= 8; n++) {
      c.due("feed of " + n, c.x.feed(0, n), -4);
    }
    c.due("feed(9)", c.x.feed(0, 9), -2);
    c.due("read()", c.x.read(), 0);
    c.due("feed(0)", c.x.feed(0, 0), 0);
    c.due("feed(8)", c.x.feed(0x2020202020702E20L, 8), 8);
    c.due("read()", c.x.read(), 1);
  }

  private static void readEmpty() {
    c.promise("Promise 3: an empty text");
    c.due("read()", c.x.read(), 0);
    c.read("p.q.", 2);
    c.due("feed(0)", c.x.feed(0, 0), 0);
    c.due("read()", c.x.read(), 2);
    c.due("place()", c.x.place(), -1);
    c.promise("Promise 3: an empty text is read without a fault, so what was searched is gone");
    ready();
    c.due("feed(0)", c.x.feed(0, 0), 0);
    c.due("told(2) before", c.x.told(2), 4);
    c.due("read()", c.x.read(), 4);
    c.due("told(0)", c.x.told(0), 0);
    c.due("told(1)", c.x.told(1), 0);
    c.due("told(2)", c.x.told(2), 0);
    c.due("move(0, 0)", c.x.move(0, 0), -1);
    c.due("show(0)", c.x.show(0), -1);
    c.due("octet(0) stays", c.x.octet(0), 'p');
  }

  private static void readStays() {
    c.promise("Promise 3: THE TEXT is read (it stays)");
    c.read("p.q|r.", 2);
    c.due("read()", c.x.read(), 4);
    c.due("read()", c.x.read(), 6);
    c.due("write(5)", c.clause(5), "q|r");
    c.due("feed behind it", c.x.feed(0x732E, 2), 8);
    c.due("read()", c.x.read(), 9);
    c.due("write(8)", c.clause(8), "s");
    c.promise("Promise 3: a text with a fault stays, too");
    c.due("feed", c.x.feed('p', 1), 1);
    c.due("read()", c.x.read(), -12);
    c.due("read()", c.x.read(), -12);
    c.due("feed", c.x.feed('.', 1), 2);
    c.due("read()", c.x.read(), 1);
  }

  private static void readFaults() {
    String[] faults = {"r. $", "r. r", "r. r(a).", "r. r|u(a,a,a,a,a,a).", "r. r|r|r|r|r|r|r|r|r|r|r|r|r.", "r. " + "~".repeat(31)};
    int[] places = {3, 4, 3, 5, 3, 33};
    for (int i = 0; i < faults.length; i++) {
      c.promise("Promise 3: -10 less the FAULT: nothing comes, symbols neither; " + (i + 1));
      ready();
      String before = state();
      c.read("?A:r0(A). " + faults[i], -11 - i);
      c.due("state", state(), before);
      c.due("place()", c.x.place(), 10 + places[i]);
      c.due("what was searched is not gone", c.shown(3), "p(f(f(a)))");
      c.read("r0. r.", 6);
      c.due("count(1)", c.x.count(1), 6);
      c.due("told(2)", c.x.told(2), 0);
      c.read("?A:q(A,A).", 7);
      c.due("write(6)", c.clause(6), "q(s2,s2)");
    }
  }

  private static void placeOfLatest() {
    c.promise("Promise 4: -1 before");
    c.due("place()", c.x.place(), -1);
    c.text("$");
    c.due("place()", c.x.place(), -1);
    c.promise("Promise 4: the place of the fault of the latest read()");
    c.read("$", -11);
    c.due("place() at 0", c.x.place(), 0);
    c.read(" ".repeat(1499) + "$", -11);
    c.due("place() at 1499", c.x.place(), 1499);
    c.read(" ".repeat(1499) + "p", -12);
    c.due("place() at 1500", c.x.place(), 1500);
    c.due("feed(0)", c.x.feed(0, 0), 0);
    c.due("feed(9)", c.x.feed(0, 9), -2);
    c.due("search", c.x.search(1, 1), 0);
    c.due("clear", c.x.clear(), 0);
    c.due("place() stays", c.x.place(), 1500);
    c.due("read()", c.x.read(), 0);
    c.due("place() if it had none", c.x.place(), -1);
  }

  private static void clearAll() {
    c.promise("Promise 5: how many clauses there were");
    c.due("clear()", c.x.clear(), 0);
    c.read("p.".repeat(100), 100);
    c.due("clear()", c.x.clear(), 100);
    c.due("clear()", c.x.clear(), 0);
    c.due("read() of the text, that stays", c.x.read(), 100);
    c.promise("Promise 5: no clauses, no symbols, nothing searched");
    ready();
    c.due("clear()", c.x.clear(), 4);
    for (int what = 0; what < 3; what++) {
      c.due("count", c.x.count(what), 0);
      c.due("told", c.x.told(what), 0);
      c.due("clause", c.x.clause(0, what), -1);
      c.due("move", c.x.move(0, what), -1);
    }
    c.due("write(0)", c.x.write(0), -1);
    c.due("show(0)", c.x.show(0), -1);
    c.due("search(20, 20000)", c.x.search(20, 20000), 0);
    c.read("a(p,p)|f. ?X:f.", 2);
    c.due("count(1)", c.x.count(1), 3);
    c.due("count(2)", c.x.count(2), 1);
  }

  private static void countRange() {
    c.promise("Promise 6: -2 no such what");
    ready();
    c.due("count(-1)", c.x.count(-1), -2);
    c.due("count(0)", c.x.count(0), 4);
    c.due("count(1)", c.x.count(1), 4);
    c.due("count(2)", c.x.count(2), 1);
    c.due("count(3)", c.x.count(3), -2);
    for (int what : FAR) {
      c.due("count of " + what, c.x.count(what), -2);
    }
  }

  private static void clauseRange() {
    c.promise("Promise 7: -1, -2 no such what");
    ready();
    int[][] want = {{1, 0, 2}, {2, 1, 5}, {1, 0, 4}, {1, 1, 4}};
    for (int k = -1; k <= 4; k++) {
      boolean there = k >= 0 && k < 4;
      for (int what = 0; what < 3; what++) {
        c.due("clause(" + k + ", " + what + ")", c.x.clause(k, what), there ? want[k][what] : -1);
      }
      c.due("clause(" + k + ", -1)", c.x.clause(k, -1), there ? -2 : -1);
      c.due("clause(" + k + ", 3)", c.x.clause(k, 3), there ? -2 : -1);
      for (int far : FAR) {
        c.due("clause(" + k + ", " + far + ")", c.x.clause(k, far), there ? -2 : -1);
        c.due("clause(" + far + ", 0)", c.x.clause(far, 0), -1);
      }
    }
  }

  private static void writeRange() {
    c.promise("Promise 8: -1");
    ready();
    c.due("write(-1)", c.x.write(-1), -1);
    c.due("write(4)", c.x.write(4), -1);
    for (int far : FAR) {
      c.due("write of " + far, c.x.write(far), -1);
    }
    c.due("what was written stays", c.octets(4), "p(a)");
    c.due("write(0)", c.clause(0), "p(a)");
    c.due("write(3)", c.clause(3), "q(s1(X0),X0)");
    c.due("write(1)", c.clause(1), "~p(X0)|p(f(X0))");
    c.promise("Promise 8: the shortest, and the longest of 200 symbols and variables");
    c.read("p.", 1);
    c.due("write(0)", c.x.write(0), 1);
    String part = "pppppppp(aaaaaaaa,bbbbbbbb,cccccccc,dddddddd,eeeeeeee)";
    StringBuilder all = new StringBuilder(part);
    for (int i = 1; i < 12; i++) {
      all.append('|').append(part.replace("pppppppp", "ppppppp" + (char) ('a' + i)));
    }
    c.read(all + ".", 2);
    c.due("write(1)", c.clause(1), all.toString());
  }

  private static void octetRange() {
    c.promise("Promise 9: -1 there is none");
    c.due("octet(0) before", c.x.octet(0), -1);
    ready();
    c.due("octet(-1)", c.x.octet(-1), -1);
    c.due("octet(0)", c.x.octet(0), 'p');
    c.due("octet(3)", c.x.octet(3), ')');
    c.due("octet(4)", c.x.octet(4), -1);
    for (int far : FAR) {
      c.due("octet of " + far, c.x.octet(far), -1);
    }
    c.promise("Promise 9: of what was written latest, by write or by show");
    ready();
    c.due("write(1)", c.x.write(1), 15);
    c.due("octet(14)", c.x.octet(14), ')');
    c.due("octet(15)", c.x.octet(15), -1);
    c.due("show(0)", c.x.show(0), 4);
    c.due("octet(3)", c.x.octet(3), ')');
    c.due("octet(4), that there was before", c.x.octet(4), -1);
    c.due("show(3)", c.x.show(3), 10);
    c.due("octet(9)", c.x.octet(9), ')');
    c.due("octet(10)", c.x.octet(10), -1);
    c.due("write(0)", c.x.write(0), 4);
    c.due("octet(4)", c.x.octet(4), -1);
  }

  private static void searchRange() {
    c.promise("Promise 10: -2 limit is not 1 .. 20, steps not 0 .. 20000");
    ready();
    int[] limits = {0, 21, -1, -5};
    int[] steps = {-1, 20001, -2};
    for (int bad : limits) {
      c.due("limit " + bad, c.x.search(bad, 100), -2);
      c.due("limit " + bad, c.x.search(bad, 0), -2);
      c.due("limit " + bad, c.x.search(bad, 20001), -2);
    }
    for (int bad : steps) {
      c.due("steps " + bad, c.x.search(1, bad), -2);
      c.due("steps " + bad, c.x.search(20, bad), -2);
      c.due("steps " + bad, c.x.search(21, bad), -2);
    }
    for (int far : FAR) {
      if (far < 1 || far > 20000) {
        c.due("steps " + far, c.x.search(5, far), -2);
      }
      c.due("limit " + far, c.x.search(far, 5), -2);
    }
    c.due("refused: told(0)", c.x.told(0), 4 + 6 + 5);
    c.due("search(1, 0)", c.x.search(1, 0), -6);
    c.due("search(1, 20000)", c.x.search(1, 20000), -5);
    c.due("search(20, 0)", c.x.search(20, 0), -6);
    c.due("search(20, 20000)", c.x.search(20, 20000), 1);
    c.due("search(3, 15)", c.x.search(3, 15), 1);
    c.due("search(3, 14)", c.x.search(3, 14), -6);
    c.due("search(2, 20000)", c.x.search(2, 20000), -5);
  }

  private static void toldRange() {
    c.promise("Promise 11: -2 no such what");
    c.due("told(-1) before", c.x.told(-1), -2);
    c.due("told(3) before", c.x.told(3), -2);
    ready();
    c.due("told(-1)", c.x.told(-1), -2);
    c.due("told(0)", c.x.told(0), 15);
    c.due("told(1)", c.x.told(1), 3);
    c.due("told(2)", c.x.told(2), 4);
    c.due("told(3)", c.x.told(3), -2);
    for (int far : FAR) {
      c.due("told of " + far, c.x.told(far), -2);
    }
  }

  private static void toldOfEachAnswer() {
    c.promise("Promise 11: of the latest search(), whatever it answered; moves 0 without a PROOF");
    ready();
    c.search(2, 2000, -5, 10, 2);
    c.search(6, 15, 1, 15, 3);
    c.due("told(2)", c.x.told(2), 4);
    c.search(6, 14, -6, 14, 3);
    c.search(6, 0, -6, 0, 1);
    c.search(6, 15, 1, 15, 3);
    c.due("a refused one is none", c.x.search(0, 13), -2);
    c.due("told(0)", c.x.told(0), 15);
    c.due("told(1)", c.x.told(1), 3);
    c.due("told(2)", c.x.told(2), 4);
    c.due("clear()", c.x.clear(), 4);
    c.search(6, 13, 0, 0, 1);
    c.read("grow(" + "f(".repeat(13) + "a" + ")".repeat(13) + ",X)|q(X,X). ~grow(f(N),g(U,U))|grow(N,U). ~grow(a,a). ~q(A,A).", 4);
    c.due("told(1), gone", c.x.told(1), 0);
    c.due("search", c.x.search(20, 20000), -7);
    c.due("told(1)", c.x.told(1), 14);
    c.due("told(2)", c.x.told(2), 0);
    c.due("show(0)", c.x.show(0), -1);
  }

  private static void moveRange() {
    c.promise("Promise 12: -1 there is none, -2 no such what");
    ready();
    int[][] want = {{0, 0, -1, 0}, {1, 1, 0, 0}, {1, 1, 0, 1}, {1, 2, 0, 2}};
    for (int k = -1; k <= 4; k++) {
      boolean there = k >= 0 && k < 4;
      for (int what = 0; what < 4; what++) {
        c.due("move(" + k + ", " + what + ")", c.x.move(k, what), there ? want[k][what] : -1);
      }
      c.due("move(" + k + ", -1)", c.x.move(k, -1), there ? -2 : -1);
      c.due("move(" + k + ", 4)", c.x.move(k, 4), there ? -2 : -1);
      for (int far : FAR) {
        c.due("move(" + k + ", " + far + ")", c.x.move(k, far), there ? -2 : -1);
        c.due("move(" + far + ", 0)", c.x.move(far, 0), -1);
      }
    }
    c.promise("Promise 12: of a REDUCTION the clause is -1, and which of the PATH, from 0 on");
    c.read("a. ~a|b. ~b|d. ~d|~a|~b.", 4);
    c.due("search", c.x.search(6, 2000), 1);
    c.due("proof", c.proof(), "0 0 -1 0 a; 1 1 0 0 a; 1 2 0 1 b; 1 3 0 2 d; 2 -1 0 3 ~a; 2 -1 1 3 ~b");
    c.promise("Promise 12: the literal that was connected, the first and the last of a clause");
    c.read("a. b|d|~a. ~b. ~d.", 4);
    c.due("search", c.x.search(6, 2000), 1);
    c.due("move(1, 2)", c.x.move(1, 2), 2);
    c.due("move(2, 2)", c.x.move(2, 2), 0);
    c.promise("Promise 12: none behind a search without a PROOF");
    ready();
    c.due("search", c.x.search(1, 2000), -5);
    c.due("move(0, 0)", c.x.move(0, 0), -1);
    c.due("move(0, 9)", c.x.move(0, 9), -1);
  }

  private static void showRange() {
    c.promise("Promise 13: -1 there is none");
    c.due("show(0) before", c.x.show(0), -1);
    ready();
    c.due("show(-1)", c.x.show(-1), -1);
    c.due("show(4)", c.x.show(4), -1);
    for (int far : FAR) {
      c.due("show of " + far, c.x.show(far), -1);
    }
    c.due("what was written stays", c.octets(4), "p(a)");
    c.due("show(0)", c.shown(0), "p(a)");
    c.due("show(1)", c.shown(1), "p(a)");
    c.due("show(2)", c.shown(2), "p(f(a))");
    c.due("show(3)", c.shown(3), "p(f(f(a)))");
    c.due("search", c.x.search(1, 1), -6);
    c.due("show(0)", c.x.show(0), -1);
    c.promise("Promise 13: of a START the clause as it is in the tableau");
    c.read("p(X)|q(X,Y). ~p(a). ~q(Z,f(Z)).", 3);
    c.due("search", c.x.search(6, 2000), 1);
    c.due("show(0)", c.shown(0), "p(a)|q(a,f(a))");
    c.due("write(0)", c.clause(0), "p(X0)|q(X0,X1)");
    c.promise("Promise 13: a GOAL with ~");
    c.read("p(X). ~p(Y)|~q(Y). q(b).", 3);
    c.due("search", c.x.search(6, 2000), 1);
    c.due("show(2)", c.shown(2), "~q(b)");
  }

  private static void firstThatFits() {
    c.promise("ANSWERS below 0: the first that fits");
    c.due("clause(0, 9) without clauses", c.x.clause(0, 9), -1);
    c.due("move(0, 9) without moves", c.x.move(0, 9), -1);
    c.text(" ".repeat(1500));
    c.due("feed(0, 9) of a full text", c.x.feed(0, 9), -2);
    c.due("feed(0, -1) of a full text", c.x.feed(0, -1), -2);
    c.due("feed(0, 1) of a full text", c.x.feed(0, 1), -4);
    c.due("search(0, 0) without clauses", c.x.search(0, 0), -2);
  }

  private static void refusedChangesNothing() {
    c.promise("what is refused changes nothing");
    ready();
    String before = state();
    c.x.feed(0x702E, -1);
    c.x.feed(0x702E, 9);
    c.x.count(3);
    c.x.clause(4, 0);
    c.x.clause(0, 3);
    c.x.write(4);
    c.x.octet(4);
    c.x.search(0, 10);
    c.x.search(21, 10);
    c.x.search(10, -1);
    c.x.search(10, 20001);
    c.x.told(3);
    c.x.move(4, 0);
    c.x.move(0, 4);
    c.x.show(4);
    c.due("state", state(), before);
    c.due("place()", c.x.place(), -1);
    c.due("the text: read()", c.x.read(), 8);
    c.due("write(7)", c.clause(7), "q(s2(X0),X0)");
    c.promise("a feed without room changes nothing");
    c.text("p." + " ".repeat(1497));
    c.due("feed(2)", c.x.feed(0x712E, 2), -4);
    c.due("read()", c.x.read(), 1);
    c.due("feed(1)", c.x.feed('$', 1), 1500);
    c.due("read()", c.x.read(), -11);
    c.due("place()", c.x.place(), 1499);
  }

  private static void manyCalls() {
    c.promise("an object is used for at most 512 calls");
    for (int i = 1; i <= 509; i++) {
      c.due("feed", c.x.feed(' ', 1), i);
    }
    c.due("call 510", c.x.feed(0x702E, 2), 511);
    c.due("call 511", c.x.read(), 1);
    c.due("call 512", c.x.search(20, 20000), 0);
  }
}
