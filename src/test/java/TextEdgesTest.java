/** Part 1 of the document at its edges: bytes, signs, the grammar, the faults, the symbols. */
public final class TextEdgesTest {
  private static final int ROOM = 1500;
  private static final Check c = new Check();

  public static void main(String[] args) {
    fullText();
    endOfFullText();
    formerText();
    everyByteBehindName();
    everyByteFirst();
    longestWords();
    signsOfMoreBytes();
    anyNumberOfFormulas();
    fromTheLeft();
    everyBeginning();
    behindTheText();
    lookedAtWhenWanted();
    lastOpenAndOneMore();
    endedIsNotOpen();
    openBegins();
    sixthArgument();
    otherNumber();
    functionOrPredicate();
    whenArgumentsHaveBeenRead();
    firstToken();
    sixtySymbols();
    symbolsOfOneFormula();
    manyNewNames();
    functionsAreNoSymbols();
    c.end();
  }

  private static String blanks(int n) {
    return " ".repeat(n);
  }

  private static void fullText() {
    for (int n = 1; n <= 8; n++) {
      c.promise("THE TEXT has at most 1500 bytes, the last " + n + " by one feed");
      c.text(blanks(ROOM - n));
      c.due("feed of " + n, c.x.feed(0x2020202020202020L, n), ROOM);
      for (int more = 1; more <= 8; more++) {
        c.due("feed behind 1500", c.x.feed(0x2E, more), -4);
      }
      c.due("read() of blanks", c.x.read(), 0);
      c.due("feed(0, 0)", c.x.feed(0, 0), 0);
      c.due("feed of 8", c.x.feed(0, 8), 8);

      c.promise("THE TEXT has at most 1500 bytes, one more by a feed of " + n);
      c.text(blanks(ROOM - n + 1));
      c.due("feed of " + n, c.x.feed(0x2E2E2E2E2E2E2E2EL, n), -4);
      c.due("nothing of it came: read()", c.x.read(), 0);
      if (n > 1) {
        c.due("feed of " + (n - 1), c.x.feed(0x2020202020202020L, n - 1), ROOM);
      }
      c.due("read() of blanks", c.x.read(), 0);
    }
  }

  /** Reads a text that has this at its end and 1500 bytes; the place is counted from where it begins. */
  private static void atTheEnd(String end, int code, int place) {
    c.fault(blanks(ROOM - end.length()) + end, code, ROOM - end.length() + place);
  }

  private static void endOfFullText() {
    c.promise("a token that ends with byte 1500");
    c.read(blanks(ROOM - 2) + "p.", 1);
    c.read("p." + blanks(ROOM - 2), 2);
    c.read(blanks(ROOM - 9) + "abcdefgh.", 3);
    c.promise("the text's length behind it, at 1500");
    atTheEnd("p", 2, 1);
    atTheEnd("p ", 2, 2);
    atTheEnd("abcdefgh", 2, 8);
    atTheEnd("abcdefghi", 1, 0);
    atTheEnd("p(Abcdefgh", 2, 10);
    atTheEnd("p(Abcdefghi", 1, 2);
    atTheEnd("p(", 2, 2);
    atTheEnd("p=>", 2, 3);
    atTheEnd("p=", 1, 1);
    atTheEnd("p<=>", 2, 4);
    atTheEnd("p<=", 1, 1);
    atTheEnd("p<", 1, 1);
    atTheEnd("~", 2, 1);
    atTheEnd("!", 2, 1);
    atTheEnd("!X", 2, 2);
    atTheEnd("!X:", 2, 3);
    atTheEnd("$", 1, 0);
    c.promise("1500 bytes of one token");
    c.fault("a".repeat(ROOM), 1, 0);
    c.fault("A".repeat(ROOM), 1, 0);
    c.fault(".".repeat(ROOM), 2, 0);
    c.fault("(".repeat(ROOM), 6, 30);
    c.fault("~".repeat(ROOM), 6, 30);
    c.fault("$".repeat(ROOM), 1, 0);
    c.clauses("\t".repeat(ROOM), "");
  }

  private static void formerText() {
    c.promise("with n = 0 it is empty: bytes of the former text do not come again");
    c.read("pq=>qq. <=>", -12);
    c.read("p", -12);
    c.due("place()", c.x.place(), 1);
    c.read("pq=", -11);
    c.due("place()", c.x.place(), 2);
    c.read("pq. <=>", -12);
    c.read("pq. <=", -11);
    c.due("place()", c.x.place(), 4);
    c.read("p<=>q.", 2);
    c.read("p<=", -11);
    c.due("place()", c.x.place(), 1);
    c.read("p<", -11);
    c.due("place()", c.x.place(), 1);
    c.read("", 2);
  }

  private static boolean isBlank(int b) {
    return b == 9 || b == 10 || b == 13 || b == 32;
  }

  private static boolean isBetween(int b, char low, char high) {
    return b >= low && b <= high;
  }

  private static boolean goesOn(int b) {
    return isBetween(b, 'a', 'z') || isBetween(b, 'A', 'Z') || isBetween(b, '0', '9') || b == '_';
  }

  private static void everyByteBehindName() {
    c.promise("BLANKS (9, 10, 13, 32); then a .. z, A .. Z, 0 .. 9, _");
    for (int b = 0; b < 256; b++) {
      String text = "p" + (char) b + ".";
      if (isBlank(b)) {
        c.clauses(text, "p");
      } else if (goesOn(b)) {
        c.clauses(text, "p" + (char) b);
        c.clauses("p(X" + (char) b + ").", "p(X0)");
      } else if ("(.&|".indexOf(b) >= 0) {
        c.fault(text, 2, 2);
      } else if ("),:~!?".indexOf(b) >= 0) {
        c.fault(text, 2, 1);
      } else {
        c.fault(text, 1, 1);
      }
    }
  }

  private static void everyByteFirst() {
    c.promise("NAMES begin with a .. z, VARIABLES with A .. Z");
    for (int b = 0; b < 256; b++) {
      String text = (char) b + "p.";
      if (isBlank(b)) {
        c.clauses(text, "p");
      } else if (isBetween(b, 'a', 'z')) {
        c.clauses(text, (char) b + "p");
      } else if (b == '~') {
        c.clauses(text, "~p");
      } else if (b == '(') {
        c.fault(text, 2, 2);
      } else if (b == '!' || b == '?') {
        c.fault(text, 2, 1);
      } else if (isBetween(b, 'A', 'Z') || "),.:&|".indexOf(b) >= 0) {
        c.fault(text, 2, 0);
      } else {
        c.fault(text, 1, 0);
      }
    }
  }

  private static void longestWords() {
    c.promise("at most 8 signs each");
    for (int n = 1; n <= 8; n++) {
      String name = "nameABCD".substring(0, n);
      String variable = "Varb_123".substring(0, n);
      c.clauses(name + "(" + variable + ").", name + "(X0)");
      c.clauses("p(" + name + ").", "p(" + name + ")");
      c.clauses("!" + variable + ":p(" + variable + ",Q).", "p(X0,X1)");
    }
    for (int n = 9; n <= 18; n++) {
      String word = "ameABCD_0123456789".substring(0, n - 1);
      c.fault("n" + word + ".", 1, 0);
      c.fault("p(n" + word + ").", 1, 2);
      c.fault("p(V" + word + ").", 1, 2);
      c.fault("!V" + word + ":p.", 1, 1);
      c.fault("p&?V" + word + ":p.", 1, 3);
    }
    c.promise("names are other ones by their last sign, or by their length");
    c.read("abcdefgh. abcdefgi. abcdefg. bcdefgh. a. aa.", 6);
    c.due("count(1)", c.x.count(1), 6);
    c.clauses("p(Abcdefgh,Abcdefgi,Abcdefg,Abcdefgh).", "p(X0,X1,X2,X0)");
  }

  private static void signsOfMoreBytes() {
    c.promise("SIGNS: => and <=> are whole");
    c.clauses("p=>q.", "~p|q");
    c.clauses("p<=>q.", "~p|q ~q|p");
    c.fault("p= >q.", 1, 1);
    c.fault("p< =>q.", 1, 1);
    c.fault("p<= >q.", 1, 1);
    c.fault("p=<q.", 1, 1);
    c.fault("p==>q.", 1, 1);
    c.fault("p>q.", 1, 1);
    c.fault("p>>q.", 1, 1);
    c.fault("p~>q.", 2, 1);
    c.fault("p&>q.", 1, 2);
    c.fault("p<~>q.", 1, 1);
    c.fault("p<>q.", 1, 1);
    c.fault("p<==q.", 1, 1);
    c.fault("p=>>q.", 1, 3);
    c.fault("p=>=>q.", 2, 3);
    c.fault("p=><=>q.", 2, 3);
    c.fault("p<=>=>q.", 2, 4);
    c.fault("p<<=>q.", 1, 1);
  }

  private static void anyNumberOfFormulas() {
    c.promise("text: any number of: formula .");
    c.clauses("", "");
    c.read("p.", 1);
    c.read("p.q.r.", 4);
    c.promise("250 formulas in 1500 bytes");
    c.read("p|~p.\n".repeat(250), 0);
    c.due("count(1)", c.x.count(1), 1);
    c.read("r(Y,f(X),X)|~r(Y,f(X),X).".repeat(60), 0);
    c.promise("100 formulas, and the one that is too much");
    c.read("p.".repeat(100), 100);
    c.due("place()", c.x.place(), -1);
    c.promise("101 formulas");
    c.read("p.".repeat(101), -15);
    c.due("place()", c.x.place(), 200);
    c.due("count(0)", c.x.count(0), 0);
  }

  private static void fromTheLeft() {
    c.promise("formula: imp, or formula <=> imp (from the left, as & and | are)");
    c.clauses("p<=>q<=>r.", "p|q|r ~q|~p|r ~r|~p|q ~r|~q|p");
    c.clauses("p<=>(q<=>r).", "~p|~q|r ~p|~r|q q|r|p ~r|~q|p");
    c.promise("imp: or, or: or => imp");
    c.clauses("p=>q=>r.", "~p|~q|r");
    c.clauses("p=>(q=>r).", "~p|~q|r");
    c.clauses("(p=>q)=>r.", "p|r ~q|r");
    c.clauses("p=>q<=>r.", "p|r ~q|r ~r|~p|q");
    c.clauses("p<=>q=>r.", "~p|~q|r q|p ~r|p");
    c.promise("& before |, | before =>, ~ ! ? before &");
    c.clauses("p|q&r=>s.", "~p|s ~q|~r|s");
    c.clauses("~p&q.", "~p q");
    c.clauses("!X:p(X)&q(X).", "p(X0) q(X0)");
    c.clauses("?X:p(X)|q(X).", "p(s1(X0))|q(X0)");
  }

  private static void everyBeginning() {
    c.promise("each beginning of a formula: 2 behind it, 1 at half a sign, 0 faults at all of it");
    String text = "!X1:(p(f(X1),a)=>~q<=>?Y:r(Y)&s|t).";
    for (int n = 0; n <= text.length(); n++) {
      String part = text.substring(0, n);
      int half = part.endsWith("<=") ? 2 : part.endsWith("<") || part.endsWith("=") ? 1 : 0;
      if (n == 0) {
        c.clauses(part, "");
      } else if (n == text.length()) {
        c.x = new PathProver();
        c.text(part);
        c.due("read() of all is no fault", c.x.read() > 0 ? 1 : 0, 1);
        c.due("place()", c.x.place(), -1);
      } else if (half > 0) {
        c.fault(part, 1, n - half);
      } else {
        c.fault(part, 2, n);
      }
    }
  }

  private static void behindTheText() {
    c.promise("the place is where a token begins, the text's length behind it");
    c.fault("p", 2, 1);
    c.fault("p\n\t ", 2, 4);
    c.fault("\n(p \r", 2, 5);
    c.fault("  p  q", 2, 5);
    c.fault("  p  $", 1, 5);
    c.fault("p. q. r ", 2, 8);
  }

  private static void lookedAtWhenWanted() {
    c.promise("the first that is met: a token that is not wanted is not looked at");
    c.fault(".$", 2, 0);
    c.fault("p q$", 2, 2);
    c.fault("!p$", 2, 1);
    c.fault("!X p$", 2, 3);
    c.fault("p(X)q$", 2, 4);
    c.fault("~".repeat(31) + "$", 6, 30);
    c.fault("p(a,b,c,d,e,$", 4, 0);
    c.fault("p(a). p(a,a)$", 3, 6);
    c.fault("p|p|p|p|p|p|p|p|p|p|p|p|p.$", 5, 0);
    c.fault("p.$", 1, 2);
    c.promise("the first that is met: what is looked at is read");
    c.fault("p$", 1, 1);
    c.fault("p(a). p$", 1, 7);
    c.fault("~".repeat(30) + "p$", 1, 31);
    c.fault("p|p|p|p|p|p|p|p|p|p|p|p|p$", 1, 25);
    c.fault("p(X$", 1, 3);
  }

  /** A sign is the last of 30 that are open, and then the 31st; it stands so far behind the brackets. */
  private static void lastOpen(String part, int sign, String clauses) {
    c.clauses("(".repeat(29) + part + ")".repeat(29) + ".", clauses);
    c.fault("(".repeat(30) + part + ")".repeat(30) + ".", 6, 30 + sign);
  }

  private static void lastOpenAndOneMore() {
    c.promise("6 at a ( (of terms, too) ~ ! ? => or <=> : the 31st that is open");
    lastOpen("(p)", 0, "p");
    lastOpen("p(a)", 1, "p(a)");
    lastOpen("~p", 0, "~p");
    lastOpen("!X:p", 0, "p");
    lastOpen("?X:p", 0, "p");
    lastOpen("p=>q", 1, "~p|q");
    lastOpen("p<=>q", 1, "~p|q ~q|p");
    c.clauses("(".repeat(29) + "q|p&~q" + ")".repeat(29) + ".", "q|p");
    c.fault("(".repeat(30) + "q|p&~q" + ")".repeat(30) + ".", 6, 34);
    c.promise("6 with signs of all kinds before");
    // Of each part five stay open: its second ~ has ended at the =>.
    String part = "!X:?Y:~(~p=>";
    String open = part.repeat(6);
    c.accepted(part.repeat(5) + "!X:?Y:~(~p" + ")".repeat(6) + ".");
    c.accepted(open + "p" + ")".repeat(6) + ".");
    for (String sign : new String[] {"~p", "!X:p", "?X:p", "(p)"}) {
      c.fault(open + sign + ")".repeat(6) + ".", 6, open.length());
    }
    for (String sign : new String[] {"p=>p", "p(a)"}) {
      c.fault(open + sign + ")".repeat(6) + ".", 6, open.length() + 1);
    }
    // The last => has ended here, so that this is the 30th again.
    c.accepted(open + "p<=>p" + ")".repeat(6) + ".");
    c.promise("6 in terms");
    String deep = "p" + "(f".repeat(29);
    c.clauses(deep + "(X" + ")".repeat(30) + ".", deep + "(X0" + ")".repeat(30));
    c.fault(deep + "(f(X" + ")".repeat(31) + ".", 6, deep.length() + 2);
  }

  private static void endedIsNotOpen() {
    c.promise("6: a ( till its ), the others till what stands right behind them has ended");
    lastOpen("~p&~q|~r", 0, "~p|~r ~q|~r");
    lastOpen("(p)&(q)", 0, "p q");
    lastOpen("p(a)&p(b)|p(c)", 1, "p(a)|p(c) p(b)|p(c)");
    lastOpen("!X:p&?Y:q|r(a)", 0, "p|r(a) q|r(a)");
    c.clauses("(".repeat(28) + "p(f(a),f(b))" + ")".repeat(28) + ".", "p(f(a),f(b))");
    c.fault("(".repeat(29) + "p(f(a),f(b))" + ")".repeat(29) + ".", 6, 29 + 3);
    c.clauses("(".repeat(28) + "p=>q=>r" + ")".repeat(28) + ".", "~p|~q|r");
    c.fault("(".repeat(29) + "p=>q=>r" + ")".repeat(29) + ".", 6, 29 + 4);
    c.clauses("(".repeat(29) + "p<=>q<=>r" + ")".repeat(29) + ".", "p|q|r ~q|~p|r ~r|~p|q ~r|~q|p");
    c.clauses("(".repeat(28) + "p=>q<=>p=>q" + ")".repeat(28) + ".", "");
    c.fault("(".repeat(29) + "p=>q<=>p=>q" + ")".repeat(29) + ".", 6, 29 + 8);
    c.fault("(".repeat(29) + "~p(a)" + ")".repeat(29) + ".", 6, 29 + 2);
    c.fault("(".repeat(29) + "!X:p(a)" + ")".repeat(29) + ".", 6, 29 + 4);
    c.fault("(".repeat(29) + "?X:~p" + ")".repeat(29) + ".", 6, 29 + 3);
    c.fault("(".repeat(28) + "p=>~p(a)" + ")".repeat(28) + ".", 6, 28 + 5);
    c.promise("6: & and | are never open, and close nothing");
    c.fault("p&q&r&" + "(".repeat(31), 6, 36);
    c.fault("p|q|r|" + "(".repeat(31), 6, 36);
    c.accepted("p&q|r&" + "(".repeat(30) + "p&q|r&p" + ")".repeat(30) + ".");
    c.promise("6: more than 30 of a sign, one behind the other");
    for (String one : new String[] {"~p", "(p)", "p(a)", "!X:p(X)", "?X:p(X)"}) {
      c.x = new PathProver();
      c.read((one + "&").repeat(31) + one + ".", 32);
    }
    c.x = new PathProver();
    c.read("(p=>p)&".repeat(30) + "(p=>p).", 0);
    c.fault("p<=>".repeat(40) + "p.", 5, 0);
  }

  private static void openBegins() {
    c.promise("6: nothing stays open behind a fault");
    c.read("(".repeat(29) + "p(", -12);
    c.read("(".repeat(30) + "p" + ")".repeat(30) + ".", 1);
    c.read("~".repeat(31), -16);
    c.read("~".repeat(30) + "p.", 2);
    c.read("p=>(p<=>!X:~(p&q(", -12);
    c.read("(".repeat(31), -16);
    c.due("place()", c.x.place(), 30);
    c.read("p." + "(".repeat(30) + "p" + ")".repeat(30) + "." + "~".repeat(30) + "p.", 5);
  }

  private static void sixthArgument() {
    c.promise("4 when its sixth argument would begin (behind the , )");
    String five = "a,X,a,f(X),a";
    c.clauses("p(" + five + ").", "p(a,X0,a,f(X0),a)");
    c.clauses("p(g(" + five + ")).", "p(g(a,X0,a,f(X0),a))");
    c.fault("p(" + five, 2, 14);
    c.fault("p(" + five + ",", 4, 0);
    c.fault("p(" + five + ",)", 4, 0);
    c.fault("p(" + five + ",.", 4, 0);
    c.fault("p(" + five + " ,toolong_9", 4, 0);
    c.fault("p(" + five + "toolong_9", 1, 13);
    c.fault("r & ~p(" + five + ",a).", 4, 5);
    c.fault("p(X,g(" + five + ",a)).", 4, 4);
    c.fault("p(a,a,a,a,g(" + five + ",", 4, 10);
    c.fault("p(" + five + ",g(" + five + ",", 4, 0);
    c.promise("4 is met before 3");
    c.fault("p. p(" + five + ",a).", 4, 3);
    c.fault("p. q(p(" + five + ",a)).", 4, 5);
  }

  private static void otherNumber() {
    c.promise("3: it had another number of them before");
    String[] uses = {"", "(a)", "(a,a)", "(a,a,a)", "(a,a,a,a)", "(a,a,a,a,a)"};
    for (int i = 0; i <= 5; i++) {
      for (int j = 0; j <= 5; j++) {
        String first = "p" + uses[i] + "|~p" + uses[i] + ".";
        String inside = "q(f" + uses[i] + ").";
        if (i == j) {
          c.clauses(first + "p" + uses[j] + ".", "p" + uses[j]);
          c.clauses(inside + "q(f" + uses[j] + ").", "q(f" + uses[j] + ") q(f" + uses[j] + ")");
        } else {
          c.fault(first + "p" + uses[j] + ".", 3, first.length());
          c.fault(inside + "q(f" + uses[j] + ").", 3, inside.length() + 2);
        }
      }
    }
  }

  private static void functionOrPredicate() {
    c.promise("3: was a function and is a predicate now, or the other way");
    String[] uses = {"", "(b)", "(b,b)", "(b,b,b)", "(b,b,b,b)", "(b,b,b,b,b)"};
    for (String use : uses) {
      c.fault("q(f" + use + ")&f" + use + ".", 3, 5 + use.length());
      c.fault("f" + use + "&q(f" + use + ").", 3, 4 + use.length());
      c.fault("q(f" + use + ").f" + use + ".", 3, 5 + use.length());
    }
    c.fault("p(p).", 3, 0);
    c.fault("p(f(p)).", 3, 0);
    c.fault("a(a(X)).", 3, 0);
    c.promise("3 between texts, and not behind clear()");
    c.read("p(f(a)).", 1);
    c.read("f(p).", -13);
    c.due("place()", c.x.place(), 2);
    c.read("p(a)|q(p(a)).", -13);
    c.due("place()", c.x.place(), 7);
    c.read("p(f(a)).", 2);
    c.due("clear()", c.x.clear(), 2);
    c.read("f(p,p)|a(X).", 1);
    c.promise("3: what a text with a fault had does not count");
    c.read("p(a). $", -11);
    c.read("a(p,p).", 1);
  }

  private static void whenArgumentsHaveBeenRead() {
    c.promise("3 when its arguments have been read (those of names in them before)");
    c.fault("q(f,f(a)).", 3, 4);
    c.fault("q(f(f)).", 3, 2);
    c.fault("q(f(a,f(a))).", 3, 2);
    c.fault("r(g). r(h(g(a),r(a))).", 3, 10);
    c.fault("p(a). p(a,a", 2, 11);
    c.fault("p(a). p(a,$", 1, 10);
    c.fault("p(a). p(a,a)", 3, 6);
    c.fault("p. q. p(q(a)).", 3, 8);
    c.promise("3: of a NAME without ( at once");
    c.fault("p(a). p", 3, 6);
    c.fault("p(a). p&$", 3, 6);
    c.fault("p(a). p.$", 3, 6);
    c.fault("p(a). p)", 3, 6);
    c.fault("p(a). ~p|toolong_9.", 3, 7);
  }

  private static void firstToken() {
    c.promise("5 at the first token of a formula, when its . has been read");
    String thirteen = "p|p|p|p|p|p|p|p|p|p|p|p|p";
    c.fault(thirteen + ".", 5, 0);
    c.fault(" \n" + thirteen + " .", 5, 2);
    c.fault("p. (" + thirteen + ").", 5, 3);
    c.fault("p.~~!X:(" + thirteen + ").", 5, 2);
    c.fault(thirteen, 2, 25);
    c.fault(thirteen + ")", 2, 25);
    c.fault(thirteen + "|", 2, 26);
    c.fault(thirteen + "|p(a).", 3, 26);
    c.fault(thirteen + "." + thirteen + ".", 5, 0);
  }

  private static void sixtySymbols() {
    c.promise("60 at most: 5 for the formula with one more");
    String all = Texts.predicates(60);
    c.read(all, 60);
    c.due("count(1)", c.x.count(1), 60);
    c.read("n0|~n59|n30.", 61);
    c.due("count(1)", c.x.count(1), 60);
    c.read("n1. n2 | n60.", -15);
    c.due("place()", c.x.place(), 4);
    c.due("count(1)", c.x.count(1), 60);
    c.read("n1. n2 | n60", -12);
    c.read("n1. n2 | n60(n61).", -15);
    c.read("n1. n2 | n60(n1).", -13);
    c.due("place()", c.x.place(), 13);
    c.due("count(0)", c.x.count(0), 61);
    c.read("~n59.", 62);
    c.due("clear()", c.x.clear(), 62);
    c.due("count(1)", c.x.count(1), 0);
    c.read(Texts.predicates(60).replace('n', 'm'), 60);
    c.due("count(1)", c.x.count(1), 60);
    c.promise("60 at most: in one text");
    c.fault(all + "x.", 5, all.length());
    c.fault(all + " n0|x. $", 5, all.length() + 1);
    c.fault(all + "n0|x", 2, all.length() + 4);
    c.promise("60 at most: the 60th in another text");
    c.read(Texts.predicates(59), 59);
    c.read("x|y.", -15);
    c.due("count(1)", c.x.count(1), 59);
    c.read("x.", 60);
    c.due("count(1)", c.x.count(1), 60);
    c.read("y.", -15);
    c.promise("60 at most: names of clauses that go are symbols, too");
    c.read(Texts.predicates(59), 59);
    c.read("x|~x.", 59);
    c.due("count(1)", c.x.count(1), 60);
    c.read("y|~y.", -15);
  }

  private static void symbolsOfOneFormula() {
    c.promise("predicates and functions together");
    StringBuilder names = new StringBuilder("p(");
    for (int i = 0; i < 9; i++) {
      names.append(i == 0 ? "" : i == 5 ? ")&q(" : ",").append("f").append(i).append('(');
      for (int j = 0; j < 5; j++) {
        names.append(j > 0 ? "," : "").append("k").append(i).append(j);
      }
      names.append(')');
    }
    // p, q, nine f with five k each, r and three more: 60.
    names.append(")&r(");
    c.read(names + "a,b,c).", 3);
    c.due("count(1)", c.x.count(1), 60);
    c.fault(names + "a,b,c,d).", 5, 0);
    c.fault(names + "a,b,c)&t.", 5, 0);
  }

  private static void manyNewNames() {
    c.promise("as many new names as a text can have");
    StringBuilder many = new StringBuilder();
    for (char a = 'a'; a <= 'z'; a++) {
      many.append(many.length() > 0 ? "|" : "").append(a);
    }
    for (int i = 0; many.length() + 4 <= ROOM; i++) {
      many.append('|').append((char) ('a' + i / 36)).append("abcdefghijklmnopqrstuvwxyz0123456789".charAt(i % 36));
    }
    many.append('.');
    c.fault(many.toString(), 5, 0);
    c.read(Texts.predicates(60), 60);
    c.read(many.toString(), -15);
    c.due("place()", c.x.place(), 0);
    c.due("count(0)", c.x.count(0), 60);
    c.due("count(1)", c.x.count(1), 60);
    c.read("n0|n59.", 61);
    c.due("write(60)", c.clause(60), "n0|n59");
    c.promise("as many new variables as a text can have");
    StringBuilder variables = new StringBuilder();
    for (int i = 0; variables.length() + 25 <= ROOM; i++) {
      String v = "ABCDEFGHIJKLMNOPQRSTUVWXYZ".substring(i % 26, i % 26 + 1) + "wxyz".charAt(i / 26);
      variables.append(i > 0 ? "|p(" : "p(");
      for (int j = 0; j < 5; j++) {
        variables.append(j > 0 ? "," : "").append(v).append(j);
      }
      variables.append(')');
    }
    c.fault(variables + ".", 5, 0);
  }

  private static void functionsAreNoSymbols() {
    c.promise("functions of 3 are not among the SYMBOLS above");
    c.read(Texts.predicates(58) + "p(a).", 59);
    c.due("count(1)", c.x.count(1), 60);
    c.read("?X:p(X). !Y:?X:(p(X)|p(Y)).", 61);
    c.due("count(1)", c.x.count(1), 60);
    c.due("count(2)", c.x.count(2), 2);
    c.due("write(60)", c.clause(60), "p(s2(X0))|p(X0)");
    c.promise("each without regard to names in texts");
    c.read("q(s1,s2(X)). ?X:q(X,X).", 2);
    c.due("write(0)", c.clause(0), "q(s1,s2(X0))");
    c.due("write(1)", c.clause(1), "q(s1,s1)");
    c.due("count(1)", c.x.count(1), 3);
    c.due("count(2)", c.x.count(2), 1);
    c.read("~q(s1,s1).", 3);
    c.due("search: they are other ones", c.x.search(3, 100), 0);
  }
}
