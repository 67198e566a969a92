/** What the tests share: a prover that is fed with strings, and answers that are due. */
final class Check {
  private int wrong;
  private int checked;
  private String promise = "";
  PathProver x = new PathProver();

  void promise(String name) {
    promise = name;
    x = new PathProver();
  }

  void due(String call, int got, int want) {
    checked++;
    if (got != want) {
      wrong++;
      System.out.println(promise + ": " + call + " answered " + got + ", due is " + want);
    }
  }

  void due(String call, String got, String want) {
    checked++;
    if (!got.equals(want)) {
      wrong++;
      System.out.println(promise + ": " + call + " answered " + got + ", due is " + want);
    }
  }

  /** THE TEXT is this one then. */
  void text(String text) {
    x.feed(0, 0);
    for (int at = 0; at < text.length(); at += 8) {
      int n = Math.min(8, text.length() - at);
      long v = 0;
      for (int i = at; i < at + n; i++) {
        v = v << 8 | text.charAt(i) & 255;
      }
      due("feed of " + n, x.feed(v, n), at + n);
    }
  }

  void read(String text, int want) {
    text(text);
    due("read() of " + text, x.read(), want);
  }

  /** On a new object. */
  void fault(String text, int code, int place) {
    x = new PathProver();
    read(text, -10 - code);
    due("place() of " + text, x.place(), place);
    due("count(0) of " + text, x.count(0), 0);
    due("count(1) of " + text, x.count(1), 0);
    due("count(2) of " + text, x.count(2), 0);
  }

  /** On a new object: no fault, whatever the clauses are. */
  void accepted(String text) {
    x = new PathProver();
    text(text);
    int made = x.read();
    due("read() of " + text + " (how many are left open)", made < 0 ? made : 0, 0);
    due("place() of " + text, x.place(), -1);
  }

  /** On a new object: all its clauses, with a blank between them. */
  void clauses(String text, String want) {
    x = new PathProver();
    text(text);
    int n = x.read();
    due("place() of " + text, x.place(), -1);
    StringBuilder all = new StringBuilder();
    for (int c = 0; c < n; c++) {
      all.append(c > 0 ? " " : "").append(clause(c));
    }
    due("clauses of " + text, all.toString(), want);
  }

  String clause(int c) {
    return octets(x.write(c));
  }

  String shown(int k) {
    return octets(x.show(k));
  }

  String octets(int size) {
    StringBuilder out = new StringBuilder();
    for (int i = 0; i < size; i++) {
      out.append((char) x.octet(i));
    }
    if (x.octet(Math.max(size, 0)) != -1 && size >= 0) {
      out.append(" and more");
    }
    return out.toString();
  }

  /** The moves of a proof, each as its four answers and what it shows. */
  String proof() {
    StringBuilder out = new StringBuilder();
    for (int k = 0; k < x.told(2); k++) {
      out.append(k > 0 ? "; " : "");
      for (int what = 0; what < 4; what++) {
        out.append(x.move(k, what)).append(' ');
      }
      out.append(shown(k));
    }
    return out.toString();
  }

  void search(int limit, int steps, int want, int wantSteps, int wantLimit) {
    String call = "search(" + limit + ", " + steps + ")";
    due(call, x.search(limit, steps), want);
    due("told(0) behind " + call, x.told(0), wantSteps);
    due("told(1) behind " + call, x.told(1), wantLimit);
    if (want != 1) {
      due("told(2) behind " + call, x.told(2), 0);
      due("move(0, 0) behind " + call, x.move(0, 0), -1);
    }
  }

  void end() {
    System.out.println(checked + " answers checked, " + wrong + " wrong");
    System.exit(wrong == 0 ? 0 : 1);
  }
}
