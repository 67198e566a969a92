import java.util.Random;

/** Random runs of calls, the same in each session, on the class and on the oracle. */
public final class DifferentialTest {
  private static final String[] TOKENS = {
    "(", ")", ",", ".", ":", "~", "&", "|", "!", "?", "=>", "<=>", "p", "q", "f", "a", "X", "Y",
    " ", "\n", "=", "<", "<=", "name_12", "toolong_9", "Variabl8", "Variable9", "$", "p(X)", "q(a,X)",
    "!X:", "?Y:", "p(X).", "\u00e9", "\u0000", "9", "_"
  };

  private final Random random;
  private final StringBuilder calls = new StringBuilder();
  private PathProver mine;
  private Oracle due;
  private int wrong;
  private long compared;
  private final int[] answers = new int[32];

  private DifferentialTest(long seed) {
    random = new Random(seed);
  }

  public static void main(String[] args) throws InterruptedException {
    long seed = args.length > 0 ? Long.parseLong(args[0]) : 20261115L;
    int runs = args.length > 1 ? Integer.parseInt(args[1]) : 4000;
    boolean[] good = new boolean[1];
    // The oracle goes deep into terms by recursion.
    Thread thread = new Thread(null, () -> good[0] = new DifferentialTest(seed).all(runs), "runs", 1L << 29);
    thread.start();
    thread.join();
    System.exit(good[0] ? 0 : 1);
  }

  private boolean all(int runs) {
    for (int i = 0; i < runs && wrong < 5; i++) {
      calls.setLength(0);
      mine = new PathProver();
      due = new Oracle();
      run(i % 12);
    }
    System.out.println(compared + " answers compared, " + wrong + " wrong");
    System.out.print("answers of read and search:");
    for (int i = 0; i < answers.length; i++) {
      if (answers[i] > 0) {
        System.out.print(" " + (i - 20) + ":" + answers[i]);
      }
    }
    System.out.println();
    return wrong == 0;
  }

  private int same(String call, int got, int want) {
    compared++;
    calls.append(call).append(" = ").append(got).append('\n');
    if (got != want) {
      wrong++;
      System.out.println("---- due is " + want + " behind\n" + calls);
    }
    return want;
  }

  private void note(int answer) {
    answers[Math.max(0, Math.min(31, answer + 20))]++;
  }

  private void run(int kind) {
    int rounds = 1 + random.nextInt(3);
    for (int i = 0; i < rounds && wrong == 0; i++) {
      feed(text(kind));
      note(same("read()", mine.read(), due.read()));
      same("place()", mine.place(), due.place());
      clauses();
      moves();
      if (random.nextInt(4) > 0) {
        search(kind == 6 || kind == 7);
      }
      if (random.nextInt(5) == 0) {
        same("clear()", mine.clear(), due.clear());
        sizes();
        moves();
      }
    }
  }

  private String text(int kind) {
    switch (kind) {
      case 0:
        return soup();
      case 1:
        return spoilt(formulas(3));
      case 2:
        return formulas(6);
      case 3:
        return spoilt(rows(6));
      case 4:
        return deep();
      case 5:
        return wide();
      case 6:
      case 7:
        return doubling();
      default:
        return rows(3 + random.nextInt(8));
    }
  }

  private void feed(String text) {
    if (random.nextInt(6) > 0) {
      same("feed(0, 0)", mine.feed(0, 0), due.feed(0, 0));
    }
    int at = 0;
    while (at < text.length()) {
      int n = Math.min(text.length() - at, 1 + random.nextInt(8));
      long v = random.nextLong();
      for (int i = 0; i < n; i++) {
        v = v << 8 | text.charAt(at + i) & 255;
      }
      same("feed(" + v + "L, " + n + ")", mine.feed(v, n), due.feed(v, n));
      at += n;
    }
    calls.append("-- ").append(text).append('\n');
  }

  private void sizes() {
    for (int what = -1; what <= 3; what++) {
      same("count(" + what + ")", mine.count(what), due.count(what));
      same("told(" + what + ")", mine.told(what), due.told(what));
    }
  }

  private void clauses() {
    sizes();
    int n = due.count(0);
    for (int c = -1; c <= n; c++) {
      for (int what = -1; what <= 3; what++) {
        same("clause(" + c + ", " + what + ")", mine.clause(c, what), due.clause(c, what));
      }
      octets(same("write(" + c + ")", mine.write(c), due.write(c)));
    }
  }

  private void octets(int size) {
    for (int i = -1; i <= Math.max(size, 3); i++) {
      same("octet(" + i + ")", mine.octet(i), due.octet(i));
    }
  }

  private void search(boolean far) {
    int limit = far ? 12 + random.nextInt(9) : random.nextInt(8) == 0 ? random.nextInt(24) - 1 : 1 + random.nextInt(7);
    int steps = far ? 6000 : random.nextInt(10) == 0 ? random.nextInt(20003) - 1 : random.nextInt(800);
    String call = "search(" + limit + ", " + steps + ")";
    note(same(call, mine.search(limit, steps), due.search(limit, steps)));
    sizes();
    moves();
  }

  private void moves() {
    int n = due.told(2);
    for (int k = -1; k <= n; k++) {
      for (int what = -1; what <= 4; what++) {
        same("move(" + k + ", " + what + ")", mine.move(k, what), due.move(k, what));
      }
      octets(same("show(" + k + ")", mine.show(k), due.show(k)));
    }
    if (random.nextInt(3) == 0 && due.count(0) > 0) {
      octets(same("write(0)", mine.write(0), due.write(0)));
      same("show(0)", mine.show(0), due.show(0));
    }
  }

  private String soup() {
    StringBuilder out = new StringBuilder();
    int n = random.nextInt(30);
    for (int i = 0; i < n; i++) {
      out.append(TOKENS[random.nextInt(TOKENS.length)]);
    }
    return out.toString();
  }

  private String spoilt(String text) {
    StringBuilder out = new StringBuilder(text);
    if (out.length() > 0 && random.nextInt(3) > 0) {
      int at = random.nextInt(out.length());
      String token = TOKENS[random.nextInt(TOKENS.length)];
      if (random.nextBoolean()) {
        out.insert(at, token);
      } else {
        out.replace(at, at + 1, random.nextBoolean() ? token : "");
      }
    }
    return out.toString();
  }

  private String formulas(int most) {
    StringBuilder out = new StringBuilder();
    int n = 1 + random.nextInt(most);
    for (int i = 0; i < n; i++) {
      formula(out, 1 + random.nextInt(6));
      out.append(random.nextBoolean() ? ". " : ".");
    }
    return out.toString();
  }

  private void formula(StringBuilder out, int depth) {
    int kind = depth <= 0 ? 0 : random.nextInt(10);
    switch (kind) {
      case 0:
        atom(out);
        break;
      case 1:
        out.append('~');
        closed(out, depth - 1);
        break;
      case 2:
      case 3:
      case 4:
        out.append(random.nextBoolean() ? '!' : '?').append("XYZ".charAt(random.nextInt(3))).append(':');
        closed(out, depth - 1);
        break;
      default:
        String[] signs = {" & ", "|", "=>", "<=>", "&", " | "};
        String sign = signs[random.nextInt(signs.length)];
        closed(out, depth - 1);
        out.append(sign);
        closed(out, depth - 1);
        break;
    }
  }

  private void closed(StringBuilder out, int depth) {
    boolean brackets = random.nextInt(3) > 0;
    out.append(brackets ? "(" : "");
    formula(out, depth);
    out.append(brackets ? ")" : "");
  }

  private void atom(StringBuilder out) {
    switch (random.nextInt(4)) {
      case 0:
        out.append("r");
        break;
      case 1:
        out.append("p(");
        term(out, 2);
        out.append(")");
        break;
      case 2:
        out.append("q(");
        term(out, 2);
        out.append(", ");
        term(out, 2);
        out.append(")");
        break;
      default:
        out.append("t(");
        term(out, 1);
        out.append(",");
        term(out, 1);
        out.append(",");
        term(out, 1);
        out.append(")");
        break;
    }
  }

  private void term(StringBuilder out, int depth) {
    switch (depth <= 0 ? random.nextInt(4) : random.nextInt(8)) {
      case 0:
        out.append("a");
        break;
      case 1:
      case 2:
      case 3:
        out.append("XYZVW".charAt(random.nextInt(5)));
        break;
      case 4:
        out.append("b");
        break;
      case 5:
      case 6:
        out.append("f(");
        term(out, depth - 1);
        out.append(")");
        break;
      default:
        out.append("g(");
        term(out, depth - 1);
        out.append(",");
        term(out, depth - 1);
        out.append(")");
        break;
    }
  }

  /** Some thirty signs that are open at once, more or less. */
  private String deep() {
    StringBuilder out = new StringBuilder();
    StringBuilder ends = new StringBuilder();
    String[] begins = {"~", "!X:", "?Y:", "(", "(r=>", "(r<=>", "r=>", "r<=>", "p(f(a))&", "r|"};
    int n = 20 + random.nextInt(20);
    for (int i = 0; i < n; i++) {
      String begin = begins[random.nextInt(random.nextInt(3) == 0 ? begins.length : 4)];
      out.append(begin);
      ends.append(begin.startsWith("(") ? ")" : "");
    }
    int terms = random.nextInt(12);
    out.append("p(").append("f(".repeat(terms)).append("X").append(")".repeat(terms + 1)).append(ends);
    return out.append(".").toString();
  }

  /** Many arguments, literals, clauses, symbols or variables. */
  private String wide() {
    StringBuilder out = new StringBuilder();
    int kind = random.nextInt(5);
    int n = kind == 0 ? 3 + random.nextInt(4) : kind == 4 ? 40 + random.nextInt(40) : 2 + random.nextInt(30);
    String sign = random.nextInt(4) == 0 ? "<=>" : random.nextBoolean() ? "|" : "&";
    for (int i = 0; i < n; i++) {
      switch (kind) {
        case 0:
          out.append(i > 0 ? "," : "h(").append(random.nextInt(9) == 0 ? "h" : "X").append(i == n - 1 ? ")." : "");
          break;
        case 1:
          out.append(i > 0 ? sign : "").append("(u").append(i).append("&v)").append(i == n - 1 ? "." : "");
          break;
        case 2:
          out.append(i > 0 ? sign : "").append("u(X").append(i % 11).append(")").append(i == n - 1 ? "." : "");
          break;
        case 3:
          out.append("!V").append(i).append(":?W:");
          if (i >= 3 + random.nextInt(4)) {
            return out.append("u(V0,W,V").append(i).append(").").toString();
          }
          break;
        default:
          out.append("n").append(i).append(random.nextInt(30) == 0 ? "|" : ".");
          break;
      }
    }
    return out.toString();
  }

  /** Terms that grow fast, and clauses with many literals and variables. */
  private String doubling() {
    StringBuilder out = new StringBuilder();
    String[] heads = {"p(X)", "q(X,Y)", "q(X,X)", "t(X,Y,Z)", "p(X)"};
    String[] tails = {
      "p(g(X,X))", "p(g(X,Y))", "q(g(X,X),g(Y,Y))", "q(X,g(X,X))", "t(X,g(X,Z),Y)", "p(f(X))",
      "q(Y,X)", "p(V)|p(W)", "t(V,W,g(V,W))|q(Z,Z)"
    };
    out.append(random.nextBoolean() ? "p(a)." : "p(X).").append(random.nextBoolean() ? "q(a,X)." : "");
    int n = 1 + random.nextInt(4);
    for (int i = 0; i < n; i++) {
      out.append("~").append(heads[random.nextInt(heads.length)]).append("|");
      out.append(tails[random.nextInt(tails.length)]);
      out.append(random.nextInt(3) == 0 ? "|" + tails[random.nextInt(tails.length)] : "").append(".");
    }
    out.append(random.nextBoolean() ? "~p(b)." : "~q(f(X),g(X,Y)).");
    return out.append(random.nextBoolean() ? "~p(X)|~q(X,Y)|~t(Y,X,Z)." : "").toString();
  }

  /** Formulas that are clauses already, so that searches have something to do. */
  private String rows(int n) {
    StringBuilder out = new StringBuilder();
    for (int i = 0; i < n; i++) {
      int size = 1 + random.nextInt(random.nextInt(4) == 0 ? 5 : 2);
      for (int j = 0; j < size; j++) {
        out.append(j > 0 ? "|" : "").append(random.nextInt(5) < 2 ? "" : "~");
        atom(out);
      }
      out.append(".");
      if (random.nextInt(3) == 0) {
        atom(out);
        out.append(".");
      }
    }
    return out.toString();
  }
}
