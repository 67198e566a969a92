/** Texts that more than one test is made of. */
final class Texts {
  private static final String FIVE = "f(a,a,a,a,a)";

  private Texts() {
  }

  static String joined(String part, String sign, int n) {
    return (part + sign).repeat(n - 1) + part;
  }

  static String tower(String name, int n, String last) {
    return (name + "(").repeat(n) + last + ")".repeat(n);
  }

  /** A tree of g with 2 ^ (depth + 1) - 1 symbols. */
  static String tree(int depth) {
    return depth == 0 ? "a" : "g(" + tree(depth - 1) + "," + tree(depth - 1) + ")";
  }

  /** A term without variables, of so many symbols. */
  static String ground(int size) {
    if (size <= 6) {
      return tower("f", size - 1, "a");
    }
    int first = (size - 1) / 2;
    return "h(" + ground(first) + "," + ground(size - 1 - first) + ")";
  }

  /** An atom of 25 symbols. */
  static String atom25(String name) {
    return name + "(" + joined(FIVE, ",", 4) + ")";
  }

  /** Eight atoms of 25 symbols each, p0 to p7. */
  static String eight(String between) {
    StringBuilder out = new StringBuilder(atom25("p0"));
    for (int i = 1; i < 8; i++) {
      out.append(between).append(atom25("p" + i));
    }
    return out.toString();
  }

  /**
   * A formula of 2998 symbols, variables and quantifiers in what part 2 makes of it: the same atom
   * of 49 everywhere, and quantifiers that bind nothing; what stands in a <=> stands twice:
   * 8 * (3 * 72 + 2 * 71) + 4 * 21 + 2 * 25.
   */
  static String heavy() {
    String atom = "p(f(" + joined(FIVE, ",", 5) + ")," + FIVE + "," + FIVE + ",k(a,a,a),a)";
    String x = "(" + joined("!X:".repeat(23) + atom, "|", 3) + ")";
    String y = "(" + joined("!X:".repeat(22) + atom, "|", 2) + ")";
    return "(((" + x + "<=>" + y + ")<=>" + "!X:".repeat(20) + "u)<=>" + "!X:".repeat(24) + "v)";
  }

  /** 64 clauses of 12 literals, and then & with an or of each of these lengths. */
  static String lengths(int... all) {
    String four = "|((p&p)&(p&p))";
    StringBuilder out = new StringBuilder("(" + joined("p", "|", 9) + four + four + four + ")");
    for (int n : all) {
      out.append("&(").append(joined("p", "|", n)).append(")");
    }
    return out.append(".").toString();
  }

  /** A left chain of & that makes 600 clauses on the way, or one more. */
  static String chain(boolean more) {
    // The parts make 43; the chain 2 + 4 + 5 + .. + 33, or 3 + 4 + 5 + .. + 33.
    String begin = more ? "p&(p&p)&p&" : "p&p&(p&p)&";
    return begin + joined("p", "&", 28) + "&(p|p|p|p|p).";
  }

  /** The formulas n0. n1. and so on. */
  static String predicates(int n) {
    StringBuilder out = new StringBuilder();
    for (int i = 0; i < n; i++) {
      out.append("n").append(i).append('.');
    }
    return out.toString();
  }
}
