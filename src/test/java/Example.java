/** How the class is used, from the text to the proof: README.md shows this program and what it prints. */
public final class Example {
  public static void main(String[] args) {
    PathProver x = new PathProver();
    feed(x, "?X: (p(X) | q(f(X))). p(X) <=> q(f(X)). ~(p(Y) & q(f(Y))).");
    int clauses = x.read();
    if (clauses < 0) {
      System.out.println("fault " + (-10 - clauses) + " at " + x.place());
      return;
    }
    for (int c = 0; c < clauses; c++) {
      System.out.println("clause " + c + ": " + octets(x, x.write(c)));
    }
    System.out.println("search: " + x.search(6, 2000) + ", steps " + x.told(0) + ", limit " + x.told(1));
    for (int k = 0; k < x.told(2); k++) {
      System.out.println("move " + k + ": " + x.move(k, 0) + " " + x.move(k, 1) + " " + x.move(k, 2)
          + " " + x.move(k, 3) + " " + octets(x, x.show(k)));
    }
  }

  /** The text is emptied, then fed with up to 8 bytes a call, the highest byte first. */
  static void feed(PathProver x, String text) {
    x.feed(0, 0);
    for (int i = 0; i < text.length(); i += 8) {
      int n = Math.min(8, text.length() - i);
      long v = 0;
      for (int j = 0; j < n; j++) {
        v = v << 8 | text.charAt(i + j);
      }
      x.feed(v, n);
    }
  }

  static String octets(PathProver x, int size) {
    StringBuilder out = new StringBuilder();
    for (int i = 0; i < size; i++) {
      out.append((char) x.octet(i));
    }
    return out.toString();
  }
}
