import java.util.ArrayList;
import java.util.HashMap;
import java.util.LinkedHashMap;
import java.util.LinkedHashSet;
import java.util.List;
import java.util.Map;
import java.util.Set;

/**
 * The document once more, in another way: trees of objects, maps, recursion and exceptions, and
 * no care for speed. The tests hold the class against it.
 */
final class Oracle {
  static final class Fault extends RuntimeException {
    private static final long serialVersionUID = 1;
    final int code;
    final int place;

    Fault(int code, int place) {
      super(null, null, false, false);
      this.code = code;
      this.place = place;
    }
  }

  static final class Stop extends RuntimeException {
    private static final long serialVersionUID = 1;
    final int answer;

    Stop(int answer) {
      super(null, null, false, false);
      this.answer = answer;
    }
  }

  /** A variable has no name, but a number. */
  record Term(String name, int number, List<Term> arguments) {
    int size() {
      int n = 1;
      for (Term t : arguments) {
        n += t.size();
      }
      return n;
    }

    void variables(Set<Integer> into) {
      if (name == null) {
        into.add(number);
      }
      for (Term t : arguments) {
        t.variables(into);
      }
    }
  }

  /** As it is read: variables are terms whose name begins with A .. Z. */
  record Formula(String kind, Formula left, Formula right, String variable, Term atom) { }

  record Literal(boolean negative, Term atom) { }

  record Node(Literal literal, Node above, int depth) { }

  record Goals(Node first, Goals rest) { }

  record Move(int kind, int clause, int literal, int path, List<Node> goal) { }

  private String text = "";
  private int faultPlace = -1;
  private List<List<Literal>> clauses = new ArrayList<>();
  private LinkedHashMap<String, String> symbols = new LinkedHashMap<>();
  private int functions;
  private String written = "";
  private int steps;
  private int limit;
  private List<Move> moves = new ArrayList<>();
  private Map<Integer, Term> bound = new HashMap<>();

  int feed(long v, int n) {
    if (n < 0 || n > 8) {
      return -2;
    }
    if (n == 0) {
      text = "";
      return 0;
    }
    if (text.length() + n > 1500) {
      return -4;
    }
    for (int i = n - 1; i >= 0; i--) {
      text += (char) (v >>> 8 * i & 255);
    }
    return text.length();
  }

  int place() {
    return faultPlace;
  }

  int clear() {
    int n = clauses.size();
    clauses = new ArrayList<>();
    symbols = new LinkedHashMap<>();
    functions = 0;
    forget();
    return n;
  }

  private void forget() {
    steps = 0;
    limit = 0;
    moves = new ArrayList<>();
  }

  int count(int what) {
    return what == 0 ? clauses.size() : what == 1 ? symbols.size() : what == 2 ? functions : -2;
  }

  int clause(int c, int what) {
    if (c < 0 || c >= clauses.size()) {
      return -1;
    }
    List<Literal> all = clauses.get(c);
    return what == 0 ? all.size() : what == 1 ? variables(all).size() : what == 2 ? size(all) : -2;
  }

  private static Set<Integer> variables(List<Literal> all) {
    Set<Integer> set = new LinkedHashSet<>();
    for (Literal l : all) {
      l.atom.variables(set);
    }
    return set;
  }

  private static int size(List<Literal> all) {
    int n = 0;
    for (Literal l : all) {
      n += l.atom.size();
    }
    return n;
  }

  int write(int c) {
    if (c < 0 || c >= clauses.size()) {
      return -1;
    }
    Map<Integer, Term> searched = bound;
    bound = new HashMap<>();
    written = line(clauses.get(c));
    bound = searched;
    return written.length();
  }

  int octet(int i) {
    return i < 0 || i >= written.length() ? -1 : written.charAt(i);
  }

  int told(int what) {
    return what == 0 ? steps : what == 1 ? limit : what == 2 ? moves.size() : -2;
  }

  int move(int k, int what) {
    if (k < 0 || k >= moves.size()) {
      return -1;
    }
    Move m = moves.get(k);
    return what == 0 ? m.kind : what == 1 ? m.clause : what == 2 ? m.literal : what == 3 ? m.path : -2;
  }

  int show(int k) {
    if (k < 0 || k >= moves.size()) {
      return -1;
    }
    List<Literal> all = new ArrayList<>();
    for (Node node : moves.get(k).goal) {
      all.add(node.literal);
    }
    String now;
    try {
      now = line(all);
    } catch (Stop stop) {
      return -4;
    }
    written = now;
    return written.length();
  }

  private String line(List<Literal> all) {
    StringBuilder out = new StringBuilder();
    Map<Integer, Integer> numbers = new HashMap<>();
    for (int i = 0; i < all.size(); i++) {
      out.append(i > 0 ? "|" : "").append(all.get(i).negative ? "~" : "");
      spell(all.get(i).atom, out, numbers);
    }
    if (all.isEmpty()) {
      out.append('$');
    }
    if (out.length() > 4000) {
      throw new Stop(-4);
    }
    return out.toString();
  }

  private void spell(Term term, StringBuilder out, Map<Integer, Integer> numbers) {
    if (out.length() > 4000) {
      throw new Stop(-4);
    }
    Term t = now(term);
    if (t.name == null) {
      if (!numbers.containsKey(t.number)) {
        numbers.put(t.number, numbers.size());
      }
      out.append('X').append(numbers.get(t.number));
      return;
    }
    out.append(t.name.replace("#", ""));
    for (int i = 0; i < t.arguments.size(); i++) {
      out.append(i == 0 ? '(' : ',');
      spell(t.arguments.get(i), out, numbers);
    }
    out.append(t.arguments.isEmpty() ? "" : ")");
  }

  // ---- reading

  private int at;
  private String token;
  private int tokenPlace;
  private int open;
  private Map<String, Integer> around = new HashMap<>();
  private Set<String> free = new LinkedHashSet<>();
  private int readSize;

  int read() {
    List<List<Literal>> clausesBefore = new ArrayList<>(clauses);
    LinkedHashMap<String, String> symbolsBefore = new LinkedHashMap<>(symbols);
    int functionsBefore = functions;
    try {
      at = 0;
      token = null;
      open = 0;
      while (!look().equals("")) {
        int first = tokenPlace;
        around = new HashMap<>();
        free = new LinkedHashSet<>();
        readSize = 0;
        Formula f = formula();
        want(".");
        if (symbols.size() > 60 || !becomes(f)) {
          throw new Fault(5, first);
        }
      }
    } catch (Fault fault) {
      clauses = clausesBefore;
      symbols = symbolsBefore;
      functions = functionsBefore;
      faultPlace = fault.place;
      return -10 - fault.code;
    }
    faultPlace = -1;
    forget();
    return clauses.size();
  }

  private String look() {
    if (token != null) {
      return token;
    }
    while (at < text.length() && "\t\n\r ".indexOf(text.charAt(at)) >= 0) {
      at++;
    }
    tokenPlace = at;
    String rest = text.substring(at);
    if (rest.isEmpty()) {
      token = "";
    } else if (rest.startsWith("<=>")) {
      token = "<=>";
    } else if (rest.startsWith("=>")) {
      token = "=>";
    } else if ("(),.:~&|!?".indexOf(rest.charAt(0)) >= 0) {
      token = rest.substring(0, 1);
    } else {
      java.util.regex.Matcher m = java.util.regex.Pattern.compile("[a-zA-Z][a-zA-Z0-9_]*").matcher(rest);
      if (!m.lookingAt() || m.end() > 8) {
        throw new Fault(1, at);
      }
      token = m.group();
    }
    at += token.length();
    return token;
  }

  private void take() {
    token = null;
  }

  private void want(String wanted) {
    if (!look().equals(wanted)) {
      throw new Fault(2, tokenPlace);
    }
    take();
  }

  private void opens() {
    if (++open == 31) {
      throw new Fault(6, tokenPlace);
    }
    take();
  }

  private boolean isName() {
    return !look().isEmpty() && look().charAt(0) >= 'a' && look().charAt(0) <= 'z';
  }

  private String variable() {
    String v = look();
    if (v.isEmpty() || v.charAt(0) < 'A' || v.charAt(0) > 'Z') {
      throw new Fault(2, tokenPlace);
    }
    take();
    return v;
  }

  private Formula formula() {
    Formula f = implication();
    while (look().equals("<=>")) {
      opens();
      f = new Formula("<=>", f, implication(), null, null);
      open--;
    }
    return f;
  }

  private Formula implication() {
    Formula f = disjunction();
    if (look().equals("=>")) {
      opens();
      f = new Formula("=>", f, implication(), null, null);
      open--;
    }
    return f;
  }

  private Formula disjunction() {
    Formula f = conjunction();
    while (look().equals("|")) {
      take();
      f = new Formula("|", f, conjunction(), null, null);
    }
    return f;
  }

  private Formula conjunction() {
    Formula f = unary();
    while (look().equals("&")) {
      take();
      f = new Formula("&", f, unary(), null, null);
    }
    return f;
  }

  private Formula unary() {
    String sign = look();
    Formula f;
    switch (sign) {
      case "~":
        opens();
        f = new Formula("~", unary(), null, null, null);
        break;
      case "(":
        opens();
        f = formula();
        want(")");
        break;
      case "!":
      case "?":
        opens();
        String v = variable();
        want(":");
        around.merge(v, 1, Integer::sum);
        f = new Formula(sign, unary(), null, v, null);
        around.merge(v, -1, Integer::sum);
        break;
      default:
        if (!isName()) {
          throw new Fault(2, tokenPlace);
        }
        return new Formula("atom", null, null, null, application("predicate"));
    }
    open--;
    return f;
  }

  private Term application(String use) {
    String name = look();
    int place = tokenPlace;
    readSize++;
    take();
    symbols.putIfAbsent(name, "");
    List<Term> arguments = new ArrayList<>();
    if (look().equals("(")) {
      opens();
      arguments.add(term());
      while (look().equals(",")) {
        take();
        if (arguments.size() == 5) {
          throw new Fault(4, place);
        }
        arguments.add(term());
      }
      want(")");
      open--;
    }
    String now = use + arguments.size();
    if (symbols.get(name).isEmpty()) {
      symbols.put(name, now);
    }
    if (!symbols.get(name).equals(now)) {
      throw new Fault(3, place);
    }
    return new Term(name, 0, arguments);
  }

  private Term term() {
    if (isName()) {
      return application("function");
    }
    String v = variable();
    readSize++;
    if (around.getOrDefault(v, 0) == 0) {
      free.add(v);
    }
    return new Term(v, 0, List.of());
  }

  // ---- clauses

  private int wayClauses;
  private int wayLiterals;
  private int variablesMade;

  private static long weight(Formula f) {
    if (f == null) {
      return 0;
    }
    long own = f.kind.equals("atom") ? f.atom.size() : f.variable != null ? 1 : 0;
    long parts = weight(f.left) + weight(f.right);
    return Math.min(1_000_000, own + (f.kind.equals("<=>") ? 2 * parts : parts));
  }

  private boolean becomes(Formula read) {
    Formula f = read;
    List<String> names = new ArrayList<>(free);
    for (int i = names.size() - 1; i >= 0; i--) {
      f = new Formula("!", f, null, names.get(i), null);
    }
    if (readSize > 250 || weight(f) > 3000) {
      return false;
    }
    wayClauses = 0;
    wayLiterals = 0;
    variablesMade = 0;
    List<List<Literal>> made;
    try {
      made = clausesOf(withoutSome(inside(f, false), Map.of(), List.of()));
    } catch (Stop tooLarge) {
      return false;
    }
    if (clauses.size() + made.size() > 100) {
      return false;
    }
    for (List<Literal> one : made) {
      if (one.size() > 12) {
        return false;
      }
    }
    for (List<Literal> one : made) {
      if (!add(one)) {
        return false;
      }
    }
    return true;
  }

  private boolean add(List<Literal> one) {
    List<Literal> kept = new ArrayList<>(new LinkedHashSet<>(one));
    for (Literal l : kept) {
      if (kept.contains(new Literal(!l.negative, l.atom))) {
        return true;
      }
    }
    List<Integer> order = new ArrayList<>(variables(kept));
    if (order.size() > 10 || size(kept) > 200) {
      return false;
    }
    List<Literal> numbered = new ArrayList<>();
    for (Literal l : kept) {
      numbered.add(new Literal(l.negative, renumber(l.atom, order)));
    }
    clauses.add(numbered);
    return true;
  }

  private static Term renumber(Term t, List<Integer> order) {
    List<Term> arguments = new ArrayList<>();
    for (Term a : t.arguments) {
      arguments.add(renumber(a, order));
    }
    return t.name == null ? new Term(null, order.indexOf(t.number), arguments) : new Term(t.name, 0, arguments);
  }

  /** Part 2, word by word; a literal is an atom, or ~ of one. */
  private static Formula inside(Formula f, boolean not) {
    switch (f.kind) {
      case "atom":
        return not ? new Formula("~", f, null, null, null) : f;
      case "~":
        return inside(f.left, !not);
      case "=>":
        return inside(new Formula("|", no(f.left), f.right, null, null), not);
      case "<=>":
        Formula there = new Formula("|", no(f.left), f.right, null, null);
        Formula back = new Formula("|", no(f.right), f.left, null, null);
        return inside(new Formula("&", there, back, null, null), not);
      case "&":
      case "|":
        String joined = f.kind.equals("&") != not ? "&" : "|";
        return new Formula(joined, inside(f.left, not), inside(f.right, not), null, null);
      default:
        String sign = f.kind.equals("!") != not ? "!" : "?";
        return new Formula(sign, inside(f.left, not), null, f.variable, null);
    }
  }

  private static Formula no(Formula f) {
    return new Formula("~", f, null, null, null);
  }

  private Formula withoutSome(Formula f, Map<String, Term> values, List<Term> all) {
    switch (f.kind) {
      case "atom":
        return new Formula("atom", null, null, null, replace(f.atom, values));
      case "~":
        return no(withoutSome(f.left, values, all));
      case "!": {
        Term variable = new Term(null, variablesMade++, List.of());
        Map<String, Term> more = new HashMap<>(values);
        more.put(f.variable, variable);
        List<Term> longer = new ArrayList<>(all);
        longer.add(variable);
        return withoutSome(f.left, more, longer);
      }
      case "?": {
        if (all.size() > 5) {
          throw new Stop(5);
        }
        Map<String, Term> more = new HashMap<>(values);
        more.put(f.variable, new Term("#s" + ++functions, 0, all));
        return withoutSome(f.left, more, all);
      }
      default:
        Formula left = withoutSome(f.left, values, all);
        return new Formula(f.kind, left, withoutSome(f.right, values, all), null, null);
    }
  }

  private static Term replace(Term t, Map<String, Term> values) {
    if (Character.isUpperCase(t.name.charAt(0))) {
      return values.get(t.name);
    }
    List<Term> arguments = new ArrayList<>();
    for (Term a : t.arguments) {
      arguments.add(replace(a, values));
    }
    return new Term(t.name, 0, arguments);
  }

  private List<List<Literal>> clausesOf(Formula f) {
    List<List<Literal>> made = new ArrayList<>();
    if (f.kind.equals("atom")) {
      made.add(List.of(new Literal(false, f.atom)));
    } else if (f.kind.equals("~")) {
      made.add(List.of(new Literal(true, f.left.atom)));
    } else {
      List<List<Literal>> left = clausesOf(f.left);
      List<List<Literal>> right = clausesOf(f.right);
      if (f.kind.equals("&")) {
        made.addAll(left);
        made.addAll(right);
      } else if ((long) left.size() * right.size() > 600) {
        throw new Stop(5);
      } else {
        for (List<Literal> one : left) {
          for (List<Literal> other : right) {
            List<Literal> sum = new ArrayList<>(one);
            sum.addAll(other);
            made.add(sum);
          }
        }
      }
    }
    wayClauses += made.size();
    for (List<Literal> one : made) {
      wayLiterals += one.size();
    }
    if (wayClauses > 600 || wayLiterals > 6000) {
      throw new Stop(5);
    }
    return made;
  }

  // ---- the search

  private int most;
  private int looks;
  private boolean tooLong;
  private int tableauLiterals;
  private int tableauVariables;
  private int fresh;
  private List<Move> made;

  int search(int upTo, int mostSteps) {
    if (upTo < 1 || upTo > 20 || mostSteps < 0 || mostSteps > 20000) {
      return -2;
    }
    forget();
    most = mostSteps;
    try {
      for (limit = 1; limit <= upTo; limit++) {
        tooLong = false;
        if (starts()) {
          moves = made;
          return 1;
        }
        if (!tooLong) {
          return 0;
        }
      }
    } catch (Stop stop) {
      return stop.answer;
    }
    limit = upTo;
    return -5;
  }

  private void step() {
    if (steps == most) {
      throw new Stop(-6);
    }
    steps++;
  }

  private void lookOnce() {
    if (++looks == 4001) {
      throw new Stop(-7);
    }
  }

  private List<Literal> copy(List<Literal> one) {
    List<Integer> order = new ArrayList<>(variables(one));
    int shift = fresh;
    fresh += order.size();
    List<Literal> renamed = new ArrayList<>();
    for (Literal l : one) {
      renamed.add(new Literal(l.negative, shifted(l.atom, shift)));
    }
    return renamed;
  }

  private static Term shifted(Term t, int shift) {
    List<Term> arguments = new ArrayList<>();
    for (Term a : t.arguments) {
      arguments.add(shifted(a, shift));
    }
    return t.name == null ? new Term(null, t.number + shift, arguments) : new Term(t.name, 0, arguments);
  }

  private boolean starts() {
    for (int c = 0; c < clauses.size(); c++) {
      if (clauses.get(c).stream().anyMatch(Literal::negative)) {
        continue;
      }
      step();
      bound = new HashMap<>();
      made = new ArrayList<>();
      fresh = 0;
      List<Node> nodes = new ArrayList<>();
      for (Literal l : copy(clauses.get(c))) {
        nodes.add(new Node(l, null, 0));
      }
      tableauLiterals = nodes.size();
      tableauVariables = fresh;
      made.add(new Move(0, c, -1, 0, nodes));
      if (solve(goals(nodes, null))) {
        return true;
      }
    }
    return false;
  }

  private static Goals goals(List<Node> nodes, Goals rest) {
    Goals all = rest;
    for (int i = nodes.size() - 1; i >= 0; i--) {
      all = new Goals(nodes.get(i), all);
    }
    return all;
  }

  private static boolean opposed(Literal a, Literal b) {
    return a.negative != b.negative && a.atom.name.equals(b.atom.name);
  }

  private boolean solve(Goals goals) {
    if (goals == null) {
      return true;
    }
    Node goal = goals.first;
    looks = 0;
    for (Node p = goal.above; p != null; p = p.above) {
      boolean candidate = p.literal.negative == goal.literal.negative
          && p.literal.atom.name.equals(goal.literal.atom.name);
      if (candidate && sameArguments(goal.literal.atom, p.literal.atom)) {
        return false;
      }
    }
    for (Node p = goal.above; p != null; p = p.above) {
      if (opposed(goal.literal, p.literal)) {
        Map<Integer, Term> before = new HashMap<>(bound);
        step();
        looks = 0;
        if (unifyArguments(goal.literal.atom, p.literal.atom)) {
          made.add(new Move(2, -1, p.depth, goal.depth, List.of(goal)));
          if (solve(goals.rest)) {
            return true;
          }
          made.remove(made.size() - 1);
        }
        bound = before;
      }
    }
    return extend(goal, goals.rest);
  }

  private boolean extend(Node goal, Goals rest) {
    for (int c = 0; c < clauses.size(); c++) {
      for (int i = 0; i < clauses.get(c).size(); i++) {
        if (!opposed(goal.literal, clauses.get(c).get(i))) {
          continue;
        }
        if (goal.depth >= limit) {
          tooLong = true;
          return false;
        }
        if (extendWith(goal, rest, c, i)) {
          return true;
        }
      }
    }
    return false;
  }

  private boolean extendWith(Node goal, Goals rest, int c, int i) {
    Map<Integer, Term> before = new HashMap<>(bound);
    int literalsBefore = tableauLiterals;
    int variablesBefore = tableauVariables;
    step();
    looks = 0;
    int freshBefore = fresh;
    List<Literal> renamed = copy(clauses.get(c));
    if (unifyArguments(goal.literal.atom, renamed.get(i).atom)) {
      tableauLiterals += renamed.size();
      tableauVariables += fresh - freshBefore;
      if (tableauLiterals > 150 || tableauVariables > 200) {
        throw new Stop(-7);
      }
      List<Node> nodes = new ArrayList<>();
      for (int j = 0; j < renamed.size(); j++) {
        if (j != i) {
          nodes.add(new Node(renamed.get(j), goal, goal.depth + 1));
        }
      }
      made.add(new Move(1, c, i, goal.depth, List.of(goal)));
      if (solve(goals(nodes, rest))) {
        return true;
      }
      made.remove(made.size() - 1);
    }
    bound = before;
    tableauLiterals = literalsBefore;
    tableauVariables = variablesBefore;
    return false;
  }

  private Term now(Term t) {
    Term u = t;
    while (u.name == null && bound.containsKey(u.number)) {
      u = bound.get(u.number);
    }
    return u;
  }

  private boolean unifyArguments(Term a, Term b) {
    for (int i = 0; i < a.arguments.size(); i++) {
      if (!unify(a.arguments.get(i), b.arguments.get(i))) {
        return false;
      }
    }
    return true;
  }

  private boolean unify(Term a, Term b) {
    lookOnce();
    Term left = now(a);
    Term right = now(b);
    if (left.name == null && right.name == null && left.number == right.number) {
      return true;
    }
    if (left.name == null) {
      return bind(left, right);
    }
    if (right.name == null) {
      return bind(right, left);
    }
    return left.name.equals(right.name) && unifyArguments(left, right);
  }

  private boolean bind(Term variable, Term to) {
    if (standsIn(variable.number, to)) {
      return false;
    }
    bound.put(variable.number, to);
    return true;
  }

  private boolean standsIn(int variable, Term term) {
    Term t = now(term);
    lookOnce();
    if (t.name == null) {
      return t.number == variable;
    }
    for (Term a : t.arguments) {
      if (standsIn(variable, a)) {
        return true;
      }
    }
    return false;
  }

  private boolean sameArguments(Term a, Term b) {
    for (int i = 0; i < a.arguments.size(); i++) {
      if (!same(a.arguments.get(i), b.arguments.get(i))) {
        return false;
      }
    }
    return true;
  }

  private boolean same(Term a, Term b) {
    lookOnce();
    Term left = now(a);
    Term right = now(b);
    if (left.name == null || right.name == null) {
      return left.name == null && right.name == null && left.number == right.number;
    }
    return left.name.equals(right.name) && sameArguments(left, right);
  }
}
