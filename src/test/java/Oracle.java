import java.util.ArrayList;
import java.util.HashMap;
import java.util.HashSet;
import java.util.LinkedHashMap;
import java.util.List;
import java.util.Map;
import java.util.Set;
import java.util.TreeMap;
import java.util.regex.Matcher;
import java.util.regex.Pattern;

/**
 * The document once more, written apart from the class and in another way (objects, maps, wires with
 * knots that are untied), for tests to hold the class against.
 */
final class Oracle {
  static final int NONE = -1, UNKNOWN = -1001, OUTSIDE = -1002, STATE = -1003, FULL = -1004;

  /** What a wire can end at. */
  private interface Tip {
  }

  private record Port(int agent, int port) implements Tip {
  }

  private record End(int number) implements Tip {
  }

  /** A port of a rule's side: what lies outside of it. */
  private record Slot(int side, int port) implements Tip {
  }

  /** A knot in a wire: something that just two pieces of wire are tied to. */
  private record Knot(String name) implements Tip {
  }

  private record Kind(String name, List<String> sorts) {
  }

  private static final class Token {
    String text;
    int place;
    char type;
  }

  private static final class Fault extends RuntimeException {
    private static final long serialVersionUID = 1;
    final int number;
    final int place;

    Fault(int number, int place) {
      super("fault " + number, null, false, false);
      this.number = number;
      this.place = place;
    }
  }

  /** Pieces of wire between tips; untie() takes the knots out. */
  private static final class Wires {
    final List<Tip[]> pieces = new ArrayList<>();

    void tie(Tip a, Tip b) {
      pieces.add(new Tip[] {a, b});
    }

    /** Takes knot after knot out; the answer is how many rings were left. */
    int untie() {
      int rings = 0;
      for (int i = 0; i < pieces.size(); ) {
        Tip[] piece = pieces.get(i);
        Tip knot = piece[0] instanceof Knot ? piece[0] : piece[1] instanceof Knot ? piece[1] : null;
        if (knot == null) {
          i++;
        } else if (piece[0].equals(piece[1])) {
          pieces.remove(i);
          rings++;
        } else {
          pieces.remove(i);
          Tip kept = piece[0].equals(knot) ? piece[1] : piece[0];
          for (Tip[] other : pieces) {
            int at = other[0].equals(knot) ? 0 : other[1].equals(knot) ? 1 : -1;
            if (at >= 0) {
              other[at] = kept;
              break;
            }
          }
          i = 0;
        }
      }
      return rings;
    }
  }

  private static final class Rule {
    int first;
    int second;
    List<Integer> agents = new ArrayList<>();
    Wires wires = new Wires();
  }

  private static final class Net {
    final TreeMap<Integer, Integer> agents = new TreeMap<>();
    final Map<Tip, Tip> wires = new HashMap<>();
    int ends;
    int rings;

    Net copy() {
      Net net = new Net();
      net.agents.putAll(agents);
      net.wires.putAll(wires);
      net.ends = ends;
      net.rings = rings;
      return net;
    }
  }

  private static final class Book {
    final List<Kind> kinds = new ArrayList<>();
    final List<Rule> rules = new ArrayList<>();
    Net net = new Net();
    boolean netTold;

    int kind(String name) {
      for (int k = 0; k < kinds.size(); k++) {
        if (kinds.get(k).name().equals(name)) {
          return k;
        }
      }
      return NONE;
    }

    Rule rule(int a, int b) {
      for (Rule rule : rules) {
        if (rule.first == a && rule.second == b || rule.first == b && rule.second == a) {
          return rule;
        }
      }
      return null;
    }

    int arity(int k) {
      return kinds.get(k).sorts().size() - 1;
    }
  }

  private StringBuilder tape = new StringBuilder();
  private Book book = new Book();
  private final Net[] shelves = new Net[4];
  private int place = NONE;
  private int steps;
  private int most;
  private int rounds;
  private boolean crowded;
  private final List<Integer> history = new ArrayList<>();
  private String out = "";
  private long draw = 1;

  // ---- texts

  int feed(int a, int b, int c, int d, int e) {
    if (tape.length() > 3980) {
      return FULL;
    }
    for (int n : new int[] {a, b, c, d, e}) {
      tape.append((char) (n >>> 24)).append((char) (n >>> 16 & 255)).append((char) (n >>> 8 & 255)).append((char) (n & 255));
    }
    return tape.length();
  }

  int cut(int n) {
    if (n < 0 || n > tape.length()) {
      return OUTSIDE;
    }
    int gone = tape.length() - n;
    tape.setLength(n);
    return gone;
  }

  int read() {
    String text = tape.toString();
    tape = new StringBuilder();
    place = NONE;
    try {
      book = new Parser(text).parse();
    } catch (Fault fault) {
      place = fault.place;
      return -10 - fault.number;
    }
    steps = 0;
    most = book.net.agents.size();
    rounds = 0;
    history.clear();
    for (int s = 0; s < 4; s++) {
      shelves[s] = null;
    }
    return most;
  }

  int place() {
    return place;
  }

  private static final class Parser {
    private static final Pattern TOKEN = Pattern.compile("[A-Za-z0-9]+|><|[^ \\n]", Pattern.DOTALL);
    private final List<Token> tokens = new ArrayList<>();
    private final Book book = new Book();
    private int at;
    private Map<String, Integer> times;
    private List<Integer> agents;
    private Wires wires;
    private int mostAgents;

    Parser(String text) {
      Matcher matcher = TOKEN.matcher(text);
      while (matcher.find()) {
        Token token = new Token();
        token.text = matcher.group();
        token.place = matcher.start();
        token.type = token.text.matches("[a-z][a-z0-9]{0,7}") ? 'n' : token.text.matches("[A-Z][A-Za-z0-9]{0,7}") ? 'B'
            : token.text.matches("><|[(),=;+:-]") ? 's' : '?';
        tokens.add(token);
      }
      Token end = new Token();
      end.text = "";
      end.place = text.length();
      end.type = 'e';
      tokens.add(end);
    }

    private Token now() {
      return tokens.get(at);
    }

    private Fault wrong() {
      return new Fault(now().type == '?' ? 1 : 2, now().place);
    }

    private boolean sees(String text) {
      return now().text.equals(text) && now().type != 'e';
    }

    private void take(String text) {
      if (!sees(text)) {
        throw wrong();
      }
      at++;
    }

    private boolean takes(String text) {
      if (sees(text)) {
        at++;
        return true;
      }
      return false;
    }

    Book parse() {
      while (now().type != 'e') {
        if (sees("kind")) {
          kind();
        } else if (sees("rule")) {
          rule();
        } else if (sees("net")) {
          net();
        } else {
          throw wrong();
        }
      }
      return book;
    }

    private void kind() {
      at++;
      if (now().type != 'B') {
        throw wrong();
      }
      if (book.kind(now().text) != NONE) {
        throw new Fault(3, now().place);
      }
      if (book.kinds.size() == 16) {
        throw new Fault(4, now().place);
      }
      Kind kind = new Kind(now().text, new ArrayList<>());
      at++;
      port(kind);
      if (takes("(")) {
        do {
          port(kind);
        } while (takes(","));
        take(")");
      }
      take(";");
      book.kinds.add(kind);
    }

    private void port(Kind kind) {
      if (now().type != 'n' || now().text.length() != 1) {
        throw wrong();
      }
      if (kind.sorts().size() == 5) {
        throw new Fault(4, now().place);
      }
      String sort = now().text;
      at++;
      if (!sees("+") && !sees("-")) {
        throw wrong();
      }
      kind.sorts().add(sort + now().text);
      at++;
    }

    private void begin(int most) {
      at++;
      times = new LinkedHashMap<>();
      agents = new ArrayList<>();
      wires = new Wires();
      mostAgents = most;
    }

    private void rule() {
      if (book.rules.size() == 60) {
        throw new Fault(4, now().place);
      }
      begin(12);
      Rule rule = new Rule();
      rule.first = side(0);
      take("><");
      rule.second = side(1);
      if (takes(":")) {
        links();
      }
      if (!sees(";")) {
        throw wrong();
      }
      if (book.rule(rule.first, rule.second) != null || times.values().stream().anyMatch(n -> n != 2)) {
        throw new Fault(6, now().place);
      }
      rule.agents = agents;
      rule.wires = wires;
      // knots stay in the rule's wires; the check is made on a copy without them
      Wires plain = new Wires();
      wires.pieces.forEach(piece -> plain.tie(piece[0], piece[1]));
      plain.untie();
      checkFit(plain, rule);
      at++;
      book.rules.add(rule);
    }

    private int side(int side) {
      Token big = now();
      if (big.type != 'B') {
        throw wrong();
      }
      int kind = book.kind(big.text);
      if (kind == NONE) {
        throw new Fault(3, big.place);
      }
      at++;
      int ports = 0;
      if (takes("(")) {
        do {
          if (now().type != 'n') {
            throw wrong();
          }
          ports++;
          wires.tie(new Slot(side, ports), name());
        } while (takes(","));
        take(")");
      }
      if (ports != book.arity(kind)) {
        throw new Fault(5, big.place);
      }
      return kind;
    }

    private Tip name() {
      String name = now().text;
      if (!times.containsKey(name) && times.size() == 60) {
        throw new Fault(4, now().place);
      }
      times.merge(name, 1, Integer::sum);
      at++;
      return new Knot(name);
    }

    private void links() {
      do {
        Tip left = term(0);
        take("=");
        wires.tie(left, term(0));
      } while (takes(","));
    }

    private Tip term(int within) {
      Token first = now();
      if (first.type != 'n' && first.type != 'B') {
        throw wrong();
      }
      if (first.type == 'B' && book.kind(first.text) == NONE) {
        throw new Fault(3, first.place);
      }
      if (within == 12 || first.type == 'B' && agents.size() == mostAgents) {
        throw new Fault(4, first.place);
      }
      if (first.type == 'n') {
        return name();
      }
      int agent = agents.size();
      int kind = book.kind(first.text);
      agents.add(kind);
      at++;
      int ports = 0;
      if (takes("(")) {
        do {
          ports++;
          wires.tie(new Port(agent, ports), term(within + 1));
        } while (takes(","));
        take(")");
      }
      if (ports != book.arity(kind)) {
        throw new Fault(5, first.place);
      }
      return new Port(agent, 0);
    }

    private void net() {
      if (book.netTold) {
        throw new Fault(4, now().place);
      }
      book.netTold = true;
      begin(200);
      if (!sees(";")) {
        links();
      }
      if (!sees(";")) {
        throw wrong();
      }
      int ends = 0;
      for (Map.Entry<String, Integer> entry : times.entrySet()) {
        if (entry.getValue() > 2) {
          throw new Fault(7, now().place);
        }
        if (entry.getValue() == 1) {
          wires.tie(new End(ends), new Knot(entry.getKey()));
          ends++;
        }
      }
      if (ends > 8) {
        throw new Fault(7, now().place);
      }
      book.net.rings = wires.untie();
      checkFit(wires, null);
      at++;
      book.net.ends = ends;
      for (int n = 0; n < agents.size(); n++) {
        book.net.agents.put(n, agents.get(n));
      }
      for (Tip[] piece : wires.pieces) {
        book.net.wires.put(piece[0], piece[1]);
        book.net.wires.put(piece[1], piece[0]);
      }
    }

    private void checkFit(Wires plain, Rule rule) {
      for (Tip[] piece : plain.pieces) {
        String a = sort(piece[0], rule);
        String b = sort(piece[1], rule);
        if (a != null && b != null && (a.charAt(0) != b.charAt(0) || a.charAt(1) == b.charAt(1))) {
          throw new Fault(7, now().place);
        }
      }
    }

    private String sort(Tip tip, Rule rule) {
      if (tip instanceof Port port) {
        return book.kinds.get(agents.get(port.agent())).sorts().get(port.port());
      }
      if (tip instanceof Slot slot) {
        String own = book.kinds.get(slot.side() == 0 ? rule.first : rule.second).sorts().get(slot.port());
        return own.charAt(0) + (own.charAt(1) == '+' ? "-" : "+");
      }
      return null;
    }
  }

  // ---- what is there

  private int mate(int n) {
    Tip tip = book.net.wires.get(new Port(n, 0));
    return tip instanceof Port port && port.port() == 0 ? port.agent() : NONE;
  }

  private Rule ruleOf(int n) {
    return mate(n) == NONE ? null : book.rule(book.net.agents.get(n), book.net.agents.get(mate(n)));
  }

  private List<Integer> pairs(boolean alive) {
    List<Integer> pairs = new ArrayList<>();
    for (int n : book.net.agents.keySet()) {
      if (mate(n) > n && (ruleOf(n) != null) == alive) {
        pairs.add(n);
      }
    }
    return pairs;
  }

  private int circles() {
    Set<Set<Integer>> circles = new HashSet<>();
    for (int start : book.net.agents.keySet()) {
      Set<Integer> seen = new HashSet<>();
      int at = start;
      while (at != NONE && seen.add(at)) {
        Tip tip = book.net.wires.get(new Port(at, 0));
        at = tip instanceof Port port && port.port() != 0 ? port.agent() : NONE;
        if (at == start) {
          circles.add(seen);
        }
      }
    }
    return circles.size();
  }

  int count(int what) {
    int[] answers = {book.kinds.size(), book.rules.size(), book.net.agents.size(), book.net.ends, book.net.rings,
        pairs(true).size(), pairs(false).size(), circles(), steps, most, rounds, crowded ? 1 : 0, out.length()};
    return what < 0 || what >= answers.length ? OUTSIDE : answers[what];
  }

  private boolean isKind(int k) {
    return k >= 0 && k < book.kinds.size();
  }

  int kind(int k, int what) {
    if (!isKind(k)) {
      return UNKNOWN;
    }
    if (what < 0 || what > 6) {
      return OUTSIDE;
    }
    List<String> sorts = book.kinds.get(k).sorts();
    if (what == 0) {
      return sorts.size();
    }
    if (what == 1) {
      return (int) book.net.agents.values().stream().filter(kind -> kind == k).count();
    }
    if (what - 2 >= sorts.size()) {
      return -100;
    }
    int letter = sorts.get(what - 2).charAt(0) - 'a';
    return sorts.get(what - 2).charAt(1) == '+' ? letter : -letter - 1;
  }

  int rule(int a, int b) {
    if (!isKind(a) || !isKind(b)) {
      return UNKNOWN;
    }
    Rule rule = book.rule(a, b);
    return rule == null ? NONE : rule.agents.size();
  }

  int agent(int n) {
    return book.net.agents.getOrDefault(n, UNKNOWN);
  }

  private static int told(Tip tip) {
    return tip instanceof Port port ? 8 * port.agent() + port.port() : -2 - ((End) tip).number();
  }

  int wired(int n, int p) {
    if (!book.net.agents.containsKey(n)) {
      return UNKNOWN;
    }
    return p < 0 || p > book.arity(book.net.agents.get(n)) ? OUTSIDE : told(book.net.wires.get(new Port(n, p)));
  }

  int end(int e) {
    return e < 0 || e >= book.net.ends ? UNKNOWN : told(book.net.wires.get(new End(e)));
  }

  int pair(int i) {
    List<Integer> pairs = pairs(true);
    return i < 0 || i >= pairs.size() ? NONE : pairs.get(i);
  }

  // ---- steps

  private static Tip inRule(Tip tip, List<Integer> numbers) {
    if (tip instanceof Port port) {
      return new Port(numbers.get(port.agent()), port.port());
    }
    return tip instanceof Slot slot ? new Knot("slot " + slot.side() + " " + slot.port()) : tip;
  }

  private boolean stepOf(int n) {
    int lesser = Math.min(n, mate(n));
    int greater = Math.max(n, mate(n));
    Rule rule = ruleOf(n);
    Net net = book.net;
    if (net.agents.size() - 2 + rule.agents.size() > 400) {
      return false;
    }
    boolean asTold = net.agents.get(lesser) == rule.first;
    int[] sides = asTold ? new int[] {lesser, greater} : new int[] {greater, lesser};
    history.add(0, 16 * net.agents.get(lesser) + net.agents.get(greater));
    Wires wires = new Wires();
    for (int side = 0; side < 2; side++) {
      for (int p = 1; p <= book.arity(net.agents.get(sides[side])); p++) {
        Tip far = net.wires.get(new Port(sides[side], p));
        Tip knot = new Knot("slot " + side + " " + p);
        if (far instanceof Port port && (port.agent() == lesser || port.agent() == greater)) {
          int farSide = port.agent() == sides[0] ? 0 : 1;
          // a wire between two of the ports is seen from both: it is one piece
          if (farSide * 8 + port.port() > side * 8 + p) {
            wires.tie(knot, new Knot("slot " + farSide + " " + port.port()));
          }
        } else {
          wires.tie(knot, far);
        }
      }
    }
    net.agents.remove(lesser);
    net.agents.remove(greater);
    net.wires.keySet().removeIf(tip -> tip instanceof Port port && (port.agent() == lesser || port.agent() == greater));
    List<Integer> numbers = new ArrayList<>();
    for (int kind : rule.agents) {
      int number = 0;
      while (net.agents.containsKey(number)) {
        number++;
      }
      net.agents.put(number, kind);
      numbers.add(number);
    }
    rule.wires.pieces.forEach(piece -> wires.tie(inRule(piece[0], numbers), inRule(piece[1], numbers)));
    net.rings += wires.untie();
    for (Tip[] piece : wires.pieces) {
      net.wires.put(piece[0], piece[1]);
      net.wires.put(piece[1], piece[0]);
    }
    steps++;
    most = Math.max(most, net.agents.size());
    return true;
  }

  int step(int n) {
    if (!book.net.agents.containsKey(n)) {
      return UNKNOWN;
    }
    return ruleOf(n) == null ? STATE : stepOf(n) ? 1 : 0;
  }

  int run(int order, int n) {
    if (order < 0 || order > 3 || n < 0 || n > 3000) {
      return OUTSIDE;
    }
    crowded = false;
    int done = 0;
    List<Integer> round = new ArrayList<>();
    while (done < n && !crowded) {
      List<Integer> pairs = pairs(true);
      if (pairs.isEmpty()) {
        break;
      }
      int chosen = pairs.get(0);
      if (order == 1) {
        chosen = pairs.get(pairs.size() - 1);
      } else if (order == 2) {
        if (round.isEmpty()) {
          rounds++;
          round.addAll(pairs);
        }
        chosen = round.remove(0);
      } else if (order == 3) {
        draw = draw * 6364136223846793005L + 1442695040888963407L;
        chosen = pairs.get((int) ((draw >>> 33) % pairs.size()));
      }
      if (stepOf(chosen)) {
        done++;
      } else {
        crowded = true;
      }
    }
    return done;
  }

  int draw(int seed) {
    draw = seed;
    return 1;
  }

  int trace(int i) {
    return i < 0 || i >= Math.min(50, history.size()) ? NONE : history.get(i);
  }

  // ---- shelves

  int keep(int s) {
    if (s < 0 || s > 3) {
      return UNKNOWN;
    }
    shelves[s] = book.net.copy();
    return shelves[s].agents.size();
  }

  int back(int s) {
    if (s < 0 || s > 3) {
      return UNKNOWN;
    }
    if (shelves[s] == null) {
      return STATE;
    }
    book.net = shelves[s].copy();
    return book.net.agents.size();
  }

  int like(int s) {
    if (s < 0 || s > 3) {
      return UNKNOWN;
    }
    if (shelves[s] == null) {
      return STATE;
    }
    return portrait(book.net).equals(portrait(shelves[s])) ? 1 : 0;
  }

  private List<Integer> order(Net net) {
    List<Integer> order = new ArrayList<>();
    int gone = 0;
    for (int e = 0; e < net.ends; e++) {
      if (net.wires.get(new End(e)) instanceof Port port && !order.contains(port.agent())) {
        order.add(port.agent());
      }
      for (; gone < order.size(); gone++) {
        int n = order.get(gone);
        for (int p = 0; p <= book.arity(net.agents.get(n)); p++) {
          if (net.wires.get(new Port(n, p)) instanceof Port port && !order.contains(port.agent())) {
            order.add(port.agent());
          }
        }
      }
    }
    return order;
  }

  /** All that LIKE looks at, as a text. */
  private String portrait(Net net) {
    List<Integer> order = order(net);
    StringBuilder text = new StringBuilder(net.ends + " ends " + net.rings + " rings");
    for (int e = 0; e < net.ends; e++) {
      text.append(' ').append(portrait(net.wires.get(new End(e)), order));
    }
    for (int n : order) {
      text.append(" agent of ").append(net.agents.get(n));
      for (int p = 0; p <= book.arity(net.agents.get(n)); p++) {
        text.append(' ').append(portrait(net.wires.get(new Port(n, p)), order));
      }
    }
    TreeMap<Integer, Integer> others = new TreeMap<>();
    net.agents.forEach((n, kind) -> {
      if (!order.contains(n)) {
        others.merge(kind, 1, Integer::sum);
      }
    });
    return text.append(others).toString();
  }

  private static String portrait(Tip tip, List<Integer> order) {
    return tip instanceof Port port ? order.indexOf(port.agent()) + "." + port.port() : "#" + ((End) tip).number();
  }

  int reached() {
    return order(book.net).size();
  }

  // ---- what comes out

  private String tree(Tip tip, int open) {
    if (tip instanceof End end) {
      return "#" + end.number();
    }
    Port port = (Port) tip;
    if (port.port() != 0) {
      return "@";
    }
    if (open == 40) {
      return "~";
    }
    int kind = book.net.agents.get(port.agent());
    List<String> parts = new ArrayList<>();
    for (int p = 1; p <= book.arity(kind); p++) {
      parts.add(tree(book.net.wires.get(new Port(port.agent(), p)), open + 1));
    }
    return book.kinds.get(kind).name() + (parts.isEmpty() ? "" : "(" + String.join(",", parts) + ")");
  }

  int print(int e) {
    if (e < 0 || e >= book.net.ends) {
      return UNKNOWN;
    }
    out = tree(book.net.wires.get(new End(e)), 0);
    out = out.substring(0, Math.min(4000, out.length()));
    return out.length();
  }

  int out(int i) {
    return i < 0 || i >= out.length() ? NONE : out.charAt(i);
  }
}
