import java.util.ArrayList;
import java.util.Collections;
import java.util.List;
import java.util.Random;

/** Makes texts whose wires fit, by chance, and spoils some of them. */
final class TextMaker {
  private final Random chance;
  /** Each kind: its name, then its ports such as "a+". */
  private final List<String[]> kinds = new ArrayList<>();
  private int names;

  TextMaker(long seed) {
    chance = new Random(seed);
  }

  /** One end of a wire: the port of an agent, or a name that lies outside. */
  private static final class Point {
    final int agent;
    final String name;
    final String sort;
    Point mate;
    String wire;

    Point(int agent, String name, String sort) {
      this.agent = agent;
      this.name = name;
      this.sort = sort;
    }
  }

  private static final class Agent {
    final String name;
    final List<Point> ports = new ArrayList<>();
    boolean written;

    Agent(String name) {
      this.name = name;
    }
  }

  String book() {
    StringBuilder text = new StringBuilder();
    makeKinds();
    for (String[] kind : kinds) {
      text.append("kind ").append(kind[0]).append(' ').append(kind[1]);
      for (int p = 2; p < kind.length; p++) {
        text.append(p == 2 ? "(" : ", ").append(kind[p]);
      }
      text.append(kind.length > 2 ? ");" : ";").append(chance.nextInt(4) == 0 ? "\n" : " ");
    }
    for (int a = 0; a < kinds.size(); a++) {
      for (int b = a; b < kinds.size(); b++) {
        boolean meet = fit(kinds.get(a)[1], kinds.get(b)[1]);
        if (chance.nextInt(8) < (meet ? 7 : 1)) {
          text.append(chance.nextBoolean() ? rule(a, b) : rule(b, a)).append(' ');
        }
      }
    }
    if (chance.nextInt(30) != 0) {
      text.append(net());
    }
    return text.length() > 3900 ? book() : text.toString();
  }

  private void makeKinds() {
    kinds.clear();
    int sorts = 1 + chance.nextInt(2);
    for (int s = 0; s < sorts; s++) {
      // with a kind of no ports for both signs, all that is left over can be closed
      kinds.add(new String[] {"P" + s, (char) ('a' + s) + "+"});
      kinds.add(new String[] {"M" + s, (char) ('a' + s) + "-"});
    }
    int more = 1 + chance.nextInt(5);
    for (int i = 0; i < more; i++) {
      String[] kind = new String[2 + chance.nextInt(5)];
      kind[0] = (char) ('A' + i) + "Kind123".substring(0, chance.nextInt(8));
      for (int p = 1; p < kind.length; p++) {
        kind[p] = (char) ('a' + chance.nextInt(sorts)) + (chance.nextBoolean() ? "+" : "-");
      }
      kinds.add(kind);
    }
    Collections.shuffle(kinds, chance);
  }

  private static boolean fit(String a, String b) {
    return a.charAt(0) == b.charAt(0) && a.charAt(1) != b.charAt(1);
  }

  private String rule(int a, int b) {
    for (int tries = 0; tries < 50; tries++) {
      List<Agent> agents = new ArrayList<>();
      List<Point> points = new ArrayList<>();
      names = 0;
      String left = side(kinds.get(a), points);
      String right = side(kinds.get(b), points);
      addAgents(agents, points, chance.nextInt(4));
      List<Point> loose = match(points);
      if (agents.size() + loose.size() <= 12) {
        for (Point point : loose) {
          close(agents, point);
        }
        String links = links(agents, points);
        return "rule " + left + " >< " + right + (links.isEmpty() ? ";" : " : " + links + ";");
      }
    }
    return "";
  }

  private String side(String[] kind, List<Point> points) {
    StringBuilder text = new StringBuilder(kind[0]);
    for (int p = 2; p < kind.length; p++) {
      String name = "s" + names++;
      String turned = kind[p].charAt(0) + (kind[p].charAt(1) == '+' ? "-" : "+");
      points.add(new Point(-1, name, turned));
      text.append(p == 2 ? "(" : ", ").append(name);
    }
    return text.append(kind.length > 2 ? ")" : "").toString();
  }

  private String net() {
    List<Agent> agents = new ArrayList<>();
    List<Point> points = new ArrayList<>();
    names = 0;
    addAgents(agents, points, chance.nextInt(chance.nextInt(5) == 0 ? 40 : 12));
    List<Point> loose = match(points);
    int ends = chance.nextInt(9);
    int over = 0;
    for (Point point : loose) {
      if (ends > 0 && chance.nextInt(3) != 0) {
        ends--;
        Point end = new Point(-1, "e" + names++, "");
        points.add(end);
        end.mate = point;
        point.mate = end;
      } else {
        close(agents, point);
        over++;
      }
    }
    if (ends > 1 && over % 2 == 0) {
      Point one = new Point(-1, "e" + names++, "");
      Point other = new Point(-1, "e" + names++, "");
      one.mate = other;
      other.mate = one;
      points.add(one);
      points.add(other);
    }
    String links = links(agents, points);
    return "net" + (links.isEmpty() ? "" : " ") + links + ";";
  }

  private void addAgents(List<Agent> agents, List<Point> points, int number) {
    for (int i = 0; i < number; i++) {
      add(agents, points, kinds.get(chance.nextInt(kinds.size())));
    }
  }

  private static Agent add(List<Agent> agents, List<Point> points, String[] kind) {
    Agent agent = new Agent(kind[0]);
    for (int p = 1; p < kind.length; p++) {
      Point point = new Point(agents.size(), null, kind[p]);
      agent.ports.add(point);
      points.add(point);
    }
    agents.add(agent);
    return agent;
  }

  private void close(List<Agent> agents, Point point) {
    String[] closer = {(point.sort.charAt(1) == '+' ? "M" : "P") + (point.sort.charAt(0) - 'a'),
        point.sort.charAt(0) + (point.sort.charAt(1) == '+' ? "-" : "+")};
    Agent agent = add(agents, new ArrayList<>(), closer);
    agent.ports.get(0).mate = point;
    point.mate = agent.ports.get(0);
  }

  /** Joins what fits, by chance; the answer is what is left over. */
  private List<Point> match(List<Point> points) {
    List<Point> shuffled = new ArrayList<>(points);
    Collections.shuffle(shuffled, chance);
    List<Point> loose = new ArrayList<>();
    for (Point point : shuffled) {
      for (int i = 0; i < loose.size() && point.mate == null; i++) {
        if (fit(point.sort, loose.get(i).sort)) {
          point.mate = loose.remove(i);
          point.mate.mate = point;
        }
      }
      if (point.mate == null) {
        loose.add(point);
      }
    }
    return loose;
  }

  private String links(List<Agent> agents, List<Point> points) {
    List<String> links = new ArrayList<>();
    for (Agent agent : agents) {
      if (!agent.written) {
        Point far = agent.ports.get(0).mate;
        String own = term(agents, agent, 0);
        boolean direct = far.agent >= 0 && agents.get(far.agent).ports.get(0) == far && !agents.get(far.agent).written;
        String other = direct ? term(agents, agents.get(far.agent), 0) : nameOf(agent.ports.get(0));
        links.add(chance.nextBoolean() ? own + " = " + other : other + "=" + own);
      }
    }
    for (Point point : points) {
      if (point.agent < 0 && point.mate.agent < 0 && point.name.compareTo(point.mate.name) < 0) {
        links.add(point.name + " = " + point.mate.name);
      }
    }
    for (int i = chance.nextInt(6); i < 2; i++) {
      String name = "r" + names++;
      String other = "r" + names++;
      links.add(chance.nextBoolean() ? name + " = " + name : name + " = " + other + ", " + other + " = " + name);
    }
    Collections.shuffle(links, chance);
    return String.join(", ", links);
  }

  /** A name for the wire that a point is at; what lies outside has one already. */
  private String nameOf(Point point) {
    if (point.mate.agent < 0) {
      return point.mate.name;
    }
    if (point.wire == null) {
      point.wire = "w" + names++;
      point.mate.wire = point.wire;
    }
    return point.wire;
  }

  private String term(List<Agent> agents, Agent agent, int depth) {
    agent.written = true;
    StringBuilder text = new StringBuilder(agent.name);
    for (int p = 1; p < agent.ports.size(); p++) {
      Point far = agent.ports.get(p).mate;
      boolean nested = far.agent >= 0 && agents.get(far.agent).ports.get(0) == far && !agents.get(far.agent).written
          && far.wire == null && depth < 11 && chance.nextInt(4) != 0;
      text.append(p == 1 ? "(" : ",").append(nested ? term(agents, agents.get(far.agent), depth + 1) : nameOf(agent.ports.get(p)));
    }
    return text.append(agent.ports.size() > 1 ? ")" : "").toString();
  }

  private static final String[] SCRAPS = {"(", ")", ",", "=", ";", "+", "-", ":", "><", ">", "<", "kind", "rule", "net", "x", "w0",
      "s0", "e0", "P0", "M0", "A", "B", "Q", " ", "\n", "\t", "aB", "9", "abcdefghi", "$", "a+", "P0 = M0,", "w0 = w0,", "x = y,", "z"};

  /** The text with one thing in it put in, taken out, or put in another's place. */
  String spoiled(String text) {
    return chance.nextBoolean() ? withBytesSpoiled(text) : withTokensSpoiled(text);
  }

  private String withTokensSpoiled(String text) {
    List<String> tokens = new ArrayList<>(List.of(text.split("(?<=[^A-Za-z0-9>])|(?=[^A-Za-z0-9<])")));
    int from = chance.nextInt(tokens.size());
    int to = chance.nextInt(tokens.size());
    switch (chance.nextInt(4)) {
      case 0 -> Collections.swap(tokens, from, to);
      case 1 -> tokens.set(to, tokens.get(from));
      case 2 -> tokens.add(to, tokens.get(from));
      default -> tokens.remove(from);
    }
    return String.join("", tokens);
  }

  private String withBytesSpoiled(String text) {
    int from = chance.nextInt(text.length() + 1);
    int to = Math.min(text.length(), from + chance.nextInt(3));
    String scrap = chance.nextInt(3) == 0 ? "" : SCRAPS[chance.nextInt(SCRAPS.length)];
    if (chance.nextInt(20) == 0) {
      return text.substring(0, from);
    }
    return text.substring(0, from) + scrap + text.substring(chance.nextBoolean() ? from : to);
  }
}
