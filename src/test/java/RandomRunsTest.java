import java.util.ArrayList;
import java.util.Arrays;
import java.util.LinkedHashMap;
import java.util.List;
import java.util.Map;
import java.util.Random;

/** Runs of calls drawn by fixed seeds, on the class and on the slow model: all answers are the same. */
public final class RandomRunsTest {
  private static final String[] NAMES = {"row", "set", "copy", "drop", "feed", "world", "fault", "hide", "cost",
      "above", "undo", "member", "type", "many", "cheapest", "listed", "word", "place", "had", "needed", "without",
      "share", "drawn", "image", "restore", "kind", "as", "ask", "trace", "count", "status"};
  private static final int[] EDGES = {Integer.MIN_VALUE, Integer.MIN_VALUE + 1, -1000001, -41, -2, -1, 0, 1, 2, 3, 5,
      6, 7, 8, 11, 12, 23, 24, 25, 39, 40, 41, 59, 60, 61, 140, 255, 256, 998, 999, 1000, 999998, 999999, 1000000,
      999999997, 999999998, 999999999, 1000000000, Integer.MAX_VALUE - 1, Integer.MAX_VALUE};
  private static final int RUNS = 1500;
  /** What an object answers behind these is free. */
  private static final int MOST_CALLS = 512;

  private final Random random;
  private final WantedTypes real = new WantedTypes();
  private final SlowModel model = new SlowModel();
  private final List<String> told = new ArrayList<>();
  private static final Map<String, int[]> SEEN = new LinkedHashMap<>();
  private int wrong;
  private int calls;

  private RandomRunsTest(long seed) {
    random = new Random(seed);
  }

  public static void main(String[] args) {
    int runs = args.length > 0 ? Integer.parseInt(args[0]) : RUNS;
    int from = args.length > 1 ? Integer.parseInt(args[1]) : 0;
    int wrong = 0;
    for (int seed = from; seed < from + runs && wrong < 5; seed++) {
      RandomRunsTest run = new RandomRunsTest(seed);
      run.play();
      wrong += run.wrong;
      if (run.wrong > 0) {
        System.out.println("seed " + seed + ":");
        List<String> last = run.told.subList(Math.max(0, run.told.size() - 260), run.told.size());
        for (String line : last) System.out.println("  " + line);
      }
    }
    for (String name : NAMES) {
      int[] seen = SEEN.getOrDefault(name, new int[2]);
      if (seen[0] == 0) {
        System.out.println("never answered in full: " + name);
        wrong++;
      }
    }
    System.out.println(runs + " random runs, " + wrong + " wrong");
    if (wrong != 0) System.exit(1);
  }

  private int same(String name, int... a) {
    if (calls >= MOST_CALLS) return model.call(name, a);
    calls++;
    int got = onReal(name, a);
    int due = model.call(name, a);
    told.add(name + Arrays.toString(a) + " = " + got + (got == due ? "" : ", due is " + due));
    if (got != due) wrong++;
    int[] seen = SEEN.computeIfAbsent(name, k -> new int[2]);
    seen[due > -1000000 ? 0 : 1]++;
    return due;
  }

  private int onReal(String name, int[] a) {
    switch (name) {
      case "row": return real.row(a[0], a[1], a[2]);
      case "set": return real.set(a[0], a[1], a[2]);
      case "copy": return real.copy(a[0], a[1], a[2], a[3], a[4]);
      case "drop": return real.drop(a[0]);
      case "feed": return real.feed(a[0]);
      case "world": return real.world();
      case "fault": return real.fault();
      case "hide": return real.hide(a[0], a[1]);
      case "cost": return real.cost(a[0], a[1]);
      case "above": return real.above(a[0], a[1]);
      case "undo": return real.undo();
      case "member": return real.member(a[0], a[1]);
      case "type": return real.type(a[0], a[1]);
      case "many": return real.many(a[0], a[1]);
      case "cheapest": return real.cheapest(a[0]);
      case "listed": return real.listed(a[0], a[1], a[2]);
      case "word": return real.word(a[0], a[1], a[2], a[3]);
      case "place": return real.place(a[0], a[1], a[2]);
      case "had": return real.had();
      case "needed": return real.needed(a[0]);
      case "without": return real.without(a[0], a[1]);
      case "share": return real.share(a[0], a[1]);
      case "drawn": return real.drawn(a[0], a[1], a[2], a[3]);
      case "image": return real.image(a[0]);
      case "restore": return real.restore(a[0]);
      case "kind": return real.kind(a[0]);
      case "as": return real.as(a[0], a[1]);
      case "ask": return real.ask(a[0], a[1]);
      case "trace": return real.trace(a[0]);
      case "count": return real.count(a[0]);
      case "status": return real.status();
      default: throw new IllegalArgumentException(name);
    }
  }

  private void play() {
    if (random.nextInt(4) > 0) tell(text());
    while (calls < MOST_CALLS && wrong == 0) {
      int what = random.nextInt(100);
      if (what < 2) tell(text());
      else if (what < 4) tell(spoilt(text()));
      else if (what < 14) wordOfList();
      else if (what < 16) acts(random.nextInt(40));
      else any(NAMES[random.nextInt(NAMES.length)]);
      same("status");
    }
  }

  private void tell(String text) {
    for (int i = 0; i < text.length(); i++) same("feed", text.charAt(i));
    same("world");
    same("fault");
    for (int what = 0; what < 6; what++) same("count", what);
  }

  /** Costs are low more often than not, so that lists are long. */
  private String text() {
    int types = 1 + random.nextInt(random.nextBoolean() ? 3 : 8);
    int members = 1 + random.nextInt(random.nextInt(8) == 0 ? 13 : 12);
    int dear = random.nextBoolean() ? 2 : 9;
    StringBuilder text = new StringBuilder("w").append(types).append(';');
    for (int t = 0; t < types; t++) text.append('u').append(random.nextInt(t + 1)).append(';');
    for (int m = 0; m < members; m++) {
      char sort = "llfoccmm".charAt(random.nextInt(8));
      text.append(sort).append(random.nextInt(types)).append(',').append(1 + random.nextInt(dear));
      int takes = sort == 'c' || sort == 'm' ? 1 + random.nextInt(2) : 0;
      for (int k = 0; k < takes; k++) text.append(',').append(random.nextInt(types));
      text.append(';');
    }
    return text.toString();
  }

  private String spoilt(String text) {
    StringBuilder s = new StringBuilder(text);
    String odd = "wulfocmx,;0123456789A \u0000\u00ff";
    for (int k = random.nextInt(3); k >= 0; k--) {
      int at = random.nextInt(s.length());
      char c = odd.charAt(random.nextInt(odd.length()));
      switch (random.nextInt(4)) {
        case 0: s.setCharAt(at, c); break;
        case 1: s.insert(at, c); break;
        case 2: if (s.length() > 1) s.deleteCharAt(at); break;
        default: s.setLength(Math.max(1, at)); break;
      }
    }
    return s.toString();
  }

  /** Takes an expression of a list, writes it into a row, perhaps spoils it, and asks for its place. */
  private void wordOfList() {
    int types = model.call("count", new int[] {1});
    if (types == 0) return;
    int type = random.nextInt(types);
    int place = random.nextInt(new int[] {3, 50, 5000, 999999999}[random.nextInt(4)]);
    int row = random.nextInt(8);
    same("row", row, random.nextInt(3), 10 + random.nextInt(31));
    int j = 0;
    for (int m = same("listed", type, place, 0); m >= 0; m = same("listed", type, place, j)) {
      same("set", row, j, m);
      j++;
    }
    same("listed", type, place, -1);
    if (random.nextInt(3) == 0) same("set", row, random.nextInt(12), random.nextInt(12));
    for (int n = Math.max(0, j - 1); n <= j + 1; n++) {
      same("place", type, row, n);
      same("place", random.nextInt(types), row, n);
      same("word", row, 0, n, 0);
      same("word", row, random.nextInt(3), n, 1);
    }
  }

  private void acts(int many) {
    for (int k = 0; k < many; k++) any(new String[] {"hide", "cost", "above"}[random.nextInt(3)]);
    for (int k = random.nextInt(26); k > 0; k--) same("undo");
  }

  private void any(String name) {
    if (name.equals("world")) {
      if (random.nextInt(4) == 0) same(name);
      return;
    }
    int[] a = new int[arity(name)];
    for (int k = 0; k < a.length; k++) a[k] = likely(name, k);
    if (a.length > 0 && random.nextInt(8) == 0) a[random.nextInt(a.length)] = EDGES[random.nextInt(EDGES.length)];
    same(name, a);
    if (name.equals("ask")) for (int i = 0; i < 7; i++) same("trace", i);
    if (name.equals("undo") && random.nextBoolean()) for (int k = 0; k < 26; k++) same("undo");
  }

  private static int arity(String name) {
    switch (name) {
      case "copy": return 5;
      case "word": case "drawn": return 4;
      case "row": case "set": case "listed": case "place": return 3;
      case "hide": case "cost": case "above": case "member": case "type": case "many": case "without": case "share":
      case "as": case "ask": return 2;
      case "world": case "fault": case "undo": case "had": case "status": return 0;
      default: return 1;
    }
  }

  private int likely(String name, int k) {
    int type = random.nextInt(Math.max(1, model.call("count", new int[] {1})));
    int member = random.nextInt(Math.max(1, model.call("count", new int[] {2})));
    switch (name + k) {
      case "row0": case "set0": case "copy0": case "copy2": case "drop0": case "word0": case "place1":
        return random.nextInt(random.nextBoolean() ? 3 : 8);
      case "row1": return random.nextInt(3);
      case "row2": return random.nextInt(41);
      case "set1": case "copy1": case "copy3": case "word1": return random.nextInt(12);
      case "set2": return random.nextBoolean() ? member : random.nextInt();
      case "copy4": case "word2": case "place2": return random.nextInt(8);
      case "feed0": return random.nextInt(256);
      case "hide0": case "cost0": case "member0": case "without1": case "share0": case "kind0": case "as0": case "ask0":
        return member;
      case "hide1": case "word3": case "drawn3": case "image0": case "restore0": case "ask1": return random.nextInt(2);
      case "cost1": return 1 + random.nextInt(9);
      case "member1": return random.nextInt(7);
      case "type1": return random.nextInt(4);
      case "many1": return 1 + random.nextInt(24);
      case "listed1": return random.nextInt(random.nextBoolean() ? 100 : 999999999);
      case "listed2": return random.nextInt(25) - 1;
      case "share1": return random.nextInt(1000);
      case "drawn1": return 1 + random.nextInt(60);
      case "drawn2": return 1 + random.nextInt(999999);
      case "as1": case "count0": return random.nextInt(6);
      case "trace0": return random.nextInt(8);
      default: return type;
    }
  }
}
