import java.math.BigInteger;
import java.util.ArrayDeque;
import java.util.ArrayList;
import java.util.Arrays;
import java.util.Comparator;
import java.util.Deque;
import java.util.HashMap;
import java.util.List;
import java.util.Map;
import java.util.TreeMap;
import java.util.regex.Matcher;
import java.util.regex.Pattern;

/**
 * The document told a second time, as slowly and plainly as it goes, to hold the class against: short lists
 * are written out and sorted, long ones are counted without any cut.
 */
final class SlowModel {
  static final int NONE = -1000000, BAD = -1000001, STATE = -1000002, FULL = -1000003;
  private static final int WRITTEN_OUT = 1500;
  private static final BigInteger MOST = BigInteger.valueOf(999999999);

  static final class Member {
    char sort;
    int gives;
    int cost;
    List<Integer> takes = new ArrayList<>();

    Member again() {
      Member m = new Member();
      m.sort = sort;
      m.gives = gives;
      m.cost = cost;
      m.takes.addAll(takes);
      return m;
    }

    int price() {
      switch (sort) {
        case 'f': return cost + 2;
        case 'o': return 3 * cost;
        case 'm': return cost + takes.size();
        default: return cost;
      }
    }

    int kind() {
      return 1 + "lfocm".indexOf(sort);
    }
  }

  static final class Place {
    List<Integer> above = new ArrayList<>();
    List<Member> members = new ArrayList<>();
    List<Boolean> hidden = new ArrayList<>();

    Place again() {
      Place p = new Place();
      p.above.addAll(above);
      for (Member m : members) p.members.add(m.again());
      p.hidden.addAll(hidden);
      return p;
    }

    boolean of(int type, int other) {
      return type == other || above.get(type) != type && of(above.get(type), other);
    }
  }

  private final int[][] rows = new int[8][];
  private final int[] lanes = new int[8];
  private final StringBuilder tape = new StringBuilder();
  private Place world = new Place();
  private final Place[] images = new Place[2];
  private final Deque<Place> before = new ArrayDeque<>();
  private final List<Integer> trace = new ArrayList<>();
  private int fault, status;
  private final Map<String, BigInteger> counts = new HashMap<>();
  private final Map<Integer, List<int[]>> lists = new HashMap<>();

  int call(String name, int[] a) {
    switch (name) {
      case "row": return row(a[0], a[1], a[2]);
      case "set": return set(a[0], a[1], a[2]);
      case "copy": return copy(a[0], a[1], a[2], a[3], a[4]);
      case "drop": return drop(a[0]);
      case "feed": return feed(a[0]);
      case "world": return world();
      case "fault": return fault;
      case "hide": return hide(a[0], a[1]);
      case "cost": return cost(a[0], a[1]);
      case "above": return above(a[0], a[1]);
      case "undo": return undo();
      case "member": return member(a[0], a[1]);
      case "type": return type(a[0], a[1]);
      case "many": return many(a[0], a[1]);
      case "cheapest": return cheapest(a[0]);
      case "listed": return listed(a[0], a[1], a[2]);
      case "word": return word(a[0], a[1], a[2], a[3]);
      case "place": return place(a[0], a[1], a[2]);
      case "had": return had();
      case "needed": return needed(a[0]);
      case "without": return without(a[0], a[1]);
      case "share": return share(a[0], a[1]);
      case "drawn": return drawn(a[0], a[1], a[2], a[3]);
      case "image": return image(a[0]);
      case "restore": return restore(a[0]);
      case "kind": return noMember(a[0]) ? BAD : world.members.get(a[0]).kind();
      case "as": return as(a[0], a[1]);
      case "ask": return ask(a[0], a[1]);
      case "trace": return a[0] >= 0 && a[0] < trace.size() ? trace.get(a[0]) : NONE;
      case "count": return count(a[0]);
      case "status": return status;
      default: throw new IllegalArgumentException(name);
    }
  }

  private boolean noMember(int m) { return m < 0 || m >= world.members.size(); }
  private boolean noType(int t) { return t < 0 || t >= world.above.size(); }
  private int finding(int n) { status = n; return -1000010 - n; }
  private int fine(int answer) { status = 0; return answer; }

  // ---- rows

  private int row(int r, int lane, int n) {
    if (r < 0 || r > 7 || lane < 0 || lane > 2 || n > 40) return BAD;
    if (n < 0) return finding(4);
    rows[r] = new int[n];
    lanes[r] = lane;
    return fine(n);
  }

  private int set(int r, int i, int v) {
    if (r < 0 || r > 7) return BAD;
    if (rows[r] == null) return finding(1);
    if (i < 0 || i >= rows[r].length) return finding(2);
    int bits = lanes[r] == 0 ? 24 : lanes[r] == 1 ? 16 : 0;
    rows[r][i] = v << bits >> bits;
    return fine(rows[r][i]);
  }

  private int copy(int a, int i, int b, int j, int n) {
    if (a < 0 || a > 7 || b < 0 || b > 7) return BAD;
    if (rows[a] == null || rows[b] == null) return finding(1);
    if (lanes[a] != lanes[b]) return finding(5);
    if (i < 0 || j < 0 || n < 0 || (long) i + n > rows[a].length || (long) j + n > rows[b].length) return finding(2);
    int[] ahead = rows[a].clone();
    for (int k = 0; k < n; k++) rows[b][j + k] = ahead[i + k];
    return fine(n);
  }

  private int drop(int r) {
    if (r < 0 || r > 7) return BAD;
    if (rows[r] == null) return finding(1);
    int n = rows[r].length;
    rows[r] = null;
    return fine(n);
  }

  // ---- worlds

  private int feed(int letter) {
    if (letter < 0 || letter > 255) return BAD;
    if (tape.length() == 140) return FULL;
    tape.append((char) letter);
    return tape.length();
  }

  /** The whole tape is cut into tokens first; the grammar is then a row of what may come next. */
  private int world() {
    String text = tape.toString();
    tape.setLength(0);
    List<String> tokens = new ArrayList<>();
    List<Integer> starts = new ArrayList<>();
    Matcher cut = Pattern.compile("[0-9]+|(?s).").matcher(text);
    while (cut.find()) {
      tokens.add(cut.group());
      starts.add(cut.start());
    }
    tokens.add("");
    starts.add(text.length());
    Place made = new Place();
    int types = -1;
    Member open = null;
    String may = "w";
    for (int k = 0; k < tokens.size(); k++) {
      String token = tokens.get(k);
      int f = 0;
      boolean figures = !token.isEmpty() && Character.isDigit(token.charAt(0)) && token.charAt(0) < 128;
      switch (may) {
        case "w": f = token.equals("w") ? 0 : 1; may = "TYPES"; break;
        case "TYPES":
          f = number(token, figures, 1, 8);
          if (f == 0) types = Integer.parseInt(token);
          may = "; law";
          break;
        case "; law": f = token.equals(";") ? 0 : 1; may = "u"; break;
        case "u": f = token.equals("u") ? 0 : 1; may = "ABOVE"; break;
        case "ABOVE":
          f = number(token, figures, 0, made.above.size());
          if (f == 0) made.above.add(Integer.parseInt(token));
          may = "; type";
          break;
        case "; type": f = token.equals(";") ? 0 : 1; may = made.above.size() < types ? "u" : "SORT"; break;
        case "SORT":
          if (token.isEmpty() && !made.members.isEmpty()) break;
          f = token.isEmpty() || "lfocm".indexOf(token) < 0 ? 1 : made.members.size() == 12 ? 3 : 0;
          if (f == 0) {
            open = new Member();
            open.sort = token.charAt(0);
            made.members.add(open);
            made.hidden.add(false);
          }
          may = "GIVES";
          break;
        case "GIVES":
          f = number(token, figures, 0, types - 1);
          if (f == 0) open.gives = Integer.parseInt(token);
          may = ", cost";
          break;
        case ", cost": f = token.equals(",") ? 0 : 1; may = "COST"; break;
        case "COST":
          f = number(token, figures, 1, 9);
          if (f == 0) open.cost = Integer.parseInt(token);
          may = "lfo".indexOf(open.sort) >= 0 ? "; member" : ", takes";
          break;
        case ", takes": f = token.equals(",") ? 0 : 1; may = "TAKES"; break;
        case "TAKES":
          f = number(token, figures, 0, types - 1);
          if (f == 0) open.takes.add(Integer.parseInt(token));
          may = open.takes.size() == 2 ? "; member" : ", or ;";
          break;
        case ", or ;":
          f = token.equals(",") || token.equals(";") ? 0 : 1;
          may = token.equals(",") ? "TAKES" : "SORT";
          break;
        case "; member": f = token.equals(";") ? 0 : 1; may = "SORT"; break;
        default: throw new IllegalStateException(may);
      }
      if (f != 0) {
        fault = f;
        return -1000100 - starts.get(k);
      }
    }
    stand(made);
    return made.members.size();
  }

  private static int number(String token, boolean figures, int least, int most) {
    if (!figures || token.length() > 2) return 1;
    int n = Integer.parseInt(token);
    return n < least || n > most ? 2 : 0;
  }

  private void stand(Place p) {
    world = p.again();
    before.clear();
    forget();
  }

  private void forget() {
    counts.clear();
    lists.clear();
  }

  private void act() {
    before.addLast(world.again());
    if (before.size() > 24) before.removeFirst();
    forget();
  }

  private int hidden() {
    int bits = 0;
    for (int m = 0; m < world.hidden.size(); m++) if (world.hidden.get(m)) bits += 1 << m;
    return bits;
  }

  private int hide(int m, int is) {
    if (noMember(m) || is != 0 && is != 1) return BAD;
    if (world.hidden.get(m) == (is == 1)) return STATE;
    act();
    world.hidden.set(m, is == 1);
    return hidden();
  }

  private int cost(int m, int v) {
    if (noMember(m) || v < 1 || v > 9) return BAD;
    act();
    int was = world.members.get(m).cost;
    world.members.get(m).cost = v;
    return was;
  }

  private int above(int t, int other) {
    if (noType(t) || other < 0 || other > t) return BAD;
    act();
    return world.above.set(t, other);
  }

  private int undo() {
    if (before.isEmpty()) return STATE;
    world = before.removeLast();
    forget();
    return before.size();
  }

  private int member(int m, int what) {
    if (noMember(m) || what < 0 || what > 6) return BAD;
    Member x = world.members.get(m);
    int[] all = {x.gives, x.cost, x.price(), x.takes.size(), x.takes.size() > 0 ? x.takes.get(0) : NONE,
        x.takes.size() > 1 ? x.takes.get(1) : NONE, world.hidden.get(m) ? 1 : 0};
    return all[what];
  }

  private int type(int t, int what) {
    if (noType(t) || what < 0 || what > 3) return BAD;
    int up = 0, down = 0, giving = 0;
    for (int o = 0; o < world.above.size(); o++) {
      if (world.of(t, o)) up += 1 << o;
      if (world.of(o, t)) down += 1 << o;
    }
    for (int m = 0; m < world.members.size(); m++) if (world.of(world.members.get(m).gives, t)) giving += 1 << m;
    return new int[] {world.above.get(t), up, down, giving}[what];
  }

  // ---- expressions

  /** How many ways to fill the wanted types, one behind the other, for just that price. */
  private BigInteger ways(List<Integer> wanted, int price) {
    if (wanted.isEmpty()) return price == 0 ? BigInteger.ONE : BigInteger.ZERO;
    if (price < wanted.size()) return BigInteger.ZERO;
    String key = wanted + "/" + price;
    BigInteger known = counts.get(key);
    if (known != null) return known;
    BigInteger sum = BigInteger.ZERO;
    for (int m = 0; m < world.members.size(); m++) sum = sum.add(waysWith(m, wanted, price));
    counts.put(key, sum);
    return sum;
  }

  private BigInteger waysWith(int m, List<Integer> wanted, int price) {
    Member x = world.members.get(m);
    if (world.hidden.get(m) || !world.of(x.gives, wanted.get(0))) return BigInteger.ZERO;
    return ways(next(x, wanted), price - x.price());
  }

  private static List<Integer> next(Member x, List<Integer> wanted) {
    List<Integer> then = new ArrayList<>(x.takes);
    then.addAll(wanted.subList(1, wanted.size()));
    return then;
  }

  private BigInteger total(int t) {
    BigInteger sum = BigInteger.ZERO;
    for (int p = 1; p <= 24; p++) sum = sum.add(ways(List.of(t), p));
    return sum;
  }

  /** The first item of each is the price. */
  private List<int[]> writtenOut(int t) {
    return lists.computeIfAbsent(t, k -> {
      List<int[]> all = new ArrayList<>();
      write(List.of(t), new ArrayList<>(), 0, all);
      all.sort(Arrays::compare);
      return all;
    });
  }

  private void write(List<Integer> wanted, List<Integer> code, int price, List<int[]> into) {
    if (price + wanted.size() > 24) return;
    if (wanted.isEmpty()) {
      int[] e = new int[code.size() + 1];
      e[0] = price;
      for (int i = 0; i < code.size(); i++) e[i + 1] = code.get(i);
      into.add(e);
      return;
    }
    for (int m = 0; m < world.members.size(); m++) {
      Member x = world.members.get(m);
      if (world.hidden.get(m) || !world.of(x.gives, wanted.get(0))) continue;
      if (price + x.price() > 24 || !mayEnd(next(x, wanted), 24 - price - x.price())) continue;
      code.add(m);
      write(next(x, wanted), code, price + x.price(), into);
      code.remove(code.size() - 1);
    }
  }

  private boolean mayEnd(List<Integer> wanted, int left) {
    for (int p = 0; p <= left; p++) if (ways(wanted, p).signum() > 0) return true;
    return false;
  }

  private boolean isShort(int t) {
    return total(t).compareTo(BigInteger.valueOf(WRITTEN_OUT)) <= 0;
  }

  /** The price, then the code, of the expression at a place. */
  private int[] at(int t, long place) {
    if (isShort(t)) {
      List<int[]> all = writtenOut(t);
      return place < all.size() ? all.get((int) place) : null;
    }
    BigInteger k = BigInteger.valueOf(place);
    for (int p = 1; p <= 24; p++) {
      BigInteger n = ways(List.of(t), p);
      if (k.compareTo(n) < 0) return spelled(t, p, k);
      k = k.subtract(n);
    }
    return null;
  }

  private int[] spelled(int t, int price, BigInteger place) {
    List<Integer> wanted = List.of(t), made = new ArrayList<>(List.of(price));
    int left = price;
    BigInteger k = place;
    while (!wanted.isEmpty()) {
      int m = 0;
      while (k.compareTo(waysWith(m, wanted, left)) >= 0) {
        k = k.subtract(waysWith(m, wanted, left));
        m++;
      }
      made.add(m);
      left -= world.members.get(m).price();
      wanted = next(world.members.get(m), wanted);
    }
    return made.stream().mapToInt(Integer::intValue).toArray();
  }

  private int many(int t, int price) {
    if (noType(t) || price < 1 || price > 24) return BAD;
    return ways(List.of(t), price).min(MOST).intValue();
  }

  private int cheapest(int t) {
    if (noType(t)) return BAD;
    for (int p = 1; p <= 24; p++) if (ways(List.of(t), p).signum() > 0) return p;
    return NONE;
  }

  private int listed(int t, int place, int j) {
    if (noType(t) || place < 0 || place > 999999998 || j < -1) return BAD;
    int[] e = at(t, place);
    return e == null || j >= e.length - 1 ? NONE : e[j + 1];
  }

  private int end(int[] items, int from, int to, int wanted) {
    if (from >= to || noMember(items[from]) || world.hidden.get(items[from])) return -1;
    Member x = world.members.get(items[from]);
    if (wanted >= 0 && !world.of(x.gives, wanted)) return -1;
    int at = from + 1;
    for (int taken : x.takes) {
      at = end(items, at, to, taken);
      if (at < 0) return -1;
    }
    return at;
  }

  private int priceOf(int[] items, int from, int to) {
    int sum = 0;
    for (int i = from; i < to; i++) sum += world.members.get(items[i]).price();
    return sum;
  }

  private int word(int r, int i, int n, int what) {
    if (r < 0 || r > 7 || n < 1 || n > 24 || what < 0 || what > 1) return BAD;
    if (world.above.isEmpty()) return STATE;
    if (rows[r] == null) return finding(1);
    if (i < 0 || (long) i + n > rows[r].length) return finding(2);
    if (end(rows[r], i, i + n, -1) != i + n) return fine(NONE);
    return fine(what == 0 ? world.members.get(rows[r][i]).gives : priceOf(rows[r], i, i + n));
  }

  private int place(int t, int r, int n) {
    if (noType(t) || r < 0 || r > 7 || n < 1 || n > 24) return BAD;
    if (rows[r] == null) return finding(1);
    if (n > rows[r].length) return finding(2);
    if (end(rows[r], 0, n, t) != n) return fine(NONE);
    int price = priceOf(rows[r], 0, n);
    if (price > 24) return fine(NONE);
    int[] sought = new int[n + 1];
    sought[0] = price;
    System.arraycopy(rows[r], 0, sought, 1, n);
    if (isShort(t)) {
      List<int[]> all = writtenOut(t);
      for (int k = 0; k < all.size(); k++) if (Arrays.equals(all.get(k), sought)) return fine(k);
      throw new IllegalStateException("not listed: " + Arrays.toString(sought));
    }
    BigInteger k = BigInteger.ZERO;
    for (int p = 1; p < price; p++) k = k.add(ways(List.of(t), p));
    List<Integer> wanted = List.of(t);
    int left = price;
    for (int i = 0; i < n; i++) {
      for (int m = 0; m < rows[r][i]; m++) k = k.add(waysWith(m, wanted, left));
      left -= world.members.get(rows[r][i]).price();
      wanted = next(world.members.get(rows[r][i]), wanted);
    }
    return fine(k.compareTo(MOST) < 0 ? k.intValue() : NONE);
  }

  /** Least prices, by trying again until nothing becomes less; types that cannot be had are not in it. */
  private Map<Integer, Integer> least(int alsoHidden) {
    Map<Integer, Integer> best = new TreeMap<>();
    for (boolean again = true; again; ) {
      again = false;
      for (int m = 0; m < world.members.size(); m++) {
        Member x = world.members.get(m);
        if (world.hidden.get(m) || m == alsoHidden || !best.keySet().containsAll(x.takes)) continue;
        int price = x.price() + x.takes.stream().mapToInt(best::get).sum();
        for (int t = 0; t < world.above.size(); t++) {
          if (world.of(x.gives, t) && price < best.getOrDefault(t, Integer.MAX_VALUE)) {
            best.put(t, price);
            again = true;
          }
        }
      }
    }
    return best;
  }

  private int had() {
    if (world.above.isEmpty()) return STATE;
    int bits = 0;
    for (int t : least(-1).keySet()) bits += 1 << t;
    return bits;
  }

  private int needed(int t) {
    if (noType(t)) return BAD;
    int bits = 0;
    for (int m = 0; m < world.members.size(); m++) {
      if (least(-1).containsKey(t) && !least(m).containsKey(t)) bits += 1 << m;
    }
    return bits;
  }

  private int without(int t, int m) {
    if (noType(t) || noMember(m)) return BAD;
    int price = least(m).getOrDefault(t, 25);
    return price > 24 ? NONE : price;
  }

  private int share(int member, int n) {
    if (noMember(member) || n < 0 || n > 999) return BAD;
    List<Integer> shown = new ArrayList<>();
    int prices = 0;
    for (int m = 0; m < world.members.size(); m++) {
      if (world.hidden.get(m)) continue;
      shown.add(m);
      prices += world.members.get(m).price();
    }
    Map<Integer, Integer> parts = new HashMap<>();
    int over = n;
    for (int m : shown) {
      parts.put(m, n * world.members.get(m).price() / prices);
      over -= parts.get(m);
    }
    shown.sort(Comparator.naturalOrder());
    for (int k = 0; k < over; k++) if (k < shown.size()) parts.merge(shown.get(k), 1, Integer::sum);
    return parts.getOrDefault(member, 0);
  }

  private int drawn(int t, int n, int seed, int what) {
    if (noType(t) || n < 1 || n > 60 || seed < 1 || seed > 999999 || what < 0 || what > 1) return BAD;
    BigInteger size = total(t).min(MOST);
    if (size.signum() == 0) return STATE;
    BigInteger x = BigInteger.valueOf(seed);
    int sum = 0;
    for (int k = 0; k < n; k++) {
      x = x.multiply(BigInteger.valueOf(16807)).mod(BigInteger.valueOf(2147483647));
      int[] e = at(t, x.mod(size).longValueExact());
      sum += what == 0 ? e[0] : e.length - 1;
    }
    return sum;
  }

  private int image(int k) {
    if (k < 0 || k > 1) return BAD;
    if (world.above.isEmpty()) return STATE;
    images[k] = world.again();
    return 1;
  }

  private int restore(int k) {
    if (k < 0 || k > 1) return BAD;
    if (images[k] == null) return STATE;
    stand(images[k]);
    return 1;
  }

  // ---- asked: here the language itself finds the body

  private interface Asked {
    int number();
    Member told();
    List<Integer> trace();

    default int size() { trace().add(10); return told().cost; }
    default int mark() { trace().add(20); return number(); }
  }

  private abstract static class Any implements Asked {
    final int number;
    final Member told;
    final List<Integer> trace;

    Any(int number, Member told, List<Integer> trace) {
      this.number = number;
      this.told = told;
      this.trace = trace;
    }

    public int number() { return number; }
    public Member told() { return told; }
    public List<Integer> trace() { return trace; }
  }

  private static class Local extends Any {
    Local(int number, Member told, List<Integer> trace) { super(number, told, trace); }
    public int size() { trace.add(11); return super.size() + mark(); }
    public int mark() { trace.add(21); return super.mark() + told.gives; }
  }

  private static final class Far extends Local {
    Far(int number, Member told, List<Integer> trace) { super(number, told, trace); }
    public int size() { trace.add(12); return 0 - super.size(); }
    public int mark() { trace.add(24); return 2 * super.mark(); }
  }

  private static final class Old extends Local {
    Old(int number, Member told, List<Integer> trace) { super(number, told, trace); }
    public int mark() { trace.add(22); return super.mark() - 1000; }
  }

  private static class Call extends Any {
    Call(int number, Member told, List<Integer> trace) { super(number, told, trace); }
    public int size() { trace.add(13); return super.size() - 100; }
    public int mark() { trace.add(23); return super.mark() - size(); }
  }

  private static final class Maker extends Call {
    Maker(int number, Member told, List<Integer> trace) { super(number, told, trace); }
    public int size() { trace.add(14); return 2 * super.size(); }
  }

  private Any asked(int m) {
    Member x = world.members.get(m);
    switch (x.sort) {
      case 'l': return new Local(m, x, trace);
      case 'f': return new Far(m, x, trace);
      case 'o': return new Old(m, x, trace);
      case 'c': return new Call(m, x, trace);
      default: return new Maker(m, x, trace);
    }
  }

  private int as(int m, int kind) {
    if (noMember(m) || kind < 0 || kind > 5) return BAD;
    Class<?>[] kinds = {Any.class, Local.class, Far.class, Old.class, Call.class, Maker.class};
    return kinds[kind].isInstance(asked(m)) ? fine(m) : finding(3);
  }

  private int ask(int m, int what) {
    if (noMember(m) || what < 0 || what > 1) return BAD;
    trace.clear();
    return what == 0 ? asked(m).size() : asked(m).mark();
  }

  private int count(int what) {
    switch (what) {
      case 0: return (int) Arrays.stream(rows).filter(r -> r != null).count();
      case 1: return world.above.size();
      case 2: return world.members.size();
      case 3: return hidden();
      case 4: return before.size();
      case 5: return tape.length();
      default: return BAD;
    }
  }
}
