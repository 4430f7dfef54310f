import java.io.IOException;
import java.io.UncheckedIOException;
import java.lang.reflect.InvocationTargetException;
import java.lang.reflect.Method;
import java.lang.reflect.Modifier;
import java.nio.file.Files;
import java.nio.file.Path;
import java.util.Arrays;
import java.util.HashMap;
import java.util.Map;
import java.util.function.Supplier;

/** What the boundary tests share: calls by name, held against what is due by a sentence of the document. */
final class Held {
  static final int NONE = -1000000, BAD = -1000001, STATE = -1000002, FULL = -1000003;
  static final int NULL = -1000011, PLACE = -1000012, KIND = -1000013, SIZE = -1000014, STORE = -1000015;
  static final int FAULT = -1000100;
  static final int MIN = Integer.MIN_VALUE, MAX = Integer.MAX_VALUE;

  /** Member m has price m + 1, so that the price of a word of one tells which item it is. */
  static final String TWELVE = "w1;u0;l0,1;l0,2;l0,3;l0,4;l0,5;l0,6;l0,7;l0,8;l0,9;f0,8;f0,9;o0,4;";
  /** One member of each sort, kind m + 1. */
  static final String FIVE = "w4;u0;u0;u2;u1;l1,2;f3,1;o0,1;c2,3,1;m0,1,2,0;";

  private static final Path DOCUMENT = Path.of("..", "shared", "DOC.md");
  private static final Map<String, Method> CALLS = new HashMap<>();
  private static String document;
  private static String sentence = "";
  private static int asked;
  private static int wrong;

  static {
    for (Method m : WantedTypes.class.getDeclaredMethods()) {
      if (Modifier.isPublic(m.getModifiers())) CALLS.put(m.getName(), m);
    }
  }

  private Held() {}

  /** What follows is due by these words, which must stand in the document. */
  static void sentence(String words) {
    sentence = words;
    if (document == null) document = read();
    if (!document.isEmpty() && !document.contains(words)) fail("the document has no such words");
  }

  private static String read() {
    try {
      return Files.exists(DOCUMENT) ? Files.readString(DOCUMENT).replaceAll("\\s+", " ") : "";
    } catch (IOException e) {
      throw new UncheckedIOException(e);
    }
  }

  static void fail(String what) {
    wrong++;
    if (wrong <= 40) System.out.println("\"" + sentence + "\": " + what);
  }

  static int call(WantedTypes x, String name, int... a) {
    Object[] boxed = new Object[a.length];
    for (int k = 0; k < a.length; k++) boxed[k] = a[k];
    try {
      return (Integer) CALLS.get(name).invoke(x, boxed);
    } catch (IllegalAccessException | InvocationTargetException e) {
      throw new IllegalStateException(told(name, a), e);
    }
  }

  static String told(String name, int... a) {
    String list = Arrays.toString(a);
    return name + "(" + list.substring(1, list.length() - 1) + ")";
  }

  static void due(WantedTypes x, int want, String name, int... a) {
    same(call(x, name, a), want, told(name, a));
  }

  static void same(int got, int want, String what) {
    asked++;
    if (got != want) fail(what + " answered " + got + ", due is " + want);
  }

  /** Neither refused nor found; not for set(), which may answer any number. */
  static void answered(WantedTypes x, String name, int... a) {
    asked++;
    int got = call(x, name, a);
    if (got < NONE) fail(told(name, a) + " answered " + got + ", which is a refusal");
  }

  /** One number of a call goes over its bounds, the others held: answered at both ends, refused beyond. */
  static void bounds(Supplier<WantedTypes> fresh, int which, int least, int most, String name, int... held) {
    for (int v : new int[] {least, most}) answered(fresh.get(), name, with(held, which, v));
    beyond(fresh, which, least - 1, BAD, name, held);
    beyond(fresh, which, most + 1, BAD, name, held);
  }

  /** All from the first number beyond on, to the farthest on its side. */
  static void beyond(Supplier<WantedTypes> fresh, int which, int first, int want, String name, int... held) {
    int farthest = first < 0 ? MIN : MAX;
    for (int v : new int[] {first, farthest}) due(fresh.get(), want, name, with(held, which, v));
    if (first == 0) due(fresh.get(), want, name, with(held, which, MIN));
  }

  private static int[] with(int[] held, int which, int v) {
    int[] a = held.clone();
    a[which] = v;
    return a;
  }

  static int tell(WantedTypes x, String text) {
    feed(x, text);
    return x.world();
  }

  static void feed(WantedTypes x, String text) {
    for (int i = 0; i < text.length(); i++) x.feed(text.charAt(i));
  }

  static WantedTypes of(String text) {
    WantedTypes x = new WantedTypes();
    int members = tell(x, text);
    if (members < 1) fail("no world of " + text + ": " + members);
    return x;
  }

  /** A row of ints with these items. */
  static void write(WantedTypes x, int row, int... items) {
    x.row(row, 2, items.length);
    for (int i = 0; i < items.length; i++) x.set(row, i, items[i]);
  }

  static void end() {
    System.out.println(asked + " answers, " + wrong + " wrong");
    if (wrong != 0) System.exit(1);
  }
}
