import java.lang.reflect.InvocationTargetException;
import java.lang.reflect.Method;
import java.util.ArrayList;
import java.util.Arrays;
import java.util.LinkedHashMap;
import java.util.List;
import java.util.Map;
import java.util.Random;

/** Runs of calls, made from told seeds, on the class and on the Model: every answer must be the same. */
public final class ModelTest {
  private static final int RUNS = 400;
  private static final int CALLS = 512;
  private static final int[] WILD = {Integer.MIN_VALUE, Integer.MIN_VALUE + 1, -1000000001, -1000, -100, -2, -1, 0, 1, 2,
      5, 6, 7, 9, 10, 19, 20, 21, 31, 32, 39, 40, 41, 63, 64, 99, 100, 101, 119, 120, 255, 256, 999, 1000, 9999, 10000,
      99999, 100000, 990400, 999399, 999400, 1000000, Integer.MAX_VALUE - 1, Integer.MAX_VALUE};
  private final SmokeLeans own = new SmokeLeans();
  private final Model model = new Model();
  private final Random random;
  private final Map<String, Method> ownCalls = new LinkedHashMap<>();
  private final Map<String, Method> modelCalls = new LinkedHashMap<>();
  private final List<String> names = new ArrayList<>();
  private final List<String> told = new ArrayList<>();
  private final int rooms;
  private static final Map<String, Integer> FOUND = new LinkedHashMap<>();

  private ModelTest(int seed) {
    random = new Random(seed * 7919L + 17);
    rooms = 1 + random.nextInt(6);
    for (Method m : SmokeLeans.class.getDeclaredMethods()) {
      if (!java.lang.reflect.Modifier.isPublic(m.getModifiers())) continue;
      ownCalls.put(m.getName(), m);
      names.add(m.getName());
    }
    names.sort(null);
    for (Method m : Model.class.getDeclaredMethods()) {
      if (java.lang.reflect.Modifier.isPublic(m.getModifiers())) modelCalls.put(m.getName(), m);
    }
  }

  public static void main(String[] args) throws Exception {
    int wrong = 0;
    for (int run = 0; run < RUNS && wrong < 3; run++) {
      if (!new ModelTest(run).runs(run)) wrong++;
    }
    for (String need : NEEDED_ANSWERS) {
      if (!FOUND.containsKey(need)) { wrong++; System.out.println("no run met " + need); }
    }
    System.out.println(wrong == 0 ? "all runs are as the model tells" : wrong + " faults against the model");
    if (wrong != 0) System.exit(1);
  }

  /** Without these the runs would prove less than they seem to. */
  private static final String[] NEEDED_ANSWERS = {"gap FULL", "room FULL", "feed FULL", "as KIND", "copy KIND",
      "widths NONE", "most NONE", "stop NONE", "order NONE", "line NONE", "undo NONE", "sticks MISSING", "write MISSING",
      "copy MISSING", "lays MISSING", "read MISSING", "sheet SIZE", "line at a wind", "restless", "smokes", "turns some",
      "stops some", "an order of three", "text with a fault", "text that stands", "text of four", "rounds past twenty",
      "read right", "read wrong late", "turned lean"};

  private boolean runs(int run) throws Exception {
    int shape = run % 4;
    if (shape != 3) start();
    for (int i = told.size(); i < CALLS; i++) {
      if (!one(run, pick(shape))) return false;
    }
    return true;
  }

  private void start() throws Exception {
    for (int i = 0; i < rooms; i++) one(-1, "room");
    int gaps = 2 + random.nextInt(18);
    for (int i = 0; i < gaps; i++) one(-1, "gap");
  }

  private String pick(int shape) {
    if (random.nextInt(12) == 0) return "night";
    if (shape == 1 && random.nextInt(3) == 0) return random.nextBoolean() ? "feed" : "house";
    if (random.nextInt(9) == 0) return random.nextBoolean() ? "shut" : "width";
    String name = names.get(random.nextInt(names.size()));
    boolean dear = List.of("stop", "order", "saved", "widths", "line").contains(name);
    return dear && random.nextInt(3) != 0 ? "flow" : name;
  }

  private boolean one(int run, String name) throws Exception {
    if (name.equals("feed") && random.nextInt(3) != 0) return feedText(run);
    return call(run, name, arguments(name));
  }

  private boolean call(int run, String name, Object... args) throws Exception {
    long want;
    try {
      want = ((Number) modelCalls.get(name).invoke(model, args)).longValue();
    } catch (InvocationTargetException e) {
      if (!(e.getCause() instanceof Model.Answer)) throw e;
      int finding = ((Model.Answer) e.getCause()).finding;
      model.findings[finding]++;
      want = -1000000001L - finding;
      met(name + " " + List.of("BEYOND", "FULL", "KIND", "NONE", "STATE", "MISSING", "SIZE").get(finding));
    }
    meets(name, args, want);
    long got = ((Number) ownCalls.get(name).invoke(own, args)).longValue();
    told.add(name + Arrays.toString(args));
    if (got == want) return true;
    System.out.println("run " + run + ", call " + told.size() + ": " + name + Arrays.toString(args) + " answered " + got + ", due is " + want);
    System.out.println(String.join("; ", told.subList(Math.max(0, told.size() - 40), told.size())));
    return false;
  }

  private static void met(String what) { FOUND.merge(what, 1, Integer::sum); }

  private static void meets(String name, Object[] args, long want) {
    if (want < -1000000000) return;
    if (name.equals("line") && want > 0) met("line at a wind");
    if (name.equals("air") && want == 1 && args[0].equals(3)) met("restless");
    if (name.equals("air") && want == 1 && args[0].equals(2)) met("smokes");
    if (name.equals("turns") && want != 0) met("turns some");
    if (name.equals("stop") && want != 0 && args[3].equals(0) && Long.bitCount(want) > 1) met("stops some");
    if (name.equals("order") && (Integer) args[0] >= 2) met("an order of three");
    if (name.equals("house") && want < -20) met("text with a fault");
    if (name.equals("house") && want > 0) met("text that stands");
    if (name.equals("house") && want >= 4) met("text of four");
    if (name.equals("rounds") && want > 20 && want < 60) met("rounds past twenty");
    if (name.equals("read") && want == 0) met("read right");
    if (name.equals("read") && want > 2) met("read wrong late");
    if (name.equals("lean") && want < 0) met("turned lean");
  }

  /** A whole text, fed by fours and less, most often right, else with one place spoilt. */
  private boolean feedText(int run) throws Exception {
    StringBuilder text = new StringBuilder();
    if (random.nextInt(8) == 0) text.append(' ');
    int items = random.nextInt(6);
    for (int i = 0; i <= items; i++) text.append(i == 0 ? "" : random.nextInt(4) == 0 ? " , " : ",").append(item());
    if (random.nextInt(8) == 0) text.append(random.nextBoolean() ? " " : ",");
    if (random.nextInt(3) == 0) spoil(text);
    for (int i = 0; i < text.length();) {
      int n = Math.min(text.length() - i, random.nextInt(5) == 0 ? 1 + random.nextInt(4) : 4);
      int bytes = random.nextInt();
      for (int k = 0; k < n; k++) bytes = bytes << 8 | text.charAt(i + k);
      if (!call(run, "feed", bytes, n)) return false;
      i += n;
    }
    return call(run, random.nextInt(20) == 0 ? "wipe" : "house");
  }

  private String item() {
    int r = random.nextInt(10);
    if (r < 3) return "room";
    if (r < 5) return any("cold", "wind", "thumb") + " ".repeat(random.nextInt(2)) + number(45);
    String to = random.nextInt(3) == 0 ? number(rooms + 1) : "out";
    String measures = (random.nextInt(2) == 0 ? " high " + number(11) : "") + (random.nextInt(2) == 0 ? " side " + number(5) : "")
        + (random.nextInt(2) == 0 ? "cost" + number(105) : "");
    return any("gap", "hidden", "needed", "known", "turning", "chimney") + " " + number(rooms + 1) + " " + to + " " + number(101) + measures;
  }

  private String number(int bound) {
    String zeros = random.nextInt(15) == 0 ? "0".repeat(1 + random.nextInt(12)) : "";
    return zeros + (random.nextInt(25) == 0 ? random.nextInt(3000) : random.nextInt(bound));
  }

  private void spoil(StringBuilder text) {
    int at = random.nextInt(text.length());
    switch (random.nextInt(4)) {
      case 0: text.setCharAt(at, (char) random.nextInt(256)); break;
      case 1: text.setLength(at); break;
      case 2: text.deleteCharAt(at); break;
      default: text.insert(at, any("room", "gap", "high", "out", "9", "4294967296", ",", " ", "z", "@")); break;
    }
  }

  private String any(String... all) { return all[random.nextInt(all.length)]; }

  private Object[] arguments(String name) {
    Class<?>[] types = ownCalls.get(name).getParameterTypes();
    Object[] args = new Object[types.length];
    int[] fit = fitting(name);
    for (int i = 0; i < types.length; i++) {
      int v = random.nextInt(45) == 0 ? wild() : i < fit.length ? fit[i] : wild();
      args[i] = types[i] == boolean.class ? (Object) (v % 2 != 0) : types[i] == long.class ? (Object) number64(v) : (Object) v;
    }
    return args;
  }

  private int wild() { return random.nextInt(4) == 0 ? random.nextInt() : WILD[random.nextInt(WILD.length)]; }

  private long number64(int v) { return random.nextInt(6) == 0 ? random.nextLong() : v; }

  private int to(int bound) { return random.nextInt(bound); }

  private int oneGap() { return to(Math.max(1, model.now.gaps.size())); }

  private int oneRoom() { return to(Math.max(1, model.now.rooms)); }

  private int[] fitting(String name) {
    switch (name) {
      case "gap": return new int[] {to(6), oneRoom(), to(3) == 0 ? oneRoom() : -1, 10000 * to(to(3) == 0 ? 8 : 100) + 1000 * to(10) + 100 * to(4) + to(100)};
      case "of": return new int[] {oneGap(), to(10)};
      case "width": return new int[] {oneGap(), to(100)};
      case "shut": return new int[] {oneGap(), to(5) == 0 ? 1 : 0};
      case "as": return new int[] {oneGap(), to(6)};
      case "night": return nightPart(to(6));
      case "feed": return new int[] {random.nextInt(), 1 + to(4)};
      case "pressure": case "rest": return new int[] {oneRoom()};
      case "flow": case "lean": case "stick": case "turns": return new int[] {oneGap()};
      case "air": return new int[] {to(4)};
      case "seed": return new int[] {random.nextInt()};
      case "widths": return new int[] {oneGap(), to(19) - 9, to(3)};
      case "stop": return new int[] {stopSet(), to(3) == 0 ? to(30) : to(1000), to(2) * to(2) * to(600), to(3)};
      case "order": return new int[] {to(4) == 0 ? to(20) : to(4)};
      case "saved": return new int[] {to(21)};
      case "alone": return new int[] {oneGap(), oneGap()};
      case "sheet": return new int[] {to(4), new int[] {0, 8, 8, 16, 64, 64}[to(6)], to(6) == 0 ? to(60) - 10 : to(41)};
      case "write": return new int[] {to(4), to(40), to(130) - 10};
      case "copy": return new int[] {to(4), to(12), to(4), to(12), to(12)};
      case "sticks": case "lays": case "read": return new int[] {to(4)};
      case "count": return new int[] {to(7)};
      case "status": return new int[] {to(8) - 1};
      default: return new int[0];
    }
  }

  private int[] nightPart(int what) {
    int[] most = {41, 100, 4, 199, 100, 101};
    int v = to(most[what]) - (what == 3 ? 99 : 0);
    boolean still = (what == 3 || what == 5) && to(3) != 0;
    return new int[] {what, still ? 0 : v};
  }

  /** Of the open GAPS some few, and now and then too many or a SHUT one. */
  private int stopSet() {
    int set = 0;
    int chance = to(10) == 0 ? 2 : 4;
    for (int i = 0; i < model.now.gaps.size(); i++) {
      boolean open = !model.now.gaps.get(i).shut || to(60) == 0;
      if (open && to(chance) == 0 && Integer.bitCount(set) < (chance == 2 ? 11 : 7)) set |= 1 << i;
    }
    return set;
  }
}
