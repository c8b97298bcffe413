import java.util.ArrayList;
import java.util.List;
import java.util.TreeSet;
import java.util.regex.Matcher;
import java.util.regex.Pattern;

/**
 * A second telling of the document, as plain as can be: GAP by GAP, with everything worked out anew
 * and nothing kept. ModelTest holds the class against it. Its calls bear the document's names.
 */
public final class Model {
  static final class Answer extends RuntimeException {
    final int finding;
    Answer(int finding) { super(null, null, false, false); this.finding = finding; }
  }

  static class Gap {
    int kind, room, other, width, height, side, cost;
    boolean shut;
    Gap twin() {
      Gap g = new Gap();
      g.kind = kind; g.room = room; g.other = other; g.width = width;
      g.height = height; g.side = side; g.cost = cost; g.shut = shut;
      return g;
    }
  }

  static final class State {
    int rooms = 0, z = 1;
    int cold = 10, wind = 0, from = 0, fan = 0, thumb = 5, slips = 0;
    List<Gap> gaps = new ArrayList<>();
    State twin() {
      State s = new State();
      s.rooms = rooms; s.z = z; s.cold = cold; s.wind = wind; s.from = from;
      s.fan = fan; s.thumb = thumb; s.slips = slips;
      for (Gap g : gaps) s.gaps.add(g.twin());
      return s;
    }
    State with(int gap, boolean shut) { State s = twin(); s.gaps.get(gap).shut = shut; return s; }

    long breadth(Gap g) {
      if (g.shut) return 0;
      if (g.kind == 1) return g.width / 2;
      if (g.kind == 3) return thumb;
      if (g.kind == 4 && g.other == -1 && wind > 0 && from == g.side) return g.width + g.width;
      return g.width;
    }
    long push(Gap g) {
      if (g.other != -1) return 0;
      long p = (long) cold * (5 - g.height);
      int turned = Math.abs(from - g.side);
      if (turned == 0) p += wind;
      else if (turned == 2) p -= wind / 2;
      else p -= wind / 4;
      if (g.kind == 5) p -= 3L * cold;
      return p;
    }
    long ahead(Gap g, int at, long[] p) {
      if (g.other == -1) return 8 * push(g);
      return p[g.room == at ? g.other : g.room];
    }
    long[] round(long[] p) {
      long[] next = new long[rooms];
      for (int r = 0; r < rooms; r++) {
        long top = r == 0 ? 80L * fan : 0, all = 0;
        for (Gap g : gaps) {
          if (g.room != r && g.other != r) continue;
          top += breadth(g) * ahead(g, r, p);
          all += breadth(g);
        }
        next[r] = all == 0 ? 0 : top / all;
      }
      return next;
    }
    /** All PRESSURES behind each ROUND that changed one, the first ahead of all of them. */
    List<long[]> story() {
      List<long[]> all = new ArrayList<>();
      all.add(new long[rooms]);
      for (int i = 1; i <= 60; i++) {
        long[] next = round(all.get(all.size() - 1));
        if (java.util.Arrays.equals(next, all.get(all.size() - 1))) break;
        all.add(next);
      }
      return all;
    }
    long[] pressures() { List<long[]> all = story(); return all.get(all.size() - 1); }
    boolean restless() { return story().size() == 61; }
    long[] flows() {
      long[] p = pressures(), f = new long[gaps.size()];
      for (int i = 0; i < f.length; i++) {
        Gap g = gaps.get(i);
        f[i] = breadth(g) * (ahead(g, g.room, p) - p[g.room]) / 80;
      }
      return f;
    }
    static int lean(long flow) {
      if (flow < 0) return -lean(-flow);
      return flow < 5 ? 0 : flow >= 160 ? 9 : 1 + (int) (flow / 20);
    }
    int lean(int gap) { return lean(flows()[gap]); }
    long fresh() {
      long sum = 0;
      long[] f = flows();
      for (int i = 0; i < f.length; i++) if (gaps.get(i).other == -1) sum += Math.max(0, f[i]);
      return sum;
    }
    long lost() { return fresh() * cold; }
    boolean fire(Gap g) { return (g.kind == 2 || g.kind == 5) && g.other == -1; }
    boolean smokes() {
      long[] f = flows();
      for (int i = 0; i < f.length; i++) if (fire(gaps.get(i)) && !gaps.get(i).shut && f[i] >= 0) return true;
      return false;
    }
    int see(int gap) {
      z = z * 1103515245 + 12345;
      boolean slip = Integer.remainderUnsigned(z >>> 8, 100) < slips;
      return slip || gaps.get(gap).kind == 1 ? 0 : lean(gap);
    }
  }

  State now = new State(), kept = null;
  final StringBuilder tape = new StringBuilder();
  final long[][] sheets = new long[4][];
  final int[] bits = new int[4];
  final int[] findings = new int[7];

  private static void ask(boolean good, int finding) { if (!good) throw new Answer(finding); }
  private static boolean in(long v, long least, long most) { return v >= least && v <= most; }
  private void askGap(int gap) { ask(in(gap, 0, now.gaps.size() - 1), 0); }
  private void askRoom(int room) { ask(in(room, 0, now.rooms - 1), 0); }
  private void askSheet(int s) { ask(in(s, 0, 3), 0); ask(bits[s] != 0, 5); }

  public int room() { ask(now.rooms < 6, 1); return now.rooms++; }

  public int gap(int kind, int room, int to, int of) {
    ask(in(kind, 0, 5), 0);
    askRoom(room);
    ask(to == -1 || in(to, 0, now.rooms - 1), 0);
    ask(to != room, 0);
    ask(in(of, 0, 999399) && in(of % 1000 / 100, 0, 3), 0);
    ask(now.gaps.size() < 20, 1);
    Gap g = new Gap();
    g.kind = kind; g.room = room; g.other = to;
    g.cost = of % 100; of /= 100; g.side = of % 10; of /= 10; g.height = of % 10; g.width = of / 10;
    now.gaps.add(g);
    return now.gaps.size() - 1;
  }

  public int of(int gap, int what) {
    askGap(gap);
    ask(in(what, 0, 9), 0);
    Gap g = now.gaps.get(gap);
    long[] all = {g.kind, g.room, g.other, g.width, g.height, g.side, g.cost, g.shut ? 1 : 0, now.breadth(g), now.push(g)};
    return (int) all[what];
  }

  public int width(int gap, int v) {
    askGap(gap);
    ask(in(v, 0, 99), 0);
    int was = now.gaps.get(gap).width;
    now.gaps.get(gap).width = v;
    return was;
  }

  public int shut(int gap, boolean is) {
    askGap(gap);
    if (now.gaps.get(gap).shut == is) return 0;
    now.gaps.get(gap).shut = is;
    return 1;
  }

  public int as(int gap, int kind) {
    askGap(gap);
    ask(in(kind, 0, 5), 0);
    int own = now.gaps.get(gap).kind;
    ask(kind == own || kind == 0 || kind == 2 && own == 5, 2);
    return (int) now.breadth(now.gaps.get(gap));
  }

  public int night(int what, int v) {
    int was;
    switch (what) {
      case 0: ask(in(v, 0, 40), 0); was = now.cold; now.cold = v; return was;
      case 1: ask(in(v, 0, 99), 0); was = now.wind; now.wind = v; return was;
      case 2: ask(in(v, 0, 3), 0); was = now.from; now.from = v; return was;
      case 3: ask(in(v, -99, 99), 0); was = now.fan; now.fan = v; return was;
      case 4: ask(in(v, 0, 99), 0); was = now.thumb; now.thumb = v; return was;
      case 5: ask(in(v, 0, 100), 0); was = now.slips; now.slips = v; return was;
      default: throw new Answer(0);
    }
  }

  public int feed(int bytes, int n) {
    ask(in(n, 1, 4), 0);
    ask(tape.length() + n <= 120, 1);
    String all = "" + (char) (bytes >> 24 & 255) + (char) (bytes >> 16 & 255) + (char) (bytes >> 8 & 255) + (char) (bytes & 255);
    tape.append(all.substring(4 - n));
    return tape.length();
  }

  public int wipe() { int had = tape.length(); tape.setLength(0); return had; }

  private static final class Fault extends RuntimeException {
    final int place;
    Fault(int place) { super(null, null, false, false); this.place = place; }
  }
  private static final Pattern TOKEN = Pattern.compile("[a-z]+|[0-9]+|,");
  private String text;
  private final List<String> tokens = new ArrayList<>();
  private final List<Integer> places = new ArrayList<>();
  private int at;

  private void cut() {
    tokens.clear(); places.clear(); at = 0;
    int i = 0;
    Matcher m = TOKEN.matcher(text);
    while (i < text.length()) {
      if (text.charAt(i) == ' ') { i++; continue; }
      places.add(i);
      if (m.find(i) && m.start() == i) { tokens.add(m.group()); i = m.end(); }
      else { tokens.add("?"); i++; }
    }
    tokens.add(""); places.add(text.length());
  }
  private Fault fault() { return new Fault(places.get(at)); }
  private String next() { return tokens.get(at); }
  private boolean takes(String word) { if (!next().equals(word)) return false; at++; return true; }
  private int number(int most, int not) {
    if (!next().matches("[0-9]+")) throw fault();
    java.math.BigInteger v = new java.math.BigInteger(next());
    if (v.compareTo(java.math.BigInteger.valueOf(most)) > 0 || v.intValue() == not) throw fault();
    at++;
    return v.intValue();
  }
  private int perhaps(String word, int most) { return takes(word) ? number(most, -1) : 0; }
  private void item(State s) {
    List<String> kinds = List.of("gap", "hidden", "needed", "known", "turning", "chimney");
    if (next().equals("room")) {
      if (s.rooms == 6) throw fault();
      at++; s.rooms++;
    } else if (kinds.contains(next())) {
      if (s.gaps.size() == 20) throw fault();
      Gap g = new Gap();
      g.kind = kinds.indexOf(next()); at++;
      g.room = number(s.rooms - 1, -1);
      g.other = takes("out") ? -1 : number(s.rooms - 1, g.room);
      g.width = number(99, -1);
      g.height = perhaps("high", 9); g.side = perhaps("side", 3); g.cost = perhaps("cost", 99);
      s.gaps.add(g);
    } else if (takes("cold")) s.cold = number(40, -1);
    else if (takes("wind")) s.wind = number(99, -1);
    else if (takes("thumb")) s.thumb = number(99, -1);
    else throw fault();
  }
  public int house() {
    text = tape.toString();
    tape.setLength(0);
    State s = now.twin();
    int items = 0;
    try {
      cut();
      do { item(s); items++; } while (takes(","));
      if (at != tokens.size() - 1) throw fault();
    } catch (Fault f) { return -1 - f.place; }
    now = s;
    return items;
  }

  public int pressure(int room) { askRoom(room); return (int) now.pressures()[room]; }
  public int flow(int gap) { askGap(gap); return (int) now.flows()[gap]; }
  public int lean(int gap) { askGap(gap); return now.lean(gap); }
  public int rounds() { return now.story().size() - 1; }
  public int rest(int room) {
    askRoom(room);
    long sum = 0;
    for (int i = 0; i < now.gaps.size(); i++) {
      if (now.gaps.get(i).room == room) sum += now.flows()[i];
      if (now.gaps.get(i).other == room) sum -= now.flows()[i];
    }
    return (int) sum;
  }
  public int air(int what) {
    ask(in(what, 0, 3), 0);
    if (what == 0) return (int) now.fresh();
    if (what == 1) return (int) now.lost();
    return (what == 2 ? now.smokes() : now.restless()) ? 1 : 0;
  }

  public int seed(int v) { int was = now.z; now.z = v; return was; }
  public int stick(int gap) { askGap(gap); return now.see(gap); }
  public int sticks(int s) {
    askSheet(s);
    int i = 0;
    for (; i < now.gaps.size() && i < sheets[s].length; i++) put(s, i, now.see(i));
    return i;
  }
  public int widths(int gap, int lean, int what) {
    askGap(gap);
    ask(in(lean, -9, 9) && in(what, 0, 2), 0);
    TreeSet<Integer> all = new TreeSet<>();
    State s = now.twin();
    for (int w = 0; w < 100; w++) {
      s.gaps.get(gap).width = w;
      if (s.lean(gap) == lean) all.add(w);
    }
    ask(what == 0 || !all.isEmpty(), 3);
    return what == 0 ? all.size() : what == 1 ? all.first() : all.last();
  }
  public int most() {
    ask(!now.gaps.isEmpty(), 3);
    long[] f = now.flows();
    int best = f.length - 1;
    for (int i = f.length - 1; i >= 0; i--) if (Math.abs(f[i]) >= Math.abs(f[best])) best = i;
    return best;
  }

  public int stop(int set, int coin, int least, int what) {
    for (int i = 0; i < 32; i++) {
      if ((set >>> i & 1) == 1) ask(i < now.gaps.size() && !now.gaps.get(i).shut, 0);
    }
    ask(Integer.bitCount(set) <= 10 && in(coin, 0, 999) && in(least, 0, 99999) && in(what, 0, 2), 0);
    long[] best = null;
    for (int sub = 0; sub <= set; sub++) {
      if ((sub & ~set) != 0) continue;
      State s = now.twin();
      long cost = 0;
      for (int i = 0; i < s.gaps.size(); i++) {
        if ((sub >>> i & 1) == 1) { s.gaps.get(i).shut = true; cost += s.gaps.get(i).cost; }
      }
      if (cost > coin || s.fresh() < least || s.smokes()) continue;
      long[] one = {s.lost(), Integer.bitCount(sub), sub, cost};
      if (best == null || java.util.Arrays.compare(one, best) < 0) best = one;
    }
    ask(best != null, 3);
    return (int) (what == 0 ? best[2] : what == 1 ? best[0] : best[3]);
  }
  private List<long[]> steps() {
    List<long[]> all = new ArrayList<>();
    State s = now.twin();
    while (true) {
      long[] best = null;
      for (int i = 0; i < s.gaps.size(); i++) {
        Gap g = s.gaps.get(i);
        if (g.shut || g.other != -1 || g.kind == 2 || g.kind == 5) continue;
        State t = s.with(i, true);
        if (t.smokes() || t.lost() >= s.lost()) continue;
        if (best == null || t.lost() < best[1]) best = new long[] {i, t.lost()};
      }
      if (best == null) return all;
      all.add(best);
      s = s.with((int) best[0], true);
    }
  }
  public int order(int i) { ask(in(i, 0, 19), 0); ask(i < steps().size(), 3); return (int) steps().get(i)[0]; }
  public int saved(int i) {
    ask(in(i, 0, 20), 0);
    int n = Math.min(i, steps().size());
    return (int) (n == 0 ? now.lost() : steps().get(n - 1)[1]);
  }
  public int line() {
    State s = now.twin();
    for (s.wind = 0; s.wind < 100; s.wind++) if (s.smokes()) return s.wind;
    throw new Answer(3);
  }
  public int alone(int gap, int other) {
    askGap(gap); askGap(other); ask(gap != other, 0);
    return (int) (now.with(other, true).flows()[gap] - now.flows()[gap]);
  }
  public int turns(int gap) {
    askGap(gap);
    int set = 0;
    for (int i = 0; i < now.gaps.size(); i++) {
      int a = now.lean(i), b = now.with(gap, true).lean(i);
      if (a > 0 && b < 0 || a < 0 && b > 0) set += 1 << i;
    }
    return set;
  }
  public int worst() {
    State s = now.twin();
    long[] lost = new long[4];
    for (s.from = 0; s.from < 4; s.from++) lost[s.from] = s.lost();
    int best = 3;
    for (int i = 3; i >= 0; i--) if (lost[i] >= lost[best]) best = i;
    return best;
  }

  private void put(int s, int i, long v) {
    sheets[s][i] = bits[s] == 8 ? (byte) v : bits[s] == 16 ? (short) v : v;
  }
  public int sheet(int s, int b, int n) {
    ask(in(s, 0, 3), 0);
    ask(b == 0 || b == 8 || b == 16 || b == 64, 0);
    ask(n >= 0, 6);
    ask(n <= 40, 0);
    bits[s] = b;
    sheets[s] = new long[n];
    return b == 0 ? 0 : n;
  }
  public long write(int s, int i, long v) {
    askSheet(s);
    ask(in(i, 0, sheets[s].length - 1), 0);
    long was = sheets[s][i];
    put(s, i, v);
    return was;
  }
  public int copy(int s, int from, int t, int to, int n) {
    ask(in(s, 0, 3) && in(t, 0, 3), 0);
    ask(bits[s] != 0 && bits[t] != 0, 5);
    ask(bits[s] == bits[t], 2);
    ask(from >= 0 && to >= 0 && n >= 0, 0);
    ask((long) from + n <= sheets[s].length && (long) to + n <= sheets[t].length, 0);
    long[] row = java.util.Arrays.copyOfRange(sheets[s], from, from + n);
    for (int i = 0; i < n; i++) sheets[t][to + i] = row[i];
    return n;
  }
  public int lays(int s) {
    askSheet(s);
    int came = 0;
    for (int i = 0; i < sheets[s].length; i++) {
      if (i >= now.gaps.size() || !in(sheets[s][i], 0, 99)) continue;
      now.gaps.get(i).width = (int) sheets[s][i];
      came++;
    }
    return came;
  }
  public int read(int s) {
    askSheet(s);
    for (int i = 0; i < sheets[s].length; i++) {
      if (i >= now.gaps.size() || sheets[s][i] != now.lean(i)) return i + 1;
    }
    return 0;
  }

  public int image() { kept = now.twin(); return 1; }
  public int undo() { ask(kept != null, 3); now = kept.twin(); return now.gaps.size(); }
  public int tear() { int was = kept == null ? 0 : 1; kept = null; return was; }
  public int count(int what) {
    int open = 0, widths = 0, costs = 0;
    for (Gap g : now.gaps) {
      widths += g.width;
      if (!g.shut) { open++; costs += g.cost; }
    }
    ask(in(what, 0, 6), 0);
    return new int[] {now.rooms, now.gaps.size(), open, tape.length(), now.z, widths, costs}[what];
  }
  public int status(int which) {
    ask(in(which, -1, 6), 0);
    return which >= 0 ? findings[which] : java.util.Arrays.stream(findings).sum();
  }
}
