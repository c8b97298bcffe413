import java.util.ArrayList;
import java.util.List;

/**
 * Each call that is refused: which finding it answers, that just this one is counted, and that all
 * else is as it was. For the last, all that can be seen is held against a twin made by the same calls
 * but for the refused one.
 */
public final class RefusedTest extends Checks {
  interface Call { long on(SmokeLeans x); }
  interface Maker { SmokeLeans make(); }
  private static final int[] NO_SHEET = {-1, 4, LEAST_INT, MOST_INT};

  public static void main(String[] args) {
    theHouse(); gapAsked(); ofAsked(); theNight(); theText(); air(); theStick(); stopping(); orderAndAlone();
    sheetAsked(); writeAsked(); copyAsked(); laysAndRead(); images(); earlierFindingsFirst(); faults(); lastCall();
    end("all refused calls leave all as it was");
  }

  /** Some of everything, nothing at its end; GAP 3 is SHUT, sheet 3 is MISSING, an image is kept. */
  private static SmokeLeans some() {
    SmokeLeans x = house("room, room, gap 0 out 11 high 2 cost 7");
    x.image();
    told(x, "room, hidden 1 out 9 side 2 cost 8, needed 0 1 33 high 9, turning 2 out 44 side 1, chimney 1 out 31, known 0 2 1");
    int[] night = {12, 7, 1, 3, 9, 30};
    for (int i = 0; i < 6; i++) x.night(i, night[i]);
    x.shut(3, true);
    x.seed(77);
    feed(x, "room,");
    x.sheet(0, 8, 3);
    x.sheet(1, 16, 2);
    x.sheet(2, 64, 4);
    for (int s = 0; s < 3; s++) for (int i = 0; i < 4; i++) if (i < 2 || s == 2) x.write(s, i, 10 * s + i + 1);
    return x;
  }

  /** All that can be full is. */
  private static SmokeLeans full() {
    SmokeLeans x = house("room,room,room,room,room,room");
    for (int g = 0; g < 20; g++) x.gap(g % 6, g % 6, g % 4 == 3 ? (g + 1) % 6 : -1, 990000 - 7000 * g + 100 * (g % 4) + g);
    for (int i = 0; i < 30; i++) x.feed(0x20202020, 4);
    x.sheet(1, 8, 40);
    return x;
  }

  private static SmokeLeans bare() { return new SmokeLeans(); }

  private static SmokeLeans oneRoom() { return house("room"); }

  /** Twelve open GAPS. */
  private static SmokeLeans twelve() {
    SmokeLeans x = house("room");
    for (int g = 0; g < 12; g++) x.gap(0, 0, -1, 10000 + 2000 * (g % 5) + 9 * g);
    return x;
  }

  private static void refused(Maker maker, String told, Call call, long finding) {
    SmokeLeans x = maker.make(), twin = maker.make();
    due(told, call.on(x), finding);
    for (int k = -1; k < 7; k++) {
      boolean counted = k == -1 || k == -1000000001L - finding;
      due("status(" + k + ") behind " + told, x.status(k), twin.status(k) + (counted ? 1 : 0));
    }
    alike(told, x, twin);
  }

  private static void alike(String told, SmokeLeans x, SmokeLeans twin) {
    List<String> seen = allSeen(x), want = allSeen(twin);
    for (int i = 0; i < Math.max(seen.size(), want.size()); i++) {
      String got = i < seen.size() ? seen.get(i) : "nothing", is = i < want.size() ? want.get(i) : "nothing";
      if (got.equals(is)) continue;
      complain("behind " + told + " there is " + got + ", due is " + is);
      return;
    }
  }

  private static List<String> allSeen(SmokeLeans x) {
    List<String> all = new ArrayList<>();
    houseSeen(x, all);
    for (int s = 0; s < 4; s++) sheetSeen(x, s, all);
    feed(x, "room");
    all.add("house " + x.house() + " rooms " + x.count(0));
    for (int i = 0; i < 6; i++) all.add("night " + i + " is " + x.night(i, 0));
    all.add("undo " + x.undo());
    for (int i = 0; i < 7; i++) all.add("count behind undo " + i + " is " + x.count(i));
    all.add("tear " + x.tear());
    return all;
  }

  private static void houseSeen(SmokeLeans x, List<String> all) {
    for (int i = 0; i < 7; i++) all.add("count " + i + " is " + x.count(i));
    for (int g = 0; g < x.count(1); g++) {
      for (int what = 0; what < 10; what++) all.add("of " + g + " " + what + " is " + x.of(g, what));
      all.add("flow " + g + " is " + x.flow(g));
    }
    for (int r = 0; r < 6; r++) all.add("pressure " + r + " is " + x.pressure(r));
  }

  private static void sheetSeen(SmokeLeans x, int s, List<String> all) {
    for (int i = 0; i < 41; i++) {
      long was = x.write(s, i, 70000);
      all.add("number " + i + " of sheet " + s + " was " + was + ", is " + (was <= SIZE ? was : x.write(s, i, 0)));
      if (was < -1000000000) return;
    }
  }

  private static void theHouse() {
    refused(RefusedTest::full, "room() for a 7th", x -> x.room(), FULL);
    for (int gap : new int[] {-1, 6, LEAST_INT, MOST_INT}) {
      refused(RefusedTest::some, "width(" + gap + ", 5)", x -> x.width(gap, 5), BEYOND);
      refused(RefusedTest::some, "shut(" + gap + ", true)", x -> x.shut(gap, true), BEYOND);
      refused(RefusedTest::some, "shut(" + gap + ", false)", x -> x.shut(gap, false), BEYOND);
    }
    refused(RefusedTest::full, "width(20, 5)", x -> x.width(20, 5), BEYOND);
    refused(RefusedTest::full, "shut(20, true)", x -> x.shut(20, true), BEYOND);
    refused(RefusedTest::bare, "width(0, 5)", x -> x.width(0, 5), BEYOND);
    refused(RefusedTest::bare, "shut(0, true)", x -> x.shut(0, true), BEYOND);
    for (int v : new int[] {-1, 100, LEAST_INT, MOST_INT}) {
      refused(RefusedTest::some, "width(0, " + v + ")", x -> x.width(0, v), BEYOND);
    }
  }

  private static void gapAsked() {
    for (int kind : new int[] {-1, 6, LEAST_INT, MOST_INT}) {
      refused(RefusedTest::some, "gap of kind " + kind, x -> x.gap(kind, 0, -1, 10000), BEYOND);
    }
    for (int room : new int[] {-1, 3, 6, LEAST_INT, MOST_INT}) {
      refused(RefusedTest::some, "gap of room " + room, x -> x.gap(0, room, 1, 10000), BEYOND);
    }
    for (int to : new int[] {-2, 3, 6, LEAST_INT, MOST_INT}) {
      refused(RefusedTest::some, "gap to " + to, x -> x.gap(0, 0, to, 10000), BEYOND);
    }
    for (int room = -1; room < 3; room++) {
      int both = room;
      refused(RefusedTest::some, "gap of and to " + room, x -> x.gap(0, both, both, 10000), BEYOND);
    }
    refused(RefusedTest::bare, "gap without rooms", x -> x.gap(0, 0, -1, 0), BEYOND);
    refused(RefusedTest::oneRoom, "gap to a second room that isn't", x -> x.gap(0, 0, 1, 0), BEYOND);
    for (int of : new int[] {-1, 400, 999, 10400, 990400, 999400, 999999, 1000000, LEAST_INT, MOST_INT}) {
      refused(RefusedTest::some, "gap of measures " + of, x -> x.gap(0, 0, -1, of), BEYOND);
    }
    refused(RefusedTest::full, "a 21st gap", x -> x.gap(0, 0, -1, 0), FULL);
    refused(RefusedTest::full, "a 21st gap inside", x -> x.gap(5, 5, 0, 999399), FULL);
  }

  private static void ofAsked() {
    for (int gap : new int[] {-1, 6, LEAST_INT, MOST_INT}) {
      refused(RefusedTest::some, "of(" + gap + ", 0)", x -> x.of(gap, 0), BEYOND);
      refused(RefusedTest::some, "of(" + gap + ", 9)", x -> x.of(gap, 9), BEYOND);
      refused(RefusedTest::some, "as(" + gap + ", 0)", x -> x.as(gap, 0), BEYOND);
    }
    refused(RefusedTest::bare, "of(0, 0)", x -> x.of(0, 0), BEYOND);
    refused(RefusedTest::full, "of(20, 0)", x -> x.of(20, 0), BEYOND);
    refused(RefusedTest::bare, "as(0, 0)", x -> x.as(0, 0), BEYOND);
    refused(RefusedTest::full, "as(20, 0)", x -> x.as(20, 0), BEYOND);
    for (int what : new int[] {-1, 10, LEAST_INT, MOST_INT}) {
      refused(RefusedTest::some, "of(0, " + what + ")", x -> x.of(0, what), BEYOND);
    }
    for (int kind : new int[] {-1, 6, LEAST_INT, MOST_INT}) {
      refused(RefusedTest::some, "as(4, " + kind + ")", x -> x.as(4, kind), BEYOND);
    }
    refused(RefusedTest::some, "a hidden one as needed", x -> x.as(1, 2), KIND);
    refused(RefusedTest::some, "a needed one as chimney", x -> x.as(2, 5), KIND);
    refused(RefusedTest::some, "a shut one as known", x -> x.as(3, 3), KIND);
    refused(RefusedTest::some, "a chimney as turning", x -> x.as(4, 4), KIND);
  }

  private static void theNight() {
    int[][] limits = {{0, 40}, {0, 99}, {0, 3}, {-99, 99}, {0, 99}, {0, 100}};
    for (int what = 0; what < 6; what++) {
      int part = what;
      for (int v : new int[] {limits[what][0] - 1, limits[what][1] + 1, LEAST_INT, MOST_INT}) {
        refused(RefusedTest::some, "night(" + what + ", " + v + ")", x -> x.night(part, v), BEYOND);
      }
    }
    for (int what : new int[] {-1, 6, LEAST_INT, MOST_INT}) {
      refused(RefusedTest::some, "night(" + what + ", 0)", x -> x.night(what, 0), BEYOND);
    }
  }

  private static void theText() {
    for (int n : new int[] {-1, 0, 5, LEAST_INT, MOST_INT}) {
      refused(RefusedTest::some, "feed(97, " + n + ")", x -> x.feed(97, n), BEYOND);
    }
    for (int n = 1; n <= 4; n++) {
      int bytes = n;
      refused(RefusedTest::full, "feed(0, " + n + ") behind 120", x -> x.feed(0, bytes), FULL);
    }
    for (int had = 117; had < 120; had++) {
      int bytes = had;
      refused(() -> tapeOf(bytes), "one more than the tape has place for, behind " + had, x -> x.feed(0, 121 - bytes), FULL);
    }
  }

  private static SmokeLeans tapeOf(int bytes) {
    SmokeLeans x = bare();
    feed(x, "room," + " ".repeat(bytes - 5));
    return x;
  }

  private static void air() {
    for (int room : new int[] {-1, 3, 6, LEAST_INT, MOST_INT}) {
      refused(RefusedTest::some, "pressure(" + room + ")", x -> x.pressure(room), BEYOND);
      refused(RefusedTest::some, "rest(" + room + ")", x -> x.rest(room), BEYOND);
    }
    refused(RefusedTest::bare, "pressure(0)", x -> x.pressure(0), BEYOND);
    refused(RefusedTest::bare, "rest(0)", x -> x.rest(0), BEYOND);
    refused(RefusedTest::full, "pressure(6)", x -> x.pressure(6), BEYOND);
    refused(RefusedTest::full, "rest(6)", x -> x.rest(6), BEYOND);
    for (int gap : new int[] {-1, 6, LEAST_INT, MOST_INT}) {
      refused(RefusedTest::some, "flow(" + gap + ")", x -> x.flow(gap), BEYOND);
      refused(RefusedTest::some, "lean(" + gap + ")", x -> x.lean(gap), BEYOND);
    }
    refused(RefusedTest::bare, "flow(0)", x -> x.flow(0), BEYOND);
    refused(RefusedTest::bare, "lean(0)", x -> x.lean(0), BEYOND);
    refused(RefusedTest::full, "flow(20)", x -> x.flow(20), BEYOND);
    refused(RefusedTest::full, "lean(20)", x -> x.lean(20), BEYOND);
    for (int what : new int[] {-1, 4, LEAST_INT, MOST_INT}) {
      refused(RefusedTest::some, "air(" + what + ")", x -> x.air(what), BEYOND);
    }
  }

  private static void theStick() {
    for (int gap : new int[] {-1, 6, LEAST_INT, MOST_INT}) {
      refused(RefusedTest::some, "stick(" + gap + ")", x -> x.stick(gap), BEYOND);
      refused(RefusedTest::some, "widths(" + gap + ", 0, 0)", x -> x.widths(gap, 0, 0), BEYOND);
    }
    refused(RefusedTest::bare, "stick(0)", x -> x.stick(0), BEYOND);
    refused(RefusedTest::full, "stick(20)", x -> x.stick(20), BEYOND);
    refused(RefusedTest::bare, "widths(0, 0, 0)", x -> x.widths(0, 0, 0), BEYOND);
    refused(RefusedTest::full, "widths(20, 0, 0)", x -> x.widths(20, 0, 0), BEYOND);
    for (int lean : new int[] {-10, 10, LEAST_INT, MOST_INT}) {
      refused(RefusedTest::some, "widths(0, " + lean + ", 0)", x -> x.widths(0, lean, 0), BEYOND);
    }
    for (int what : new int[] {-1, 3, LEAST_INT, MOST_INT}) {
      refused(RefusedTest::some, "widths(0, 0, " + what + ")", x -> x.widths(0, 0, what), BEYOND);
    }
    refused(RefusedTest::some, "the least of no widths", x -> x.widths(3, 1, 1), NONE);
    refused(RefusedTest::some, "the greatest of no widths", x -> x.widths(3, -1, 2), NONE);
    for (int s : NO_SHEET) refused(RefusedTest::some, "sticks(" + s + ")", x -> x.sticks(s), BEYOND);
    refused(RefusedTest::some, "sticks on a missing sheet", x -> x.sticks(3), MISSING);
    refused(RefusedTest::bare, "most() of no gaps", x -> x.most(), NONE);
  }

  private static void stopping() {
    for (int set : new int[] {8, 15, 64, 65, 1 << 20, 1 << 30, -1, LEAST_INT, MOST_INT}) {
      refused(RefusedTest::some, "stop of " + set, x -> x.stop(set, 0, 0, 0), BEYOND);
    }
    refused(RefusedTest::bare, "stop of a gap that isn't", x -> x.stop(1, 0, 0, 0), BEYOND);
    refused(RefusedTest::full, "stop of gap 20", x -> x.stop(1 << 20, 0, 0, 0), BEYOND);
    refused(RefusedTest::twelve, "stop of eleven", x -> x.stop(2047, 0, 0, 0), BEYOND);
    refused(RefusedTest::twelve, "stop of twelve", x -> x.stop(4095, 0, 0, 0), BEYOND);
    for (int coin : new int[] {-1, 1000, LEAST_INT, MOST_INT}) {
      refused(RefusedTest::some, "stop for " + coin, x -> x.stop(1, coin, 0, 0), BEYOND);
    }
    for (int least : new int[] {-1, 100000, LEAST_INT, MOST_INT}) {
      refused(RefusedTest::some, "stop with fresh " + least, x -> x.stop(1, 0, least, 0), BEYOND);
    }
    for (int what : new int[] {-1, 3, LEAST_INT, MOST_INT}) {
      refused(RefusedTest::some, "stop, what " + what, x -> x.stop(1, 0, 0, what), BEYOND);
    }
    for (int what = 0; what < 3; what++) {
      int asked = what;
      refused(RefusedTest::twelve, "stop, none is fresh enough, " + what, x -> x.stop(1023, 999, 99999, asked), NONE);
    }
  }

  private static void orderAndAlone() {
    for (int i : new int[] {-1, 20, LEAST_INT, MOST_INT}) {
      refused(RefusedTest::some, "order(" + i + ")", x -> x.order(i), BEYOND);
    }
    for (int i : new int[] {-1, 21, LEAST_INT, MOST_INT}) {
      refused(RefusedTest::some, "saved(" + i + ")", x -> x.saved(i), BEYOND);
    }
    refused(RefusedTest::some, "order(19) of fewer", x -> x.order(19), NONE);
    refused(RefusedTest::bare, "order(0) of none", x -> x.order(0), NONE);
    refused(RefusedTest::bare, "line() of no house", x -> x.line(), NONE);
    refused(RefusedTest::twelve, "line() without fire", x -> x.line(), NONE);
    for (int gap : new int[] {-1, 6, LEAST_INT, MOST_INT}) {
      refused(RefusedTest::some, "alone(" + gap + ", 0)", x -> x.alone(gap, 0), BEYOND);
      refused(RefusedTest::some, "alone(0, " + gap + ")", x -> x.alone(0, gap), BEYOND);
      refused(RefusedTest::some, "turns(" + gap + ")", x -> x.turns(gap), BEYOND);
    }
    for (int gap = 0; gap < 6; gap++) {
      int both = gap;
      refused(RefusedTest::some, "alone of " + gap + " and itself", x -> x.alone(both, both), BEYOND);
    }
    refused(RefusedTest::full, "alone(20, 0)", x -> x.alone(20, 0), BEYOND);
    refused(RefusedTest::full, "alone(0, 20)", x -> x.alone(0, 20), BEYOND);
    refused(RefusedTest::bare, "turns(0)", x -> x.turns(0), BEYOND);
    refused(RefusedTest::full, "turns(20)", x -> x.turns(20), BEYOND);
  }

  private static void sheetAsked() {
    for (int s : NO_SHEET) refused(RefusedTest::some, "sheet(" + s + ", 8, 1)", x -> x.sheet(s, 8, 1), BEYOND);
    for (int bits : new int[] {-8, -1, 1, 7, 9, 15, 17, 32, 63, 65, 128, LEAST_INT, MOST_INT}) {
      refused(RefusedTest::some, "sheet(0, " + bits + ", 1)", x -> x.sheet(0, bits, 1), BEYOND);
    }
    for (int bits : new int[] {0, 8, 16, 64}) {
      for (int s : new int[] {0, 3}) {
        refused(RefusedTest::some, "sheet(" + s + ", " + bits + ", -1)", x -> x.sheet(s, bits, -1), SIZE);
        refused(RefusedTest::some, "sheet of the least int", x -> x.sheet(s, bits, LEAST_INT), SIZE);
        refused(RefusedTest::some, "sheet(" + s + ", " + bits + ", 41)", x -> x.sheet(s, bits, 41), BEYOND);
        refused(RefusedTest::some, "sheet of the greatest int", x -> x.sheet(s, bits, MOST_INT), BEYOND);
      }
    }
  }

  private static void writeAsked() {
    for (int s : NO_SHEET) refused(RefusedTest::some, "write(" + s + ", 0, 5)", x -> x.write(s, 0, 5), BEYOND);
    refused(RefusedTest::some, "write on a missing sheet", x -> x.write(3, 0, 5), MISSING);
    for (int i : new int[] {-1, 3, 40, LEAST_INT, MOST_INT}) {
      refused(RefusedTest::some, "write(0, " + i + ", 5)", x -> x.write(0, i, 5), BEYOND);
    }
    refused(RefusedTest::full, "write(1, 40, 5)", x -> x.write(1, 40, 5), BEYOND);
    refused(RefusedTest::emptySheet, "write on a sheet of no numbers", x -> x.write(0, 0, 5), BEYOND);
  }

  private static SmokeLeans emptySheet() {
    SmokeLeans x = bare();
    x.sheet(0, 8, 0);
    x.sheet(1, 8, 1);
    return x;
  }

  /** Sheets 0 and 1 have 5 and 3 numbers of 8 bits. */
  private static SmokeLeans twoSheets() {
    SmokeLeans x = bare();
    x.sheet(0, 8, 5);
    x.sheet(1, 8, 3);
    for (int i = 0; i < 5; i++) x.write(0, i, i + 1);
    for (int i = 0; i < 3; i++) x.write(1, i, i + 11);
    return x;
  }

  private static void copyAsked() {
    for (int s : NO_SHEET) {
      refused(RefusedTest::some, "copy from sheet " + s, x -> x.copy(s, 0, 0, 0, 1), BEYOND);
      refused(RefusedTest::some, "copy to sheet " + s, x -> x.copy(0, 0, s, 0, 1), BEYOND);
    }
    refused(RefusedTest::some, "copy from a missing sheet", x -> x.copy(3, 0, 0, 0, 1), MISSING);
    refused(RefusedTest::some, "copy to a missing sheet", x -> x.copy(0, 0, 3, 0, 1), MISSING);
    refused(RefusedTest::some, "copy of a missing sheet to itself", x -> x.copy(3, 0, 3, 0, 0), MISSING);
    for (int s = 0; s < 3; s++) {
      for (int t = 0; t < 3; t++) {
        int from = s, to = t;
        if (s != t) refused(RefusedTest::some, "copy of other bits", x -> x.copy(from, 0, to, 0, 1), KIND);
      }
    }
    int[][] bad = {{-1, 0, 1}, {0, -1, 1}, {0, 0, -1}, {0, 0, 4}, {5, 0, 1}, {3, 0, 3}, {0, 3, 1}, {0, 2, 2}, {0, 1, 3}, {6, 0, 0},
        {0, 4, 0}, {-1, 0, 0}, {0, -1, 0}, {1, 1, -1}, {MOST_INT, 0, 1}, {0, MOST_INT, 1}, {1, 0, MOST_INT}, {MOST_INT, MOST_INT, 2},
        {LEAST_INT, 0, 1}, {0, LEAST_INT, 1}, {0, 0, LEAST_INT}, {MOST_INT, 0, MOST_INT}};
    for (int[] b : bad) {
      refused(RefusedTest::twoSheets, "copy from " + b[0] + " to " + b[1] + ", " + b[2], x -> x.copy(0, b[0], 1, b[1], b[2]), BEYOND);
    }
    refused(RefusedTest::twoSheets, "copy onto itself past the end", x -> x.copy(0, 0, 0, 1, 5), BEYOND);
    refused(RefusedTest::twoSheets, "copy out of the shorter one", x -> x.copy(1, 1, 0, 0, 3), BEYOND);
  }

  private static void laysAndRead() {
    for (int s : NO_SHEET) {
      refused(RefusedTest::some, "lays(" + s + ")", x -> x.lays(s), BEYOND);
      refused(RefusedTest::some, "read(" + s + ")", x -> x.read(s), BEYOND);
    }
    refused(RefusedTest::some, "lays of a missing sheet", x -> x.lays(3), MISSING);
    refused(RefusedTest::some, "read of a missing sheet", x -> x.read(3), MISSING);
  }

  private static void images() {
    refused(RefusedTest::full, "undo() of nothing", x -> x.undo(), NONE);
    refused(RefusedTest::torn, "undo() of what is torn", x -> x.undo(), NONE);
    for (int what : new int[] {-1, 7, LEAST_INT, MOST_INT}) {
      refused(RefusedTest::some, "count(" + what + ")", x -> x.count(what), BEYOND);
    }
    for (int which : new int[] {-2, 7, LEAST_INT, MOST_INT}) {
      refused(RefusedTest::some, "status(" + which + ")", x -> x.status(which), BEYOND);
    }
  }

  private static SmokeLeans torn() {
    SmokeLeans x = some();
    x.tear();
    return x;
  }

  /** Where several findings hold, the one that is asked first is told. */
  private static void earlierFindingsFirst() {
    refused(RefusedTest::full, "a 21st gap of no kind", x -> x.gap(6, 0, -1, 0), BEYOND);
    refused(RefusedTest::full, "a 21st gap of no room", x -> x.gap(0, 6, -1, 0), BEYOND);
    refused(RefusedTest::full, "a 21st gap to no room", x -> x.gap(0, 0, 6, 0), BEYOND);
    refused(RefusedTest::full, "a 21st gap to its own room", x -> x.gap(0, 2, 2, 0), BEYOND);
    refused(RefusedTest::full, "a 21st gap of no measures", x -> x.gap(0, 0, -1, 400), BEYOND);
    refused(RefusedTest::some, "no gap as no kind of it", x -> x.as(6, 5), BEYOND);
    refused(RefusedTest::full, "feed of 5 behind 120", x -> x.feed(0, 5), BEYOND);
    refused(RefusedTest::full, "feed of 0 behind 120", x -> x.feed(0, 0), BEYOND);
    refused(RefusedTest::some, "widths of none, what 3", x -> x.widths(3, 1, 3), BEYOND);
    refused(RefusedTest::twelve, "stop by none, what 3", x -> x.stop(1, 0, 99999, 3), BEYOND);
    refused(RefusedTest::bare, "order(20) of none", x -> x.order(20), BEYOND);
    refused(RefusedTest::some, "no sheet, below 0", x -> x.sheet(4, 8, -1), BEYOND);
    refused(RefusedTest::some, "other bits, below 0", x -> x.sheet(0, 9, -1), BEYOND);
    refused(RefusedTest::some, "missing, and no such number", x -> x.write(3, -1, 0), MISSING);
    refused(RefusedTest::some, "no sheet, the other is missing", x -> x.copy(4, 0, 3, 0, 1), BEYOND);
    refused(RefusedTest::some, "missing, the other is no sheet", x -> x.copy(3, 0, 4, 0, 1), BEYOND);
    refused(RefusedTest::some, "missing, and too many", x -> x.copy(3, 0, 0, 0, 41), MISSING);
    refused(RefusedTest::some, "missing, and below 0", x -> x.copy(0, -1, 3, 0, 1), MISSING);
    refused(RefusedTest::some, "other bits, and too many", x -> x.copy(0, 0, 1, 0, 41), KIND);
    refused(RefusedTest::some, "other bits, and below 0", x -> x.copy(0, -1, 1, 0, -1), KIND);
  }

  /** A text with a FAULT changes nothing but that THE TAPE is empty, and that is no finding. */
  private static void faults() {
    fault(RefusedTest::some, "room, cold 3, hidden 0 out 5 cost 9, wind 1, thumb 2, roon", 54);
    fault(RefusedTest::some, "gap 0 out 9 high 10", 17);
    fault(RefusedTest::some, "room, room, room, room, room", 18);
    fault(RefusedTest::some, "cold 3,", 7);
    fault(RefusedTest::bare, "room, gap 0 out 5, room, gap 1 1 5", 31);
    fault(RefusedTest::bare, "", 0);
    fault(RefusedTest::full, "cold 1, gap 0 out 5", 8);
    fault(RefusedTest::full, "thumb 1, room", 9);
  }

  private static void fault(Maker maker, String text, int place) {
    SmokeLeans x = maker.make(), twin = maker.make();
    x.wipe();
    twin.wipe();
    text(x, text, -1 - place);
    for (int k = -1; k < 7; k++) due("status(" + k + ") behind " + text, x.status(k), twin.status(k));
    alike(text, x, twin);
  }

  /** An object is good for 512 calls, be they refused or not. */
  private static void lastCall() {
    SmokeLeans x = new SmokeLeans();
    for (int i = 0; i < 511; i++) x.undo();
    due("the 512th call", x.status(3), 511);
  }
}
