/** Each promise by itself, with answers worked out by hand from the document. */
public final class PromiseTest extends Checks {
  public static void main(String[] args) {
    newObject(); rooms(); gaps(); measures(); widthAndShut(); asKinds(); night();
    tape(); textsThatStand(); textsWithFaults(); textLimits();
    pressures(); restlessness(); flows(); leans(); smoke();
    sticks(); sticksOnSheets(); widthsByLean(); most();
    stopLeast(); stopFewest(); stopAsk(); order(); line(); alone(); turns(); worst();
    sheets(); copies(); lays(); reads(); images(); counts(); status();
    end("all promises are kept");
  }

  private static void fault(String text, int place) {
    SmokeLeans x = house("room, room, gap 0 out 10");
    text(x, text, -1 - place);
    due("rooms behind the fault of " + text, x.count(0), 2);
    due("gaps behind the fault of " + text, x.count(1), 1);
    due("tape behind the fault of " + text, x.count(3), 0);
    due("night behind the fault of " + text, x.night(0, 10), 10);
    due("status behind the fault of " + text, x.status(-1), 0);
  }

  private static void newObject() {
    SmokeLeans x = new SmokeLeans();
    int[] counts = {0, 0, 0, 0, 1, 0, 0};
    for (int i = 0; i < 7; i++) due("new count(" + i + ")", x.count(i), counts[i]);
    int[] night = {10, 0, 0, 0, 5, 0};
    for (int i = 0; i < 6; i++) due("new night(" + i + ")", x.night(i, night[i]), night[i]);
    due("new tear", x.tear(), 0);
    due("new undo", x.undo(), NONE);
    for (int s = 0; s < 4; s++) due("new lays", x.lays(s), MISSING);
    due("new air(2)", x.air(2), 0);
    due("new status", x.status(-1), 5);
  }

  private static void rooms() {
    SmokeLeans x = new SmokeLeans();
    for (int i = 0; i < 6; i++) due("room", x.room(), i);
    due("7th room", x.room(), FULL);
    due("rooms", x.count(0), 6);
    due("status(1)", x.status(1), 1);
  }

  private static void gaps() {
    SmokeLeans x = new SmokeLeans();
    due("gap without rooms", x.gap(0, 0, -1, 0), BEYOND);
    x.room();
    x.room();
    int[][] bad = {{-1, 0, -1, 0}, {6, 0, -1, 0}, {0, -1, -1, 0}, {0, 2, -1, 0}, {0, 0, -2, 0}, {0, 0, 2, 0}, {0, 1, 1, 0},
        {0, -1, 0, 0}, {0, 0, -1, -1}, {0, 0, -1, 999400}, {0, 0, -1, 1000000}, {0, 0, -1, 400}, {0, 0, -1, LEAST_INT},
        {MOST_INT, 0, -1, 0}, {LEAST_INT, 0, -1, 0}, {0, MOST_INT, -1, 0}, {0, 0, MOST_INT, 0}, {0, 0, -1, MOST_INT}};
    for (int[] b : bad) due("bad gap", x.gap(b[0], b[1], b[2], b[3]), BEYOND);
    due("none came", x.count(1), 0);
    due("greatest", x.gap(5, 1, 0, 999399), 0);
    due("least", x.gap(0, 0, 1, 0), 1);
    for (int i = 2; i < 20; i++) due("gap", x.gap(i % 6, 1, -1, 10000), i);
    due("21st gap", x.gap(0, 0, -1, 0), FULL);
    due("21st gap, bad", x.gap(0, 0, -1, 400), BEYOND);
    due("gaps", x.count(1), 20);
  }

  private static void measures() {
    SmokeLeans x = new SmokeLeans();
    x.room();
    x.room();
    x.gap(4, 1, 0, 987654 - 300);
    int[] want = {4, 1, 0, 98, 7, 3, 54, 0, 98, 0};
    for (int i = 0; i < 10; i++) due("of(0, " + i + ")", x.of(0, i), want[i]);
    due("of(0, 10)", x.of(0, 10), BEYOND);
    due("of(0, -1)", x.of(0, -1), BEYOND);
    due("of(1, 0)", x.of(1, 0), BEYOND);
    due("of(-1, 0)", x.of(-1, 0), BEYOND);
    for (int side = 0; side < 4; side++) x.gap(4, 0, -1, 70000 + 100 * side);
    x.night(1, 7);
    int[][] pushes = {{57, 49, 47, 49}, {49, 57, 49, 47}, {47, 49, 57, 49}, {49, 47, 49, 57}};
    for (int from = 0; from < 4; from++) {
      x.night(2, from);
      for (int side = 0; side < 4; side++) {
        due("push from " + from + " on " + side, x.of(1 + side, 9), pushes[from][side]);
        due("turned breadth", x.of(1 + side, 8), from == side ? 14 : 7);
      }
    }
    due("turning inside, from its side", x.of(0, 8), 98);
    due("out is told as -1", x.of(1, 2), -1);
    x.shut(4, true);
    due("shut", x.of(4, 7), 1);
    due("breadth of a shut one", x.of(4, 8), 0);
    due("push of a shut one", x.of(4, 9), 57);
    x.night(1, 0);
    due("turning without wind", x.of(1, 8), 7);
    x.shut(4, false);
    due("turning on its side without wind", x.of(4, 8), 7);
    x.gap(5, 0, -1, 99000);
    due("push of a chimney", x.of(5, 9), -70);
    x.gap(2, 0, -1, 99000);
    due("push of a needed one", x.of(6, 9), -40);
    x.gap(5, 0, 1, 99000);
    due("chimney inside", x.of(7, 9), 0);
  }

  private static void widthAndShut() {
    SmokeLeans x = house("room, hidden 0 out 11, known 0 out 11");
    due("width", x.width(0, 99), 11);
    due("hidden breadth", x.of(0, 8), 49);
    due("width again", x.width(0, 0), 99);
    due("hidden of 1", x.width(0, 1) + x.of(0, 8), 0);
    due("width 100", x.width(0, 100), BEYOND);
    due("width -1", x.width(0, -1), BEYOND);
    due("width of no gap", x.width(2, 1), BEYOND);
    due("width stays", x.of(0, 3), 1);
    due("known breadth", x.of(1, 8), 5);
    x.night(4, 88);
    due("known by thumb", x.of(1, 8), 88);
    due("open an open one", x.shut(1, false), 0);
    due("shut", x.shut(1, true), 1);
    due("shut again", x.shut(1, true), 0);
    due("shut known breadth", x.of(1, 8), 0);
    due("open", x.shut(1, false), 1);
    due("shut of no gap", x.shut(2, true), BEYOND);
    due("shut of no gap", x.shut(-1, true), BEYOND);
  }

  private static void asKinds() {
    SmokeLeans x = house("room, gap 0 out 9, hidden 0 out 9, needed 0 out 9, known 0 out 9, turning 0 out 9, chimney 0 out 9");
    x.night(1, 1);
    int[] breadths = {9, 4, 9, 5, 18, 9};
    for (int g = 0; g < 6; g++) {
      for (int k = 0; k < 6; k++) {
        boolean is = k == 0 || k == g || k == 2 && g == 5;
        due("as(" + g + ", " + k + ")", x.as(g, k), is ? breadths[g] : KIND);
      }
    }
    due("as of no kind", x.as(0, 6), BEYOND);
    due("as of no kind", x.as(0, -1), BEYOND);
    due("as of no gap", x.as(6, 1), BEYOND);
    x.shut(5, true);
    due("as of a shut one", x.as(5, 2), 0);
    due("status(2)", x.status(2), 24);
  }

  private static void night() {
    SmokeLeans x = new SmokeLeans();
    int[][] bounds = {{0, 40, 10}, {0, 99, 0}, {0, 3, 0}, {-99, 99, 0}, {0, 99, 5}, {0, 100, 0}};
    for (int what = 0; what < 6; what++) {
      int[] b = bounds[what];
      due("below", x.night(what, b[0] - 1), BEYOND);
      due("above", x.night(what, b[1] + 1), BEYOND);
      due("least", x.night(what, b[0]), b[2]);
      due("most", x.night(what, b[1]), b[0]);
      due("was", x.night(what, b[2]), b[1]);
    }
    due("night(6)", x.night(6, 0), BEYOND);
    due("night(-1)", x.night(-1, 0), BEYOND);
  }

  private static void tape() {
    SmokeLeans x = new SmokeLeans();
    due("feed 0", x.feed(1, 0), BEYOND);
    due("feed 5", x.feed(1, 5), BEYOND);
    due("feed -1", x.feed(1, -1), BEYOND);
    due("feed most", x.feed(1, MOST_INT), BEYOND);
    due("feed 3 lowest", x.feed(0x7A726F6F, 3), 3);
    due("feed 1 lowest", x.feed(0x4142436D, 1), 4);
    due("the highest first", x.house(), 1);
    for (int i = 1; i <= 29; i++) due("feed", x.feed(0x20202020, 4), 4 * i);
    due("feed", x.feed(0, 3), 119);
    due("feed past the end", x.feed(0, 2), FULL);
    due("bad n when full", x.feed(0, 5), BEYOND);
    due("feed to the end", x.feed(0, 1), 120);
    due("feed when full", x.feed(0, 1), FULL);
    due("count(3)", x.count(3), 120);
    due("wipe", x.wipe(), 120);
    due("wipe again", x.wipe(), 0);
    due("feed", x.feed(-1, 4), 4);
    due("a byte that begins no token", x.house(), -1);
    due("house empties", x.count(3), 0);
  }

  private static void textsThatStand() {
    SmokeLeans x = new SmokeLeans();
    text(x, "room", 1);
    text(x, "  room ,room  ,  room ", 3);
    text(x, "gap0out9high8side3cost99", 1);
    int[] first = {0, 0, -1, 9, 8, 3, 99, 0};
    for (int i = 0; i < 8; i++) due("first told, " + i, x.of(0, i), first[i]);
    text(x, "chimney 2 1 00000000000000000099 side 2", 1);
    int[] second = {5, 2, 1, 99, 0, 2, 0, 0};
    for (int i = 0; i < 8; i++) due("second told, " + i, x.of(1, i), second[i]);
    text(x, "hidden 1 out 1 cost 7, needed 1 out 2 high 1, known 1 out 3, turning 1 out 4 high 1 cost 2", 4);
    for (int k = 1; k <= 4; k++) due("kind", x.of(1 + k, 0), k);
    due("cost", x.of(2, 6), 7);
    text(x, "cold 40, wind99, thumb 0, cold 0", 4);
    due("cold told", x.night(0, 1), 0);
    due("wind told", x.night(1, 1), 99);
    due("thumb told", x.night(4, 1), 0);
    text(x, "room,gap 3 2 5", 2);
    due("a room told just ahead", x.of(6, 1), 3);
    due("status", x.status(-1), 0);
  }

  private static void textsWithFaults() {
    fault("", 0);
    fault("   ", 3);
    fault(",", 0);
    fault("room,", 5);
    fault("room, ", 6);
    fault("room,,room", 5);
    fault("room room", 5);
    fault("rooms", 0);
    fault("roo", 0);
    fault("roomz", 0);
    fault("aroom", 0);
    fault("Room", 0);
    fault("room;", 4);
    fault("room\n", 4);
    fault("room, cold 12, high 3", 15);
    fault("cold", 4);
    fault("cold ,", 5);
    fault("cold 41", 5);
    fault("cold 9, wind 100", 13);
    fault("thumb 1000", 6);
    fault("thumb x", 6);
    fault("fan 3", 0);
    fault("7", 0);
    fault("gap", 3);
    fault("gap 2 out 5", 4);
    fault("gap out 1 5", 4);
    fault("gap 1 1 5", 6);
    fault("gap 1 2 5", 6);
    fault("gap 1 room 5", 6);
    fault("gap 1 out", 9);
    fault("gap 1 out 100", 10);
    fault("gap 1 out high 3", 10);
    fault("gap 1 out 5 6", 12);
    fault("gap 1 out 5 high 10", 17);
    fault("gap 1 out 5 side 4", 17);
    fault("gap 1 out 5 cost 100", 17);
    fault("gap 1 out 5 cost", 16);
    fault("gap 1 out 5 side 1 high 3", 19);
    fault("gap 1 out 5 high 1 high 3", 19);
    fault("gap 1 out 5 cost 1 side 3", 19);
    fault("gap 1 out 99999999999999999999999", 10);
    fault("gap 1 out 4294967297", 10);
    fault("room, cold 3, gap 3 out 1", 18);
    fault("gap 1 out 5 (", 12);
    fault("gap 1-1", 5);
  }

  private static void textLimits() {
    SmokeLeans x = new SmokeLeans();
    text(x, "room,room,room,room,room,room,room", -31);
    due("no room came", x.count(0), 0);
    text(x, "room,room,room,room,room,room", 6);
    text(x, "cold 3,room", -8);
    for (int i = 0; i < 19; i++) x.gap(0, 0, -1, 10000);
    text(x, "gap 0 out 1, gap x", -14);
    text(x, "gap 0 out 1", 1);
    text(x, "wind 3, chimney 0 out 1", -9);
    due("gaps", x.count(1), 20);
  }

  private static void pressures() {
    SmokeLeans x = house("room, room, gap 0 out 20, gap 1 0 10");
    // 266 and 0, 266 and 266, 355 and 266, .. till (8000 + 3990) / 30 is 399 again.
    due("pressure(0)", x.pressure(0), 399);
    due("pressure(1)", x.pressure(1), 399);
    due("pressure(2)", x.pressure(2), BEYOND);
    due("pressure(-1)", x.pressure(-1), BEYOND);
    SmokeLeans y = house("room, room, gap 0 out 1 high 5, gap 1 out 1 high 5");
    y.night(3, -7);
    due("fan in room 0", y.pressure(0), -560);
    due("fan not in room 1", y.pressure(1), 0);
    due("one round", y.rounds(), 1);
    y.width(0, 3);
    due("cut towards 0", y.pressure(0), -186);
    y.shut(0, true);
    due("no breadth, no fan", y.pressure(0), 0);
    due("no round", y.rounds(), 0);
  }

  private static void restlessness() {
    SmokeLeans x = house("room, room, gap 0 1 1");
    x.night(3, 1);
    due("grows by rounds", x.pressure(0), 2400);
    due("grows by rounds", x.pressure(1), 2400);
    due("rounds", x.rounds(), 60);
    due("restless", x.air(3), 1);
    SmokeLeans still = house("room, room, gap 0 1 4, gap 1 out 1 high 5");
    still.night(3, 20);
    due("59 rounds", still.rounds(), 59);
    due("59 rounds are rest", still.air(3), 0);
    due("pressure at rest", still.pressure(0), 1996);
    SmokeLeans sixty = house("room, room, gap 0 1 6, gap 1 out 1");
    due("60 rounds", sixty.rounds(), 60);
    due("behind 60", sixty.air(3), 1);
    due("pressure behind 60", sixty.pressure(1), 394);
  }

  private static void flows() {
    // PRESSURE (10 * 400 - 10 * 320) / 20 = 40.
    SmokeLeans x = house("room, gap 0 out 10, gap 0 out 10 high 9");
    due("flow in", x.flow(0), 45);
    due("flow out", x.flow(1), -45);
    due("rest", x.rest(0), 0);
    due("flow of no gap", x.flow(2), BEYOND);
    due("flow of no gap", x.flow(-1), BEYOND);
    due("rest of no room", x.rest(1), BEYOND);
    due("rest of no room", x.rest(-1), BEYOND);
    SmokeLeans y = house("room, room, gap 0 out 10, gap 1 0 10, gap 1 out 10 high 9");
    due("pressure(0)", y.pressure(0), 160);
    due("pressure(1)", y.pressure(1), -80);
    due("flow to the other room", y.flow(1), 30);
    due("flow(0)", y.flow(0), 30);
    due("flow(2)", y.flow(2), -30);
    due("rest(0)", y.rest(0), 0);
    due("rest(1)", y.rest(1), 0);
    y.width(1, 50);
    y.shut(2, true);
    due("rest is less by the inner one", y.rest(1), -y.rest(0) + y.flow(0));
    y.width(1, 10);
    y.shut(2, false);
    due("fresh", y.air(0), 30);
    due("lost", y.air(1), 300);
    due("air(4)", y.air(4), BEYOND);
    due("air(-1)", y.air(-1), BEYOND);
    y.night(0, 0);
    due("not lost without cold", y.air(1), 0);
  }

  private static void leans() {
    SmokeLeans x = house("room, gap 0 out 0 high 5, gap 0 out 99 high 5");
    // The fan alone pushes: flow of the one open gap is the fan's, less what is cut.
    x.shut(1, true);
    x.width(0, 1);
    int[] fans = {4, 5, 19, 20, 39, 40, 99, -4, -5, -19, -20, -99};
    int[] leans = {0, -1, -1, -2, -2, -3, -5, 0, 1, 1, 2, 5};
    for (int i = 0; i < fans.length; i++) {
      x.night(3, fans[i]);
      due("flow by the fan", x.flow(0), -fans[i]);
      due("lean by the fan " + fans[i], x.lean(0), leans[i]);
    }
    due("lean of no gap", x.lean(2), BEYOND);
    SmokeLeans y = house("room, gap 0 out 99, gap 0 out 99 high 9");
    due("a strong flow", y.flow(0), 445);
    due("leans no more than 9", y.lean(0), 9);
    due("leans no less than -9", y.lean(1), -9);
    y.width(0, 40);
    due("lean at 160", y.flow(0) * 100L + y.lean(0), 25609L);
  }

  private static void smoke() {
    SmokeLeans x = house("room, room, needed 0 out 10 high 9, gap 0 out 10, needed 0 1 5");
    due("draws", x.air(2), 0);
    x.shut(1, true);
    due("a flow of 0 smokes", x.air(2), 1);
    x.shut(0, true);
    due("a shut one smokes not, nor one inside", x.air(2), 0);
    x.shut(0, false);
    x.shut(1, false);
    x.width(0, 0);
    due("a width of 0 smokes", x.air(2), 1);
    SmokeLeans y = house("room, chimney 0 out 10, gap 0 out 10 high 9");
    due("a chimney below all", y.air(2), 1);
    SmokeLeans z = house("room, hidden 0 out 10, gap 0 out 10, turning 0 out 10, known 0 out 10");
    due("nothing needed", z.air(2), 0);
  }

  private static void sticks() {
    SmokeLeans x = house("room, gap 0 out 10, hidden 0 out 10 high 9, gap 0 out 10 high 9");
    due("seed", x.seed(1), 1);
    int lean = x.lean(0);
    due("leans", lean, 3);
    x.night(5, 54);
    due("draw 54 of 54", x.stick(0), lean);
    due("z", x.count(4), 1103527590);
    due("draw 32 of 54", x.stick(0), 0);
    due("z", x.count(4), -1770082073);
    due("a hidden one draws, too", x.stick(1), 0);
    due("z", x.count(4), 662824084);
    x.seed(1);
    x.night(5, 55);
    due("draw 54 of 55", x.stick(0), 0);
    x.night(5, 0);
    due("without slips", x.stick(0), lean);
    due("z goes on without slips", x.count(4), -1770082073);
    due("hidden without slips", x.stick(1), 0);
    due("hidden leans all the same", x.lean(1), -1);
    x.night(5, 100);
    for (int i = 0; i < 20; i++) due("all slip", x.stick(0), 0);
    due("stick at no gap", x.stick(3), BEYOND);
    int z = x.count(4);
    due("stick at no gap", x.stick(-1), BEYOND);
    due("no draw at no gap", x.count(4), z);
    due("seed", x.seed(-1000000001), z);
    due("seed that looks like a finding", x.seed(7), -1000000001);
    due("status", x.status(-1), 2);
  }

  private static void sticksOnSheets() {
    SmokeLeans x = house("room, gap 0 out 10, hidden 0 out 10 high 9, gap 0 out 10 high 9");
    due("sticks on no sheet", x.sticks(4), BEYOND);
    due("sticks on no sheet", x.sticks(-1), BEYOND);
    due("sticks on a missing one", x.sticks(1), MISSING);
    due("no draw", x.count(4), 1);
    x.sheet(1, 8, 5);
    for (int i = 0; i < 5; i++) x.write(1, i, 77);
    due("sticks", x.sticks(1), 3);
    due("three draws", x.count(4), 662824084);
    due("seen 0", x.write(1, 0, 0), 3);
    due("seen 1", x.write(1, 1, 0), 0);
    due("seen 2", x.write(1, 2, 0), -2);
    due("the rest stays", x.write(1, 3, 0), 77);
    x.sheet(1, 64, 1);
    x.seed(1);
    due("as far as it has some", x.sticks(1), 1);
    due("seen 0", x.write(1, 0, 0), 3);
    x.sheet(1, 16, 0);
    due("it has none", x.sticks(1), 0);
  }

  private static void widthsByLean() {
    // Flows by width: 1 gives 8, 2 gives 15, 3 gives 20, 99 gives 82.
    SmokeLeans x = house("room, gap 0 out 50, gap 0 out 10 high 9, known 0 out 3 high 9, hidden 0 out 0");
    x.shut(2, true);
    due("lean 1", x.widths(0, 1, 0), 2);
    due("lean 1, least", x.widths(0, 1, 1), 1);
    due("lean 1, greatest", x.widths(0, 1, 2), 2);
    due("lean 0", x.widths(0, 0, 0), 1);
    due("lean 0, least", x.widths(0, 0, 1), 0);
    due("lean 5, greatest", x.widths(0, 5, 2), 99);
    due("lean 6", x.widths(0, 6, 0), 0);
    due("lean 6, least", x.widths(0, 6, 1), NONE);
    due("lean -1, greatest", x.widths(0, -1, 2), NONE);
    due("lean 10", x.widths(0, 10, 0), BEYOND);
    due("lean -10", x.widths(0, -10, 0), BEYOND);
    due("what 3", x.widths(0, 1, 3), BEYOND);
    due("what -1", x.widths(0, 1, -1), BEYOND);
    due("no gap", x.widths(4, 1, 0), BEYOND);
    due("shut", x.widths(2, 0, 0), 100);
    x.shut(2, false);
    due("known", x.widths(2, x.lean(2), 0), 100);
    due("hidden by halves", x.widths(3, 0, 2), 5);
    due("the width stays", x.of(0, 3), 50);
    SmokeLeans y = house("room, gap 0 out 50, gap 0 out 99 high 9");
    due("lean 9", y.widths(0, 9, 2), 99);
    due("lean -9", y.widths(1, -9, 2), 99);
    due("lean -9 of the other", y.widths(0, -9, 0), 0);
  }

  private static void most() {
    SmokeLeans x = new SmokeLeans();
    due("most of none", x.most(), NONE);
    told(x, "room, gap 0 out 0, gap 0 out 10 high 9, gap 0 out 10");
    due("of several the least", x.most(), 1);
    x.shut(1, true);
    due("all still", x.most(), 0);
    x.shut(1, false);
    told(x, "gap 0 out 10 high 9");
    due("the greatest", x.most(), 2);
  }

  private static void stopLeast() {
    // Open all: 30, 30, -60. One of the first two shut: 45, -45. Both: it smokes.
    SmokeLeans x = house("room, gap 0 out 10 cost 9, gap 0 out 10 cost 3, needed 0 out 10 high 9 cost 50");
    due("both pay", x.stop(3, 12, 0, 0), 1);
    due("lost then", x.stop(3, 12, 0, 1), 450);
    due("their costs", x.stop(3, 12, 0, 2), 9);
    due("for so much", x.stop(3, 8, 0, 0), 2);
    due("just so much", x.stop(3, 3, 0, 2), 3);
    due("not for so much", x.stop(3, 2, 0, 0), 0);
    due("fresh enough", x.stop(3, 12, 45, 0), 1);
    due("not fresh enough", x.stop(3, 12, 46, 0), 0);
    due("lost with none", x.stop(3, 12, 46, 1), 600);
    due("just as it is", x.stop(3, 12, 60, 0), 0);
    due("no set does", x.stop(3, 12, 61, 0), NONE);
    due("the fire stopped, too", x.stop(7, 999, 0, 0), 4);
    due("nothing is shut by it", x.count(2), 3);
    x.width(2, 0);
    due("it smokes as it is", x.stop(3, 999, 0, 0), NONE);
    x.night(0, 0);
    x.width(2, 10);
    x.night(3, 9);
    due("without cold the fewest", x.stop(3, 999, 0, 0), 0);
  }

  private static void stopFewest() {
    // {2} leaves 36 and 36, {0, 1} leaves 72.
    SmokeLeans x = house("room, gap 0 out 8, gap 0 out 8, gap 0 out 16, needed 0 out 16 high 9");
    due("the fewest", x.stop(7, 0, 70, 0), 4);
    due("lost then", x.stop(7, 0, 70, 1), 720);
    due("just fresh", x.stop(7, 0, 72, 0), 4);
    due("one little one", x.stop(7, 0, 73, 0), 1);
    due("of these", x.stop(3, 0, 70, 0), 3);
  }

  private static void stopAsk() {
    SmokeLeans x = house("room");
    for (int i = 0; i < 12; i++) x.gap(0, 0, -1, 10000 + 9 * i);
    due("eleven", x.stop(2047, 0, 0, 0), BEYOND);
    due("ten", x.stop(1023, 0, 0, 0), 0);
    due("no such gap", x.stop(4096, 0, 0, 0), BEYOND);
    due("negative", x.stop(LEAST_INT, 0, 0, 0), BEYOND);
    due("all", x.stop(-1, 0, 0, 0), BEYOND);
    due("coin -1", x.stop(1, -1, 0, 0), BEYOND);
    due("coin 1000", x.stop(1, 1000, 0, 0), BEYOND);
    due("least -1", x.stop(1, 0, -1, 0), BEYOND);
    due("least 100000", x.stop(1, 0, 100000, 0), BEYOND);
    due("what 3", x.stop(1, 0, 0, 3), BEYOND);
    due("what -1", x.stop(1, 0, 0, -1), BEYOND);
    due("the most", x.stop(1, 999, 99999, 2), NONE);
    x.shut(11, true);
    due("a shut one", x.stop(2048, 0, 0, 0), BEYOND);
    due("beside a shut one", x.stop(1, 0, 0, 2), 0);
  }

  private static void order() {
    SmokeLeans x = house("room, room, gap 0 out 10, gap 0 out 10, needed 0 out 10 high 9, gap 0 1 20, gap 1 out 0");
    x.shut(3, true);
    due("order(0)", x.order(0), 0);
    due("order(1): the fire draws", x.order(1), NONE);
    due("saved(0)", x.saved(0), 600);
    due("saved(1)", x.saved(1), 450);
    due("saved(20)", x.saved(20), 450);
    due("nothing is shut by it", x.count(2), 4);
    x.width(1, 20);
    due("the one with which least is lost", x.order(0), 1);
    due("order(20)", x.order(20), BEYOND);
    due("order(-1)", x.order(-1), BEYOND);
    due("saved(21)", x.saved(21), BEYOND);
    due("saved(-1)", x.saved(-1), BEYOND);
    SmokeLeans y = house("room, gap 0 out 10, gap 0 out 10 high 9, chimney 0 out 0");
    due("it smokes with each", y.order(0), NONE);
    y.shut(2, true);
    due("it pays", y.order(0), 0);
    due("nothing lost, nothing pays", y.order(1), NONE);
    due("saved(2)", y.saved(2), 0);
    orderOfAll();
  }

  /** No two push alike, and the fan draws through the last: each of 20 steps pays. */
  private static void orderOfAll() {
    SmokeLeans x = house("room, cold 40, wind 40");
    x.night(3, -1);
    for (int i = 0; i < 20; i++) x.gap(0, 0, -1, 100000 + 1000 * (i / 2) + 100 * (i % 2));
    int set = 0;
    for (int i = 0; i < 20; i++) {
      int gap = x.order(i);
      if (gap >= 0 && gap < 20) set |= 1 << gap;
      due("step pays", x.saved(i) > x.saved(i + 1) ? 1 : 0, 1);
    }
    due("all of them", set, (1 << 20) - 1);
    due("behind 19", x.saved(19), 40);
    due("behind all", x.saved(20), 0);
  }

  private static void line() {
    SmokeLeans x = house("room, needed 0 out 10 high 9, gap 0 out 10 side 1");
    due("line", x.line(), 72);
    x.night(1, 71);
    due("below it", x.air(2), 0);
    x.night(1, 72);
    due("on it", x.air(2), 1);
    due("by no wind of its own", x.line(), 72);
    due("wind stays", x.night(1, 99), 72);
    x.night(3, 34);
    due("the greatest wind", x.line(), 99);
    x.night(3, 35);
    due("past the greatest", x.line(), NONE);
    x.night(3, 0);
    x.night(2, 2);
    due("from across", x.line(), NONE);
    x.width(0, 0);
    due("without wind", x.line(), 0);
  }

  private static void alone() {
    SmokeLeans x = house("room, gap 0 out 10, gap 0 out 10, gap 0 out 10 high 9");
    due("more", x.alone(0, 1), 15);
    due("less out", x.alone(2, 0), 15);
    due("less", x.alone(0, 2), -30);
    x.shut(1, true);
    due("if it is shut already", x.alone(0, 1), 0);
    due("of a shut one", x.alone(1, 0), 0);
    due("of itself", x.alone(1, 1), BEYOND);
    due("no other", x.alone(1, 3), BEYOND);
    due("no gap", x.alone(3, 1), BEYOND);
    due("no gap", x.alone(-1, 1), BEYOND);
    due("open as before", x.count(2), 2);
  }

  private static void turns() {
    SmokeLeans x = house("room, gap 0 out 20, gap 0 out 10 high 9, gap 0 out 10 high 5");
    due("leans out", x.lean(2), -1);
    due("turns(0)", x.turns(0), 4);
    due("turns(1)", x.turns(1), 0);
    due("turns(2)", x.turns(2), 0);
    due("turns(3)", x.turns(3), BEYOND);
    due("turns(-1)", x.turns(-1), BEYOND);
    x.width(0, 10);
    due("leans not", x.lean(2), 0);
    due("from 0 it doesn't turn", x.turns(0), 0);
  }

  private static void worst() {
    SmokeLeans x = house("room, gap 0 out 10 side 1, gap 0 out 10 high 9 side 3, wind 40");
    due("worst", x.worst(), 1);
    x.night(2, 3);
    due("wherever it comes from", x.worst(), 1);
    due("from stays", x.night(2, 0), 3);
    x.night(1, 0);
    due("of several the least", x.worst(), 0);
    x.night(1, 40);
    x.night(0, 0);
    due("nothing is lost", x.worst(), 0);
  }

  private static void sheets() {
    SmokeLeans x = new SmokeLeans();
    due("no such sheet", x.sheet(4, 8, -1), BEYOND);
    due("no such sheet", x.sheet(-1, 8, 1), BEYOND);
    for (int bits : new int[] {1, 7, 9, 32, -8, 128, MOST_INT}) due("other bits", x.sheet(0, bits, -1), BEYOND);
    due("below 0", x.sheet(0, 8, -1), SIZE);
    due("below 0, bits 0", x.sheet(0, 0, LEAST_INT), SIZE);
    due("above 40", x.sheet(0, 8, 41), BEYOND);
    due("above 40, bits 0", x.sheet(0, 0, MOST_INT), BEYOND);
    due("still missing", x.write(0, 0, 1), MISSING);
    due("sheet", x.sheet(0, 8, 40), 40);
    due("write", x.write(0, 39, 0x1FF), 0);
    due("8 bits", x.write(0, 39, 128), -1);
    due("8 bits", x.write(0, 39, -129), -128);
    due("8 bits", x.write(0, 39, 5), 127);
    due("no such number", x.write(0, 40, 5), BEYOND);
    due("no such number", x.write(0, -1, 5), BEYOND);
    due("no such sheet", x.write(4, 0, 5), BEYOND);
    due("no such sheet", x.write(-1, 0, 5), BEYOND);
    due("another failed", x.sheet(0, 8, 41), BEYOND);
    due("it stays", x.write(0, 39, 5), 5);
    due("laid anew", x.sheet(0, 16, 40), 40);
    due("all 0", x.write(0, 39, 0x1ABCDL), 0);
    due("16 bits", x.write(0, 39, 32767), 0xABCD - 65536);
    due("16 bits", x.write(0, 39, 32768), 32767);
    due("16 bits", x.write(0, 39, 0), -32768);
    x.sheet(0, 64, 1);
    due("64 bits", x.write(0, 0, Long.MIN_VALUE), 0);
    due("64 bits", x.write(0, 0, BEYOND), Long.MIN_VALUE);
    int before = x.status(-1);
    due("a number like a finding", x.write(0, 0, 1), BEYOND);
    due("is none", x.status(-1), before);
    due("no numbers", x.sheet(0, 8, 0), 0);
    due("but not missing", x.write(0, 0, 0), BEYOND);
    due("missing again", x.sheet(0, 0, 9), 0);
    due("missing", x.write(0, 0, 0), MISSING);
  }

  private static void copies() {
    SmokeLeans x = new SmokeLeans();
    x.sheet(0, 8, 5);
    x.sheet(1, 8, 3);
    x.sheet(2, 16, 5);
    for (int i = 0; i < 5; i++) x.write(0, i, i + 1);
    due("no such sheet", x.copy(4, 0, 3, 0, 1), BEYOND);
    due("no such sheet", x.copy(3, 0, -1, 0, 1), BEYOND);
    due("missing", x.copy(0, 0, 3, 0, 1), MISSING);
    due("missing", x.copy(3, 9, 2, 0, 1), MISSING);
    due("other bits", x.copy(0, 9, 2, 0, 1), KIND);
    int[][] bad = {{-1, 0, 1}, {0, -1, 1}, {0, 0, -1}, {0, 0, 4}, {3, 0, 3}, {0, 2, 2}, {6, 0, 0}, {0, 4, 0},
        {MOST_INT, 0, 1}, {1, MOST_INT, MOST_INT}, {1, 1, MOST_INT}};
    for (int[] b : bad) due("copy " + b[0] + " " + b[1] + " " + b[2], x.copy(0, b[0], 1, b[1], b[2]), BEYOND);
    due("copy", x.copy(0, 3, 1, 1, 2), 2);
    due("came", x.write(1, 1, 0), 4);
    due("came", x.write(1, 2, 0), 5);
    due("none, at the ends", x.copy(0, 5, 1, 3, 0), 0);
    due("onto itself, up", x.copy(0, 0, 0, 1, 4), 4);
    int[] up = {1, 1, 2, 3, 4};
    for (int i = 0; i < 5; i++) due("as they were", x.write(0, i, i + 1), up[i]);
    due("onto itself, down", x.copy(0, 1, 0, 0, 4), 4);
    int[] down = {2, 3, 4, 5, 5};
    for (int i = 0; i < 5; i++) due("as they were", x.write(0, i, 0), down[i]);
  }

  private static void lays() {
    SmokeLeans x = house("room, gap 0 out 1, gap 0 out 2, gap 0 out 3");
    due("no such sheet", x.lays(4), BEYOND);
    due("no such sheet", x.lays(-1), BEYOND);
    due("missing", x.lays(0), MISSING);
    x.sheet(0, 64, 5);
    x.write(0, 0, 100);
    x.write(0, 1, 99);
    x.write(0, 2, (1L << 32) + 5);
    due("one came", x.lays(0), 1);
    due("100 left out", x.of(0, 3), 1);
    due("99 came", x.of(1, 3), 99);
    due("a great one left out", x.of(2, 3), 3);
    x.write(0, 0, -1);
    x.write(0, 2, 0);
    due("two came", x.lays(0), 2);
    due("-1 left out", x.of(0, 3), 1);
    due("0 came", x.of(2, 3), 0);
    x.sheet(0, 8, 1);
    due("short sheet", x.lays(0), 1);
    due("others stay", x.of(1, 3), 99);
  }

  private static void reads() {
    SmokeLeans x = house("room, gap 0 out 10, gap 0 out 10 high 9");
    due("no such sheet", x.read(4), BEYOND);
    due("no such sheet", x.read(-1), BEYOND);
    due("missing", x.read(0), MISSING);
    x.sheet(0, 8, 0);
    due("none is wrong", x.read(0), 0);
    x.sheet(0, 8, 1);
    due("the first is wrong", x.read(0), 1);
    x.write(0, 0, 3);
    due("as many as there are", x.read(0), 0);
    x.sheet(0, 64, 3);
    x.write(0, 0, 3);
    due("the second is wrong", x.read(0), 2);
    x.write(0, 1, -3);
    due("the third stands for no gap", x.read(0), 3);
    x.write(0, 0, 3 + (1L << 32));
    due("a great number is wrong", x.read(0), 1);
    due("no draw", x.count(4), 1);
  }

  private static void images() {
    SmokeLeans x = house("room, room, gap 0 out 10, cold 7");
    x.seed(9);
    x.sheet(0, 8, 2);
    due("image", x.image(), 1);
    told(x, "room, gap 1 out 5, cold 3, wind 2, thumb 9");
    x.night(2, 1);
    x.night(3, 4);
    x.night(5, 6);
    x.seed(10);
    x.shut(0, true);
    x.width(0, 55);
    x.write(0, 0, 42);
    x.feed(65, 1);
    due("undo", x.undo(), 1);
    int[] counts = {2, 1, 1, 1, 9, 10, 0};
    for (int i = 0; i < 7; i++) due("count(" + i + ") behind undo", x.count(i), counts[i]);
    int[] night = {7, 0, 0, 0, 5, 0};
    for (int i = 0; i < 6; i++) due("night behind undo", x.night(i, night[i]), night[i]);
    due("sheets are not undone", x.write(0, 0, 0), 42);
    x.width(0, 1);
    due("it stays", x.undo(), 1);
    due("the same again", x.of(0, 3), 10);
    x.width(0, 2);
    x.image();
    x.width(0, 3);
    x.undo();
    due("the latest", x.of(0, 3), 2);
    due("tear", x.tear(), 1);
    due("tear again", x.tear(), 0);
    due("undo of nothing", x.undo(), NONE);
    due("nothing changes", x.of(0, 3), 2);
  }

  private static void counts() {
    SmokeLeans x = house("room, gap 0 out 10 cost 5, gap 0 out 20 cost 6, hidden 0 out 3 cost 8");
    x.shut(1, true);
    x.feed(0, 2);
    int[] counts = {1, 3, 2, 2, 1, 33, 13};
    for (int i = 0; i < 7; i++) due("count(" + i + ")", x.count(i), counts[i]);
    due("count(7)", x.count(7), BEYOND);
    due("count(-1)", x.count(-1), BEYOND);
  }

  private static void status() {
    SmokeLeans x = new SmokeLeans();
    x.image();
    x.pressure(0);
    x.most();
    x.most();
    x.lays(0);
    x.sheet(0, 8, -1);
    x.sheet(0, 8, 1);
    x.sheet(1, 16, 1);
    x.copy(0, 0, 1, 0, 1);
    for (int i = 0; i < 9; i++) x.room();
    x.undo();
    int[] due = {1, 3, 1, 2, 0, 1, 1};
    for (int i = 0; i < 7; i++) due("status(" + i + ")", x.status(i), due[i]);
    due("all", x.status(-1), 9);
    due("status(7)", x.status(7), BEYOND);
    due("status(-2)", x.status(-2), BEYOND);
    due("counted from then on", x.status(0), 3);
    due("all", x.status(-1), 11);
  }
}
