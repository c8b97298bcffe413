/** Promises 12 to 29 at their edges: nothing to go through, just enough, the least of several, all that may be. */
public final class AirEdgeTest extends Checks {
  public static void main(String[] args) {
    pressureWithoutBreadth(); pressureByFan(); pressureCut(); pressureOfRooms(); roundsAtOnce(); roundsFromNoneToSixty();
    flowCut(); flowSigns(); restOfRooms(); leanLimits(); freshAndLost(); smokeLimits(); smokeByKinds();
    drawsGoRound(); slipLimits(); seenAtOnce(); hiddenSeen(); sticksOnShortSheets(); sticksOfBits();
    widthsOfShut(); widthsAtTheEnds(); mostOfSeveral();
    stopOfNothing(); stopForCoin(); stopWithFresh(); stopSmokes(); stopOfSeveral(); stopOfTen(); stopThatCosts(); stopBesideShut(); stopOfLastGap();
    orderOfNone(); orderOfSeveral(); orderLeavesOut(); orderSmokes(); savedLimits(); lineLimits(); aloneAtTheEnds();
    turnsBothWays(); turnsOfLastGap(); worstOfSides();
    end("all edges of air stand");
  }

  private static void still(String told, SmokeLeans x) {
    x.night(3, 99);
    due("pressure, " + told, x.pressure(0), 0);
    due("rounds, " + told, x.rounds(), 0);
    due("restless, " + told, x.air(3), 0);
    x.night(3, -99);
    due("pressure by the other fan, " + told, x.pressure(0), 0);
  }

  private static void pressureWithoutBreadth() {
    still("no gaps", house("room"));
    still("no gaps of room 0", house("room, room, room, gap 1 2 9"));
    still("width 0", house("room, gap 0 out 0, chimney 0 out 0, room, gap 0 1 0"));
    still("half of 1", house("room, hidden 0 out 1"));
    still("thumb 0", house("room, known 0 out 99, thumb 0"));
    SmokeLeans x = house("room, gap 0 out 99, needed 0 out 99");
    x.shut(0, true);
    x.shut(1, true);
    still("all shut", x);
    SmokeLeans none = new SmokeLeans();
    none.night(3, 99);
    due("rounds of no rooms", none.rounds(), 0);
    due("no rooms are at rest", none.air(3), 0);
  }

  private static void pressureByFan() {
    SmokeLeans x = house("room, room, gap 0 out 1 high 5, gap 1 out 1 high 5");
    for (int fan : new int[] {-99, -1, 0, 1, 99}) {
      x.night(3, fan);
      due("pressure by fan " + fan, x.pressure(0), 80 * fan);
      due("pressure of room 1 by fan " + fan, x.pressure(1), 0);
      due("rounds by fan " + fan, x.rounds(), fan == 0 ? 0 : 1);
    }
  }

  private static void pressureCut() {
    SmokeLeans x = house("room, gap 0 out 3 high 5");
    x.night(3, 1);
    due("80 by 3", x.pressure(0), 26);
    x.night(3, -1);
    due("-80 by 3", x.pressure(0), -26);
    x.width(0, 81);
    due("-80 by 81", x.pressure(0), 0);
    due("no round by it", x.rounds(), 0);
    x.width(0, 80);
    due("-80 by 80", x.pressure(0), -1);
    due("one round by it", x.rounds(), 1);
  }

  private static void pressureOfRooms() {
    SmokeLeans x = house("room,room,room,room,room,room, cold 40, wind 99");
    x.gap(0, 5, -1, 10000);
    x.gap(0, 2, -1, 19200);
    int[] want = {0, 0, 8 * (-160 - 49), 0, 0, 8 * (200 + 99)};
    for (int r = 0; r < 6; r++) due("pressure of room " + r, x.pressure(r), want[r]);
    due("flow with nothing on the other side", x.flow(0), 0);
  }

  /** ROOM 1 follows one ROUND behind ROOM 0: 200, 300, 350, 375, 387, 393, 396, 398, 399. */
  private static void roundsAtOnce() {
    SmokeLeans x = house("room, room, gap 0 out 10, gap 0 1 10");
    due("rounds, outer room first", x.rounds(), 18);
    due("pressure(0)", x.pressure(0), 399);
    due("pressure(1)", x.pressure(1), 399);
    SmokeLeans y = house("room, room, gap 1 out 10, gap 1 0 10");
    due("rounds, outer room last", y.rounds(), 18);
    due("pressure(0)", y.pressure(0), 399);
    due("pressure(1)", y.pressure(1), 399);
  }

  private static void roundsFromNoneToSixty() {
    due("no push", house("room, gap 0 out 9 high 5").rounds(), 0);
    due("no cold", house("room, gap 0 out 9, cold 0").rounds(), 0);
    due("one room", house("room, gap 0 out 9").rounds(), 1);
    due("one room behind it", house("room, room, gap 0 out 9, gap 1 0 1, gap 1 out 0").rounds() > 1 ? 1 : 0, 1);
    SmokeLeans x = house("room, room, gap 0 1 4, gap 1 out 1 high 5");
    x.night(3, 20);
    due("59 rounds", x.rounds(), 59);
    due("rest behind 59", x.air(3), 0);
    SmokeLeans sixty = house("room, room, gap 0 1 6, gap 1 out 1");
    due("60 rounds", sixty.rounds(), 60);
    due("restless behind 60", sixty.air(3), 1);
    SmokeLeans y = house("room, room, gap 0 1 1");
    y.night(3, -99);
    due("60 rounds and no end", y.rounds(), 60);
    due("no more rounds than 60", y.pressure(0), -237600);
    due("restless", y.air(3), 1);
    y.night(3, 0);
    due("at rest again", y.air(3), 0);
    due("from pressure 0 each time", y.pressure(0), 0);
  }

  private static void flowCut() {
    SmokeLeans x = house("room, gap 0 out 3 high 5");
    x.night(3, 1);
    due("-78 by 80", x.flow(0), 0);
    x.night(3, -1);
    due("78 by 80", x.flow(0), 0);
    x.width(0, 4);
    due("80 by 80", x.flow(0), 1);
    x.night(3, 1);
    due("-80 by 80", x.flow(0), -1);
    x.width(0, 1);
    x.night(3, 99);
    due("out of it by the whole fan", x.flow(0), -99);
    x.night(3, -99);
    due("into it by the whole fan", x.flow(0), 99);
  }

  /** The fan of ROOM 0 goes through ROOM 1: pressures 159 and 79. */
  private static void flowSigns() {
    SmokeLeans x = house("room, room, gap 0 1 10, gap 1 out 10 high 5");
    x.night(3, 10);
    due("pressure(0)", x.pressure(0), 159);
    due("pressure(1)", x.pressure(1), 79);
    due("out of its room", x.flow(0), -10);
    due("out of the other", x.flow(1), -9);
    SmokeLeans y = house("room, room, gap 1 0 10, gap 1 out 10 high 5");
    y.night(3, 10);
    due("the same gap, of the other room", y.flow(0), 10);
    x.shut(0, true);
    due("flow of a shut one", x.flow(0), 0);
  }

  private static void restOfRooms() {
    SmokeLeans x = house("room, room, room, gap 0 1 10, gap 1 out 10 high 5");
    x.night(3, 10);
    due("rest by a gap of it", x.rest(0), -10);
    due("rest by a gap to it, too", x.rest(1), 1);
    due("rest without gaps", x.rest(2), 0);
    SmokeLeans y = house("room, room, gap 1 0 10, gap 1 out 10 high 5");
    y.night(3, 10);
    due("rest by a gap to it alone", y.rest(0), -10);
    due("rest by gaps of it alone", y.rest(1), 1);
    y.shut(0, true);
    y.shut(1, true);
    due("rest, all shut", y.rest(1), 0);
    SmokeLeans z = house("room");
    for (int g = 0; g < 20; g++) z.gap(0, 0, -1, 10000 + 9000 * (g % 2));
    due("rest by twenty, 4 in and 4 out", z.rest(0), 0);
    due("a flow of these", z.flow(0), 4);
  }

  private static void leanLimits() {
    SmokeLeans x = house("room, gap 0 out 1 high 5");
    int[] flows = {0, 1, 4, 5, 6, 19, 20, 39, 40, 59, 60, 79, 80, 99};
    int[] leans = {0, 0, 0, 1, 1, 1, 2, 2, 3, 3, 4, 4, 5, 5};
    for (int i = 0; i < flows.length; i++) {
      x.night(3, -flows[i]);
      due("lean by flow " + flows[i], x.lean(0), leans[i]);
      x.night(3, flows[i]);
      due("lean by flow " + -flows[i], x.lean(0), -leans[i]);
    }
    // FLOWS are 148 and -148, each less half of the fan.
    SmokeLeans y = house("room, gap 0 out 20 high 5, gap 0 out 20 high 5 side 2, wind 99");
    int[] fans = {16, 18, -22, -24, -62, -64, -98};
    int[] great = {140, 139, 159, 160, 179, 180, 197};
    int[] greatLeans = {8, 7, 8, 9, 9, 9, 9};
    for (int i = 0; i < fans.length; i++) {
      y.night(3, fans[i]);
      due("flow by fan " + fans[i], y.flow(0), great[i]);
      due("lean by flow " + great[i], y.lean(0), greatLeans[i]);
      y.night(3, -fans[i]);
      due("lean by flow " + -great[i], y.lean(1), -greatLeans[i]);
    }
  }

  private static void freshAndLost() {
    SmokeLeans x = house("room, gap 0 out 1 high 5");
    int[][] all = {{0, 0, 0}, {1, 0, 0}, {-1, 1, 10}, {-99, 99, 990}};
    for (int[] b : all) {
      x.night(3, b[0]);
      due("fresh by fan " + b[0], x.air(0), b[1]);
      due("lost by fan " + b[0], x.air(1), b[2]);
    }
    x.night(0, 0);
    due("lost by no cold", x.air(1), 0);
    x.night(0, 40);
    due("lost by the greatest cold", x.air(1), 3960);
    SmokeLeans y = house("room, room, gap 1 0 10, gap 1 out 10 high 5");
    y.night(3, 10);
    due("from another room into one", y.flow(0), 10);
    due("that is not fresh", y.air(0), 0);
    SmokeLeans none = new SmokeLeans();
    for (int what = 0; what < 4; what++) due("air of no house, " + what, none.air(what), 0);
  }

  private static void smokeLimits() {
    SmokeLeans x = house("room, needed 0 out 1 high 5");
    int[] fans = {-99, -1, 0, 1, 99};
    int[] smokes = {1, 1, 1, 0, 0};
    for (int i = 0; i < fans.length; i++) {
      x.night(3, fans[i]);
      due("smokes by flow " + -fans[i], x.air(2), smokes[i]);
    }
    x.night(3, 1);
    x.width(0, 3);
    due("smokes by a flow that is cut to 0", x.air(2), 1);
    x.width(0, 4);
    due("smokes by flow -1", x.air(2), 0);
    x.width(0, 0);
    due("smokes by no width", x.air(2), 1);
    x.shut(0, true);
    due("smokes when shut", x.air(2), 0);
  }

  private static void smokeByKinds() {
    String[] kinds = {"gap", "hidden", "needed", "known", "turning", "chimney"};
    for (int k = 0; k < 6; k++) {
      SmokeLeans x = house("room, room, " + kinds[k] + " 0 out 9");
      due("a still " + kinds[k], x.air(2), k == 2 || k == 5 ? 1 : 0);
      x.shut(0, true);
      due("a shut " + kinds[k], x.air(2), 0);
      SmokeLeans y = house("room, room, " + kinds[k] + " 0 1 9");
      due("a still one inside", y.air(2), 0);
    }
    SmokeLeans z = house("room, needed 0 out 10 high 9, gap 0 out 10, chimney 0 out 0");
    due("one of two smokes", z.air(2), 1);
  }

  private static void drawsGoRound() {
    SmokeLeans x = house("room, gap 0 out 5");
    int[] seeds = {0, 1, -1, MOST_INT, LEAST_INT, -1000000001};
    int[] next = {12345, 1103527590, -1103502900, 1043980748, -2147471303, -138027060};
    int was = 1;
    for (int i = 0; i < seeds.length; i++) {
      due("z was", x.seed(seeds[i]), was);
      due("z is told", x.count(4), seeds[i]);
      x.stick(0);
      due("z behind a draw from " + seeds[i], x.count(4), next[i]);
      was = next[i];
    }
    due("no findings", x.status(-1), 0);
  }

  private static void slip(SmokeLeans x, int seed, int slips, int want) {
    x.seed(seed);
    x.night(5, slips);
    due("stick by slips " + slips + " from " + seed, x.stick(0), want);
  }

  /** From 61 the draw is 0, from 18 it is 99, from 1103527590 (a z below 0 behind it) 32. */
  private static void slipLimits() {
    SmokeLeans x = house("room, gap 0 out 10, gap 0 out 10 high 9");
    due("what leans", x.lean(0), 3);
    slip(x, 61, 0, 3);
    slip(x, 61, 1, 0);
    slip(x, 61, 100, 0);
    slip(x, 18, 0, 3);
    slip(x, 18, 99, 3);
    slip(x, 18, 100, 0);
    slip(x, 1103527590, 32, 3);
    slip(x, 1103527590, 33, 0);
    due("nothing slips but the stick", x.lean(0), 3);
  }

  private static void seenAtOnce() {
    SmokeLeans x = house("room, gap 0 out 40, gap 0 out 40 high 9");
    due("a stick ahead of any other look", x.stick(0), 9);
    x.width(1, 0);
    due("a stick behind a change", x.stick(0), 0);
    x.width(1, 40);
    x.sheet(0, 8, 2);
    due("sticks behind a change", x.sticks(0), 2);
    due("the first", x.write(0, 0, 0), 9);
    due("the second", x.write(0, 1, 0), -9);
  }

  private static void hiddenSeen() {
    SmokeLeans x = house("room, hidden 0 out 40, hidden 0 out 40 high 9");
    due("it leans", x.lean(0), 5);
    for (int slips : new int[] {0, 1, 99, 100}) {
      slip(x, 61, slips, 0);
      due("a draw is made", x.count(4), -1405034446);
    }
  }

  private static SmokeLeans fourLeans() {
    return house("room, gap 0 out 99, gap 0 out 99 high 9, hidden 0 out 9, gap 0 out 0");
  }

  private static void sticksOnShortSheets() {
    for (int n : new int[] {0, 1, 3, 4, 5, 40}) {
      SmokeLeans x = fourLeans();
      x.sheet(3, 64, n);
      for (int i = 0; i < n; i++) x.write(3, i, 77);
      due("sticks on " + n, x.sticks(3), Math.min(n, 4));
      int[] want = {9, -9, 0, 0};
      for (int i = 0; i < n; i++) due("number " + i + " of " + n, x.write(3, i, 0), i < 4 ? want[i] : 77);
      int[] z = {1, 1103527590, -1770082073, 662824084, z(662824084)};
      due("z behind them", x.count(4), z[Math.min(n, 4)]);
      due("no more numbers", x.write(3, n, 0), BEYOND);
    }
    SmokeLeans none = new SmokeLeans();
    none.sheet(0, 8, 2);
    none.write(0, 0, 5);
    due("sticks of no gaps", none.sticks(0), 0);
    due("the number stays", none.write(0, 0, 0), 5);
    due("no draw", none.count(4), 1);
  }

  private static int z(int was) { return was * 1103515245 + 12345; }

  private static void sticksOfBits() {
    for (int bits : new int[] {8, 16, 64}) {
      SmokeLeans x = fourLeans();
      x.sheet(0, bits, 4);
      x.write(0, 3, -1);
      due("sticks", x.sticks(0), 4);
      int[] want = {9, -9, 0, 0};
      for (int i = 0; i < 4; i++) due("number " + i + " of " + bits + " bits", x.write(0, i, 0), want[i]);
    }
    SmokeLeans y = house("room");
    for (int g = 0; g < 20; g++) y.gap(0, 0, -1, 990000 + g / 10 * 9000);
    y.sheet(0, 8, 40);
    due("sticks of twenty", y.sticks(0), 20);
    due("the 20th", y.write(0, 19, 0), -9);
    due("behind it", y.write(0, 20, 0), 0);
  }

  private static void widthsOfShut() {
    SmokeLeans x = house("room, gap 0 out 50, gap 0 out 10 high 9");
    x.shut(0, true);
    due("lean 0, how many", x.widths(0, 0, 0), 100);
    due("lean 0, the least", x.widths(0, 0, 1), 0);
    due("lean 0, the greatest", x.widths(0, 0, 2), 99);
    for (int lean : new int[] {-9, -1, 1, 9}) {
      due("lean " + lean + ", how many", x.widths(0, lean, 0), 0);
      due("lean " + lean + ", the least", x.widths(0, lean, 1), NONE);
      due("lean " + lean + ", the greatest", x.widths(0, lean, 2), NONE);
    }
    due("it is shut still", x.of(0, 7), 1);
    due("the width stays", x.of(0, 3), 50);
  }

  private static void widthsAtTheEnds() {
    SmokeLeans x = house("room, gap 0 out 50, gap 0 out 10 high 9");
    due("just one width", x.widths(0, 0, 0), 1);
    due("it is the least", x.widths(0, 0, 1), 0);
    due("and the greatest", x.widths(0, 0, 2), 0);
    due("up to 99", x.widths(0, 5, 2), 99);
    due("no such", x.widths(0, 6, 0), 0);
    due("the width stays", x.of(0, 3), 50);
    SmokeLeans y = house("room, gap 0 out 50, gap 0 out 99 high 9");
    due("lean 9, the greatest", y.widths(0, 9, 2), 99);
    due("lean -9, none", y.widths(0, -9, 0), 0);
    due("lean -9, the greatest of the other", y.widths(1, -9, 2), 99);
    due("lean 9, none of the other", y.widths(1, 9, 0), 0);
    SmokeLeans one = house("room, gap 0 out 50 high 5");
    one.night(3, 99);
    due("width 1 leans by the whole fan", one.widths(0, -5, 1), 1);
    due("width 0 leans not", one.widths(0, 0, 2), 0);
  }

  private static void mostOfSeveral() {
    SmokeLeans x = house("room");
    for (int g = 0; g < 20; g++) x.gap(0, 0, -1, 0);
    due("most of twenty still ones", x.most(), 0);
    x.width(18, 30);
    x.width(19, 30);
    due("of two still ones with width", x.most(), 0);
    x.night(3, -20);
    due("of two alike", x.most(), 18);
    x.width(19, 60);
    due("the last", x.most(), 19);
    x.night(3, 20);
    due("the last, out of it", x.most(), 19);
    SmokeLeans y = house("room, gap 0 out 20, gap 0 out 20 high 9");
    due("in and out alike", y.most(), 0);
    told(y, "gap 0 out 1");
    due("more out than in", y.most(), 1);
    due("one gap", house("room, gap 0 out 0").most(), 0);
  }

  private static void stopOfNothing() {
    SmokeLeans none = new SmokeLeans();
    for (int what = 0; what < 3; what++) due("stop of nothing, " + what, none.stop(0, 0, 0, what), 0);
    due("stop of nothing with fresh 1", none.stop(0, 999, 1, 0), NONE);
    SmokeLeans x = house("room, gap 0 out 10 cost 1, gap 0 out 10, needed 0 out 10 high 9");
    due("stop out of no set", x.stop(0, 999, 0, 0), 0);
    due("lost as it is", x.stop(0, 999, 0, 1), 600);
    due("costs of none", x.stop(0, 999, 0, 2), 0);
    due("just as fresh", x.stop(0, 0, 60, 0), 0);
    due("not so fresh", x.stop(0, 0, 61, 0), NONE);
    x.width(2, 0);
    due("not even none: it smokes", x.stop(0, 999, 0, 0), NONE);
  }

  private static void stopForCoin() {
    SmokeLeans x = house("room, gap 0 out 10 cost 2, gap 0 out 10 cost 1, gap 0 out 10, needed 0 out 10 high 9");
    due("what costs nothing", x.stop(4, 0, 0, 0), 4);
    due("what costs too much", x.stop(2, 0, 0, 0), 0);
    due("what costs just so much", x.stop(2, 1, 0, 0), 2);
    due("two, too dear", x.stop(3, 2, 0, 0), 1);
    due("two, just so much", x.stop(3, 3, 0, 0), 3);
    due("their costs", x.stop(3, 3, 0, 2), 3);
    due("for the most coin", x.stop(3, 999, 0, 0), 3);
    due("two for nothing and one", x.stop(6, 0, 0, 0), 4);
  }

  /** LOST falls with each that is stopped: FRESH is 66 as it is, 60 without one, 45 without two. */
  private static void stopWithFresh() {
    SmokeLeans x = house("room, gap 0 out 10, gap 0 out 10, gap 0 out 10, needed 0 out 10 high 9");
    due("fresh as it is", x.air(0), 66);
    due("fresh 45 or more", x.stop(7, 0, 45, 0), 3);
    due("fresh 46 or more", x.stop(7, 0, 46, 0), 1);
    due("fresh 60 or more", x.stop(7, 0, 60, 0), 1);
    due("fresh 61 or more", x.stop(7, 0, 61, 0), 0);
    due("fresh 66 or more", x.stop(7, 0, 66, 0), 0);
    due("fresh 67 or more", x.stop(7, 0, 67, 0), NONE);
    due("fresh 0 or more, but it smokes without all", x.stop(7, 0, 0, 0), 3);
  }

  private static void stopSmokes() {
    SmokeLeans x = house("room, gap 0 out 10, needed 0 out 10 high 9");
    due("it smokes without the one", x.stop(1, 0, 0, 0), 0);
    due("without both it smokes not", x.stop(3, 0, 0, 0), 2);
    due("lost without the fire", x.stop(3, 0, 0, 1), 0);
    SmokeLeans y = house("room, gap 0 out 10 high 9, needed 0 out 10");
    due("it smokes till the fire is stopped", y.stop(2, 0, 0, 0), 2);
    due("it smokes till the fire is stopped, or none", y.stop(1, 0, 0, 0), NONE);
  }

  private static void stopOfSeveral() {
    SmokeLeans x = house("room, cold 0");
    for (int g = 0; g < 4; g++) x.gap(0, 0, -1, 100000);
    due("nothing is lost: the fewest are none", x.stop(15, 0, 0, 0), 0);
    SmokeLeans y = house("room, gap 0 out 8, gap 0 out 8, gap 0 out 16, needed 0 out 16 high 9");
    due("one for two", y.stop(7, 0, 70, 0), 4);
    due("of two alike the first", y.stop(3, 0, 73, 0), 1);
    SmokeLeans z = house("room, gap 0 out 10 cost 9, gap 0 out 10, gap 0 out 10, needed 0 out 10 high 9");
    due("of three alike the least set, be it dearer", z.stop(7, 9, 60, 0), 1);
    due("of three alike, not the dear one", z.stop(7, 8, 60, 0), 2);
    due("two of three alike, the least set", z.stop(7, 99, 45, 0), 3);
    due("two of three alike, not the dear one", z.stop(7, 8, 45, 0), 6);
  }

  /** Ten of one width and cost; an 11th keeps the fire, and all ten pay. */
  private static void stopOfTen() {
    SmokeLeans x = house("room");
    for (int g = 0; g < 11; g++) x.gap(0, 0, -1, g < 10 ? 10099 : 10000);
    x.gap(2, 0, -1, 109000);
    due("all ten", x.stop(1023, 999, 0, 0), 1023);
    due("all ten, just for so much", x.stop(1023, 990, 0, 0), 1023);
    due("lost then", x.stop(1023, 990, 0, 1), 80);
    due("their costs", x.stop(1023, 990, 0, 2), 990);
    due("nine of ten", x.stop(1023, 989, 0, 0), 511);
    due("lost then", x.stop(1023, 989, 0, 1), 140);
    due("their costs", x.stop(1023, 989, 0, 2), 891);
    due("eleven", x.stop(2047, 999, 0, 0), BEYOND);
    due("another ten", x.stop(2046, 999, 0, 2), 891);
  }

  /** Without the second one FRESH is 6, not 5: what is cut from it counts for more than what goes through it. */
  private static void stopThatCosts() {
    SmokeLeans x = house("room, gap 0 out 1, gap 0 out 1 high 5, gap 0 out 2 high 9");
    due("fresh", x.air(0), 5);
    due("more would be lost", x.stop(2, 0, 0, 0), 0);
    due("lost with none", x.stop(2, 0, 0, 1), 50);
    due("but just so it is fresh enough", x.stop(2, 0, 6, 0), 2);
    due("lost then", x.stop(2, 0, 6, 1), 60);
  }

  private static void stopBesideShut() {
    SmokeLeans x = house("room, gap 0 out 10, gap 0 out 10 cost 9, gap 0 out 10, needed 0 out 10 high 9");
    x.shut(0, true);
    due("the first is shut", x.stop(1, 0, 0, 0), BEYOND);
    due("beside it", x.stop(4, 0, 0, 0), 4);
    due("it stays shut for it", x.stop(4, 0, 0, 1), 450);
    due("of two alike", x.stop(6, 9, 0, 0), 2);
    due("none, as it is", x.stop(4, 0, 60, 1), 600);
  }

  private static void stopOfLastGap() {
    SmokeLeans x = house("room, gap 0 out 10, needed 0 out 10 high 9");
    for (int g = 2; g < 19; g++) x.gap(0, 0, -1, 0);
    due("gap 18", x.stop(1 << 18, 0, 0, 0), 0);
    due("gap 19, which isn't", x.stop(1 << 19, 0, 0, 0), BEYOND);
    x.gap(0, 0, -1, 100005);
    due("gap 19", x.stop(1 << 19, 5, 0, 0), 1 << 19);
    due("gap 20", x.stop(1 << 20, 5, 0, 0), BEYOND);
    x.shut(19, true);
    due("gap 19, which is shut", x.stop(1 << 19, 5, 0, 0), BEYOND);
    due("a shut one beside", x.stop(1 << 19 | 1, 5, 0, 0), BEYOND);
    x.shut(19, false);
    due("open again", x.stop(1 << 19, 5, 0, 2), 5);
  }

  private static void orderOfNone() {
    SmokeLeans none = new SmokeLeans();
    due("order of nothing", none.order(0), NONE);
    due("the last of nothing", none.order(19), NONE);
    due("saved of nothing", none.saved(0), 0);
    due("saved of nothing, the last", none.saved(20), 0);
    SmokeLeans x = house("room, gap 0 out 10, gap 0 out 10 high 9, cold 0, wind 30");
    due("lost is 0, none pays", x.order(0), NONE);
  }

  private static void orderOfSeveral() {
    SmokeLeans x = house("room, gap 0 out 10, gap 0 out 10, gap 0 out 10, needed 0 out 10 high 9");
    due("of three alike the least", x.order(0), 0);
    due("then the next", x.order(1), 1);
    due("the last keeps the fire", x.order(2), NONE);
    int[] saved = {660, 600, 450, 450};
    for (int i = 0; i < 4; i++) due("saved(" + i + ")", x.saved(i), saved[i]);
    due("all are open still", x.count(2), 4);
    x.width(2, 11);
    due("the widest first", x.order(0), 2);
    due("then the least", x.order(1), 0);
  }

  private static void orderLeavesOut() {
    SmokeLeans x = house("room, room, gap 0 out 10, gap 0 1 30, gap 1 out 30, needed 0 out 30 high 9, chimney 0 out 30 high 6");
    x.shut(2, true);
    x.shut(0, true);
    due("no shut ones, none inside, no fire", x.order(0), NONE);
    x.shut(2, false);
    due("one of another room: the fire", x.order(0), NONE);
    x.shut(0, false);
    due("an open one of another room pays more", x.order(0), 2);
    due("the last keeps the fire", x.order(1), NONE);
  }

  private static void orderSmokes() {
    SmokeLeans x = house("room, gap 0 out 10, gap 0 out 10 high 9, needed 0 out 0");
    due("it smokes with each", x.order(0), NONE);
    due("as it is", x.saved(20), 450);
    x.shut(2, true);
    due("each pays; of two alike the least", x.order(0), 0);
    due("lost behind it", x.saved(1), 0);
    due("nothing is left to pay", x.order(1), NONE);
  }

  private static void savedLimits() {
    SmokeLeans x = house("room, gap 0 out 10, gap 0 out 10, needed 0 out 10 high 9");
    due("behind none", x.saved(0), 600);
    due("behind one", x.saved(1), 450);
    due("behind more than there are", x.saved(2), 450);
    due("behind the most", x.saved(20), 450);
    due("behind one more", x.saved(21), BEYOND);
    due("behind one less", x.saved(-1), BEYOND);
  }

  private static void lineLimits() {
    SmokeLeans x = house("room, needed 0 out 10 high 9, gap 0 out 10 side 1");
    due("line", x.line(), 72);
    x.night(3, 34);
    due("line at the greatest wind", x.line(), 99);
    x.night(3, 35);
    due("line past the greatest", x.line(), NONE);
    x.night(3, -99);
    due("line at no wind", x.line(), 0);
    x.night(3, 0);
    x.night(1, 99);
    due("line by a wind of its own", x.line(), 72);
    x.night(2, 2);
    due("line from across", x.line(), NONE);
    x.shut(0, true);
    x.night(2, 0);
    due("line without fire", x.line(), NONE);
    due("the wind stays", x.night(1, 0), 99);
  }

  private static void aloneAtTheEnds() {
    SmokeLeans x = house("room, gap 0 out 10, gap 0 out 10 high 9");
    for (int g = 2; g < 19; g++) x.gap(0, 0, -1, 0);
    x.gap(0, 0, -1, 100000);
    due("the first without the last", x.alone(0, 19), 15);
    due("the last without the first", x.alone(19, 0), 15);
    due("the last without the second", x.alone(19, 1), -30);
    due("without one of no width", x.alone(0, 18), 0);
    x.shut(19, true);
    due("without one that is shut", x.alone(0, 19), 0);
    due("a shut one without another", x.alone(19, 0), 0);
    due("one by one alone", x.alone(0, 1), -45);
    due("out, by one alone", x.alone(1, 0), 45);
    due("all as it was", x.count(2), 19);
  }

  private static void turnsBothWays() {
    SmokeLeans x = house("room, gap 0 out 20, gap 0 out 10 high 9, gap 0 out 10 high 5");
    due("it leans out", x.lean(2), -1);
    due("and turns in", x.turns(0), 4);
    SmokeLeans y = house("room, gap 0 out 10, gap 0 out 20 high 9, gap 0 out 10 high 5");
    due("it leans in", y.lean(2), 1);
    due("and turns out", y.turns(1), 4);
    due("none turns by the other", y.turns(0), 0);
    due("nor by itself", y.turns(2), 0);
    y.width(0, 20);
    due("it leans not", y.lean(2), 0);
    due("so it turns not", y.turns(1), 0);
    y.shut(0, true);
    due("a shut one turns none", y.turns(0), 0);
    SmokeLeans z = house("room, gap 0 out 10 high 5, gap 0 out 10, gap 0 out 8 high 9, gap 0 out 12 high 9");
    due("the first leans by 1", z.lean(0), 1);
    due("and would by -1", z.turns(3), 1);
    due("its flow then", z.flow(0) + z.alone(0, 3), -6);
  }

  private static void turnsOfLastGap() {
    SmokeLeans x = house("room, gap 0 out 20, gap 0 out 10 high 9");
    for (int g = 2; g < 19; g++) x.gap(0, 0, -1, 0);
    x.gap(0, 0, -1, 105000);
    due("the last turns", x.turns(0), 1 << 19);
    due("the last turns none", x.turns(19), 0);
  }

  private static void worstOfSides() {
    due("of nothing", new SmokeLeans().worst(), 0);
    for (int side = 0; side < 4; side++) {
      SmokeLeans x = house("room, gap 0 out 10 side " + side + ", gap 0 out 10 high 9 side " + (side + 2) % 4 + ", wind 40");
      for (int from = 0; from < 4; from++) {
        x.night(2, from);
        due("worst of side " + side + " from " + from, x.worst(), side);
      }
      x.night(1, 0);
      due("worst without wind", x.worst(), 0);
      x.night(1, 40);
      x.night(0, 0);
      due("worst without cold", x.worst(), 0);
    }
    SmokeLeans y = house("room, gap 0 out 10 side 3, gap 0 out 10 side 1, gap 0 out 10 high 9, wind 40");
    due("of two alike the least", y.worst(), 1);
  }
}
