/** Promises 1 to 11 at their edges: the least and the greatest that may be, the empty and the full. */
public final class HouseEdgeTest extends Checks {
  public static void main(String[] args) {
    newObject(); roomsFromNoneToSix(); kindsAndRooms(); measuresPacked(); twentyGaps(); openAtFirst();
    breadths(); turningBreadth(); coldPush(); windPush(); windBySides(); chimneyPush(); pushInside();
    widths(); shuts(); asKinds(); nightLimits();
    feeding(); tapeLimits(); wiping();
    emptyTexts(); numbersInTexts(); leadingZeros(); numbersTooGreat(); roomsByThen(); seventhRoom(); twentyFirstGap();
    endsTooEarly(); wrongTokens(); wordsLetterByLetter(); orderOfMeasures(); blanks(); longTokens(); fullTapes(); textComesToWhatIsThere();
    end("all edges of the house stand");
  }

  private static void newObject() {
    SmokeLeans x = new SmokeLeans();
    due("rooms of a new object", x.count(0), 0);
    due("gaps of a new object", x.count(1), 0);
    due("tape of a new object", x.count(3), 0);
    due("z of a new object", x.count(4), 1);
    due("nothing is kept", x.tear(), 0);
    for (int s = 0; s < 4; s++) due("sheet " + s + " is missing", x.write(s, 0, 0), MISSING);
    int[] night = {10, 0, 0, 0, 5, 0};
    for (int what = 0; what < 6; what++) due("night " + what + " at first", x.night(what, 0), night[what]);
    for (int k = 0; k < 7; k++) due("findings " + k, x.status(k), k == 5 ? 4 : 0);
    SmokeLeans y = new SmokeLeans();
    y.room();
    due("another object's room", x.count(0), 0);
    due("another object's findings", y.status(-1), 0);
  }

  private static void roomsFromNoneToSix() {
    SmokeLeans x = new SmokeLeans();
    for (int r = 0; r < 6; r++) {
      due("rooms ahead of it", x.count(0), r);
      due("room", x.room(), r);
    }
    due("a 7th", x.room(), FULL);
    due("an 8th", x.room(), FULL);
    due("rooms are six", x.count(0), 6);
    due("pressure of the 6th", x.pressure(5), 0);
  }

  private static void kindsAndRooms() {
    SmokeLeans x = house("room,room,room,room,room,room");
    for (int kind = 0; kind < 6; kind++) {
      due("gap of kind " + kind, x.gap(kind, kind, -1, 10000), kind);
      due("its kind", x.of(kind, 0), kind);
      due("its room", x.of(kind, 1), kind);
      due("to OUT", x.of(kind, 2), -1);
    }
    due("of the first to the last", x.gap(0, 0, 5, 0), 6);
    due("of the last to the first", x.gap(0, 5, 0, 0), 7);
    due("its other room", x.of(6, 2), 5);
    due("its other room", x.of(7, 2), 0);
    due("a room and the next", x.gap(0, 3, 4, 0), 8);
    due("alike twice", x.gap(0, 3, 4, 0), 9);
  }

  private static void measuresPacked() {
    SmokeLeans x = house("room");
    int[][] all = {{0, 0, 0, 0, 0}, {1, 0, 0, 0, 1}, {99, 0, 0, 0, 99}, {100, 0, 0, 1, 0}, {300, 0, 0, 3, 0}, {399, 0, 0, 3, 99},
        {1000, 0, 1, 0, 0}, {9000, 0, 9, 0, 0}, {9399, 0, 9, 3, 99}, {10000, 1, 0, 0, 0}, {10399, 1, 0, 3, 99},
        {990000, 99, 0, 0, 0}, {999399, 99, 9, 3, 99}};
    for (int g = 0; g < all.length; g++) {
      due("gap of measures " + all[g][0], x.gap(0, 0, -1, all[g][0]), g);
      for (int k = 1; k < 5; k++) due("measure " + k + " of " + all[g][0], x.of(g, k + 2), all[g][k]);
    }
    int gaps = x.count(1);
    for (int of : new int[] {-1, 400, 499, 900, 999, 1400, 9400, 9999, 10400, 999400, 1000000, 1000399}) {
      due("gap of measures " + of, x.gap(0, 0, -1, of), BEYOND);
    }
    due("none came", x.count(1), gaps);
  }

  private static void twentyGaps() {
    SmokeLeans x = house("room");
    for (int g = 0; g < 20; g++) {
      due("gaps ahead of it", x.count(1), g);
      due("gap", x.gap(0, 0, -1, 10000 + g), g);
    }
    due("a 21st", x.gap(0, 0, -1, 10000), FULL);
    due("gaps are twenty", x.count(1), 20);
    due("cost of the first", x.of(0, 6), 0);
    due("cost of the 20th", x.of(19, 6), 19);
  }

  private static void openAtFirst() {
    SmokeLeans x = house("room");
    x.image();
    x.gap(0, 0, -1, 50000);
    due("open at first", x.of(0, 7), 0);
    x.shut(0, true);
    x.undo();
    x.gap(0, 0, -1, 50000);
    due("open at first, where one was shut", x.of(0, 7), 0);
    x.shut(0, true);
    x.undo();
    told(x, "gap 0 out 5");
    due("open at first, told in a text", x.of(0, 7), 0);
    due("breadth", x.of(0, 8), 5);
    x.undo();
    x.gap(5, 0, -1, 20000);
    due("no measure of the one that was there", x.of(0, 6) + x.of(0, 5) + x.of(0, 4), 0);
  }

  private static void breadths() {
    SmokeLeans x = house("room, gap 0 out 0, hidden 0 out 0, needed 0 out 0, known 0 out 0, turning 0 out 0, chimney 0 out 0");
    int[][] all = {{0, 0, 0, 0, 5, 0, 0}, {1, 1, 0, 1, 5, 1, 1}, {2, 2, 1, 2, 5, 2, 2}, {3, 3, 1, 3, 5, 3, 3},
        {98, 98, 49, 98, 5, 98, 98}, {99, 99, 49, 99, 5, 99, 99}};
    for (int[] b : all) {
      for (int g = 0; g < 6; g++) {
        x.width(g, b[0]);
        due("breadth of kind " + g + " with width " + b[0], x.of(g, 8), b[g + 1]);
      }
    }
    x.night(4, 0);
    due("by the thumb, least", x.of(3, 8), 0);
    x.night(4, 99);
    due("by the thumb, greatest", x.of(3, 8), 99);
    for (int g = 0; g < 6; g++) {
      x.shut(g, true);
      due("breadth of kind " + g + ", shut", x.of(g, 8), 0);
      due("width of it", x.of(g, 3), 99);
    }
  }

  private static void turningBreadth() {
    SmokeLeans x = house("room, room, turning 0 out 99 side 3, turning 0 1 99 side 3, gap 0 out 99 side 3, turning 0 out 0 side 3");
    x.night(2, 3);
    due("from its side, no wind", x.of(0, 8), 99);
    x.night(1, 1);
    due("from its side, the least wind", x.of(0, 8), 198);
    x.night(1, 99);
    due("from its side, the greatest wind", x.of(0, 8), 198);
    due("inside", x.of(1, 8), 99);
    due("one that turns not", x.of(2, 8), 99);
    due("twice nothing", x.of(3, 8), 0);
    for (int from = 0; from < 3; from++) {
      x.night(2, from);
      due("from " + from, x.of(0, 8), 99);
    }
    x.night(2, 3);
    x.shut(0, true);
    due("from its side, but shut", x.of(0, 8), 0);
  }

  private static void coldPush() {
    SmokeLeans x = house("room");
    for (int height = 0; height < 10; height++) x.gap(0, 0, -1, 10000 + 1000 * height);
    for (int cold : new int[] {0, 1, 39, 40}) {
      x.night(0, cold);
      for (int height = 0; height < 10; height++) {
        due("push at " + height + " by cold " + cold, x.of(height, 9), cold * (5 - height));
      }
    }
    due("the greatest", x.of(0, 9), 200);
    due("the least", x.of(9, 9), -160);
  }

  private static void windPush() {
    SmokeLeans x = house("room, gap 0 out 1, gap 0 out 1 side 1, gap 0 out 1 side 2, gap 0 out 1 side 3, cold 0");
    int[][] all = {{0, 0, 0, 0}, {1, 1, 0, 0}, {2, 2, -1, 0}, {3, 3, -1, 0}, {4, 4, -2, -1}, {5, 5, -2, -1}, {7, 7, -3, -1},
        {8, 8, -4, -2}, {98, 98, -49, -24}, {99, 99, -49, -24}};
    for (int[] b : all) {
      x.night(1, b[0]);
      due("on its side by " + b[0], x.of(0, 9), b[1]);
      due("across by " + b[0], x.of(2, 9), b[2]);
      due("beside by " + b[0], x.of(1, 9), b[3]);
      due("beside by " + b[0], x.of(3, 9), b[3]);
    }
  }

  private static void windBySides() {
    SmokeLeans x = house("room, gap 0 out 1, gap 0 out 1 side 1, gap 0 out 1 side 2, gap 0 out 1 side 3, cold 0, wind 8");
    int[][] pushes = {{8, -2, -4, -2}, {-2, 8, -2, -4}, {-4, -2, 8, -2}, {-2, -4, -2, 8}};
    for (int from = 0; from < 4; from++) {
      x.night(2, from);
      for (int side = 0; side < 4; side++) due("from " + from + " on " + side, x.of(side, 9), pushes[from][side]);
    }
  }

  private static void chimneyPush() {
    SmokeLeans x = house("room, chimney 0 out 9, chimney 0 out 9 high 9, needed 0 out 9, needed 0 out 9 high 9, hidden 0 out 9");
    int[][] all = {{0, 0, 0, 0, 0, 0}, {1, 2, -7, 5, -4, 5}, {40, 80, -280, 200, -160, 200}};
    for (int[] b : all) {
      x.night(0, b[0]);
      for (int g = 0; g < 5; g++) due("push of " + g + " by cold " + b[0], x.of(g, 9), b[g + 1]);
    }
    x.night(1, 99);
    due("on the side of the wind", x.of(0, 9), 179);
    x.night(2, 2);
    due("across", x.of(1, 9), -329);
  }

  private static void pushInside() {
    SmokeLeans x = house("room, room, cold 40, wind 99");
    for (int kind = 0; kind < 6; kind++) {
      x.gap(kind, 0, 1, 990000);
      due("push inside of kind " + kind, x.of(kind, 9), 0);
    }
  }

  private static void widths() {
    SmokeLeans x = house("room, gap 0 out 7");
    due("the least", x.width(0, 0), 7);
    due("the greatest", x.width(0, 99), 0);
    due("the same", x.width(0, 99), 99);
    due("one below", x.width(0, -1), BEYOND);
    due("one above", x.width(0, 100), BEYOND);
    due("it stays", x.of(0, 3), 99);
    x.shut(0, true);
    due("of a shut one", x.width(0, 5), 99);
    due("it is shut still", x.of(0, 7), 1);
    SmokeLeans y = house("room");
    for (int g = 0; g < 20; g++) y.gap(0, 0, -1, 10000);
    due("of the 20th", y.width(19, 44), 1);
    due("the 20th's", y.of(19, 3), 44);
    due("the 19th's", y.of(18, 3), 1);
  }

  private static void shuts() {
    SmokeLeans x = house("room");
    for (int g = 0; g < 20; g++) x.gap(0, 0, -1, 10000);
    for (int g : new int[] {0, 19}) {
      due("open an open one", x.shut(g, false), 0);
      due("shut an open one", x.shut(g, true), 1);
      due("shut a shut one", x.shut(g, true), 0);
      due("it is shut", x.of(g, 7), 1);
      due("open a shut one", x.shut(g, false), 1);
      due("it is open", x.of(g, 7), 0);
    }
    for (int g = 0; g < 20; g++) x.shut(g, true);
    due("none is open", x.count(2), 0);
  }

  private static void asKinds() {
    SmokeLeans x = house("room, gap 0 out 99, hidden 0 out 99, needed 0 out 98, known 0 out 97, turning 0 out 96, chimney 0 out 95, wind 1");
    long[][] all = {{99, KIND, KIND, KIND, KIND, KIND}, {49, 49, KIND, KIND, KIND, KIND}, {98, KIND, 98, KIND, KIND, KIND},
        {5, KIND, KIND, 5, KIND, KIND}, {192, KIND, KIND, KIND, 192, KIND}, {95, KIND, 95, KIND, KIND, 95}};
    for (int g = 0; g < 6; g++) {
      for (int kind = 0; kind < 6; kind++) due("as(" + g + ", " + kind + ")", x.as(g, kind), all[g][kind]);
    }
    x.shut(1, true);
    due("a shut one as its own kind", x.as(1, 1), 0);
    due("a shut one as a gap", x.as(1, 0), 0);
    due("a shut one as no kind of it", x.as(1, 3), KIND);
  }

  private static void nightLimits() {
    int[][] limits = {{0, 40, 10}, {0, 99, 0}, {0, 3, 0}, {-99, 99, 0}, {0, 99, 5}, {0, 100, 0}};
    for (int what = 0; what < 6; what++) {
      SmokeLeans x = new SmokeLeans();
      int[] b = limits[what];
      due("night " + what + ", one below", x.night(what, b[0] - 1), BEYOND);
      due("night " + what + ", one above", x.night(what, b[1] + 1), BEYOND);
      due("night " + what + ", the least", x.night(what, b[0]), b[2]);
      due("night " + what + ", the greatest", x.night(what, b[1]), b[0]);
      due("night " + what + ", one below", x.night(what, b[0] - 1), BEYOND);
      due("night " + what + ", it stays", x.night(what, b[1]), b[1]);
      for (int other = 0; other < 6; other++) {
        if (other != what) due("night " + other + " behind " + what, x.night(other, 0), limits[other][2]);
      }
    }
  }

  private static void feeding() {
    SmokeLeans x = new SmokeLeans();
    due("one byte", x.feed('r', 1), 1);
    due("two bytes, the highest first", x.feed('o' << 8 | 'o', 2), 3);
    due("one byte, the lowest", x.feed(0x41424300 | 'm', 1), 4);
    due("four bytes", x.feed(0x2C20726F, 4), 8);
    due("three bytes, the lowest", x.feed(0x416F6D20, 3), 11);
    due("they are told", x.house(), 2);
    due("four bytes of -1", x.feed(-1, 4), 4);
    due("none of them begins a token", x.house(), -1);
    due("four bytes of the least int", x.feed(LEAST_INT, 4), 4);
    due("four bytes of the greatest", x.feed(MOST_INT, 4), 8);
    due("no finding", x.status(-1), 0);
  }

  private static void tapeLimits() {
    for (int n = 1; n <= 4; n++) {
      SmokeLeans x = new SmokeLeans();
      for (int i = 0; i < 30; i++) x.feed(0x20202020, i == 29 ? 4 - n : 4);
      if (n == 4) due("116 bytes", x.count(3), 116);
      due("as many as there is place for", x.feed(0x20202020, n), 120);
      due("one more", x.feed(0x20, 1), FULL);
      due("the tape is full", x.count(3), 120);
      SmokeLeans y = new SmokeLeans();
      for (int i = 0; i < 120 - n + 1; i++) y.feed(0x20, 1);
      due("one more than there is place for", y.feed(0x20202020, n), FULL);
      due("none of them came", y.count(3), 121 - n);
    }
  }

  private static void wiping() {
    SmokeLeans x = new SmokeLeans();
    due("wipe of nothing", x.wipe(), 0);
    x.feed(' ', 1);
    due("wipe of one", x.wipe(), 1);
    due("wipe again", x.wipe(), 0);
    for (int i = 0; i < 30; i++) x.feed(0, 4);
    due("wipe of all", x.wipe(), 120);
    due("place again", x.feed(0x726F6F6D, 4), 4);
    due("told behind it", x.house(), 1);
  }

  private static void emptyTexts() {
    SmokeLeans x = new SmokeLeans();
    due("a text of no bytes", x.house(), -1);
    text(x, " ", -2);
    text(x, ",", -1);
    text(x, "room", 1);
    due("the tape is empty", x.house(), -1);
    due("no findings", x.status(-1), 0);
  }

  private static SmokeLeans three() { return house("room,room,room"); }

  private static void numbersInTexts() {
    String[] good = {"gap 0 out 0", "gap 2 out 99", "gap 0 2 9", "gap 2 0 9", "gap 0 out 9 high 0", "gap 0 out 9 high 9",
        "gap 0 out 9 side 0", "gap 0 out 9 side 3", "gap 0 out 9 cost 0", "gap 0 out 9 cost 99", "cold 0", "cold 40",
        "wind 0", "wind 99", "thumb 0", "thumb 99"};
    int[][] wants = {{0, 0, 3, 0}, {0, 0, 3, 99}, {0, 0, 2, 2}, {0, 0, 1, 2}, {0, 0, 4, 0}, {0, 0, 4, 9}, {0, 0, 5, 0}, {0, 0, 5, 3},
        {0, 0, 6, 0}, {0, 0, 6, 99}, {1, 0, 0, 0}, {1, 0, 0, 40}, {1, 0, 1, 0}, {1, 0, 1, 99}, {1, 0, 4, 0}, {1, 0, 4, 99}};
    for (int i = 0; i < good.length; i++) {
      SmokeLeans x = three();
      text(x, good[i], 1);
      int[] w = wants[i];
      due("what came of " + good[i], w[0] == 0 ? x.of(0, w[2]) : x.night(w[2], 0), w[3]);
    }
    String[] bad = {"gap 3 out 9", "gap 0 3 9", "gap 0 out 100", "gap 0 out 9 high 10", "gap 0 out 9 side 4", "gap 0 out 9 cost 100",
        "cold 41", "wind 100", "thumb 100"};
    int[] places = {4, 6, 10, 17, 17, 17, 5, 5, 6};
    for (int i = 0; i < bad.length; i++) text(three(), bad[i], -1 - places[i]);
    for (int room = 0; room < 3; room++) text(three(), "gap " + room + " " + room + " 9", -7);
  }

  private static void leadingZeros() {
    SmokeLeans x = three();
    text(x, "gap 00 out 099 high 0009 side 03 cost 0000000000099", 1);
    int[] want = {0, 0, -1, 99, 9, 3, 99};
    for (int i = 0; i < 7; i++) due("zeros ahead, of(0, " + i + ")", x.of(0, i), want[i]);
    text(x, "gap 1 01 5", -7);
    text(x, "cold 0041", -6);
  }

  private static void numbersTooGreat() {
    for (String number : new String[] {"999", "1000", "9999", "65536", "2147483647", "2147483648", "4294967296", "4294967297",
        "9223372036854775808", "18446744073709551616", "18446744073709551617"}) {
      text(three(), "thumb " + number, -7);
      text(three(), "gap " + number + " out 5", -5);
      text(three(), "gap 1 " + number + " 5", -7);
      text(three(), "gap 1 out " + number, -11);
      text(three(), "gap 1 out 5 side " + number, -18);
      text(three(), number, -1);
    }
  }

  private static void roomsByThen() {
    SmokeLeans x = new SmokeLeans();
    text(x, "gap 0 out 5, room", -5);
    text(x, "room, gap 0 out 5", 2);
    text(x, "gap 0 1 5, room", -7);
    text(x, "room, gap 0 1 5", 2);
    text(x, "room, gap 2 1 5, gap 3 out 5", -22);
    due("rooms that came", x.count(0), 2);
    due("gaps that came", x.count(1), 2);
  }

  private static void seventhRoom() {
    text(house("room,room,room,room,room"), "room", 1);
    SmokeLeans x = house("room,room,room,room,room,room");
    text(x, "room", -1);
    text(x, "cold 5, room", -9);
    text(x, "  room", -3);
    due("six rooms", x.count(0), 6);
    due("the cold stays", x.night(0, 10), 10);
    SmokeLeans y = house("room,room,room,room,room");
    text(y, "room, room", -7);
    due("five rooms", y.count(0), 5);
  }

  private static void twentyFirstGap() {
    SmokeLeans x = house("room");
    for (int g = 0; g < 18; g++) x.gap(0, 0, -1, 10000);
    text(x, "gap 0 out 1, hidden 0 out 1, needed 0 out 1", -30);
    due("none of three came", x.count(1), 18);
    text(x, "gap 0 out 1, hidden 0 out 1", 2);
    due("twenty", x.count(1), 20);
    for (String kind : new String[] {"gap", "hidden", "needed", "known", "turning", "chimney"}) text(x, kind + " 0 out 1", -1);
    text(x, "gap 9 x", -1);
    text(x, "wind 1, gap", -9);
    text(x, "wind 1", 1);
  }

  private static void endsTooEarly() {
    String[] all = {"room,", "room , ", "gap", "gap ", "gap 0", "gap 0 ", "gap 0 out", "gap 0 1", "gap 0 out ", "gap 0 out 5 high",
        "gap 0 out 5 side ", "gap 0 out 5 cost", "gap 0 out 5 high 1 side", "cold", "wind", "thumb ", "room,gap"};
    for (String one : all) text(three(), one, -1 - one.length());
    String[] whole = {"gap 0 out 5", "gap 0 out 5 high 1", "gap 0 out 5 side 1", "gap 0 out 5 cost 1", "cold 1", "room "};
    for (String one : whole) text(three(), one, 1);
  }

  private static void wrongTokens() {
    String[] all = {"roomy", "roo", "gaps 0 out 5", "ga", "cool 5", "fan 5", "from 1", "slips 3", "high 3", "out", "0", "room room",
        "room 1", "room;room", "gap , 0 out 5", "gap out 5", "gap out 0 5", "gap room out 5", "gap 0 in 5", "gap 0 , 5", "gap 0 -1 5", "gap 0 out high 1",
        "gap 0 out 5 5", "gap 0 out 5 width 1", "gap 0 out 5 high high", "gap 0 out 5 high , 1", "cold room", "cold -1", "wind wind 1",
        "room,,room", "ROOM", "Room", "gap 0 Out 5", "\troom", "room\nroom", "room\0", "room\u00ff", "`", "{", "/", ":", "room.room", "gap 0 out 5.5"};
    int[] places = {0, 0, 0, 0, 0, 0, 0, 0, 0, 0, 0, 5, 5, 4, 4, 4, 4, 4, 6, 6, 6, 10, 12, 12, 17, 17, 5, 5, 5, 5, 0, 0, 6, 0, 4, 4, 4, 0, 0, 0, 0, 4, 11};
    for (int i = 0; i < all.length; i++) text(three(), all[i], -1 - places[i]);
  }

  /** Each word with a letter less, a letter more, and each of its letters another one. */
  private static void wordsLetterByLetter() {
    String[] texts = {"room", "gap 0 out 5", "hidden 0 out 5", "needed 0 out 5", "known 0 out 5", "turning 0 out 5", "chimney 0 out 5",
        "cold 5", "wind 5", "thumb 5", "gap 0 out 5", "gap 0 out 5 high 1", "gap 0 out 5 side 1", "gap 0 out 5 cost 1"};
    String[] words = {"room", "gap", "hidden", "needed", "known", "turning", "chimney", "cold", "wind", "thumb", "out", "high", "side", "cost"};
    for (int i = 0; i < words.length; i++) {
      String word = words[i];
      int place = texts[i].indexOf(word);
      text(three(), texts[i], 1);
      text(three(), texts[i].replace(word, word + "a"), -1 - place);
      text(three(), texts[i].replace(word, word + "z"), -1 - place);
      text(three(), texts[i].replace(word, "z" + word), -1 - place);
      text(three(), texts[i].replace(word, word.substring(1)), -1 - place);
      text(three(), texts[i].replace(word, word.substring(0, word.length() - 1)), -1 - place);
      for (int k = 0; k < word.length(); k++) {
        String other = word.substring(0, k) + "q" + word.substring(k + 1);
        text(three(), texts[i].replace(word, other), -1 - place);
        String great = word.substring(0, k) + word.substring(k, k + 1).toUpperCase() + word.substring(k + 1);
        text(three(), texts[i].replace(word, great), -1 - place);
      }
    }
  }

  private static void orderOfMeasures() {
    String[] good = {"", " high 1", " side 2", " cost 3", " high 1 side 2", " high 1 cost 3", " side 2 cost 3", " high 1 side 2 cost 3"};
    for (String one : good) {
      SmokeLeans x = three();
      text(x, "gap 0 out 5" + one, 1);
      due("height of" + one, x.of(0, 4), one.contains("high") ? 1 : 0);
      due("side of" + one, x.of(0, 5), one.contains("side") ? 2 : 0);
      due("cost of" + one, x.of(0, 6), one.contains("cost") ? 3 : 0);
    }
    String[] bad = {" side 1 high 1", " cost 1 side 1", " cost 1 high 1", " high 1 high 1", " side 1 side 1", " cost 1 cost 1"};
    for (String one : bad) text(three(), "gap 0 out 5" + one, -20);
  }

  private static void blanks() {
    text(new SmokeLeans(), "room,room", 2);
    text(new SmokeLeans(), "   room   ,   room   ", 2);
    text(three(), "gap0out5high1side2cost3,cold4", 2);
    text(three(), "gap  0  out  5  high  1", 1);
    text(three(), "gap 0 1 2", 1);
    text(three(), "gap 01 2", -9);
    text(three(), "ro om", -1);
    text(three(), "gap 0 o ut 5", -7);
    text(three(), "thumb 9 9", -9);
    text(three(), "thumb 99", 1);
  }

  /** TOKENS are as long as can be: nothing stands between two of one sort but a blank or a sign. */
  private static void longTokens() {
    text(three(), "roomroom", -1);
    text(three(), "roomgap 0 out 5", -1);
    text(three(), "gap 0 outhigh 5", -7);
    text(three(), "gap 0 out 5highside 1", -12);
    text(three(), "cold 0,wind 0,thumb 0", 3);
    text(three(), "cold 0wind 0", -7);
  }

  private static void fullTapes() {
    SmokeLeans x = new SmokeLeans();
    text(x, "room" + " ".repeat(111) + ",room", 2);
    text(x, "room," + " ".repeat(115), -121);
    text(x, " ".repeat(116) + "room", 1);
    text(x, "room" + " ".repeat(116), 1);
    text(x, " ".repeat(120), -121);
    text(x, " ".repeat(119) + ",", -120);
    text(x, "cold " + "0".repeat(114) + "7", 1);
    due("told by 120 bytes", x.night(0, 0), 7);
    text(x, "cold " + "9".repeat(115), -6);
    text(x, "a".repeat(120), -1);
    text(x, "cold0," + "wind1,".repeat(18) + "thumb2", 20);
    due("the tape is empty", x.wipe(), 0);
  }

  private static void textComesToWhatIsThere() {
    SmokeLeans x = house("room, gap 0 out 5, wind 9");
    x.shut(0, true);
    x.night(3, -99);
    text(x, "cold 1, cold 2", 2);
    due("the later cold", x.night(0, 2), 2);
    text(x, "room, gap 1 0 6", 2);
    due("rooms", x.count(0), 2);
    due("gaps", x.count(1), 2);
    due("the first is shut still", x.of(0, 7), 1);
    due("the wind is as it was", x.night(1, 9), 9);
    due("the fan is as it was", x.night(3, 0), -99);
    due("z is as it was", x.count(4), 1);
  }
}
