/** Promises 30 to 39 at their edges: sheets of none and of forty, numbers that go round, images, counts. */
public final class SheetEdgeTest extends Checks {
  public static void main(String[] args) {
    sheetSizes(); sheetsAnew(); sheetsMissing(); lowestBits(); numbersLikeFindings(); writeAtTheEnds();
    copyNone(); copyAll(); copyOntoItself(); copyOfBits();
    laysLimits(); laysOfBits(); laysShortAndLong(); readAll(); readWrong(); readLongSheets();
    imageOfNothing(); imageKeepsAll(); imageKeepsNot(); undoAgain(); undoGoesOn(); tearing();
    countsOfFull(); countOfZ(); statusOfEach(); statusOfItself();
    end("all edges of sheets and images stand");
  }

  private static void sheetSizes() {
    for (int s = 0; s < 4; s++) {
      for (int bits : new int[] {8, 16, 64}) {
        SmokeLeans x = new SmokeLeans();
        for (int n : new int[] {0, 1, 39, 40}) {
          due("sheet of " + n, x.sheet(s, bits, n), n);
          due("number behind its end", x.write(s, n, 1), BEYOND);
          if (n > 0) due("its last number", x.write(s, n - 1, 1), 0);
        }
        due("sheet of 41", x.sheet(s, bits, 41), BEYOND);
        due("sheet of -1", x.sheet(s, bits, -1), SIZE);
        due("it is as it was", x.write(s, 39, 1), 1);
        for (int t = 0; t < 4; t++) if (t != s) due("the others are missing", x.lays(t), MISSING);
      }
    }
  }

  private static void sheetsAnew() {
    SmokeLeans x = new SmokeLeans();
    x.sheet(0, 8, 40);
    for (int i = 0; i < 40; i++) x.write(0, i, i + 1);
    due("the same anew", x.sheet(0, 8, 40), 40);
    for (int i = 0; i < 40; i++) due("all 0, number " + i, x.write(0, i, i + 1), 0);
    x.sheet(0, 64, 1);
    x.sheet(0, 64, 40);
    for (int i = 0; i < 40; i++) due("all 0 behind a short one, number " + i, x.write(0, i, 0), 0);
  }

  private static void sheetsMissing() {
    SmokeLeans x = new SmokeLeans();
    for (int n : new int[] {0, 1, 40}) {
      x.sheet(2, 16, 5);
      due("bits 0 and " + n, x.sheet(2, 0, n), 0);
      due("it is missing", x.write(2, 0, 1), MISSING);
    }
    due("missing again", x.sheet(2, 0, 3), 0);
    x.sheet(2, 16, 0);
    due("no numbers, but not missing", x.write(2, 0, 1), BEYOND);
    due("lays of no numbers", x.lays(2), 0);
    due("read of no numbers", x.read(2), 0);
    due("sticks on no numbers", x.sticks(2), 0);
    due("copy of no numbers", x.copy(2, 0, 2, 0, 0), 0);
  }

  private static void becomes(int bits, long v, long want) {
    SmokeLeans x = new SmokeLeans();
    x.sheet(0, bits, 3);
    due("it was 0", x.write(0, 1, v), 0);
    due(v + " by " + bits + " bits", x.write(0, 1, 0), want);
    due("the one ahead", x.write(0, 0, 0), 0);
    due("the one behind", x.write(0, 2, 0), 0);
  }

  private static void lowestBits() {
    long[][] eight = {{0, 0}, {1, 1}, {-1, -1}, {127, 127}, {128, -128}, {129, -127}, {255, -1}, {256, 0}, {257, 1}, {-128, -128},
        {-129, 127}, {-256, 0}, {0x1234567F, 0x7F}, {Long.MAX_VALUE, -1}, {Long.MIN_VALUE, 0}};
    for (long[] b : eight) becomes(8, b[0], b[1]);
    long[][] sixteen = {{0, 0}, {-1, -1}, {255, 255}, {256, 256}, {32767, 32767}, {32768, -32768}, {65535, -1}, {65536, 0}, {65537, 1},
        {-32768, -32768}, {-32769, 32767}, {Long.MAX_VALUE, -1}, {Long.MIN_VALUE, 0}};
    for (long[] b : sixteen) becomes(16, b[0], b[1]);
    for (long v : new long[] {0, -1, 65536, MOST_INT, MOST_INT + 1L, LEAST_INT, LEAST_INT - 1L, 1L << 32, Long.MAX_VALUE, Long.MIN_VALUE}) {
      becomes(64, v, v);
    }
  }

  private static void numbersLikeFindings() {
    SmokeLeans x = new SmokeLeans();
    x.sheet(0, 64, 1);
    for (long finding = -1000000007L; finding < -1000000000L; finding++) {
      x.write(0, 0, finding);
      due("what it was", x.write(0, 0, 0), finding);
    }
    due("none is counted", x.status(-1), 0);
  }

  private static void writeAtTheEnds() {
    SmokeLeans x = new SmokeLeans();
    x.sheet(3, 8, 40);
    due("the first", x.write(3, 0, 5), 0);
    due("the last", x.write(3, 39, 6), 0);
    due("one ahead of it", x.write(3, -1, 7), BEYOND);
    due("one behind it", x.write(3, 40, 7), BEYOND);
    due("the first is", x.write(3, 0, 0), 5);
    due("the last is", x.write(3, 39, 0), 6);
  }

  private static SmokeLeans rows() {
    SmokeLeans x = new SmokeLeans();
    x.sheet(0, 16, 40);
    x.sheet(1, 16, 5);
    for (int i = 0; i < 40; i++) x.write(0, i, 100 + i);
    for (int i = 0; i < 5; i++) x.write(1, i, i + 1);
    return x;
  }

  private static void is(SmokeLeans x, int s, int from, int... want) {
    for (int i = 0; i < want.length; i++) due("number " + (from + i) + " of sheet " + s, x.write(s, from + i, want[i]), want[i]);
  }

  private static void copyNone() {
    SmokeLeans x = rows();
    due("none, from the start", x.copy(0, 0, 1, 0, 0), 0);
    due("none, from the end", x.copy(0, 40, 1, 5, 0), 0);
    due("none, from behind the end", x.copy(0, 41, 1, 0, 0), BEYOND);
    due("none, to behind the end", x.copy(0, 0, 1, 6, 0), BEYOND);
    due("below none", x.copy(0, 1, 1, 1, -1), BEYOND);
    is(x, 1, 0, 1, 2, 3, 4, 5);
  }

  private static void copyAll() {
    SmokeLeans x = rows();
    due("the last one to the last", x.copy(0, 39, 1, 4, 1), 1);
    is(x, 1, 0, 1, 2, 3, 4, 139);
    due("as many as there is place for", x.copy(0, 35, 1, 0, 5), 5);
    is(x, 1, 0, 135, 136, 137, 138, 139);
    due("one more than there is place for", x.copy(0, 0, 1, 0, 6), BEYOND);
    due("one more than it has", x.copy(1, 0, 0, 0, 6), BEYOND);
    due("all that it has, to the end", x.copy(1, 0, 0, 35, 5), 5);
    due("one past the end", x.copy(1, 0, 0, 36, 5), BEYOND);
    due("from one past the start", x.copy(1, 1, 0, 0, 5), BEYOND);
    due("onto itself, just so", x.copy(0, 0, 0, 0, 40), 40);
    is(x, 0, 33, 133, 134, 135, 136, 137, 138, 139);
    x.sheet(2, 16, 40);
    due("forty", x.copy(0, 0, 2, 0, 40), 40);
    is(x, 2, 0, 100, 101);
    is(x, 2, 38, 138, 139);
  }

  private static void copyOntoItself() {
    SmokeLeans x = rows();
    due("up by one", x.copy(0, 0, 0, 1, 39), 39);
    is(x, 0, 0, 100, 100, 101, 102);
    is(x, 0, 38, 137, 138);
    due("down by two", x.copy(0, 2, 0, 0, 38), 38);
    is(x, 0, 0, 101, 102, 103);
    is(x, 0, 36, 137, 138, 137, 138);
  }

  private static void copyOfBits() {
    for (int bits : new int[] {8, 16, 64}) {
      SmokeLeans x = new SmokeLeans();
      x.sheet(0, bits, 2);
      x.sheet(1, bits, 2);
      x.write(0, 1, -5);
      due("of as many bits", x.copy(0, 1, 1, 0, 1), 1);
      is(x, 1, 0, -5, 0);
      for (int other : new int[] {8, 16, 64}) {
        if (other == bits) continue;
        x.sheet(2, other, 2);
        due("of " + bits + " to " + other, x.copy(0, 0, 2, 0, 1), KIND);
        due("of " + bits + " to " + other + ", none", x.copy(0, 0, 2, 0, 0), KIND);
      }
    }
  }

  private static void laysLimits() {
    long[] numbers = {0, 99, 100, -1, Long.MIN_VALUE, Long.MAX_VALUE, 1L << 32, (1L << 32) + 50, -1L << 32, 50};
    boolean[] come = {true, true, false, false, false, false, false, false, false, true};
    for (int i = 0; i < numbers.length; i++) {
      SmokeLeans x = house("room, gap 0 out 7, gap 0 out 8");
      x.sheet(0, 64, 1);
      x.write(0, 0, numbers[i]);
      due("lays of " + numbers[i], x.lays(0), come[i] ? 1 : 0);
      due("width by " + numbers[i], x.of(0, 3), come[i] ? numbers[i] : 7);
      due("the other width", x.of(1, 3), 8);
      due("the number stays", x.write(0, 0, 0), numbers[i]);
    }
  }

  private static void laysOfBits() {
    int[] wants = {44, 300, 300};
    for (int i = 0; i < 3; i++) {
      SmokeLeans x = house("room, gap 0 out 7");
      x.sheet(0, new int[] {8, 16, 64}[i], 1);
      x.write(0, 0, 300);
      due("300 by bits", x.lays(0), wants[i] == 44 ? 1 : 0);
      due("width by it", x.of(0, 3), wants[i] == 44 ? 44 : 7);
    }
    SmokeLeans y = house("room, hidden 0 out 7, known 0 out 7");
    y.shut(0, true);
    y.sheet(0, 16, 2);
    y.write(0, 0, 65536 + 31);
    due("65567 is 31 by 16 bits; a shut one, a known one", y.lays(0), 2);
    due("width of the shut one", y.of(0, 3), 31);
    due("it is shut still", y.of(0, 7), 1);
    due("width of the known one", y.of(1, 3), 0);
  }

  private static void laysShortAndLong() {
    SmokeLeans x = house("room");
    x.sheet(0, 8, 40);
    for (int i = 0; i < 40; i++) x.write(0, i, 99 - i);
    due("lays on no gaps", x.lays(0), 0);
    for (int g = 0; g < 20; g++) x.gap(0, 0, -1, 0);
    due("lays on twenty", x.lays(0), 20);
    due("the first", x.of(0, 3), 99);
    due("the last", x.of(19, 3), 80);
    x.sheet(0, 8, 0);
    due("lays of none", x.lays(0), 0);
    x.sheet(0, 8, 1);
    due("lays of one", x.lays(0), 1);
    due("the first", x.of(0, 3), 0);
    due("the second", x.of(1, 3), 98);
    x.sheet(0, 8, 3);
    x.write(0, 0, -1);
    x.write(0, 1, 100);
    x.write(0, 2, 5);
    due("two are left out", x.lays(0), 1);
    due("the second stays", x.of(1, 3), 98);
    due("the third comes", x.of(2, 3), 5);
  }

  private static SmokeLeans leans() {
    SmokeLeans x = house("room, gap 0 out 99, gap 0 out 99 high 9, hidden 0 out 40, gap 0 out 0");
    due("lean 0", x.lean(0), 9);
    due("lean 1", x.lean(1), -9);
    due("lean 2", x.lean(2), 5);
    return x;
  }

  private static void readAll() {
    for (int bits : new int[] {8, 16, 64}) {
      SmokeLeans x = leans();
      for (int n = 0; n <= 4; n++) {
        x.sheet(0, bits, n);
        x.write(0, 0, 9);
        x.write(0, 1, -9);
        x.write(0, 2, 5);
        due("all right, " + n, x.read(0), 0);
      }
      due("no draw", x.count(4), 1);
    }
    SmokeLeans none = new SmokeLeans();
    none.sheet(0, 8, 0);
    due("read of none", none.read(0), 0);
    none.sheet(0, 8, 1);
    due("read without gaps", none.read(0), 1);
  }

  private static void readWrong() {
    SmokeLeans x = leans();
    x.sheet(0, 64, 4);
    int[] right = {9, -9, 5, 0};
    for (int at = 0; at < 4; at++) {
      for (long v : new long[] {right[at] + 1, right[at] - 1, right[at] + 10, right[at] + (1L << 32), Long.MIN_VALUE + right[at]}) {
        for (int i = 0; i < 4; i++) x.write(0, i, i == at ? v : right[i]);
        due("the number at " + at + " is " + v, x.read(0), 1 + at);
      }
    }
    for (int i = 0; i < 4; i++) x.write(0, i, i == 1 || i == 3 ? 7 : right[i]);
    due("the first of two", x.read(0), 2);
    SmokeLeans y = house("room, gap 0 out 10 high 9");
    y.sheet(0, 8, 1);
    due("a still gap leans by 0", y.read(0), 0);
  }

  private static void readLongSheets() {
    SmokeLeans x = leans();
    x.sheet(0, 8, 5);
    int[] right = {9, -9, 5, 0};
    for (int i = 0; i < 4; i++) x.write(0, i, right[i]);
    due("the 5th stands for no gap", x.read(0), 5);
    x.write(0, 3, 1);
    due("one ahead of it is wrong", x.read(0), 4);
    SmokeLeans y = house("room");
    for (int g = 0; g < 20; g++) y.gap(0, 0, -1, 0);
    y.sheet(0, 8, 20);
    due("twenty", y.read(0), 0);
    y.write(0, 19, 1);
    due("the 20th is wrong", y.read(0), 20);
    y.sheet(0, 8, 40);
    due("the 21st of forty", y.read(0), 21);
  }

  private static void imageOfNothing() {
    SmokeLeans x = new SmokeLeans();
    due("image of nothing", x.image(), 1);
    told(x, "room, gap 0 out 5");
    due("undo to nothing", x.undo(), 0);
    due("rooms", x.count(0), 0);
    due("gaps", x.count(1), 0);
    due("of no gap", x.of(0, 0), BEYOND);
    due("pressure of no room", x.pressure(0), BEYOND);
    due("the first room again", x.room(), 0);
    due("something is kept", x.tear(), 1);
  }

  private static void imageKeepsAll() {
    SmokeLeans x = house("room, room, gap 0 out 21 high 2 side 3 cost 4, turning 1 0 22");
    int[] night = {40, 99, 3, -99, 98, 100};
    for (int i = 0; i < 6; i++) x.night(i, night[i]);
    x.shut(1, true);
    x.seed(LEAST_INT);
    x.image();
    for (int i = 0; i < 6; i++) x.night(i, 0);
    x.shut(1, false);
    x.shut(0, true);
    x.width(0, 0);
    x.width(1, 99);
    x.seed(MOST_INT);
    told(x, "room, room, room, room, known 5 4 3");
    due("undo", x.undo(), 2);
    int[] counts = {2, 2, 1, 0, LEAST_INT, 43, 4};
    for (int i = 0; i < 7; i++) due("count(" + i + ")", x.count(i), counts[i]);
    int[][] of = {{0, 0, -1, 21, 2, 3, 4, 0}, {4, 1, 0, 22, 0, 0, 0, 1}};
    for (int g = 0; g < 2; g++) for (int i = 0; i < 8; i++) due("of(" + g + ", " + i + ")", x.of(g, i), of[g][i]);
    for (int i = 0; i < 6; i++) due("night " + i, x.night(i, night[i]), night[i]);
  }

  private static void imageKeepsNot() {
    SmokeLeans x = house("room");
    x.sheet(0, 8, 2);
    x.image();
    feed(x, "room");
    x.write(0, 0, 9);
    x.sheet(1, 16, 1);
    x.most();
    due("undo", x.undo(), 0);
    due("the tape is as it is", x.count(3), 4);
    due("the sheet is as it is", x.write(0, 0, 0), 9);
    due("another sheet is", x.write(1, 0, 0), 0);
    due("the finding is counted still", x.status(3), 1);
    due("the tape is told", x.house(), 1);
  }

  private static void undoAgain() {
    SmokeLeans x = house("room, gap 0 out 1");
    x.image();
    for (int i = 0; i < 3; i++) {
      x.width(0, 9);
      due("undo", x.undo(), 1);
      due("width as it was kept", x.of(0, 3), 1);
    }
    x.width(0, 2);
    x.image();
    x.width(0, 3);
    x.undo();
    due("what was kept latest", x.of(0, 3), 2);
    x.undo();
    due("not what was kept ahead of it", x.of(0, 3), 2);
    due("undo of no change", x.undo(), 1);
  }

  private static void undoGoesOn() {
    SmokeLeans x = house("room, gap 0 out 1");
    x.image();
    x.room();
    x.gap(0, 1, -1, 20000);
    x.undo();
    due("the next room", x.room(), 1);
    due("the next gap", x.gap(3, 1, 0, 30000), 1);
    due("its kind", x.of(1, 0), 3);
    x.undo();
    for (int r = 1; r < 6; r++) due("room", x.room(), r);
    due("a 7th", x.room(), FULL);
    for (int g = 1; g < 20; g++) due("gap", x.gap(0, 0, 1, 0), g);
    due("a 21st", x.gap(0, 0, 1, 0), FULL);
    due("undo of all", x.undo(), 1);
    due("place for a room", x.room(), 1);
    due("place for a gap", x.gap(0, 0, 1, 0), 1);
  }

  private static void tearing() {
    SmokeLeans x = house("room, gap 0 out 1");
    due("tear of nothing", x.tear(), 0);
    x.image();
    x.image();
    due("tear of something", x.tear(), 1);
    due("tear again", x.tear(), 0);
    x.width(0, 5);
    due("undo of nothing", x.undo(), NONE);
    due("nothing changes", x.of(0, 3), 5);
    x.image();
    due("undo of what is kept anew", x.undo(), 1);
    due("tear of it", x.tear(), 1);
  }

  private static void countsOfFull() {
    SmokeLeans x = house("room,room,room,room,room,room");
    for (int g = 0; g < 20; g++) x.gap(g % 6, g % 6, -1, 990099);
    for (int i = 0; i < 30; i++) x.feed(0, 4);
    int[] counts = {6, 20, 20, 120, 1, 1980, 1980};
    for (int i = 0; i < 7; i++) due("count(" + i + ") of all", x.count(i), counts[i]);
    for (int g = 0; g < 20; g++) x.shut(g, true);
    int[] shut = {6, 20, 0, 120, 1, 1980, 0};
    for (int i = 0; i < 7; i++) due("count(" + i + ") of all shut", x.count(i), shut[i]);
  }

  private static void countOfZ() {
    SmokeLeans x = new SmokeLeans();
    for (int z : new int[] {0, -1, MOST_INT, LEAST_INT, -1000000001, -1000000007, -1000000000}) {
      x.seed(z);
      due("count(4)", x.count(4), z);
    }
    due("none is counted", x.status(-1), 0);
  }

  private static void statusOfEach() {
    SmokeLeans x = new SmokeLeans();
    x.sheet(0, 8, 1);
    x.sheet(1, 16, 1);
    due("none yet", x.status(-1), 0);
    x.pressure(0);
    due("one beyond", x.status(0), 1);
    for (int i = 0; i < 8; i++) x.room();
    due("two full", x.status(1), 2);
    for (int i = 0; i < 3; i++) x.copy(0, 0, 1, 0, 1);
    due("three kind", x.status(2), 3);
    for (int i = 0; i < 4; i++) x.undo();
    due("four none", x.status(3), 4);
    for (int i = 0; i < 6; i++) x.lays(3);
    due("six missing", x.status(5), 6);
    for (int i = 0; i < 7; i++) x.sheet(0, 8, -1);
    due("seven size", x.status(6), 7);
    due("no state", x.status(4), 0);
    due("one beyond still", x.status(0), 1);
    due("all", x.status(-1), 23);
    x.image();
    x.undo();
    due("all, behind undo", x.status(-1), 23);
    x.house();
    due("all, behind a fault", x.status(-1), 23);
  }

  private static void statusOfItself() {
    SmokeLeans x = new SmokeLeans();
    due("status(-2)", x.status(-2), BEYOND);
    due("counted from then on", x.status(0), 1);
    due("status(7)", x.status(7), BEYOND);
    due("counted from then on", x.status(0), 2);
    due("all", x.status(-1), 2);
    for (int k = 1; k < 7; k++) due("status(" + k + ")", x.status(k), 0);
  }
}
