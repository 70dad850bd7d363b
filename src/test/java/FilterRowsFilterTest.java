import java.math.BigInteger;

/** Promises 6 to 10: filtering, what ways count, encoding, its bytes, and the kinds chosen. */
public final class FilterRowsFilterTest {
  private static final int LEAST = Integer.MIN_VALUE;
  private static final int MOST = Integer.MAX_VALUE;

  public static void main(String[] args) {
    linesArePackedHighestFirst();
    kindsFilter();
    nearestOfThreeTakesTheFirst();
    stepIsThePlacesBytes();
    nothingIsAboveAPassesFirstLine();
    filteredRefuses();
    worthCounts();
    worthRefuses();
    encodePutsLinesBehindOneAnother();
    encodeGoesThroughSevenPasses();
    waysTakeTheLeast();
    seedTurnsForEachLine();
    encodeRefuses();
    byteAtTellsWhatWasEncodedLast();
    chosenCountsLines();
    Check.end();
  }

  private static void linesArePackedHighestFirst() {
    Pictures.lineIs(Pictures.picture(10, 0, 1, 1, 0, 1, 1, 0, 0, 0, 1, 0, 1), 0, 0, 0, 0xB1, 0x40);
    Pictures.lineIs(Pictures.picture(5, 1, 1, 3, 0, 1, 2, 3), 0, 0, 0, 0xC6, 0xC0);
    Pictures.lineIs(Pictures.picture(3, 2, 1, 1, 2, 15), 0, 0, 0, 0x12, 0xF0);
    Pictures.lineIs(Pictures.picture(2, 3, 2, 1, 2, 3, 255), 0, 0, 0, 1, 2, 3, 255);
    Pictures.lineIs(Pictures.picture(2, 4, 2, 258, 65535, 0, 1), 0, 0, 0,
        1, 2, 255, 255, 0, 0, 0, 1);
    Pictures.lineIs(Pictures.picture(10, 0, 1, 1, 0, 1, 1, 0, 0, 0, 1, 0, 1), 6, 0, 0, 0x58);
  }

  private static void kindsFilter() {
    FilterRows x = Pictures.picture(3, 3, 1, 10, 20, 200, 15, 18, 190);
    Pictures.lineIs(x, 0, 0, 0, 10, 20, 200);
    Pictures.lineIs(x, 0, 0, 1, 10, 10, 180);
    Pictures.lineIs(x, 0, 0, 2, 10, 20, 200);
    Pictures.lineIs(x, 0, 0, 3, 10, 15, 190);
    Pictures.lineIs(x, 0, 0, 4, 10, 10, 180);
    Pictures.lineIs(x, 0, 1, 0, 15, 18, 190);
    Pictures.lineIs(x, 0, 1, 1, 15, 3, 172);
    Pictures.lineIs(x, 0, 1, 2, 5, 254, 246);
    Pictures.lineIs(x, 0, 1, 3, 10, 1, 81);
    Pictures.lineIs(x, 0, 1, 4, 5, 254, 246);
    FilterRows full = Pictures.picture(2, 3, 1, 255, 255, 255, 0);
    Check.same("the half of 255 and 255", full.filtered(0, 1, 3, 1), 1);
    Check.same("0 less 255", full.filtered(0, 1, 1, 1), 1);
    Check.same("the first half of 255", full.filtered(0, 1, 3, 0), 128);
  }

  private static void nearestOfThreeTakesTheFirst() {
    Check.same("c is nearest", Pictures.picture(2, 3, 1, 15, 20, 10, 100).filtered(0, 1, 4, 1), 85);
    Check.same("a before c", Pictures.picture(2, 3, 1, 20, 25, 10, 100).filtered(0, 1, 4, 1), 90);
    Check.same("b before c", Pictures.picture(2, 3, 1, 20, 10, 25, 100).filtered(0, 1, 4, 1), 90);
    Check.same("a is nearest", Pictures.picture(2, 3, 1, 50, 52, 90, 100).filtered(0, 1, 4, 1), 10);
    Check.same("aim below 0", Pictures.picture(2, 3, 1, 255, 1, 2, 100).filtered(0, 1, 4, 1), 99);
    Check.same("aim above 255",
        Pictures.picture(2, 3, 1, 0, 255, 254, 100).filtered(0, 1, 4, 1), 101);
  }

  private static void stepIsThePlacesBytes() {
    Pictures.lineIs(Pictures.picture(2, 3, 3, 1, 2, 3, 11, 22, 33), 0, 0, 1, 1, 2, 3, 10, 20, 30);
    Pictures.lineIs(Pictures.picture(2, 4, 1, 258, 0x0507), 0, 0, 1, 1, 2, 4, 5);
    Pictures.lineIs(Pictures.picture(2, 4, 2, 258, 772, 0x0507, 0x0A0C), 0, 0, 1,
        1, 2, 3, 4, 4, 5, 7, 8);
    Pictures.lineIs(Pictures.picture(4, 2, 1, 1, 2, 3, 4), 0, 0, 1, 0x12, 0x22);
    FilterRows x = Pictures.picture(2, 3, 2, 9, 1, 30, 2, 4, 40, 7, 60);
    Pictures.lineIs(x, 0, 1, 3, 0, 40, 0xF6, 39);
    Pictures.lineIs(x, 0, 1, 4, 0xFB, 39, 0xE9, 20);
  }

  private static void nothingIsAboveAPassesFirstLine() {
    FilterRows x = new FilterRows(1, 4, 3, 1);
    x.paint(10, 5);
    Pictures.lineIs(x, 7, 0, 2, 15);
    Pictures.lineIs(x, 7, 1, 2, 10);
    Pictures.lineIs(x, 5, 0, 4, 20);
    FilterRows wide = new FilterRows(8, 8, 3, 1);
    wide.paint(0, 1);
    Pictures.lineIs(wide, 3, 0, 1, 32, 4);
    Pictures.lineIs(wide, 4, 1, 2, 32, 32);
    Pictures.lineIs(wide, 6, 3, 2, 16, 16, 16, 16);
    Pictures.lineIs(wide, 5, 1, 4, 32, 2, 2, 2);
  }

  private static void filteredRefuses() {
    Class<IllegalArgumentException> argument = IllegalArgumentException.class;
    Class<IndexOutOfBoundsException> index = IndexOutOfBoundsException.class;
    FilterRows x = new FilterRows(3, 2, 3, 1);
    for (int bad : new int[] {-1, 8, LEAST, MOST}) {
      int kind = bad == 8 ? 5 : bad;
      int line = bad == 8 ? 2 : bad;
      int i = bad == 8 ? 3 : bad;
      Check.refused("pass " + bad, argument, () -> x.filtered(bad, 0, 0, 0));
      Check.refused("kind " + kind, argument, () -> x.filtered(0, 0, kind, 0));
      Check.refused("line " + line, index, () -> x.filtered(0, line, 0, 0));
      Check.refused("byte " + i, index, () -> x.filtered(0, 0, 0, i));
      Check.refused("kind and line " + bad, argument, () -> x.filtered(0, line, kind, 0));
      Check.refused("pass and byte " + bad, argument, () -> x.filtered(bad, 0, 0, i));
    }
    Check.refused("a line of a pass without rows", index, () -> x.filtered(3, 0, 0, 0));
    Check.refused("a line of a pass without columns", index, () -> x.filtered(2, 0, 0, 0));
    Check.refused("a byte behind a pass's line", index, () -> x.filtered(1, 0, 0, 1));
  }

  private static void worths(FilterRows x, int line, int kind, int sum, int changes,
      int different) {
    Check.same("sum by " + kind, x.worth(0, line, kind, 5), sum);
    Check.same("changes by " + kind, x.worth(0, line, kind, 6), changes);
    Check.same("different by " + kind, x.worth(0, line, kind, 7), different);
  }

  private static void worthCounts() {
    worths(Pictures.picture(6, 3, 1, 128, 128, 255, 0, 0, 5), 0, 0, 262, 4, 4);
    worths(Pictures.picture(5, 3, 1, 0, 0, 7, 0, 7), 0, 0, 14, 3, 2);
    worths(Pictures.picture(3, 3, 1, 127, 128, 129), 0, 0, 382, 3, 3);
    worths(Pictures.picture(3, 3, 1, 0, 0, 0), 0, 0, 0, 0, 1);
    FilterRows x = Pictures.picture(3, 3, 1, 10, 20, 200, 15, 18, 190);
    worths(x, 0, 1, 96, 2, 2);
    worths(x, 1, 1, 102, 3, 3);
    worths(x, 1, 2, 17, 3, 3);
    worths(x, 1, 3, 92, 3, 3);
    worths(x, 1, 4, 17, 3, 3);
    worths(x, 1, 0, 99, 3, 3);
    Check.same("worth in a pass", x.worth(7, 0, 2, 5), 99);
    Check.same("worth in a pass of one place", x.worth(4, 0, 0, 5), 56);
  }

  private static void worthRefuses() {
    Class<IllegalArgumentException> argument = IllegalArgumentException.class;
    Class<IndexOutOfBoundsException> index = IndexOutOfBoundsException.class;
    FilterRows x = new FilterRows(3, 2, 3, 1);
    for (int bad : new int[] {-1, 8, LEAST, MOST}) {
      int kind = bad == 8 ? 5 : bad;
      int line = bad == 8 ? 2 : bad;
      Check.refused("pass " + bad, argument, () -> x.worth(bad, 0, 0, 5));
      Check.refused("kind " + kind, argument, () -> x.worth(0, 0, kind, 5));
      Check.refused("way " + bad, argument, () -> x.worth(0, 0, 0, bad));
      Check.refused("line " + line, index, () -> x.worth(0, line, 0, 5));
      Check.refused("line and way " + bad, argument, () -> x.worth(0, line, 0, bad));
      Check.refused("line and kind " + bad, argument, () -> x.worth(0, line, kind, 5));
    }
    Check.refused("way 4", argument, () -> x.worth(0, 0, 0, 4));
    Check.refused("a line of a pass without columns", index, () -> x.worth(2, 0, 0, 5));
  }

  private static void encodePutsLinesBehindOneAnother() {
    FilterRows x = Pictures.picture(3, 3, 1, 10, 20, 200, 15, 18, 190);
    Check.same("encode 0", x.encode(0, 0, false), 8);
    Pictures.encodedIs(x, 0, 10, 20, 200, 0, 15, 18, 190);
    Check.same("encode 1", x.encode(1, 0, false), 8);
    Pictures.encodedIs(x, 1, 10, 10, 180, 1, 15, 3, 172);
    x.encode(2, 0, false);
    Pictures.encodedIs(x, 2, 10, 20, 200, 2, 5, 254, 246);
    x.encode(3, 0, false);
    Pictures.encodedIs(x, 3, 10, 15, 190, 3, 10, 1, 81);
    x.encode(4, 0, false);
    Pictures.encodedIs(x, 4, 10, 10, 180, 4, 5, 254, 246);
    FilterRows largest = new FilterRows(16, 16, 4, 4);
    Check.same("the largest encoding", largest.encode(0, 0, false), 16 * 129);
    Check.same("the largest laced encoding", largest.encode(0, 0, true), 2048 + 30);
    Check.same("the last of these", largest.byteAt(2077), 0);
  }

  private static void encodeGoesThroughSevenPasses() {
    FilterRows two = Pictures.picture(2, 3, 1, 1, 2, 3, 4);
    Check.same("encode laced", two.encode(0, 0, true), 7);
    Pictures.encodedIs(two, 0, 1, 0, 2, 0, 3, 4);
    FilterRows x = new FilterRows(8, 8, 3, 1);
    x.paint(100, 1);
    Check.same("encode eight by eight", x.encode(0, 0, true), 64 + 15);
    Pictures.encodedIs(x, 0, 100, 0, 104, 0, 132, 136, 0, 102, 106, 0, 134, 138,
        0, 116, 118, 120, 122, 0, 148, 150, 152, 154,
        0, 101, 103, 105, 107, 0, 117, 119, 121, 123, 0, 133, 135, 137, 139, 0, 149, 151, 153, 155,
        0, 108, 109, 110, 111, 112, 113, 114, 115, 0, 124, 125, 126, 127, 128, 129, 130, 131,
        0, 140, 141, 142, 143, 144, 145, 146, 147, 0, 156, 157, 158, 159, 160, 161, 162, 163);
  }

  private static void waysTakeTheLeast() {
    for (int way = 5; way <= 7; way++) {
      FilterRows blank = new FilterRows(3, 2, 3, 1);
      blank.encode(way, 0, false);
      Pictures.encodedIs(blank, 0, 0, 0, 0, 0, 0, 0, 0);
    }
    // the sums of the second line are 99, 102, 17, 92 and 17
    FilterRows x = Pictures.picture(3, 3, 1, 10, 20, 200, 15, 18, 190);
    x.encode(5, 0, false);
    Pictures.encodedIs(x, 0, 10, 20, 200, 2, 5, 254, 246);
    x.encode(6, 0, false);
    Pictures.encodedIs(x, 1, 10, 10, 180, 0, 15, 18, 190);
    x.encode(7, 0, false);
    Pictures.encodedIs(x, 1, 10, 10, 180, 0, 15, 18, 190);
    // by kind 0 there are three changes, and three by kind 1 (0, 7, 249, 7)
    FilterRows y = Pictures.picture(4, 3, 1, 0, 7, 0, 7);
    y.encode(6, 0, false);
    Pictures.encodedIs(y, 0, 0, 7, 0, 7);
    FilterRows z = Pictures.picture(4, 3, 1, 1, 2, 3, 5);
    Check.same("changes by 0", z.worth(0, 0, 0, 6), 4);
    Check.same("changes by 1", z.worth(0, 0, 1, 6), 2);
    z.encode(6, 0, false);
    Pictures.encodedIs(z, 1, 1, 1, 1, 2);
    FilterRows v = Pictures.picture(5, 3, 1, 10, 17, 24, 31, 38, 45, 52, 59, 66, 73);
    v.encode(5, 0, false);
    Pictures.encodedIs(v, 1, 10, 7, 7, 7, 7, 4, 35, 7, 7, 7, 7);
    FilterRows w = Pictures.picture(6, 3, 1, 9, 9, 4, 4, 4, 9);
    Check.same("different by 0", w.worth(0, 0, 0, 7), 2);
    Check.same("different by 1", w.worth(0, 0, 1, 7), 4);
    w.encode(7, 0, false);
    Pictures.encodedIs(w, 0, 9, 9, 4, 4, 4, 9);
    w.encode(5, 0, false);
    Pictures.encodedIs(w, 1, 9, 0, 251, 0, 0, 5);
  }

  private static void seedTurnsForEachLine() {
    FilterRows x = new FilterRows(1, 16, 3, 1);
    for (int seed : new int[] {0, 1, 7, 65535, -1, -98765, LEAST, MOST}) {
      for (boolean laced : new boolean[] {false, true}) {
        x.encode(8, seed, laced);
        BigInteger turned = BigInteger.valueOf(seed);
        for (int line = 0; line < 16; line++) {
          turned = turned.multiply(BigInteger.valueOf(1103515245L)).add(BigInteger.valueOf(12345));
          long kind = Math.floorDiv((long) turned.intValue(), 65536L) & 32767;
          Check.same("kind of line " + line + " by " + seed, x.byteAt(2 * line), kind % 5);
        }
      }
    }
    x.encode(8, 0, false);
    Check.same("12345 is below 65536", x.byteAt(0), 0);
  }

  private static void encodeRefuses() {
    FilterRows x = Pictures.picture(2, 3, 1, 1, 2);
    x.encode(2, 0, false);
    x.put(0, 0, 0, 9);
    for (int bad : new int[] {-1, 9, LEAST, MOST}) {
      Check.refused("way " + bad, IllegalArgumentException.class, () -> x.encode(bad, 0, false));
    }
    Pictures.encodedIs(x, 2, 1, 2);
    Check.same("chosen after refusals", x.chosen(2), 1);
  }

  private static void byteAtTellsWhatWasEncodedLast() {
    FilterRows x = Pictures.picture(2, 3, 1, 1, 2);
    Check.refused("nothing was encoded", IndexOutOfBoundsException.class, () -> x.byteAt(0));
    x.encode(0, 0, true);
    Pictures.encodedIs(x, 0, 1, 0, 2);
    x.encode(1, 0, false);
    x.paint(77, 0);
    Pictures.encodedIs(x, 1, 1, 1);
    for (int bad : new int[] {-1, 3, LEAST, MOST}) {
      Check.refused("byteAt " + bad, IndexOutOfBoundsException.class, () -> x.byteAt(bad));
    }
  }

  private static void chosenCountsLines() {
    FilterRows x = new FilterRows(2, 5, 3, 1);
    for (int kind = 0; kind <= 4; kind++) {
      Check.same("chosen before encoding", x.chosen(kind), 0);
    }
    for (int way = 0; way <= 4; way++) {
      x.encode(way, 0, false);
      for (int kind = 0; kind <= 4; kind++) {
        Check.same("chosen(" + kind + ") by " + way, x.chosen(kind), kind == way ? 5 : 0);
      }
    }
    x.encode(8, 7, false);
    int[] due = new int[5];
    for (int line = 0; line < 5; line++) {
      due[x.byteAt(3 * line)]++;
    }
    for (int kind = 0; kind <= 4; kind++) {
      Check.same("chosen(" + kind + ") by a seed", x.chosen(kind), due[kind]);
    }
    for (int bad : new int[] {-1, 5, LEAST, MOST}) {
      Check.refused("chosen " + bad, IllegalArgumentException.class, () -> x.chosen(bad));
    }
  }
}
