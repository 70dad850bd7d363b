/**
 * The boundary cases that the document's "What it is" and "Terms" name: a method for each, and the
 * words that it is about.
 */
public final class FilterRowsTermEdgesTest {
  private static final int LEAST = Integer.MIN_VALUE;
  private static final int MOST = Integer.MAX_VALUE;

  public static void main(String[] args) {
    widthCountsAsTheNearest();
    heightCountsAsTheNearest();
    bitsCountAsTheNearest();
    channelsCountAsTheNearest();
    moreThanOneChannelHasEightBitsAtLeast();
    channelsThatCountAsOneKeepTheirBits();
    samplesEndAtTwoToTheBitsLessOne();
    samplesAreAtFirstZero();
    whatIsLeftOfTheLastByteIsZero();
    stepIsOneAtLeast();
    nothingIsBeforeTheFirstPlace();
    nothingIsAboveTheFirstLine();
    nothingIsAboveTheFirstLineOfAnyPass();
    restsRunOverBelowZero();
    theHalfGoesDownward();
    theNearestIsTheFirstOfEqualOnes();
    theAimMayLieBeyondAByte();
    passesBeginAtTheirColumns();
    passesBeginAtTheirRows();
    passesWithoutPlacesHaveNoLines();
    passesWithoutPlacesAreNotEncoded();
    sumsTurnAt128();
    theFirstByteIsComparedWithZero();
    differentOnesAreOneAtLeastAndEachAtMost();
    theKindThatCountsTheLeast();
    ofEqualKindsTheLesser();
    ofManyEqualKindsTheLeast();
    seedRunsOver();
    seedIsDividedDownward();
    seedBeginsAnewWithEachCall();
    bitsThatAreNoSamplesArePassedOver();
    bitsThatAreNoSamplesCountForOtherBytes();
    decodingEndsAtAKindAboveFour();
    decodingEndsWhereBytesLack();
    decodingEndsWhereBytesAreLeft();
    the512thCallAnswersToo();
    Check.end();
  }

  /** "WIDTH .. 1 .. 16 .. (other numbers count as the nearest ones)" */
  private static void widthCountsAsTheNearest() {
    int[][] rows = {{LEAST, 1}, {-1, 1}, {0, 1}, {1, 1}, {2, 2}, {15, 15}, {16, 16}, {17, 16},
        {MOST, 16}};
    for (int[] row : rows) {
      FilterRows x = new FilterRows(row[0], 3, 3, 2);
      Check.same("width for " + row[0], x.told(0), row[1]);
      Check.same("height beside it", x.told(1), 3);
      Check.same("the last column", x.put(row[1] - 1, 2, 1, 9), 0);
      Check.refused("a column more", IndexOutOfBoundsException.class, () -> x.at(row[1], 2, 1));
      Check.same("places", x.pass(0, 2), 3 * row[1]);
    }
  }

  /** "HEIGHT, 1 .. 16 .. (other numbers count as the nearest ones)" */
  private static void heightCountsAsTheNearest() {
    int[][] rows = {{LEAST, 1}, {-1, 1}, {0, 1}, {1, 1}, {2, 2}, {15, 15}, {16, 16}, {17, 16},
        {MOST, 16}};
    for (int[] row : rows) {
      FilterRows x = new FilterRows(3, row[0], 3, 2);
      Check.same("height for " + row[0], x.told(1), row[1]);
      Check.same("width beside it", x.told(0), 3);
      Check.same("the last row", x.put(2, row[1] - 1, 1, 9), 0);
      Check.refused("a row more", IndexOutOfBoundsException.class, () -> x.at(2, row[1], 1));
      Check.same("lines", x.pass(0, 0), row[1]);
    }
  }

  /** "BITS 1, 2, 4, 8 or 16 (told by 0 .. 4) .. (other numbers count as the nearest ones)" */
  private static void bitsCountAsTheNearest() {
    int[][] rows = {{LEAST, 1}, {-1, 1}, {0, 1}, {1, 2}, {2, 4}, {3, 8}, {4, 16}, {5, 16}, {8, 16},
        {16, 16}, {MOST, 16}};
    for (int[] row : rows) {
      Check.same("bits for " + row[0], new FilterRows(3, 3, row[0], 1).told(2), row[1]);
    }
  }

  /** "CHANNELS 1 .. 4 (other numbers count as the nearest ones)" */
  private static void channelsCountAsTheNearest() {
    int[][] rows = {{LEAST, 1}, {-1, 1}, {0, 1}, {1, 1}, {2, 2}, {3, 3}, {4, 4}, {5, 4}, {MOST, 4}};
    for (int[] row : rows) {
      FilterRows x = new FilterRows(3, 3, 3, row[0]);
      Check.same("channels for " + row[0], x.told(3), row[1]);
      Check.same("the last channel", x.put(2, 2, row[1] - 1, 9), 0);
      Check.refused("a channel more", IndexOutOfBoundsException.class, () -> x.at(2, 2, row[1]));
    }
  }

  /** "with more than one channel it has 8 bits at least" */
  private static void moreThanOneChannelHasEightBitsAtLeast() {
    for (int channels : new int[] {2, 3, 4, 5, MOST}) {
      for (int bits : new int[] {LEAST, -1, 0, 1, 2, 3}) {
        FilterRows x = new FilterRows(2, 2, bits, channels);
        Check.same("bits for " + bits + " of " + channels, x.told(2), 8);
        Check.same("step", x.told(4), Math.min(4, channels));
        x.put(1, 1, 1, 255);
        Check.refused("256", IllegalArgumentException.class, () -> x.put(1, 1, 1, 256));
      }
      Check.same("bits for 4", new FilterRows(2, 2, 4, channels).told(2), 16);
      Check.same("bits for 5", new FilterRows(2, 2, 5, channels).told(2), 16);
    }
  }

  /** The channels count as the nearest before they are asked whether they are more than one. */
  private static void channelsThatCountAsOneKeepTheirBits() {
    for (int channels : new int[] {LEAST, -4, -1, 0, 1}) {
      for (int bits = 0; bits <= 4; bits++) {
        Check.same("bits", new FilterRows(2, 2, bits, channels).told(2), 1 << bits);
      }
    }
  }

  /** "SAMPLES are 0 .. 2^bits - 1" */
  private static void samplesEndAtTwoToTheBitsLessOne() {
    int[] most = {1, 3, 15, 255, 65535};
    for (int bits = 0; bits <= 4; bits++) {
      FilterRows x = new FilterRows(1, 1, bits, 1);
      int last = most[bits];
      Check.same("the most", x.put(0, 0, 0, last), 0);
      Check.refused("one more", IllegalArgumentException.class, () -> x.put(0, 0, 0, last + 1));
      Check.same("the most stays", x.put(0, 0, 0, 0), last);
      Check.refused("one less than 0", IllegalArgumentException.class, () -> x.put(0, 0, 0, -1));
      Check.same("0 stays", x.at(0, 0, 0), 0);
    }
  }

  /** "SAMPLES are .. at first 0" */
  private static void samplesAreAtFirstZero() {
    for (int bits = 0; bits <= 4; bits++) {
      for (int channels = 1; channels <= 4; channels++) {
        FilterRows x = new FilterRows(16, 16, bits, channels);
        Check.same("the first sample", x.at(0, 0, 0), 0);
        Check.same("the last sample", x.at(15, 15, channels - 1), 0);
        Check.same("samples that are not 0", x.paint(0, 0), 0);
      }
    }
  }

  /** "what is left of the last byte is 0" */
  private static void whatIsLeftOfTheLastByteIsZero() {
    int[][] due = {
      {128, 192, 224, 240, 248, 252, 254, 255},
      {192, 240, 252, 255},
      {240, 255},
    };
    for (int bits = 0; bits <= 2; bits++) {
      for (int width = 1; width <= 16; width++) {
        FilterRows x = new FilterRows(width, 1, bits, 1);
        x.paint(-1, 0);
        int last = x.pass(0, 1) - 1;
        int[] ends = due[bits];
        Check.same("the last of " + width + " places of " + (1 << bits) + " bits",
            x.filtered(0, 0, 0, last), ends[(width - 1) % ends.length]);
        Check.same("the bytes", last, (width - 1) / ends.length);
      }
    }
    FilterRows laced = new FilterRows(9, 2, 0, 1);
    laced.paint(1, 0);
    Pictures.lineIs(laced, 1, 0, 0, 192);
    Pictures.lineIs(laced, 2, 0, 0, 128);
    Pictures.lineIs(laced, 4, 0, 0, 192);
    Pictures.lineIs(laced, 6, 0, 0, 240);
    Pictures.lineIs(laced, 7, 0, 0, 255, 128);
  }

  /** "STEP is how many bytes a place has, 1 at least" */
  private static void stepIsOneAtLeast() {
    int[][] due = {{1, 1, 1, 1, 2}, {2, 2, 2, 2, 4}, {3, 3, 3, 3, 6}, {4, 4, 4, 4, 8}};
    for (int channels = 1; channels <= 4; channels++) {
      for (int bits = 0; bits <= 4; bits++) {
        FilterRows x = new FilterRows(2, 1, bits, channels);
        Check.same("step", x.told(4), due[channels - 1][bits]);
      }
    }
    // the byte before, though it has several places
    Pictures.lineIs(Pictures.picture(16, 0, 1, 1, 0, 0, 0, 0, 0, 0, 1, 1, 0, 0, 0, 0, 0, 1, 0),
        0, 0, 1, 129, 1);
    Pictures.lineIs(Pictures.picture(6, 1, 1, 0, 1, 2, 3, 1, 3), 0, 0, 1, 27, 85);
  }

  private static int byteOf(int sample, int i) {
    return i % 2 == 0 ? sample >> 8 : sample & 255;
  }

  /** "a, STEP bytes before it .. c, STEP before that (0 where there is none" */
  private static void nothingIsBeforeTheFirstPlace() {
    // 250 has 9 before it, but in its own place: that is neither a nor c
    FilterRows x = Pictures.picture(2, 4, 1, 0x09FA, 0x0101, 0x09FA, 0x0101);
    Pictures.lineIs(x, 0, 1, 1, 9, 250, 248, 7);
    Pictures.lineIs(x, 0, 1, 3, 5, 125, 252, 132);
    Pictures.lineIs(x, 0, 1, 4, 0, 0, 0, 0);
    for (int channels = 1; channels <= 4; channels++) {
      FilterRows y = new FilterRows(2, 2, 4, channels);
      y.paint(0x1122, 0x0101);
      for (int i = 0; i < y.told(4); i++) {
        int above = byteOf(0x1122 + 0x0101 * (i / 2), i);
        int of = byteOf(0x1122 + 0x0101 * (2 * channels + i / 2), i);
        Check.same("first place by 1", y.filtered(0, 1, 1, i), of);
        Check.same("first place by 2", y.filtered(0, 1, 2, i), of - above);
        Check.same("first place by 3", y.filtered(0, 1, 3, i), of - above / 2);
        Check.same("first place by 4", y.filtered(0, 1, 4, i), of - above);
      }
    }
  }

  /** "0 where there is none" for b and c of the first line */
  private static void nothingIsAboveTheFirstLine() {
    FilterRows x = Pictures.picture(3, 3, 1, 100, 60, 255, 7, 7, 7);
    // lines asked before leave nothing behind
    x.filtered(0, 1, 4, 2);
    Pictures.lineIs(x, 0, 0, 0, 100, 60, 255);
    Pictures.lineIs(x, 0, 0, 1, 100, 216, 195);
    Pictures.lineIs(x, 0, 0, 2, 100, 60, 255);
    Pictures.lineIs(x, 0, 0, 3, 100, 10, 225);
    Pictures.lineIs(x, 0, 0, 4, 100, 216, 195);
  }

  /** "and above the first line of a pass" */
  private static void nothingIsAboveTheFirstLineOfAnyPass() {
    FilterRows x = new FilterRows(16, 16, 3, 1);
    x.paint(200, 0);
    for (int pass = 0; pass <= 7; pass++) {
      Check.same("first line by 2", x.filtered(pass, 0, 2, 0), 200);
      Check.same("first line by 3", x.filtered(pass, 0, 3, 1), 100);
      Check.same("first line by 4", x.filtered(pass, 0, 4, 0), 200);
      Check.same("second line by 2", x.filtered(pass, 1, 2, 0), 0);
      Check.same("second line by 3", x.filtered(pass, 1, 3, 1), 0);
    }
    x.encode(2, 0, true);
    int place = 0;
    for (int pass = 1; pass <= 7; pass++) {
      Check.same("first byte of pass " + pass, x.byteAt(place + 1), 200);
      Check.same("below it", x.byteAt(place + x.pass(pass, 1) + 2), 0);
      place += x.pass(pass, 0) * (x.pass(pass, 1) + 1);
    }
  }

  /** "as its rest by 256" */
  private static void restsRunOverBelowZero() {
    FilterRows x = Pictures.picture(2, 3, 1, 255, 255, 255, 0);
    Pictures.lineIs(x, 0, 1, 0, 255, 0);
    Pictures.lineIs(x, 0, 1, 1, 255, 1);
    Pictures.lineIs(x, 0, 1, 2, 0, 1);
    Pictures.lineIs(x, 0, 1, 3, 128, 1);
    Pictures.lineIs(x, 0, 1, 4, 0, 1);
    FilterRows y = Pictures.picture(2, 3, 1, 1, 1, 0, 0);
    Pictures.lineIs(y, 0, 1, 2, 255, 255);
    Pictures.lineIs(y, 0, 0, 1, 1, 0);
  }

  /** "(a + b) / 2, downward" */
  private static void theHalfGoesDownward() {
    int[][] rows = {{0, 0, 0}, {0, 1, 0}, {1, 0, 0}, {1, 1, 1}, {1, 2, 1}, {2, 1, 1},
        {127, 128, 127}, {254, 255, 254}, {255, 254, 254}, {255, 255, 255}, {255, 0, 127},
        {0, 255, 127}};
    for (int[] row : rows) {
      FilterRows x = Pictures.picture(2, 3, 1, 0, row[1], row[0], 255);
      Check.same("255 less the half of " + row[0] + " and " + row[1],
          x.filtered(0, 1, 3, 1), 255 - row[2]);
    }
  }

  private static void nearest(int a, int b, int c, int due) {
    FilterRows x = Pictures.picture(2, 3, 1, c, b, a, 255);
    Check.same("255 less the nearest of " + a + ", " + b + ", " + c,
        x.filtered(0, 1, 4, 1), 255 - due);
  }

  /** "the one of a, b, c that is nearest to a + b - c, of these the first" */
  private static void theNearestIsTheFirstOfEqualOnes() {
    // 9 is the aim: a and c are 1 away
    nearest(8, 11, 10, 8);
    nearest(12, 9, 10, 12);
    // b and c are 1 away
    nearest(11, 8, 10, 8);
    nearest(9, 12, 10, 12);
    // a and b are as near only where c is nearer, or they are equal
    nearest(9, 11, 10, 10);
    nearest(11, 9, 10, 10);
    nearest(10, 10, 3, 10);
    // one nearer than that, and it is the other one
    nearest(8, 12, 10, 10);
    nearest(7, 11, 10, 7);
    nearest(11, 7, 10, 7);
    nearest(0, 0, 0, 0);
  }

  /** a + b - c is no byte: it goes from -255 to 510 and does not run over. */
  private static void theAimMayLieBeyondAByte() {
    nearest(0, 0, 255, 0);
    nearest(1, 0, 255, 0);
    nearest(0, 1, 255, 0);
    nearest(255, 255, 0, 255);
    nearest(255, 254, 0, 255);
    nearest(254, 255, 0, 255);
    nearest(200, 100, 10, 200);
    nearest(100, 200, 10, 200);
    nearest(10, 20, 200, 10);
    nearest(20, 10, 200, 10);
  }

  /** "from column 0, 4, 0, 2, 0, 1, 0 on, each 8, 8, 4, 4, 2, 2, 1" */
  private static void passesBeginAtTheirColumns() {
    int[][] due = {
      {1, 1, 1, 1, 1, 1, 1, 1, 2, 2, 2, 2, 2, 2, 2, 2},
      {0, 0, 0, 0, 1, 1, 1, 1, 1, 1, 1, 1, 2, 2, 2, 2},
      {1, 1, 1, 1, 2, 2, 2, 2, 3, 3, 3, 3, 4, 4, 4, 4},
      {0, 0, 1, 1, 1, 1, 2, 2, 2, 2, 3, 3, 3, 3, 4, 4},
      {1, 1, 2, 2, 3, 3, 4, 4, 5, 5, 6, 6, 7, 7, 8, 8},
      {0, 1, 1, 2, 2, 3, 3, 4, 4, 5, 5, 6, 6, 7, 7, 8},
      {1, 2, 3, 4, 5, 6, 7, 8, 9, 10, 11, 12, 13, 14, 15, 16},
    };
    int[] rows = {2, 2, 2, 4, 4, 8, 8};
    for (int width = 1; width <= 16; width++) {
      FilterRows x = new FilterRows(width, 16, 3, 1);
      for (int pass = 1; pass <= 7; pass++) {
        int columns = due[pass - 1][width - 1];
        Check.same("bytes of pass " + pass + " at width " + width, x.pass(pass, 1), columns);
        Check.same("its places", x.pass(pass, 2), columns * rows[pass - 1]);
        Check.same("its lines", x.pass(pass, 0), columns == 0 ? 0 : rows[pass - 1]);
      }
    }
  }

  /** "rows from 0, 0, 4, 0, 2, 0, 1 on, each 8, 8, 8, 4, 4, 2, 2" */
  private static void passesBeginAtTheirRows() {
    int[][] due = {
      {1, 1, 1, 1, 1, 1, 1, 1, 2, 2, 2, 2, 2, 2, 2, 2},
      {1, 1, 1, 1, 1, 1, 1, 1, 2, 2, 2, 2, 2, 2, 2, 2},
      {0, 0, 0, 0, 1, 1, 1, 1, 1, 1, 1, 1, 2, 2, 2, 2},
      {1, 1, 1, 1, 2, 2, 2, 2, 3, 3, 3, 3, 4, 4, 4, 4},
      {0, 0, 1, 1, 1, 1, 2, 2, 2, 2, 3, 3, 3, 3, 4, 4},
      {1, 1, 2, 2, 3, 3, 4, 4, 5, 5, 6, 6, 7, 7, 8, 8},
      {0, 1, 1, 2, 2, 3, 3, 4, 4, 5, 5, 6, 6, 7, 7, 8},
    };
    int[] columns = {2, 2, 4, 4, 8, 8, 16};
    for (int height = 1; height <= 16; height++) {
      FilterRows x = new FilterRows(16, height, 3, 1);
      for (int pass = 1; pass <= 7; pass++) {
        int lines = due[pass - 1][height - 1];
        Check.same("lines of pass " + pass + " at height " + height, x.pass(pass, 0), lines);
        Check.same("its places", x.pass(pass, 2), lines * columns[pass - 1]);
        Check.same("its bytes", x.pass(pass, 1), lines == 0 ? 0 : columns[pass - 1]);
      }
    }
  }

  /** "A pass without places has no lines." */
  private static void passesWithoutPlacesHaveNoLines() {
    FilterRows x = new FilterRows(1, 16, 3, 1);
    for (int pass : new int[] {2, 4, 6}) {
      Check.same("lines without columns", x.pass(pass, 0), 0);
      Check.refused("the first of them", IndexOutOfBoundsException.class,
          () -> x.filtered(pass, 0, 0, 0));
      Check.refused("what it is worth", IndexOutOfBoundsException.class,
          () -> x.worth(pass, 0, 0, 5));
    }
    FilterRows y = new FilterRows(16, 1, 3, 1);
    for (int pass : new int[] {3, 5, 7}) {
      Check.same("lines without rows", y.pass(pass, 0), 0);
      Check.refused("the first of them", IndexOutOfBoundsException.class,
          () -> y.filtered(pass, 0, 0, 0));
      Check.refused("what it is worth", IndexOutOfBoundsException.class,
          () -> y.worth(pass, 0, 0, 5));
    }
  }

  /** Lines that are not there have no byte for their kind either, and turn no seed. */
  private static void passesWithoutPlacesAreNotEncoded() {
    FilterRows one = Pictures.picture(1, 3, 1, 77);
    Check.same("one place laced", one.encode(4, 0, true), 2);
    Pictures.encodedIs(one, 4, 77);
    FilterRows high = Pictures.picture(1, 3, 1, 10, 20, 30, 40, 50);
    Check.same("five rows laced", high.encode(2, 0, true), 10);
    Pictures.encodedIs(high, 2, 10, 2, 50, 2, 30, 2, 20, 2, 20);
    high.encode(8, 1, true);
    for (int line = 0; line < 5; line++) {
      Check.same("kind of line " + line, high.byteAt(2 * line), new int[] {3, 3, 3, 0, 1}[line]);
    }
    FilterRows wide = Pictures.picture(5, 3, 1, 10, 20, 30, 40, 50);
    Check.same("five columns laced", wide.encode(1, 0, true), 9);
    Pictures.encodedIs(wide, 1, 10, 1, 50, 1, 30, 1, 20, 20);
  }

  /** "from 128 on counted as 256 less them" */
  private static void sumsTurnAt128() {
    int[][] rows = {{0, 0}, {1, 1}, {127, 127}, {128, 128}, {129, 127}, {254, 2}, {255, 1}};
    for (int[] row : rows) {
      Check.same("sum of " + row[0], Pictures.picture(1, 3, 1, row[0]).worth(0, 0, 0, 5), row[1]);
    }
    FilterRows most = new FilterRows(16, 1, 4, 4);
    most.paint(0x8080, 0);
    Check.same("the greatest sum", most.worth(0, 0, 0, 5), 128 * 128);
  }

  /** "not as the one before (the first one: as 0)" */
  private static void theFirstByteIsComparedWithZero() {
    Check.same("0", Pictures.picture(1, 3, 1, 0).worth(0, 0, 0, 6), 0);
    Check.same("1", Pictures.picture(1, 3, 1, 1).worth(0, 0, 0, 6), 1);
    Check.same("0 0 1", Pictures.picture(3, 3, 1, 0, 0, 1).worth(0, 0, 0, 6), 1);
    Check.same("1 1 0", Pictures.picture(3, 3, 1, 1, 1, 0).worth(0, 0, 0, 6), 2);
    Check.same("1 0 1", Pictures.picture(3, 3, 1, 1, 0, 1).worth(0, 0, 0, 6), 3);
    // the line before ended with 9: it is not the byte before
    Check.same("9 below 9", Pictures.picture(1, 3, 1, 9, 9).worth(0, 1, 0, 6), 1);
    FilterRows most = new FilterRows(16, 1, 4, 4);
    most.paint(0x0100, 0);
    Check.same("as many as there are", most.worth(0, 0, 0, 6), 128);
  }

  /** "the least number of different ones" */
  private static void differentOnesAreOneAtLeastAndEachAtMost() {
    Check.same("one 0", Pictures.picture(1, 3, 1, 0).worth(0, 0, 0, 7), 1);
    Check.same("one 255", Pictures.picture(1, 3, 1, 255).worth(0, 0, 0, 7), 1);
    FilterRows x = new FilterRows(16, 1, 4, 4);
    Check.same("128 times 0", x.worth(0, 0, 0, 7), 1);
    x.paint(0x0001, 0x0202);
    Check.same("128 different ones", x.worth(0, 0, 0, 7), 128);
    x.paint(0x8081, 0x0202);
    Check.same("128 others", x.worth(0, 0, 0, 7), 128);
    Check.same("what is asked again", x.worth(0, 0, 0, 7), 128);
    x.paint(0x0100, 0);
    Check.same("two different ones", x.worth(0, 0, 0, 7), 2);
  }

  /** A row has the way, the kind due, one as good, two lines, and what is counted by each kind. */
  private static void kindIs(int[] row) {
    FilterRows x = Pictures.picture(3, 3, 1, row[3], row[4], row[5], row[6], row[7], row[8]);
    for (int kind = 0; kind <= 4; kind++) {
      Check.same("worth by " + kind, x.worth(0, 1, kind, row[0]), row[9 + kind]);
    }
    x.encode(row[0], 0, false);
    Check.same("of " + row[1] + " and " + row[2] + " by way " + row[0], x.byteAt(4), row[1]);
  }

  /** "the least sum", "the least number": of each kind, the last one too */
  private static void theKindThatCountsTheLeast() {
    int[][] rows = {
      {5, 0, 0, 2, 9, 1, 4, 1, 7, 12, 13, 16, 14, 16},
      {5, 1, 1, 11, 0, 8, 3, 7, 7, 17, 7, 16, 8, 16},
      {5, 2, 2, 11, 7, 4, 11, 3, 9, 23, 25, 9, 18, 10},
      {5, 3, 3, 8, 3, 5, 3, 10, 3, 16, 17, 14, 12, 19},
      {5, 4, 4, 5, 8, 11, 10, 11, 5, 26, 17, 14, 16, 12},
      {6, 0, 0, 11, 0, 8, 3, 7, 7, 2, 3, 3, 3, 3},
      {6, 1, 1, 2, 6, 9, 4, 2, 0, 3, 2, 3, 3, 3},
      {6, 2, 2, 11, 8, 9, 4, 2, 3, 3, 3, 2, 3, 3},
      {6, 3, 3, 6, 5, 6, 3, 4, 1, 3, 3, 3, 1, 3},
      {6, 4, 4, 5, 4, 6, 3, 1, 11, 3, 3, 3, 3, 2},
      {7, 0, 0, 11, 0, 8, 3, 7, 7, 2, 3, 3, 3, 3},
      {7, 1, 1, 2, 6, 9, 4, 2, 0, 3, 2, 3, 3, 3},
      {7, 2, 2, 11, 8, 9, 4, 2, 3, 3, 3, 2, 3, 3},
      {7, 3, 3, 11, 7, 4, 11, 3, 9, 3, 3, 3, 2, 3},
      {7, 4, 4, 7, 3, 8, 10, 0, 6, 3, 3, 3, 3, 2},
    };
    for (int[] row : rows) {
      kindIs(row);
    }
  }

  /** "of equal ones the lesser kind": two kinds count the least, and as much as one another. */
  private static void ofEqualKindsTheLesser() {
    int[][] rows = {
      {5, 0, 1, 1, 5, 0, 0, 0, 10, 10, 10, 16, 12, 16},
      {5, 0, 2, 1, 9, 2, 10, 3, 7, 20, 21, 20, 21, 21},
      {5, 0, 3, 8, 1, 7, 4, 1, 0, 5, 8, 11, 5, 11},
      {5, 0, 4, 7, 7, 10, 6, 3, 1, 10, 11, 14, 11, 10},
      {5, 1, 2, 3, 11, 7, 5, 4, 9, 18, 11, 11, 12, 14},
      {5, 1, 3, 8, 10, 3, 4, 4, 9, 17, 9, 16, 9, 10},
      {5, 1, 4, 0, 2, 8, 5, 8, 10, 23, 10, 13, 12, 10},
      {5, 2, 3, 4, 6, 8, 2, 0, 11, 13, 15, 11, 11, 17},
      {5, 2, 4, 8, 0, 6, 10, 3, 6, 19, 20, 5, 10, 5},
      {5, 3, 4, 10, 11, 1, 7, 3, 6, 16, 14, 16, 12, 12},
      {6, 0, 1, 1, 5, 0, 0, 0, 10, 1, 1, 3, 2, 3},
      {6, 0, 2, 9, 9, 9, 1, 3, 3, 2, 3, 2, 3, 3},
      {6, 0, 3, 8, 10, 3, 4, 4, 9, 2, 3, 3, 2, 3},
      {6, 0, 4, 3, 0, 3, 8, 8, 3, 2, 3, 3, 3, 2},
      {6, 1, 2, 5, 2, 4, 7, 4, 1, 3, 2, 2, 3, 3},
      {6, 1, 3, 7, 4, 0, 6, 8, 10, 3, 2, 3, 2, 3},
      {6, 1, 4, 3, 3, 10, 2, 1, 0, 3, 2, 3, 3, 2},
      {6, 2, 3, 7, 8, 9, 3, 4, 0, 3, 3, 2, 2, 3},
      {6, 2, 4, 11, 7, 4, 11, 3, 9, 3, 3, 2, 3, 2},
      {6, 3, 4, 5, 9, 7, 1, 4, 3, 3, 3, 3, 2, 2},
      {7, 0, 1, 1, 5, 0, 0, 0, 10, 2, 2, 3, 3, 3},
      {7, 0, 2, 7, 10, 10, 11, 3, 3, 2, 3, 2, 3, 3},
      {7, 0, 3, 9, 6, 10, 2, 2, 8, 2, 3, 3, 2, 3},
      {7, 0, 4, 3, 0, 3, 8, 8, 3, 2, 3, 3, 3, 2},
      {7, 1, 2, 5, 4, 8, 6, 5, 11, 3, 2, 2, 3, 3},
      {7, 1, 3, 7, 4, 0, 6, 8, 10, 3, 2, 3, 2, 3},
      {7, 1, 4, 0, 7, 7, 5, 3, 8, 3, 2, 3, 3, 2},
      {7, 2, 3, 2, 8, 11, 0, 5, 9, 3, 3, 2, 2, 3},
      {7, 2, 4, 4, 11, 8, 3, 9, 6, 3, 3, 2, 3, 2},
      {7, 3, 4, 2, 2, 4, 4, 6, 9, 3, 3, 3, 2, 2},
    };
    for (int[] row : rows) {
      kindIs(row);
    }
  }

  /** "of equal ones the lesser kind": all five, and pairs that a first line always has. */
  private static void ofManyEqualKindsTheLeast() {
    for (int way = 5; way <= 7; way++) {
      FilterRows blank = new FilterRows(4, 4, 3, 1);
      blank.encode(way, 0, true);
      Check.same("lines of zeros by way " + way, blank.chosen(0), blank.pass(1, 0)
          + blank.pass(4, 0) + blank.pass(5, 0) + blank.pass(6, 0) + blank.pass(7, 0));
      FilterRows even = Pictures.picture(4, 3, 1, 3, 6, 9, 12);
      even.encode(way, 0, false);
      Check.same("1 before 4 by way " + way, even.byteAt(0), 1);
    }
  }

  private static void kindsAre(int seed, int... due) {
    FilterRows x = new FilterRows(1, 16, 3, 1);
    x.encode(8, seed, false);
    for (int line = 0; line < due.length; line++) {
      Check.same("kind of line " + line + " by seed " + seed, x.byteAt(2 * line), due[line]);
    }
  }

  /** "it becomes seed times 1103515245 and 12345 (running over) for each line" */
  private static void seedRunsOver() {
    kindsAre(0, 0, 3, 3, 2, 3, 2, 0, 1, 2, 0, 1, 2, 4, 3, 2, 0);
    kindsAre(1, 3, 3, 3, 0, 1, 2, 0, 4, 2, 1, 4, 2, 4, 0, 0, 3);
    kindsAre(-1, 4, 4, 2, 3, 3, 1, 0, 3, 2, 4, 3, 4, 0, 1, 4, 3);
    kindsAre(MOST, 4, 4, 2, 3, 3, 1, 0, 3, 2, 4, 3, 4, 0, 1, 4, 3);
    kindsAre(LEAST, 0, 3, 3, 2, 3, 2, 0, 1, 2, 0, 1, 2, 4, 3, 2, 0);
    kindsAre(65536, 2, 4, 4, 3, 1, 0, 0, 1, 0, 1, 4, 1, 1, 0, 1, 2);
    kindsAre(-65536, 1, 2, 0, 1, 3, 4, 0, 1, 4, 2, 3, 0, 2, 4, 3, 3);
  }

  /** "(seed / 65536, downward) and 32767 bit by bit, its rest by 5" */
  private static void seedIsDividedDownward() {
    // the seeds become 0, 65535, 65536, -1, -65536, -65537, the most, the least, and 4 and 5 times
    // 65536
    kindsAre(-59267453, 0);
    kindsAre(-115164386, 0);
    kindsAre(-404969853, 1);
    kindsAre(230538014, 2);
    kindsAre(286434947, 2);
    kindsAre(576240414, 1);
    kindsAre(-1916945634, 2);
    kindsAre(2088216195, 0);
    kindsAre(-1442077053, 4);
    kindsAre(-1787779453, 0);
  }

  /** The seed is the call's own: nothing of it stays, and other ways need none. */
  private static void seedBeginsAnewWithEachCall() {
    FilterRows x = new FilterRows(1, 1, 3, 1);
    for (int call = 0; call < 3; call++) {
      x.encode(8, 1, false);
      Check.same("kind by seed 1", x.byteAt(0), 3);
      x.encode(8, -1, true);
      Check.same("kind by seed -1", x.byteAt(0), 4);
      x.encode(5, 1, true);
      Check.same("kind by way 5", x.byteAt(0), 0);
    }
  }

  /** "the lines' bits that are no samples passed over" */
  private static void bitsThatAreNoSamplesArePassedOver() {
    FilterRows x = new FilterRows(1, 1, 0, 1);
    Pictures.feedAll(x, 0, 0x7F);
    Check.same("bits behind a 0", x.decode(false), 1);
    Check.same("the 0", x.at(0, 0, 0), 0);
    Pictures.feedAll(x, 0, 0xFF);
    Check.same("bits behind a 1", x.decode(false), 1);
    Check.same("the 1", x.at(0, 0, 0), 1);
    x.encode(0, 0, false);
    Pictures.encodedIs(x, 0, 0x80);
    FilterRows ten = new FilterRows(10, 1, 0, 1);
    Pictures.feedAll(ten, 0, 0xB1, 0x7F);
    Check.same("bits behind ten", ten.decode(false), 1);
    Pictures.samplesAre(ten, 1, 0, 1, 1, 0, 0, 0, 1, 0, 1);
    FilterRows two = new FilterRows(5, 1, 1, 1);
    Pictures.feedAll(two, 0, 0x1B, 0xBF);
    Check.same("bits behind 2", two.decode(false), 1);
    Pictures.samplesAre(two, 0, 1, 2, 3, 2);
    two.encode(0, 0, false);
    Pictures.encodedIs(two, 0, 0x1B, 0x80);
  }

  /** "(though they count for other bytes)": they end a line, so it is the byte below. */
  private static void bitsThatAreNoSamplesCountForOtherBytes() {
    FilterRows x = new FilterRows(1, 2, 0, 1);
    int[][] rows = {{1, 0x01, 0}, {2, 0x00, 0}, {2, 0x01, 1}, {3, 0x40, 0}, {3, 0x41, 1},
        {4, 0x01, 1}};
    for (int[] row : rows) {
      Pictures.feedAll(x, 0, 0x7F, row[0], row[1]);
      Check.same("lines", x.decode(false), 2);
      Check.same("below 0x7F by kind " + row[0], x.at(0, 1, 0), row[2]);
    }
    // laced, the second row is a pass of its own, and nothing is above it
    Pictures.feedAll(x, 0, 0x7F, 2, 0x01);
    Check.same("laced lines", x.decode(true), 2);
    Check.same("in a pass of its own", x.at(0, 1, 0), 0);
    // nor do they stay for what is read next
    Pictures.feedAll(x, 0, 0x7F, 0, 0x7F);
    x.decode(false);
    Pictures.feedAll(x, 2, 0x01, 2, 0x7F);
    x.decode(false);
    Pictures.samplesAre(x, 0, 1);
  }

  /** "It ends at a kind above 4" */
  private static void decodingEndsAtAKindAboveFour() {
    for (int kind = 0; kind <= 4; kind++) {
      FilterRows x = new FilterRows(1, 1, 3, 1);
      Pictures.feedAll(x, kind, 9);
      Check.same("kind " + kind, x.decode(false), 1);
      Check.same("the sample", x.at(0, 0, 0), 9);
    }
    for (int kind : new int[] {5, 6, 8, 127, 128, 254, 255}) {
      FilterRows x = new FilterRows(1, 1, 3, 1);
      Pictures.feedAll(x, kind, 9);
      Check.same("kind " + kind, x.decode(false), -1);
      Check.same("the sample", x.at(0, 0, 0), 0);
    }
  }

  /** "where bytes lack" */
  private static void decodingEndsWhereBytesLack() {
    FilterRows x = new FilterRows(3, 2, 3, 1);
    for (int count = 0; count < 8; count++) {
      for (int i = 0; i < count; i++) {
        x.feed(1);
      }
      Check.same("of eight bytes " + count, x.decode(false), -1 - count);
    }
    for (int i = 0; i < 8; i++) {
      x.feed(1);
    }
    Check.same("all eight", x.decode(false), 2);
  }

  /** "or are left" */
  private static void decodingEndsWhereBytesAreLeft() {
    FilterRows x = new FilterRows(3, 2, 3, 1);
    for (int count = 9; count < 20; count++) {
      for (int i = 0; i < count; i++) {
        x.feed(i < 8 ? 1 : 255);
      }
      Check.same("for eight bytes " + count, x.decode(false), -1 - 8);
    }
    Check.same("the picture", x.paint(0, 0), 0);
  }

  /** "An object is used for at most 512 calls": the dearest ones answer all the way. */
  private static void the512thCallAnswersToo() {
    FilterRows x = new FilterRows(16, 16, 4, 4);
    x.paint(1, 12345);
    int first = x.encode(7, 0, true);
    for (int call = 3; call < 510; call++) {
      Check.same("call " + call, x.encode(5 + call % 3, call, call % 2 == 0),
          call % 2 == 0 ? 2078 : 2064);
    }
    Check.same("call 510", x.encode(7, 0, true), first);
    Check.same("call 511", x.passOn(), first);
    Check.same("call 512", x.decode(true), 30);
  }
}
